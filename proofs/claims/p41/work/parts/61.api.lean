/-! THE CLASS'S ANSWERS: inl e: the exception e is thrown; inr v: v is returned -/
def inx (x : Int32) (n : Nat) : Option Nat := if x < 0 then none else if n ≤ x.toNatClampNeg then none else some x.toNatClampNeg
theorem inx_cases (x : Int32) {n : Nat} (hn : n < 2 ^ 31) : (inx x n = none ∧ (x < 0 ∨ (¬ x < 0 ∧ ¬ x < nI n))) ∨ (∃ j, j < n ∧ x = nI j ∧ inx x n = some j) := by
  by_cases h0 : x < 0
  · exact Or.inl ⟨if_pos h0, Or.inl h0⟩
  · obtain ⟨j, hj, rfl⟩ := nI_of h0
    unfold inx
    rw [if_neg h0, nI_clamp hj]
    by_cases h1 : n ≤ j
    · rw [if_pos h1]
      exact Or.inl ⟨rfl, Or.inr ⟨h0, by rw [nLt_n hj hn]; omega⟩⟩
    · rw [if_neg h1]
      exact Or.inr ⟨j, by omega, rfl, rfl⟩
theorem inx_nI {j n : Nat} (hj : j < 2 ^ 31) : inx (nI j) n = if n ≤ j then none else some j := by
  unfold inx
  rw [if_neg (nI_pos hj), nI_clamp hj]
def bA {β : Type} (a : Nat ⊕ Nat) (f : Nat → Nat ⊕ β) : Nat ⊕ β := match a with | .inl e => .inl e | .inr k => f k
def rG (a : Nat ⊕ Int32) : gRes := match a with | .inl e => .inr e | .inr v => .inl (some (.int v))
def rGJ (a : Nat ⊕ Int64) : gRes := match a with | .inl e => .inr e | .inr v => .inl (some (.long v))
def rGF (a : Nat ⊕ UInt32) : gRes := match a with | .inl e => .inr e | .inr v => .inl (some (.float v))
def rGD (a : Nat ⊕ UInt64) : gRes := match a with | .inl e => .inr e | .inr v => .inl (some (.double v))
def slotA (T : gS) (x : Int32) : Nat ⊕ Nat := match inx x T.n with | none => .inl 2 | some j => if isMk (T.c j) = true then .inl 3 else .inr (tM T.c j)
def embA (T : gS) (x : Int32) : Nat ⊕ Int32 := bA (slotA T x) fun k => .inr (nI (tEmT T k))
def levA (T : gS) (x : Int32) : Nat ⊕ Int32 := bA (slotA T x) fun k => .inr (nI (tLv T k))
def scrA (T : gS) (x : Int32) : Nat ⊕ Int32 := bA (slotA T x) fun k => .inr (nI (tScT T k))
def runA (T : gS) (x : Int32) : Nat ⊕ Int32 := bA (slotA T x) fun k => .inr (nI (tRnT T k))
/-- the glyph that contains a character -/
def tOw (T : gS) (k : Nat) : Nat := tGc (tRlT T) (tRnT T) (tSg T) (k + 1) - 1
/-- where a glyph begins in the text -/
def ixG (T : gS) (g : Nat) : Nat := tIx T.c T.n (tGsT T g)
def glyA (T : gS) (x : Int32) : Nat ⊕ Int32 := bA (slotA T x) fun k => .inr (nI (tNu T (tOw T k)))
def gstA (T : gS) (x : Int32) : Nat ⊕ Int32 := bA (slotA T x) fun k => .inr (nI (ixG T (tOw T k)))
def brkA (T : gS) (x : Int32) : Nat ⊕ Int32 := match inx x ((tXx T).P - 1) with | none => .inl 2 | some r => .inr (nI (ixG T ((tXx T).pp (r + 1))))
def twdA (T : gS) : Int32 := if tTwT T = 0 then -1 else nI (ixG T ((tXx T).pp (tTwT T - 1)))
def excA (T : gS) : Int32 := if tTwT T = 0 then 0 else nI (xN (tXx T) (tTwT T - 1) (tTwT T) - T.W)
def linA (T : gS) : Nat ⊕ Int32 := if tTwT T = 0 then .inr (nI (tCn T)) else .inl 1
def ffiA (T : gS) : Nat ⊕ Int32 := if tTwT T = 0 then .inr (nI (if tBlT T = true then 0 else (fF (tXx T) (tXx T).P).1)) else .inl 1
def lnoA (T : gS) (x : Int32) : Nat ⊕ Nat := if tTwT T = 0 then (match inx x (tCn T) with | none => .inl 2 | some l => .inr l) else .inl 1
def firA (T : gS) (x : Int32) : Nat ⊕ Int32 := bA (lnoA T x) fun l => .inr (nI (ixG T (lnS (tXx T) (tLs T) l)))
def widA (T : gS) (x : Int32) : Nat ⊕ Int32 := bA (lnoA T x) fun l => .inr (nI (xN (tXx T) (tLs T l) (tLs T (l + 1))))
def badA (T : gS) (x : Int32) : Nat ⊕ Int32 := bA (lnoA T x) fun l => .inr (nI (xB (tXx T) (tLs T l) (tLs T (l + 1))))
def demA (T : gS) : Nat ⊕ Int64 := if tTwT T = 0 then .inr (lN (tDm T)) else .inl 1
def dtrA (T : gS) : Nat ⊕ Int64 := if tTwT T = 0 then (if 10 < (tXx T).P then .inl 3 else .inr (lN (tDm T))) else .inl 1
def ltrA (T : gS) : Nat ⊕ Int32 := if tTwT T = 0 then (if 10 < (tXx T).P then .inl 3 else .inr (nI (tCn T))) else .inl 1
def gofA (T : gS) (x : Int32) : Nat ⊕ Int32 := bA (lnoA T x) fun l => .inr (nI (lnE (tXx T) (tLs T) l - lnS (tXx T) (tLs T) l))
def gatA (T : gS) (x y : Int32) : Nat ⊕ Int32 := bA (lnoA T x) fun l => match inx y (lnE (tXx T) (tLs T) l - lnS (tXx T) (tLs T) l) with | none => .inl 2 | some r => .inr (nI (ixG T (oL (tGl T) (lnS (tXx T) (tLs T) l) (lnE (tXx T) (tLs T) l) (lnS (tXx T) (tLs T) l + r))))
def gilA (T : gS) (x : Int32) : Nat ⊕ Nat := bA (slotA T x) fun k => if tTwT T = 0 then (if tCn T = 0 then .inl 4 else .inr (tOw T k)) else .inl 1
def lnF (X : xX) (ls : Nat → Nat) (g : Nat) : Nat → Nat → Nat
  | 0, l => l
  | r + 1, l => if lnS X ls (l + 1) ≤ g then lnF X ls g r (l + 1) else l
/-- the line of a glyph -/
def lnOf (T : gS) (g : Nat) : Nat := lnF (tXx T) (tLs T) g (tCn T) 0
def lofA (T : gS) (x : Int32) : Nat ⊕ Int32 := bA (gilA T x) fun g => .inr (nI (lnOf T g))
def plcA (T : gS) (x : Int32) : Nat ⊕ Nat := bA (gilA T x) fun g => if lnE (tXx T) (tLs T) (lnOf T g) ≤ g then .inl 4 else .inr g
/-- the place of a glyph in its line, counted in glyphs of the text -/
def pG (T : gS) (g : Nat) : Nat := pL (tGl T) (lnS (tXx T) (tLs T) (lnOf T g)) (lnE (tXx T) (tLs T) (lnOf T g)) g
def oG (T : gS) (l : Nat) : Nat → Nat := oL (tGl T) (lnS (tXx T) (tLs T) l) (lnE (tXx T) (tLs T) l)
def fwG (T : gS) (l : Nat) : Nat → Nat := fwN (tXx T) (tGw T) (oG T l) (tLs T l) (tLs T (l + 1)) (lnS (tXx T) (tLs T) l)
def rnkA (T : gS) (x : Int32) : Nat ⊕ Int32 := bA (plcA T x) fun g => .inr (nI (pG T g - lnS (tXx T) (tLs T) (lnOf T g)))
def plaA (T : gS) (x : Int32) : Nat ⊕ Int32 := bA (plcA T x) fun g => .inr (nI (p0N (tXx T) T.b (tLs T (lnOf T g)) (tLs T (lnOf T g + 1)) + smF (fwG T (lnOf T g)) (lnS (tXx T) (tLs T) (lnOf T g)) (pG T g - lnS (tXx T) (tLs T) (lnOf T g))))
def jwdA (T : gS) (x : Int32) : Nat ⊕ Int32 := bA (plcA T x) fun g => .inr (nI (fwG T (lnOf T g) (pG T g)))
/-- sums over lines -/
def hyN (T : gS) : Nat → Nat
  | 0 => 0
  | l + 1 => hyN T l + (if xH (tXx T) (tLs T (l + 1)) = true then 1 else 0)
def bdS (T : gS) : Nat → Nat
  | 0 => 0
  | l + 1 => bdS T l + xB (tXx T) (tLs T l) (tLs T (l + 1))
def hypA (T : gS) : Nat ⊕ UInt32 := if tTwT T = 0 then (if tCn T = 0 then .inl 5 else .inr (FP.fdiv (FP.i2f (nI (hyN T (tCn T)))) (FP.i2f (nI (tCn T))))) else .inl 1
def meaA (T : gS) : Nat ⊕ UInt64 := if tTwT T = 0 then (if tCn T = 0 then .inl 5 else .inr (FP.ddiv (FP.i2d (nI (bdS T (tCn T)))) (FP.i2d (nI (tCn T))))) else .inl 1
/-! what is true of them -/
theorem tGc_mono (rl : Nat → Nat → Nat) (rn sg : Nat → Nat) {a b : Nat} (h : a ≤ b) : tGc rl rn sg a ≤ tGc rl rn sg b := by
  induction h with
  | refl => exact Nat.le_refl _
  | step _ ih =>
    refine Nat.le_trans ih ?_
    rename_i m _
    show _ ≤ if tLg rl rn sg m = 0 then tGc rl rn sg m + 1 else tGc rl rn sg m
    split <;> omega
theorem tOw_lt {T : gS} {k : Nat} (h : k < tMn T) : tOw T k < tGT T := by
  have h1 := tGc_mono (tRlT T) (tRnT T) (tSg T) (show k + 1 ≤ tMn T by omega)
  have h2 := tGc_pos (tRlT T) (tRnT T) (tSg T) k
  show tGc (tRlT T) (tRnT T) (tSg T) (k + 1) - 1 < tGc (tRlT T) (tRnT T) (tSg T) (tMn T)
  omega
theorem tM_mono (c : Nat → Nat) {a b : Nat} (h : a ≤ b) : tM c a ≤ tM c b := by
  induction h with
  | refl => exact Nat.le_refl _
  | step _ ih =>
    refine Nat.le_trans ih ?_
    rename_i m _
    show _ ≤ if isMk (c m) = true then tM c m else tM c m + 1
    split <;> omega
theorem tM_slot {T : gS} {j : Nat} (hj : j < T.n) (hm : isMk (T.c j) = false) : tM T.c j < tMn T := by
  have h1 := tM_mono T.c (show j + 1 ≤ T.n by omega)
  have h2 : tM T.c (j + 1) = tM T.c j + 1 := if_neg (by rw [hm]; decide)
  show tM T.c j < tM T.c T.n
  omega
theorem slotA_cases {T : gS} (hk : gOk T) (x : Int32) : (slotA T x = .inl 2 ∧ inx x T.n = none) ∨ (∃ j, j < T.n ∧ x = nI j ∧ ((isMk (T.c j) = true ∧ slotA T x = .inl 3) ∨ (isMk (T.c j) = false ∧ slotA T x = .inr (tM T.c j) ∧ tM T.c j < tMn T))) := by
  have hn := hk.n
  unfold slotA
  rcases inx_cases x (n := T.n) (by omega) with ⟨e, -⟩ | ⟨j, hj, hx, e⟩
  · rw [e]
    exact Or.inl ⟨rfl, rfl⟩
  · rw [e]
    refine Or.inr ⟨j, hj, hx, ?_⟩
    cases hm : isMk (T.c j) with
    | true =>
      dsimp only
      rw [hm]
      exact Or.inl ⟨rfl, rfl⟩
    | false =>
      dsimp only
      rw [hm]
      exact Or.inr ⟨rfl, rfl, tM_slot hj hm⟩
theorem tCn_act {T : gS} (h : tCn T ≠ 0) : tAc T = true := by
  cases hc : tAc T with
  | true => rfl
  | false => exact absurd (if_neg (by rw [hc]; decide)) h
theorem tAc_cn {T : gS} (h : tAc T = true) : 0 < tCn T := by
  have e1 : tCn T = kK (tXx T) 0 := if_pos h
  have hp := tAc_pos h
  have hf := kFin (tXx_q h)
  have := (hf.2.1 0 hp).2.2.2.2
  omega
theorem tLs_0 {T : gS} (h : tAc T = true) : tLs T 0 = 0 ∧ tLs T (tCn T) = (tXx T).P := by
  have e1 : tCn T = kK (tXx T) 0 := if_pos h
  have e2 : ∀ m, tLs T m = kS (tXx T) m := fun m => if_pos h
  rw [e2, e2, e1]
  exact ⟨rfl, kS_end (tXx_q h)⟩
theorem lnF_ok {X : xX} {ls : Nat → Nat} {g : Nat} : ∀ r l, lnS X ls l ≤ g → g < lnS X ls (l + r) → l ≤ lnF X ls g r l ∧ lnF X ls g r l < l + r ∧ lnS X ls (lnF X ls g r l) ≤ g ∧ g < lnS X ls (lnF X ls g r l + 1)
  | 0, l, h1, h2 => by
    rw [Nat.add_zero] at h2
    omega
  | r + 1, l, h1, h2 => by
    unfold lnF
    by_cases q : lnS X ls (l + 1) ≤ g
    · rw [if_pos q]
      have ih := lnF_ok r (l + 1) q (by rw [show l + 1 + r = l + (r + 1) by omega]; exact h2)
      exact ⟨by omega, by omega, ih.2.2.1, ih.2.2.2⟩
    · rw [if_neg q]
      exact ⟨Nat.le_refl l, by omega, h1, by omega⟩
theorem lnOf_ok {T : gS} (hk : gOk T) (h : tAc T = true) {g : Nat} (hg : g < tGT T) : lnOf T g < tCn T ∧ lnS (tXx T) (tLs T) (lnOf T g) ≤ g ∧ g < lnS (tXx T) (tLs T) (lnOf T g + 1) := by
  have hX := tXx_ok hk
  have h0 := tLs_0 h
  have e1 : lnS (tXx T) (tLs T) 0 = 0 := by
    unfold lnS
    rw [h0.1]
    exact hX.p0 (tAc_pos h)
  have e2 : lnS (tXx T) (tLs T) (tCn T) = tGT T := by
    unfold lnS
    rw [h0.2]
    exact hX.pP
  have r := lnF_ok (X := tXx T) (ls := tLs T) (g := g) (tCn T) 0 (by omega) (by rw [Nat.zero_add, e2]; exact hg)
  exact ⟨by have := r.2.1; show lnF _ _ _ _ _ < _; omega, r.2.2.1, r.2.2.2⟩
theorem lnS_lt {T : gS} (hk : gOk T) {l : Nat} (hl : l < tCn T) : lnS (tXx T) (tLs T) l < tGT T := by
  have hX := tXx_ok hk
  have hL := tLs_ok (T := T)
  have a := hL.2.1 l hl
  have b := hL.2.2 (l + 1) (by omega)
  have c := hX.pl _ _ a b
  have d := hX.pG b
  exact Nat.lt_of_lt_of_le c d
theorem tTw_lt {T : gS} (hk : gOk T) : tTwT T ≤ (tXx T).P := by
  have := tTw_le (xQ (tXx T)) (tXx T).P 0
  unfold tTwT
  split <;> omega
/-- an index that is in the text -/
theorem s_88 {T : gS} {x : Int32} {μ : gMu} {P : gMu → gRes → Prop} (hk : gOk T) (hT : cT T μ) (h1 : inx x T.n = none → P μ (.inr 2)) (h2 : ∀ j, j < T.n → x = nI j → inx x T.n = some j → P μ (.inl none)) : gCl' 88 [.ref 0, .int x] μ P := by
  have hn := hk.n
  refine vc_88 ?_
  rw [hT.1]
  rcases inx_cases x (n := T.n) (by omega) with ⟨e, q | ⟨q1, q2⟩⟩ | ⟨j, hj, rfl, e⟩
  · exact ⟨fun _ => h1 e, fun z => absurd q z⟩
  · exact ⟨fun _ => h1 e, fun _ => ⟨fun z => absurd z q2, fun _ => h1 e⟩⟩
  · refine ⟨fun z => absurd z (nI_pos (by omega)), fun _ => ⟨fun _ => h2 j hj rfl e, fun z => absurd (nI_lt hj (by omega)) z⟩⟩
theorem s_91 {T : gS} {x : Int32} {μ : gMu} {P : gMu → gRes → Prop} (hk : gOk T) (hR : cR T μ) (h1 : ∀ e, slotA T x = .inl e → P μ (.inr e)) (h2 : ∀ k, slotA T x = .inr k → k < tMn T → P μ (.inl (some (.int (nI k))))) : gCl' 91 [.ref 0, .int x] μ P := by
  have hn := hk.n
  have hM := tMn_le hk
  refine vc_91 (s_88 hk hR.1 (fun e => Or.inr ⟨2, rfl, ?_⟩) (fun j hj hx e => Or.inl ⟨rfl, ?_⟩))
  · rcases slotA_cases hk x with ⟨a, -⟩ | ⟨j, hj, rfl, -⟩
    · exact h1 2 a
    · rw [inx_nI (by omega), if_neg (by omega)] at e
      cases e
  · subst hx
    rcases slotA_cases hk (nI j) with ⟨-, a⟩ | ⟨j', hj', hx, a⟩
    · rw [e] at a; cases a
    · have hjj : j = j' := (nI_eq (by omega) (by omega)).mp hx
      subst hjj
      have sl := hR.2.2.2.2.1.2.1 j hj
      rcases a with ⟨a1, a2⟩ | ⟨a1, a2, a3⟩
      · rw [if_pos a1] at sl
        simp (disch := first | omega | decide) only [sl, show j < 50 by omega, nE_l, nE_r, nE_n, nLe_l, nLe_r, nLe_n, nLt_l, nLt_r, nLt_n, nA_l, nA_r, nI_add, nS_l, nS_n, nIn, nI_clamp, gI_I, gI_J, gI_D, gJ_J, gJ_I, gJ_D, true_and, and_true, false_and, and_false, if_true, if_false, false_implies, true_implies, not_true_eq_false, not_false_eq_true, bI_0, bI_1, Nat.reduceEqDiff, eq_self, nMax, nMin]
        exact h1 3 a2
      · rw [if_neg (by rw [a1]; decide)] at sl
        simp (disch := first | omega | decide) only [sl, show j < 50 by omega, show ¬ nI (tM T.c j) = -1 from nI_nm1 (by omega), nE_l, nE_r, nE_n, nLe_l, nLe_r, nLe_n, nLt_l, nLt_r, nLt_n, nA_l, nA_r, nI_add, nS_l, nS_n, nIn, nI_clamp, gI_I, gI_J, gI_D, gJ_J, gJ_I, gJ_D, true_and, and_true, false_and, and_false, if_true, if_false, false_implies, true_implies, not_true_eq_false, not_false_eq_true, bI_0, bI_1, Nat.reduceEqDiff, eq_self, nMax, nMin]
        exact h2 _ a2 a3
theorem s_67 {T : gS} {g : Nat} {μ : gMu} {P : gMu → gRes → Prop} (hk : gOk T) (hR : cR T μ) (hg : g < tGT T) (h : P μ (.inl (some (.int (nI (ixG T g)))))) : gCl' 67 [.ref 0, .int (nI g)] μ P := by
  have hM := tMn_le hk
  have hG := tGT_le T
  have h1 := hR.2.2.2.2.2.2.2.2.2.1.2.2.2.1 g hg
  have h2 := tGsT_lt hg
  have h2' : tGs (tRlT T) (tRnT T) (tSg T) (tMn T) g < tMn T := h2
  have h3 := hR.2.2.2.2.1.2.2.1 (tGsT T g) h2
  have h3' : gI μ 11 (tGs (tRlT T) (tRnT T) (tSg T) (tMn T) g) = nI (ixG T g) := h3
  refine vc_67 ?_
  simp (disch := first | omega | decide) only [h1, h3', show g < 50 by omega, show tGs (tRlT T) (tRnT T) (tSg T) (tMn T) g < 50 by omega, nE_l, nE_r, nE_n, nLe_l, nLe_r, nLe_n, nLt_l, nLt_r, nLt_n, nA_l, nA_r, nI_add, nS_l, nS_n, nIn, nI_clamp, gI_I, gI_J, gI_D, gJ_J, gJ_I, gJ_D, true_and, and_true, false_and, and_false, if_true, if_false, false_implies, true_implies, not_true_eq_false, not_false_eq_true, bI_0, bI_1, Nat.reduceEqDiff, eq_self, nMax, nMin]
  exact h
theorem s_100 {T : gS} {x : Int32} {μ : gMu} {P : gMu → gRes → Prop} (hk : gOk T) (hR : cR T μ) (h1 : ∀ e, slotA T x = .inl e → P μ (.inr e)) (h2 : ∀ k, slotA T x = .inr k → k < tMn T → P μ (.inl (some (.int (nI (tOw T k)))))) : gCl' 100 [.ref 0, .int x] μ P := by
  have hM := tMn_le hk
  refine vc_100 (s_91 hk hR (fun e he => Or.inr ⟨e, rfl, h1 e he⟩) (fun k he hk2 => Or.inl ⟨_, rfl, ?_⟩))
  have a := hR.2.2.2.2.2.2.2.2.2.1.2.1 k hk2
  simp (disch := first | omega | decide) only [a, show k < 50 by omega, nE_l, nE_r, nE_n, nLe_l, nLe_r, nLe_n, nLt_l, nLt_r, nLt_n, nA_l, nA_r, nI_add, nS_l, nS_n, nIn, nI_clamp, gI_I, gI_J, gI_D, gJ_J, gJ_I, gJ_D, true_and, and_true, false_and, and_false, if_true, if_false, false_implies, true_implies, not_true_eq_false, not_false_eq_true, bI_0, bI_1, Nat.reduceEqDiff, eq_self, nMax, nMin]
  exact h2 k he hk2
theorem s_107 {T : gS} {μ : gMu} {P : gMu → gRes → Prop} (hk : gOk T) (hR : cR T μ) (h1 : tTwT T ≠ 0 → P μ (.inr 1)) (h2 : tTwT T = 0 → P μ (.inl none)) : gCl' 107 [.ref 0] μ P := by
  have hX := tXx_ok hk
  have a := tTw_lt hk
  have b := hX.P
  have c := hX.G
  refine vc_107 (s_26 (b := (tTwT T == 0)) (by rw [hR.2.2.2.2.2.2.2.2.2.2.2.2.2.2.1, nO_m1 (by omega)]; exact propext ⟨fun z => by simpa using z, fun z => by simpa using z⟩) ⟨_, rfl, ?_⟩)
  rw [bI_0]
  refine ⟨fun q => h2 (by simpa using q), fun q => h1 (by simpa using q)⟩
theorem s_113 {T : gS} {x : Int32} {μ : gMu} {P : gMu → gRes → Prop} (hk : gOk T) (hR : cR T μ) (h1 : ∀ e, lnoA T x = .inl e → P μ (.inr e)) (h2 : ∀ l, l < tCn T → x = nI l → lnoA T x = .inr l → P μ (.inl none)) : gCl' 113 [.ref 0, .int x] μ P := by
  have hX := tXx_ok hk
  have b := hX.P
  have c := hX.G
  have hC := (tLs_ok (T := T)).1
  unfold lnoA at h1 h2
  refine vc_113 (s_107 hk hR (fun q => Or.inr ⟨1, rfl, ?_⟩) (fun q => Or.inl ⟨rfl, ?_⟩))
  · rw [if_neg q] at h1
    exact h1 1 rfl
  · rw [if_pos q] at h1 h2
    rw [hR.2.2.2.2.2.2.2.2.2.2.2.2.2.2.2.1.1]
    rcases inx_cases x (n := tCn T) (by omega) with ⟨e, q1 | ⟨q1, q2⟩⟩ | ⟨j, hj, rfl, e⟩
    · rw [e] at h1
      exact ⟨fun _ => h1 2 rfl, fun z => absurd q1 z⟩
    · rw [e] at h1
      exact ⟨fun _ => h1 2 rfl, fun _ => ⟨fun z => absurd z q2, fun _ => h1 2 rfl⟩⟩
    · rw [e] at h2
      exact ⟨fun z => absurd z (nI_pos (by omega)), fun _ => ⟨fun _ => h2 j hj rfl rfl, fun z => absurd (nI_lt hj (by omega)) z⟩⟩
theorem s_116 {T : gS} {x : Int32} {μ : gMu} {P : gMu → gRes → Prop} (hk : gOk T) (hR : cR T μ) (h1 : ∀ e, gilA T x = .inl e → P μ (.inr e)) (h2 : ∀ g, gilA T x = .inr g → g < tGT T → tAc T = true → P μ (.inl (some (.int (nI g))))) : gCl' 116 [.ref 0, .int x] μ P := by
  have hX := tXx_ok hk
  have b := hX.P
  have c := hX.G
  have hC := (tLs_ok (T := T)).1
  unfold gilA at h1 h2
  refine vc_116 (s_100 hk hR (fun e he => Or.inr ⟨e, rfl, ?_⟩) (fun k he hk2 => Or.inl ⟨_, rfl, s_107 hk hR (fun q => Or.inr ⟨1, rfl, ?_⟩) (fun q => Or.inl ⟨rfl, ?_⟩)⟩))
  · rw [he] at h1
    exact h1 e rfl
  · rw [he] at h1
    exact h1 1 (if_neg q)
  · rw [he] at h1 h2
    rw [hR.2.2.2.2.2.2.2.2.2.2.2.2.2.2.2.1.1, show (nI (tCn T) = 0) = (tCn T = 0) from nE_l (n := 0) (by omega) (by decide)]
    refine ⟨fun q2 => ?_, fun q2 => ?_⟩
    · exact h2 (tOw T k) (by show (if tTwT T = 0 then (if tCn T = 0 then (Sum.inl 4 : Nat ⊕ Nat) else .inr (tOw T k)) else .inl 1) = _; rw [if_pos q, if_neg q2]) (tOw_lt hk2) (tCn_act q2)
    · exact h1 4 (by show (if tTwT T = 0 then (if tCn T = 0 then (Sum.inl 4 : Nat ⊕ Nat) else .inr (tOw T k)) else .inl 1) = _; rw [if_pos q, if_pos q2])
/-- the class's row of a glyph -/
theorem cR.row {T : gS} {μ : gMu} (hk : gOk T) (hR : cR T μ) (h : tAc T = true) {g : Nat} (hg : g < tGT T) : cRow (tXx T) (tLs T) (tGw T) (tGl T) T.b (lnOf T g) μ := hR.2.2.2.2.2.2.2.2.2.2.2.2.2.2.2.2 _ (lnOf_ok hk h hg).1
theorem s_137 {T : gS} {x : Int32} {μ : gMu} {P : gMu → gRes → Prop} (hk : gOk T) (hR : cR T μ) (h1 : ∀ e, plcA T x = .inl e → P μ (.inr e)) (h2 : ∀ g, plcA T x = .inr g → g < tGT T → tAc T = true → g < lnE (tXx T) (tLs T) (lnOf T g) → P μ (.inl (some (.int (nI g))))) : gCl' 137 [.ref 0, .int x] μ P := by
  have hX := tXx_ok hk
  have b := hX.P
  have c := hX.G
  unfold plcA at h1 h2
  refine vc_137 (s_116 hk hR (fun e he => Or.inr ⟨e, rfl, ?_⟩) (fun g he hg hac => Or.inl ⟨_, rfl, ?_⟩))
  · rw [he] at h1
    exact h1 e rfl
  · have hl := lnOf_ok hk hac hg
    have row := hR.row hk hac hg
    have hg50 : g < 50 := by
      have : tGT T ≤ 50 := c
      omega
    rw [he] at h1 h2
    by_cases q : lnE (tXx T) (tLs T) (lnOf T g) ≤ g
    · have a := row.2.2 g q hl.2.2
      simp (disch := first | omega | decide) only [a, hg50, nE_l, nE_r, nE_n, nLe_l, nLe_r, nLe_n, nLt_l, nLt_r, nLt_n, nA_l, nA_r, nI_add, nS_l, nS_n, nIn, nI_clamp, gI_I, gI_J, gI_D, gJ_J, gJ_I, gJ_D, true_and, and_true, false_and, and_false, if_true, if_false, false_implies, true_implies, not_true_eq_false, not_false_eq_true, bI_0, bI_1, Nat.reduceEqDiff, eq_self, nMax, nMin]
      exact h1 4 (if_pos q)
    · have a := (row.2.1 g hl.2.1 (by omega)).2.1
      have p := pL_in (gl := tGl T) hl.2.1 (show g < lnE (tXx T) (tLs T) (lnOf T g) by omega)
      have hse := lnSE hX (tLs_ok (T := T)) hl.1
      simp (disch := first | omega | decide) only [a, hg50, show ¬ nI (pL (tGl T) (lnS (tXx T) (tLs T) (lnOf T g)) (lnE (tXx T) (tLs T) (lnOf T g)) g - lnS (tXx T) (tLs T) (lnOf T g)) = -1 from nI_nm1 (by omega), nE_l, nE_r, nE_n, nLe_l, nLe_r, nLe_n, nLt_l, nLt_r, nLt_n, nA_l, nA_r, nI_add, nS_l, nS_n, nIn, nI_clamp, gI_I, gI_J, gI_D, gJ_J, gJ_I, gJ_D, true_and, and_true, false_and, and_false, if_true, if_false, false_implies, true_implies, not_true_eq_false, not_false_eq_true, bI_0, bI_1, Nat.reduceEqDiff, eq_self, nMax, nMin]
      exact h2 g (if_neg q) hg hac (by omega)
