/-! LIGATURES AND GLYPHS, as the class forms them -/
def tRlF (lf ls : Nat → Nat) (a b : Nat) : Nat → Nat → Nat
  | 0, _ => 0
  | r + 1, i => if lf i = a ∧ ls i = b then 200 + i else tRlF lf ls a b r (i + 1)
/-- the ligature of a and b; 0: none -/
def tRl (lf ls : Nat → Nat) (ln a b : Nat) : Nat := tRlF lf ls a b ln 0
def nZ (r : Nat) : Int32 := if r = 0 then -1 else nI r
theorem tRlF_lt (lf ls : Nat → Nat) (a b : Nat) : ∀ r i, tRlF lf ls a b r i < 200 + (i + r) ∨ tRlF lf ls a b r i = 0
  | 0, _ => Or.inr rfl
  | r + 1, i => by
    unfold tRlF
    split
    · omega
    · have := tRlF_lt lf ls a b r (i + 1)
      omega
theorem tRl_lt {lf ls : Nat → Nat} {ln : Nat} (h : ln ≤ 20) (a b : Nat) : tRl lf ls ln a b < 220 := by
  have := tRlF_lt lf ls a b ln 0
  unfold tRl
  omega
theorem tRlF_ge (lf ls : Nat → Nat) (a b : Nat) : ∀ r i, tRlF lf ls a b r i = 0 ∨ (∃ j, i ≤ j ∧ j < i + r ∧ tRlF lf ls a b r i = 200 + j ∧ lf j = a ∧ ls j = b)
  | 0, _ => Or.inl rfl
  | r + 1, i => by
    unfold tRlF
    split
    · rename_i h
      exact Or.inr ⟨i, by omega, by omega, rfl, h.1, h.2⟩
    · rcases tRlF_ge lf ls a b r (i + 1) with h | ⟨j, h1, h2, h3⟩
      · exact Or.inl h
      · exact Or.inr ⟨j, by omega, by omega, h3⟩
theorem s_6 {lf ls : Nat → Nat} {ln a b : Nat} {μ : gMu} {P : gMu → gRes → Prop} (hn : ln ≤ 20) (h4 : gI μ 4 4 = nI ln) (h6 : gAr μ 6 ln lf) (h7 : gAr μ 7 ln ls) (hb6 : ∀ j, j < ln → lf j < 1000) (hb7 : ∀ j, j < ln → ls j < 1000) (ha : a < 2 ^ 31) (hb : b < 2 ^ 31) (h : P μ (.inl (some (.int (nZ (tRl lf ls ln a b)))))) : gCl' 6 [.ref 4, .int (nI a), .int (nI b)] μ P := by
  have loop : ∀ r i, i + r = ln → P μ (.inl (some (.int (nZ (tRlF lf ls a b r i))))) → gWp none 6 (2, [some (.ref 4), some (.int (nI a)), some (.int (nI b)), some (.int (nI i))], [], μ) 0 P := by
    intro r
    induction r with
    | zero =>
      intro i hr hp
      refine vc_6_2 ?_
      simp (disch := first | omega | decide) only [h4, show ln ≤ i by omega, nE_l, nE_r, nE_n, nLe_l, nLe_r, nLe_n, nLt_l, nLt_r, nLt_n, nA_l, nA_r, nI_add, nS_l, nS_n, nIn, nI_clamp, gI_I, gI_J, gI_D, gJ_J, gJ_I, gJ_D, true_and, and_true, false_and, and_false, if_true, if_false, false_implies, true_implies, not_true_eq_false, not_false_eq_true, bI_0, bI_1, Nat.reduceEqDiff, eq_self, nMax, nMin]
      exact hp
    | succ r ih =>
      intro i hr hp
      have h8 := h6 i (by omega)
      have h9 := h7 i (by omega)
      have h10 := hb6 i (by omega)
      have h11 := hb7 i (by omega)
      unfold tRlF at hp
      refine vc_6_2 ?_
      simp (disch := first | omega | decide) only [h4, h8, h9, show ¬ ln ≤ i by omega, show i < 20 by omega, nE_l, nE_r, nE_n, nLe_l, nLe_r, nLe_n, nLt_l, nLt_r, nLt_n, nA_l, nA_r, nI_add, nS_l, nS_n, nIn, nI_clamp, gI_I, gI_J, gI_D, gJ_J, gJ_I, gJ_D, true_and, and_true, false_and, and_false, if_true, if_false, false_implies, true_implies, not_true_eq_false, not_false_eq_true, bI_0, bI_1, Nat.reduceEqDiff, eq_self, nMax, nMin]
      refine ⟨fun h1 => ih (i + 1) (by omega) ?_, fun h1 => ⟨fun h2 => ih (i + 1) (by omega) ?_, fun h2 => ?_⟩⟩
      · rw [if_neg (fun q => h1 q.1)] at hp; exact hp
      · rw [if_neg (fun q => h2 q.2)] at hp; exact hp
      · rw [if_pos ⟨h1, h2⟩] at hp
        unfold nZ at hp
        rw [if_neg (by omega)] at hp
        exact hp
  exact vc_6 (loop ln 0 (by omega) h)
theorem s_8 {ln a : Nat} {μ : gMu} {P : gMu → gRes → Prop} (hn : ln ≤ 20) (h4 : gI μ 4 4 = nI ln) (ha : a < 2 ^ 31) (h : P μ (.inl (some (.int (bI (decide (200 ≤ a ∧ a < 200 + ln))))))) : gCl' 8 [.ref 4, .int (nI a)] μ P := by
  refine vc_8 ?_
  simp (disch := first | omega | decide) only [h4, nE_l, nE_r, nE_n, nLe_l, nLe_r, nLe_n, nLt_l, nLt_r, nLt_n, nA_l, nA_r, nI_add, nS_l, nS_n, nIn, nI_clamp, gI_I, gI_J, gI_D, gJ_J, gJ_I, gJ_D, true_and, and_true, false_and, and_false, if_true, if_false, false_implies, true_implies, not_true_eq_false, not_false_eq_true, bI_0, bI_1, Nat.reduceEqDiff, eq_self, nMax, nMin]
  refine ⟨fun h1 => ?_, fun h1 => ⟨fun h2 => ?_, fun h2 => ?_⟩⟩
  · rw [decide_eq_false (by omega)] at h; exact h
  · rw [decide_eq_false (by omega)] at h; exact h
  · rw [decide_eq_true (by omega)] at h; exact h
def tWd (w lw : Nat → Nat) (a : Nat) : Nat := if 200 ≤ a then lw (a - 200) else w a
theorem s_9 {w lw : Nat → Nat} {ln a : Nat} {μ : gMu} {P : gMu → gRes → Prop} (hn : ln ≤ 20) (h4 : gI μ 4 4 = nI ln) (h5 : gAr μ 5 128 w) (h8 : gAr μ 8 ln lw) (ha : a < 128 ∨ (200 ≤ a ∧ a < 200 + ln)) (h : P μ (.inl (some (.int (nI (tWd w lw a)))))) : gCl' 9 [.ref 4, .int (nI a)] μ P := by
  refine vc_9 (s_8 hn h4 (by omega) ⟨_, rfl, ?_⟩)
  unfold tWd at h
  by_cases h2 : 200 ≤ a
  · rw [if_pos h2] at h
    have h3 := h8 (a - 200) (by omega)
    simp (disch := first | omega | decide) only [show decide (200 ≤ a ∧ a < 200 + ln) = true from decide_eq_true (by omega), Bool.true_eq_false, h3, show a - 200 < 20 by omega, nE_l, nE_r, nE_n, nLe_l, nLe_r, nLe_n, nLt_l, nLt_r, nLt_n, nA_l, nA_r, nI_add, nS_l, nS_n, nIn, nI_clamp, gI_I, gI_J, gI_D, gJ_J, gJ_I, gJ_D, true_and, and_true, false_and, and_false, if_true, if_false, false_implies, true_implies, not_true_eq_false, not_false_eq_true, bI_0, bI_1, Nat.reduceEqDiff, eq_self, nMax, nMin]
    exact h
  · rw [if_neg h2] at h
    have h3 := h5 a (by omega)
    simp (disch := first | omega | decide) only [show decide (200 ≤ a ∧ a < 200 + ln) = false from decide_eq_false (by omega), h3, show ¬ a < 0 by omega, show ¬ 128 ≤ a by omega, show a < 128 by omega, nE_l, nE_r, nE_n, nLe_l, nLe_r, nLe_n, nLt_l, nLt_r, nLt_n, nA_l, nA_r, nI_add, nS_l, nS_n, nIn, nI_clamp, gI_I, gI_J, gI_D, gJ_J, gJ_I, gJ_D, true_and, and_true, false_and, and_false, if_true, if_false, false_implies, true_implies, not_true_eq_false, not_false_eq_true, bI_0, bI_1, Nat.reduceEqDiff, eq_self, nMax, nMin]
    exact h
theorem s_10 {g x : Nat} {μ : gMu} {P : gMu → gRes → Prop} (hx : gI μ 23 g = nI x) (hg : g < 50) (hx2 : x < 2 ^ 31) (h : P μ (.inl (some (.int (bI (x == 32)))))) : gCl' 10 [.ref 21, .int (nI g)] μ P := by
  refine vc_10 ?_
  simp (disch := first | omega | decide) only [hx, hg, nE_l, nE_r, nE_n, nLe_l, nLe_r, nLe_n, nLt_l, nLt_r, nLt_n, nA_l, nA_r, nI_add, nS_l, nS_n, nIn, nI_clamp, gI_I, gI_J, gI_D, gJ_J, gJ_I, gJ_D, true_and, and_true, false_and, and_false, if_true, if_false, false_implies, true_implies, not_true_eq_false, not_false_eq_true, bI_0, bI_1, Nat.reduceEqDiff, eq_self, nMax, nMin]
  refine ⟨fun h1 => ?_, fun h1 => ?_⟩
  · rw [show (x == 32) = false by simpa using h1] at h; exact h
  · rw [show (x == 32) = true by simpa using h1] at h; exact h
theorem s_32 {g x : Nat} {μ : gMu} {P : gMu → gRes → Prop} (hx : gI μ 23 g = nI x) (hg : g < 50) (hx2 : x < 2 ^ 31) (h : P μ (.inl (some (.int (bI (x == 45)))))) : gCl' 32 [.ref 21, .int (nI g)] μ P := by
  refine vc_32 ?_
  simp (disch := first | omega | decide) only [hx, hg, nE_l, nE_r, nE_n, nLe_l, nLe_r, nLe_n, nLt_l, nLt_r, nLt_n, nA_l, nA_r, nI_add, nS_l, nS_n, nIn, nI_clamp, gI_I, gI_J, gI_D, gJ_J, gJ_I, gJ_D, true_and, and_true, false_and, and_false, if_true, if_false, false_implies, true_implies, not_true_eq_false, not_false_eq_true, bI_0, bI_1, Nat.reduceEqDiff, eq_self, nMax, nMin]
  refine ⟨fun h1 => ?_, fun h1 => ?_⟩
  · rw [show (x == 45) = false by simpa using h1] at h; exact h
  · rw [show (x == 45) = true by simpa using h1] at h; exact h
/-- the number of the glyph as it stands behind the k-th character -/
def tCu (rl : Nat → Nat → Nat) (rn sg : Nat → Nat) : Nat → Nat
  | 0 => sg 0
  | k + 1 => if rn (k + 1) = rn k ∧ rl (tCu rl rn sg k) (sg (k + 1)) ≠ 0 then rl (tCu rl rn sg k) (sg (k + 1)) else sg (k + 1)
/-- the ligature that the k-th character makes with the glyph ahead; 0: none -/
def tLg (rl : Nat → Nat → Nat) (rn sg : Nat → Nat) : Nat → Nat
  | 0 => 0
  | k + 1 => if rn (k + 1) = rn k then rl (tCu rl rn sg k) (sg (k + 1)) else 0
/-- how many glyphs begin before the k-th character -/
def tGc (rl : Nat → Nat → Nat) (rn sg : Nat → Nat) : Nat → Nat
  | 0 => 0
  | k + 1 => if tLg rl rn sg k = 0 then tGc rl rn sg k + 1 else tGc rl rn sg k
/-- their numbers -/
def tGn (rl : Nat → Nat → Nat) (rn sg : Nat → Nat) : Nat → Nat → Nat
  | 0 => fun _ => 0
  | k + 1 => if tLg rl rn sg k = 0 then upN (tGn rl rn sg k) (tGc rl rn sg k) (sg k) else upN (tGn rl rn sg k) (tGc rl rn sg k - 1) (tLg rl rn sg k)
/-- where they begin -/
def tGs (rl : Nat → Nat → Nat) (rn sg : Nat → Nat) : Nat → Nat → Nat
  | 0 => fun _ => 0
  | k + 1 => if tLg rl rn sg k = 0 then upN (tGs rl rn sg k) (tGc rl rn sg k) k else tGs rl rn sg k
theorem tCu_lg (rl : Nat → Nat → Nat) (rn sg : Nat → Nat) : ∀ k, tCu rl rn sg k = if tLg rl rn sg k = 0 then sg k else tLg rl rn sg k
  | 0 => rfl
  | k + 1 => by
    have e : tLg rl rn sg (k + 1) = if rn (k + 1) = rn k then rl (tCu rl rn sg k) (sg (k + 1)) else 0 := rfl
    have e2 : tCu rl rn sg (k + 1) = if rn (k + 1) = rn k ∧ rl (tCu rl rn sg k) (sg (k + 1)) ≠ 0 then rl (tCu rl rn sg k) (sg (k + 1)) else sg (k + 1) := rfl
    rw [e, e2]
    by_cases h : rn (k + 1) = rn k
    · rw [if_pos h]
      by_cases h2 : rl (tCu rl rn sg k) (sg (k + 1)) = 0
      · rw [if_pos h2, if_neg (fun q => q.2 h2)]
      · rw [if_neg h2, if_pos ⟨h, h2⟩]
    · rw [if_neg h, if_neg (fun q => h q.1), if_pos rfl]
theorem tGc_le (rl : Nat → Nat → Nat) (rn sg : Nat → Nat) : ∀ k, tGc rl rn sg k ≤ k
  | 0 => Nat.le_refl 0
  | k + 1 => by
    have := tGc_le rl rn sg k
    unfold tGc
    split <;> omega
theorem tGc_pos (rl : Nat → Nat → Nat) (rn sg : Nat → Nat) : ∀ k, 0 < tGc rl rn sg (k + 1)
  | 0 => Nat.one_pos
  | k + 1 => by
    have := tGc_pos rl rn sg k
    unfold tGc
    split <;> omega
/-- the last glyph's number is the one that stands there -/
theorem tGn_last (rl : Nat → Nat → Nat) (rn sg : Nat → Nat) (k : Nat) : tGn rl rn sg (k + 1) (tGc rl rn sg (k + 1) - 1) = tCu rl rn sg k := by
  rw [tCu_lg]
  have e1 : tGn rl rn sg (k + 1) = if tLg rl rn sg k = 0 then upN (tGn rl rn sg k) (tGc rl rn sg k) (sg k) else upN (tGn rl rn sg k) (tGc rl rn sg k - 1) (tLg rl rn sg k) := rfl
  have e2 : tGc rl rn sg (k + 1) = if tLg rl rn sg k = 0 then tGc rl rn sg k + 1 else tGc rl rn sg k := rfl
  rw [e1, e2]
  by_cases h : tLg rl rn sg k = 0
  · rw [if_pos h, if_pos h, if_pos h, Nat.add_sub_cancel]
    exact upN_eq _ _ _
  · rw [if_neg h, if_neg h, if_neg h]
    exact upN_eq _ _ _
/-- the numbers of glyphs are codes or numbers of ligatures -/
def isGn (ln a : Nat) : Prop := a < 128 ∨ (200 ≤ a ∧ a < 200 + ln)
theorem tRl_gn (lf ls : Nat → Nat) (ln a b : Nat) (h : tRl lf ls ln a b ≠ 0) : isGn ln (tRl lf ls ln a b) := by
  rcases tRlF_ge lf ls a b ln 0 with h1 | ⟨j, h1, h2, h3, -⟩
  · exact absurd h1 h
  · unfold tRl
    rw [h3]
    exact Or.inr ⟨by omega, by omega⟩
theorem tLg_gn (lf ls : Nat → Nat) (ln : Nat) (rn sg : Nat → Nat) : ∀ k, tLg (tRl lf ls ln) rn sg k ≠ 0 → isGn ln (tLg (tRl lf ls ln) rn sg k)
  | 0, h => absurd rfl h
  | k + 1, h => by
    have e : tLg (tRl lf ls ln) rn sg (k + 1) = if rn (k + 1) = rn k then tRl lf ls ln (tCu (tRl lf ls ln) rn sg k) (sg (k + 1)) else 0 := rfl
    rw [e] at h ⊢
    by_cases h1 : rn (k + 1) = rn k
    · rw [if_pos h1] at h ⊢
      exact tRl_gn _ _ _ _ _ h
    · rw [if_neg h1] at h
      exact absurd rfl h
theorem tCu_gn {lf ls : Nat → Nat} {ln : Nat} {rn sg : Nat → Nat} {k : Nat} (h : sg k < 128) : isGn ln (tCu (tRl lf ls ln) rn sg k) := by
  rw [tCu_lg]
  split
  · exact Or.inl h
  · rename_i h1
    exact tLg_gn lf ls ln rn sg k h1
theorem tGn_gn {lf ls : Nat → Nat} {ln : Nat} {rn sg : Nat → Nat} : ∀ k, (∀ j, j < k → sg j < 128) → ∀ g, g < tGc (tRl lf ls ln) rn sg k → isGn ln (tGn (tRl lf ls ln) rn sg k g)
  | 0, _, g, hg => absurd hg (Nat.not_lt_zero g)
  | k + 1, hs, g, hg => by
    have ih := tGn_gn (lf := lf) (ls := ls) (ln := ln) (rn := rn) k (fun j hj => hs j (by omega))
    unfold tGn
    unfold tGc at hg
    by_cases h : tLg (tRl lf ls ln) rn sg k = 0
    · rw [if_pos h] at hg ⊢
      unfold upN
      split
      · exact Or.inl (hs k (by omega))
      · exact ih g (by omega)
    · rw [if_neg h] at hg ⊢
      unfold upN
      split
      · exact tLg_gn lf ls ln rn sg k h
      · exact ih g hg
theorem isGn_lt {ln a : Nat} (hn : ln ≤ 20) (h : isGn ln a) : a < 220 := by unfold isGn at h; omega
/-- what the class knows of the font -/
def cFo (ln : Nat) (w lf ls lw : Nat → Nat) (μ : gMu) : Prop := gI μ 4 4 = nI ln ∧ gAr μ 5 128 w ∧ gAr μ 6 ln lf ∧ gAr μ 7 ln ls ∧ gAr μ 8 ln lw
theorem cFo.sm {A : List Nat} {ln : Nat} {w lf ls lw : Nat → Nat} {μ μ' : gMu} (h : cFo ln w lf ls lw μ) (hs : gSm A μ μ') (h4 : 4 ∉ A) (h5 : 5 ∉ A) (h6 : 6 ∉ A) (h7 : 7 ∉ A) (h8 : 8 ∉ A) : cFo ln w lf ls lw μ' := ⟨by rw [hs.I h4, h.1], h.2.1.sm hs h5, h.2.2.1.sm hs h6, h.2.2.2.1.sm hs h7, h.2.2.2.2.sm hs h8⟩
theorem s_7 {w lf ls lw rn sg : Nat → Nat} {ln M k : Nat} {μ : gMu} {P : gMu → gRes → Prop} (hn : ln ≤ 20) (hF : cFo ln w lf ls lw μ) (hb6 : ∀ j, j < ln → lf j < 1000) (hb7 : ∀ j, j < ln → ls j < 1000) (hM : M ≤ 50) (hsg : gAr μ 12 M sg) (hb : ∀ k, k < M → sg k < 128) (hrn : gAr μ 20 M rn) (hbr : ∀ k, k < M → rn k < 1000) (hk : k < M) (h10 : gI μ 21 10 = nI (tGc (tRl lf ls ln) rn sg k)) (h23 : gAr μ 23 (tGc (tRl lf ls ln) rn sg k) (tGn (tRl lf ls ln) rn sg k)) (h : P μ (.inl (some (.int (nZ (tLg (tRl lf ls ln) rn sg k)))))) : gCl' 7 [.ref 21, .int (nI k), .ref 4] μ P := by
  refine vc_7 ?_
  cases k with
  | zero =>
    simp (disch := first | omega | decide) only [nE_l, nE_r, nE_n, nLe_l, nLe_r, nLe_n, nLt_l, nLt_r, nLt_n, nA_l, nA_r, nI_add, nS_l, nS_n, nIn, nI_clamp, gI_I, gI_J, gI_D, gJ_J, gJ_I, gJ_D, true_and, and_true, false_and, and_false, if_true, if_false, false_implies, true_implies, not_true_eq_false, not_false_eq_true, bI_0, bI_1, Nat.reduceEqDiff, eq_self, nMax, nMin]
    exact h
  | succ k =>
    have hc := tGc_le (tRl lf ls ln) rn sg (k + 1)
    have hp := tGc_pos (tRl lf ls ln) rn sg k
    have h1 := hrn (k + 1) hk
    have h2 := hrn k (by omega)
    have h3 := hbr (k + 1) hk
    have h4 := hbr k (by omega)
    have h5 := hsg (k + 1) hk
    have h6 := hb (k + 1) hk
    have h7 := h23 (tGc (tRl lf ls ln) rn sg (k + 1) - 1) (by omega)
    rw [tGn_last] at h7
    have h8 : tCu (tRl lf ls ln) rn sg k < 220 := isGn_lt hn (tCu_gn (hb k (by omega)))
    have e : tLg (tRl lf ls ln) rn sg (k + 1) = if rn (k + 1) = rn k then tRl lf ls ln (tCu (tRl lf ls ln) rn sg k) (sg (k + 1)) else 0 := rfl
    simp (disch := first | omega | decide) only [h10, h1, h2, h5, h7, Nat.add_sub_cancel, show ¬ k + 1 = 0 by omega, show ¬ tGc (tRl lf ls ln) rn sg (k + 1) = 0 by omega, show k + 1 < 50 by omega, show k < 50 by omega, show tGc (tRl lf ls ln) rn sg (k + 1) - 1 < 50 by omega, nE_l, nE_r, nE_n, nLe_l, nLe_r, nLe_n, nLt_l, nLt_r, nLt_n, nA_l, nA_r, nI_add, nS_l, nS_n, nIn, nI_clamp, gI_I, gI_J, gI_D, gJ_J, gJ_I, gJ_D, true_and, and_true, false_and, and_false, if_true, if_false, false_implies, true_implies, not_true_eq_false, not_false_eq_true, bI_0, bI_1, Nat.reduceEqDiff, eq_self, nMax, nMin]
    refine ⟨fun hr => ?_, fun hr => ?_⟩
    · rw [if_pos hr] at e
      exact s_6 hn hF.1 hF.2.2.1 hF.2.2.2.1 hb6 hb7 (by omega) (by omega) ⟨_, rfl, by rw [← e]; exact h⟩
    · rw [if_neg hr] at e
      rw [e] at h
      exact h
def tPs (f : Nat → Nat) : Nat → Nat
  | 0 => 0
  | k + 1 => tPs f k + f k
theorem tPs_le {f : Nat → Nat} {c : Nat} : ∀ k, (∀ j, j < k → f j ≤ c) → tPs f k ≤ c * k
  | 0, _ => Nat.le_refl _
  | k + 1, h => by
    have h1 := tPs_le (f := f) (c := c) k (fun j hj => h j (by omega))
    have h2 := h k (by omega)
    show tPs f k + f k ≤ c * (k + 1)
    rw [Nat.mul_succ]
    omega
theorem tPs_mono {f : Nat → Nat} : ∀ {a b : Nat}, a ≤ b → tPs f a ≤ tPs f b := by
  intro a b h
  induction h with
  | refl => exact Nat.le_refl _
  | step _ ih => exact Nat.le_trans ih (Nat.le_add_right _ _)
def spN (x : Nat) : Nat := if x = 32 then 1 else 0
theorem tWd_le {w lw : Nat → Nat} {ln a : Nat} (hw : ∀ j, j < 128 → w j ≤ 20) (hl : ∀ j, j < ln → lw j ≤ 40) (ha : isGn ln a) : tWd w lw a ≤ 40 := by
  unfold tWd
  unfold isGn at ha
  split
  · exact hl _ (by omega)
  · have := hw a (by omega)
    omega
theorem s_11 {w lf ls lw nu : Nat → Nat} {ln G : Nat} {μ : gMu} {P : gMu → gRes → Prop} (hn : ln ≤ 20) (hF : cFo ln w lf ls lw μ) (hw : ∀ j, j < 128 → w j ≤ 20) (hl : ∀ j, j < ln → lw j ≤ 40) (hG : G ≤ 50) (h10 : gI μ 21 10 = nI G) (h23 : gAr μ 23 G nu) (hnu : ∀ g, g < G → isGn ln (nu g)) (h27 : gI μ 27 0 = 0) (h28 : gI μ 28 0 = 0) (h : ∀ μ', gSm [26, 27, 28] μ μ' → gAr μ' 26 G (fun g => tWd w lw (nu g)) → gAr μ' 27 (G + 1) (tPs (fun g => tWd w lw (nu g))) → gAr μ' 28 (G + 1) (tPs (fun g => spN (nu g))) → P μ' (.inl none)) : gCl' 11 [.ref 21, .ref 4] μ P := by
  have loop : ∀ r i μ', i + r = G → gSm [26, 27, 28] μ μ' → gAr μ' 26 i (fun g => tWd w lw (nu g)) → gAr μ' 27 (i + 1) (tPs (fun g => tWd w lw (nu g))) → gAr μ' 28 (i + 1) (tPs (fun g => spN (nu g))) → gWp none 11 (2, [some (.ref 21), some (.ref 4), some (.int (nI i))], [], μ') 0 P := by
    intro r
    induction r with
    | zero =>
      intro i μ' hr hs h1 h2 h3
      have hk : i = G := by omega
      subst hk
      refine vc_11_2 ?_
      rw [hs.I (by decide), h10]
      simp (disch := first | omega | decide) only [Nat.le_refl, nE_l, nE_r, nE_n, nLe_l, nLe_r, nLe_n, nLt_l, nLt_r, nLt_n, nA_l, nA_r, nI_add, nS_l, nS_n, nIn, nI_clamp, gI_I, gI_J, gI_D, gJ_J, gJ_I, gJ_D, true_and, and_true, false_and, and_false, if_true, if_false, false_implies, true_implies, not_true_eq_false, not_false_eq_true, bI_0, bI_1, Nat.reduceEqDiff, eq_self, nMax, nMin]
      exact h μ' hs h1 h2 h3
    | succ r ih =>
      intro i μ' hr hs h1 h2 h3
      have h4 : gI μ' 23 i = nI (nu i) := by rw [hs.I (by decide), h23 i (by omega)]
      have h5 := hnu i (by omega)
      have h6 := isGn_lt hn h5
      have h7 := tWd_le hw hl h5
      have h8 := h2 i (by omega)
      have h9 := h3 i (by omega)
      refine vc_11_2 ?_
      rw [hs.I (by decide), h10]
      simp (disch := first | omega | decide) only [h4, show ¬ G ≤ i by omega, show i < 50 by omega, nE_l, nE_r, nE_n, nLe_l, nLe_r, nLe_n, nLt_l, nLt_r, nLt_n, nA_l, nA_r, nI_add, nS_l, nS_n, nIn, nI_clamp, gI_I, gI_J, gI_D, gJ_J, gJ_I, gJ_D, true_and, and_true, false_and, and_false, if_true, if_false, false_implies, true_implies, not_true_eq_false, not_false_eq_true, bI_0, bI_1, Nat.reduceEqDiff, eq_self, nMax, nMin]
      refine s_9 hn (hF.sm hs (by decide) (by decide) (by decide) (by decide) (by decide)).1 (hF.sm hs (by decide) (by decide) (by decide) (by decide) (by decide)).2.1 (hF.sm hs (by decide) (by decide) (by decide) (by decide) (by decide)).2.2.2.2 h5 ⟨_, rfl, ?_⟩
      simp (disch := first | omega | decide) only [h8, h9, show i < 51 by omega, show i < 50 by omega, show i + 1 < 51 by omega, nE_l, nE_r, nE_n, nLe_l, nLe_r, nLe_n, nLt_l, nLt_r, nLt_n, nA_l, nA_r, nI_add, nS_l, nS_n, nIn, nI_clamp, gI_I, gI_J, gI_D, gJ_J, gJ_I, gJ_D, true_and, and_true, false_and, and_false, if_true, if_false, false_implies, true_implies, not_true_eq_false, not_false_eq_true, bI_0, bI_1, Nat.reduceEqDiff, eq_self, nMax, nMin]
      have go : ∀ v, v = spN (nu i) → gWp none 11 (2, [some (.ref 21), some (.ref 4), some (.int (nI (i + 1)))], [], gsI (gsI (gsI μ' 26 i (nI (tWd w lw (nu i)))) 27 (i + 1) (nI (tPs (fun g => tWd w lw (nu g)) i + tWd w lw (nu i)))) 28 (i + 1) (nI (tPs (fun g => spN (nu g)) i + v))) 0 P := fun v hv => ih (i + 1) _ (by omega) (((hs.i 26 _ _ (by decide)).i 27 _ _ (by decide)).i 28 _ _ (by decide)) (((h1.pushE rfl).skip (by decide)).skip (by decide)) (((h2.skip (by decide)).pushE rfl).skip (by decide)) (((h3.skip (by decide)).skip (by decide)).pushE (by rw [hv]; rfl))
      refine s_10 (x := nu i) (by simp (disch := first | omega | decide) only [h4, nE_l, nE_r, nE_n, nLe_l, nLe_r, nLe_n, nLt_l, nLt_r, nLt_n, nA_l, nA_r, nI_add, nS_l, nS_n, nIn, nI_clamp, gI_I, gI_J, gI_D, gJ_J, gJ_I, gJ_D, true_and, and_true, false_and, and_false, if_true, if_false, false_implies, true_implies, not_true_eq_false, not_false_eq_true, bI_0, bI_1, Nat.reduceEqDiff, eq_self, nMax, nMin]) (by omega) (by omega) ⟨_, rfl, ?_⟩
      simp (disch := first | omega | decide) only [show i + 1 < 51 by omega, Bool.not_eq_false, beq_iff_eq, beq_eq_false_iff_ne, ne_eq, Classical.not_not, nE_l, nE_r, nE_n, nLe_l, nLe_r, nLe_n, nLt_l, nLt_r, nLt_n, nA_l, nA_r, nI_add, nS_l, nS_n, nIn, nI_clamp, gI_I, gI_J, gI_D, gJ_J, gJ_I, gJ_D, true_and, and_true, false_and, and_false, if_true, if_false, false_implies, true_implies, not_true_eq_false, not_false_eq_true, bI_0, bI_1, Nat.reduceEqDiff, eq_self, nMax, nMin]
      unfold spN at go
      refine ⟨fun hd => ?_, fun hd => ?_⟩
      · exact go 0 (by rw [if_neg hd])
      · exact go 1 (by rw [if_pos hd])
  exact vc_11 (loop G 0 μ (by omega) (gSm.rf _ _) (gAr.nil _ _ _) (fun j hj => by
    have : j = 0 := by omega
    subst this
    exact h27) (fun j hj => by
    have : j = 0 := by omega
    subst this
    exact h28))
/-- what the class knows of the glyphs of the first k characters -/
def cGy (rl : Nat → Nat → Nat) (rn sg lv : Nat → Nat) (k : Nat) (μ : gMu) : Prop := gI μ 21 10 = nI (tGc rl rn sg k) ∧ gAr μ 22 k (fun j => tGc rl rn sg (j + 1) - 1) ∧ gAr μ 23 (tGc rl rn sg k) (tGn rl rn sg k) ∧ gAr μ 24 (tGc rl rn sg k) (tGs rl rn sg k) ∧ gAr μ 25 (tGc rl rn sg k) (fun g => lv (tGs rl rn sg k g))
theorem cGy.sm {A : List Nat} {rl : Nat → Nat → Nat} {rn sg lv : Nat → Nat} {k : Nat} {μ μ' : gMu} (h : cGy rl rn sg lv k μ) (hs : gSm A μ μ') (h1 : 21 ∉ A) (h2 : 22 ∉ A) (h3 : 23 ∉ A) (h4 : 24 ∉ A) (h5 : 25 ∉ A) : cGy rl rn sg lv k μ' := ⟨by rw [hs.I h1, h.1], h.2.1.sm hs h2, h.2.2.1.sm hs h3, h.2.2.2.1.sm hs h4, h.2.2.2.2.sm hs h5⟩
theorem cGy_new {rl : Nat → Nat → Nat} {rn sg lv : Nat → Nat} {k : Nat} {μ : gMu} (h : cGy rl rn sg lv k μ) (e : tLg rl rn sg k = 0) : cGy rl rn sg lv (k + 1) (gsI (gsI (gsI (gsI (gsI μ 23 (tGc rl rn sg k) (nI (sg k))) 24 (tGc rl rn sg k) (nI k)) 25 (tGc rl rn sg k) (nI (lv k))) 21 10 (nI (tGc rl rn sg k + 1))) 22 k (nI (tGc rl rn sg k))) := by
  obtain ⟨h1, h2, h3, h4, h5⟩ := h
  have e1 : tGc rl rn sg (k + 1) = tGc rl rn sg k + 1 := if_pos e
  have e2 : tGn rl rn sg (k + 1) = upN (tGn rl rn sg k) (tGc rl rn sg k) (sg k) := if_pos e
  have e3 : tGs rl rn sg (k + 1) = upN (tGs rl rn sg k) (tGc rl rn sg k) k := if_pos e
  unfold cGy
  rw [e2, e3, e1]
  refine ⟨by simp (disch := first | omega | decide) only [nE_l, nE_r, nE_n, nLe_l, nLe_r, nLe_n, nLt_l, nLt_r, nLt_n, nA_l, nA_r, nI_add, nS_l, nS_n, nIn, nI_clamp, gI_I, gI_J, gI_D, gJ_J, gJ_I, gJ_D, true_and, and_true, false_and, and_false, if_true, if_false, false_implies, true_implies, not_true_eq_false, not_false_eq_true, bI_0, bI_1, Nat.reduceEqDiff, eq_self, nMax, nMin], ?_, ?_, ?_, ?_⟩
  · exact ((((h2.skip (by decide)).skip (by decide)).skip (by decide)).skip (by decide)).pushE (by rw [e1, Nat.add_sub_cancel])
  · exact ((((h3.push).skip (by decide)).skip (by decide)).skip (by decide)).skip (by decide)
  · exact (((((h4.skip (by decide)).push).skip (by decide)).skip (by decide))).skip (by decide)
  · have h6 := (((((h5.skip (q' := 23) (i := tGc rl rn sg k) (v := nI (sg k)) (by decide)).skip (q' := 24) (i := tGc rl rn sg k) (v := nI k) (by decide)).push (v := lv k)).skip (q' := 21) (i := 10) (v := nI (tGc rl rn sg k + 1)) (by decide)).skip (q' := 22) (i := k) (v := nI (tGc rl rn sg k)) (by decide))
    refine h6.eq (fun j hj => ?_)
    unfold upN
    split
    · rfl
    · rfl
theorem cGy_more {rl : Nat → Nat → Nat} {rn sg lv : Nat → Nat} {k : Nat} {μ : gMu} (h : cGy rl rn sg lv k μ) (e : tLg rl rn sg k ≠ 0) : cGy rl rn sg lv (k + 1) (gsI (gsI μ 23 (tGc rl rn sg k - 1) (nI (tLg rl rn sg k))) 22 k (nI (tGc rl rn sg k - 1))) := by
  obtain ⟨h1, h2, h3, h4, h5⟩ := h
  have e1 : tGc rl rn sg (k + 1) = tGc rl rn sg k := if_neg e
  have e2 : tGn rl rn sg (k + 1) = upN (tGn rl rn sg k) (tGc rl rn sg k - 1) (tLg rl rn sg k) := if_neg e
  have e3 : tGs rl rn sg (k + 1) = tGs rl rn sg k := if_neg e
  unfold cGy
  rw [e2, e3, e1]
  exact ⟨by simp (disch := first | omega | decide) only [h1, nE_l, nE_r, nE_n, nLe_l, nLe_r, nLe_n, nLt_l, nLt_r, nLt_n, nA_l, nA_r, nI_add, nS_l, nS_n, nIn, nI_clamp, gI_I, gI_J, gI_D, gJ_J, gJ_I, gJ_D, true_and, and_true, false_and, and_false, if_true, if_false, false_implies, true_implies, not_true_eq_false, not_false_eq_true, bI_0, bI_1, Nat.reduceEqDiff, eq_self, nMax, nMin], (h2.skip (by decide)).pushE (by rw [e1]), h3.set.skip (by decide), (h4.skip (by decide)).skip (by decide), (h5.skip (by decide)).skip (by decide)⟩
theorem s_12 {w lf ls lw rn sg lv : Nat → Nat} {ln M : Nat} {μ : gMu} {P : gMu → gRes → Prop} (hn : ln ≤ 20) (hF : cFo ln w lf ls lw μ) (hb6 : ∀ j, j < ln → lf j < 1000) (hb7 : ∀ j, j < ln → ls j < 1000) (hw : ∀ j, j < 128 → w j ≤ 20) (hl : ∀ j, j < ln → lw j ≤ 40) (hM : M ≤ 50) (h9 : gI μ 9 5 = nI M) (hsg : gAr μ 12 M sg) (hb : ∀ k, k < M → sg k < 128) (hrn : gAr μ 20 M rn) (hbr : ∀ k, k < M → rn k < 1000) (hlv : gAr μ 17 M lv) (h27 : gI μ 27 0 = 0) (h28 : gI μ 28 0 = 0)
    (h : ∀ μ', gSm [21, 22, 23, 24, 25, 26, 27, 28] μ μ' → cGy (tRl lf ls ln) rn sg lv M μ' → gAr μ' 26 (tGc (tRl lf ls ln) rn sg M) (fun g => tWd w lw (tGn (tRl lf ls ln) rn sg M g)) → gAr μ' 27 (tGc (tRl lf ls ln) rn sg M + 1) (tPs (fun g => tWd w lw (tGn (tRl lf ls ln) rn sg M g))) → gAr μ' 28 (tGc (tRl lf ls ln) rn sg M + 1) (tPs (fun g => spN (tGn (tRl lf ls ln) rn sg M g))) → P μ' (.inl none)) : gCl' 12 [.ref 21, .ref 4] μ P := by
  have loop : ∀ r k μ' x, k + r = M → gSm [21, 22, 23, 24, 25] μ μ' → cGy (tRl lf ls ln) rn sg lv k μ' → gWp none 12 (7, [some (.ref 21), some (.ref 4), some (.int (nI k)), x], [], μ') 0 P := by
    intro r
    induction r with
    | zero =>
      intro k μ' x hr hs hc
      have hk : k = M := by omega
      subst hk
      have hG := tGc_le (tRl lf ls ln) rn sg k
      refine gWp_up (vc_12_7 ?_) (by (repeat (first | exact gUp.nil | refine gUp.cs ?_ | refine gUp.cn ?_)))
      rw [hs.I (by decide), h9]
      simp (disch := first | omega | decide) only [Nat.le_refl, nE_l, nE_r, nE_n, nLe_l, nLe_r, nLe_n, nLt_l, nLt_r, nLt_n, nA_l, nA_r, nI_add, nS_l, nS_n, nIn, nI_clamp, gI_I, gI_J, gI_D, gJ_J, gJ_I, gJ_D, true_and, and_true, false_and, and_false, if_true, if_false, false_implies, true_implies, not_true_eq_false, not_false_eq_true, bI_0, bI_1, Nat.reduceEqDiff, eq_self, nMax, nMin]
      refine s_11 hn (hF.sm hs (by decide) (by decide) (by decide) (by decide) (by decide)) hw hl (by omega) hc.1 hc.2.2.1 (tGn_gn k hb) (by rw [hs.I (by decide), h27]) (by rw [hs.I (by decide), h28]) (fun μ2 hs2 h1 h2 h3 => ⟨rfl, ?_⟩)
      exact h μ2 ((hs.up (by decide)).tr (hs2.up (by decide))) (hc.sm hs2 (by decide) (by decide) (by decide) (by decide) (by decide)) h1 h2 h3
    | succ r ih =>
      intro k μ' x hr hs hc
      have hlt : k < M := by omega
      have hG := tGc_le (tRl lf ls ln) rn sg k
      have h3 : gI μ' 12 k = nI (sg k) := by rw [hs.I (by decide), hsg k hlt]
      have h4 : gI μ' 17 k = nI (lv k) := by rw [hs.I (by decide), hlv k hlt]
      have h5 := hc.1
      refine gWp_up (vc_12_7 ?_) (by (repeat (first | exact gUp.nil | refine gUp.cs ?_ | refine gUp.cn ?_)))
      rw [hs.I (by decide), h9]
      simp (disch := first | omega | decide) only [h3, show ¬ M ≤ k by omega, nE_l, nE_r, nE_n, nLe_l, nLe_r, nLe_n, nLt_l, nLt_r, nLt_n, nA_l, nA_r, nI_add, nS_l, nS_n, nIn, nI_clamp, gI_I, gI_J, gI_D, gJ_J, gJ_I, gJ_D, true_and, and_true, false_and, and_false, if_true, if_false, false_implies, true_implies, not_true_eq_false, not_false_eq_true, bI_0, bI_1, Nat.reduceEqDiff, eq_self, nMax, nMin]
      refine s_7 hn (hF.sm hs (by decide) (by decide) (by decide) (by decide) (by decide)) hb6 hb7 hM (hsg.sm hs (by decide)) hb (hrn.sm hs (by decide)) hbr hlt hc.1 hc.2.2.1 ⟨_, rfl, ?_⟩
      by_cases e : tLg (tRl lf ls ln) rn sg k = 0
      · have hc1 := cGy_new hc e
        simp (disch := first | omega | decide) only [e, show nZ 0 = -1 from rfl, h3, h4, h5, show k < 50 by omega, show tGc (tRl lf ls ln) rn sg k < 50 by omega, Nat.add_sub_cancel, nE_l, nE_r, nE_n, nLe_l, nLe_r, nLe_n, nLt_l, nLt_r, nLt_n, nA_l, nA_r, nI_add, nS_l, nS_n, nIn, nI_clamp, gI_I, gI_J, gI_D, gJ_J, gJ_I, gJ_D, true_and, and_true, false_and, and_false, if_true, if_false, false_implies, true_implies, not_true_eq_false, not_false_eq_true, bI_0, bI_1, Nat.reduceEqDiff, eq_self, nMax, nMin]
        exact ih (k + 1) _ _ (by omega) (((((hs.i 23 _ _ (by decide)).i 24 _ _ (by decide)).i 25 _ _ (by decide)).i 21 _ _ (by decide)).i 22 _ _ (by decide)) hc1
      · have hc1 := cGy_more hc e
        have hk0 : 0 < k := by
          cases k with
          | zero => exact absurd rfl e
          | succ k => omega
        have hp := tGc_pos (tRl lf ls ln) rn sg (k - 1)
        rw [show k - 1 + 1 = k by omega] at hp
        have hlt2 := isGn_lt hn (tLg_gn lf ls ln rn sg k e)
        have e2 : nZ (tLg (tRl lf ls ln) rn sg k) = nI (tLg (tRl lf ls ln) rn sg k) := if_neg e
        have e3 : ¬ nI (tLg (tRl lf ls ln) rn sg k) = -1 := nI_nm1 (by omega)
        simp (disch := first | omega | decide) only [e2, e3, h5, show k < 50 by omega, show tGc (tRl lf ls ln) rn sg k - 1 < 50 by omega, nE_l, nE_r, nE_n, nLe_l, nLe_r, nLe_n, nLt_l, nLt_r, nLt_n, nA_l, nA_r, nI_add, nS_l, nS_n, nIn, nI_clamp, gI_I, gI_J, gI_D, gJ_J, gJ_I, gJ_D, true_and, and_true, false_and, and_false, if_true, if_false, false_implies, true_implies, not_true_eq_false, not_false_eq_true, bI_0, bI_1, Nat.reduceEqDiff, eq_self, nMax, nMin]
        exact ih (k + 1) _ _ (by omega) ((hs.i 23 _ _ (by decide)).i 22 _ _ (by decide)) hc1
  refine vc_12 (loop M 0 _ none (by omega) ((gSm.rf _ μ).i 21 _ _ (by decide)) ⟨rfl, gAr.nil _ _ _, gAr.nil _ _ _, gAr.nil _ _ _, gAr.nil _ _ _⟩)
