/-! THE CLASS'S CHANGES -/
theorem lt_n {x : Int32} {n : Nat} (hx : x < 0) (hn : n < 2 ^ 31) : x < nI n := by
  rw [Int32.lt_iff_toInt_lt] at hx ⊢
  rw [nI_toInt hn]
  rw [z0] at hx
  omega
theorem le_n {x : Int32} {n : Nat} (hx : x < 0) (hn : n < 2 ^ 31) : ¬ nI n ≤ x := by
  rw [Int32.lt_iff_toInt_lt] at hx
  rw [Int32.le_iff_toInt_le, nI_toInt hn]
  rw [z0] at hx
  omega
theorem s_20m {x : Int32} {μ : gMu} {P : gMu → gRes → Prop} (hx : x < 0) (h : P μ (.inl (some (.int 0)))) : gCl' 20 [.int x] μ P := vc_20 ⟨fun _ => h, fun q => absurd (lt_n (n := 97) hx (by decide)) q⟩
theorem s_21m {x : Int32} {μ : gMu} {P : gMu → gRes → Prop} (hx : x < 0) (h : P μ (.inl (some (.int 0)))) : gCl' 21 [.int x] μ P := vc_21 ⟨fun _ => h, fun q => absurd (lt_n (n := 65) hx (by decide)) q⟩
theorem s_22m {x : Int32} {μ : gMu} {P : gMu → gRes → Prop} (hx : x < 0) (h : P μ (.inl (some (.int 0)))) : gCl' 22 [.int x] μ P :=
  vc_22 (s_20m hx ⟨_, rfl, fun q => absurd rfl q, fun _ => s_21m hx ⟨_, rfl, fun _ => h, fun q => absurd rfl q⟩⟩)
theorem s_8m {x : Int32} {μ : gMu} {P : gMu → gRes → Prop} (hx : x < 0) (h : P μ (.inl (some (.int 0)))) : gCl' 8 [.ref 4, .int x] μ P := vc_8 ⟨fun _ => h, fun q => absurd (lt_n (n := 200) hx (by decide)) q⟩
theorem s_70 {a : Nat} {μ : gMu} {P : gMu → gRes → Prop} (ha : a < 2 ^ 31) (h : P μ (.inl (some (.int (bI (isNe a)))))) : gCl' 70 [.int (nI a)] μ P := by
  refine vc_70 ?_
  simp (disch := first | omega | decide) only [nE_l, nE_r, nE_n, nLe_l, nLe_r, nLe_n, nLt_l, nLt_r, nLt_n, nA_l, nA_r, nI_add, nS_l, nS_n, nIn, nI_clamp, gI_I, gI_J, gI_D, gJ_J, gJ_I, gJ_D, true_and, and_true, false_and, and_false, if_true, if_false, false_implies, true_implies, not_true_eq_false, not_false_eq_true, bI_0, bI_1, Nat.reduceEqDiff, eq_self, nMax, nMin]
  refine ⟨fun h1 => ?_, fun h1 => ⟨fun h2 => ?_, fun h2 => ⟨fun h3 => ?_, fun h3 => ⟨fun h4 => ?_, fun h4 => ?_⟩⟩⟩⟩ <;> (first | subst h1 | skip) <;> (first | subst h2 | skip) <;> (first | subst h3 | skip) <;> (first | subst h4 | skip) <;> first | exact h | (rw [show isNe a = false by simp [isNe, *]] at h; exact h)
theorem s_71 {a : Nat} {μ : gMu} {P : gMu → gRes → Prop} (ha : a < 2 ^ 31) (h : P μ (.inl (some (.int (bI (isSh a)))))) : gCl' 71 [.int (nI a)] μ P := by
  refine vc_71 (s_22 ha ⟨_, rfl, ?_⟩)
  unfold isSh at h
  rw [bI_0]
  refine ⟨fun h1 => ?_, fun h1 => s_19 ha ⟨_, rfl, ?_⟩⟩
  · rw [Bool.not_eq_false] at h1
    rw [h1] at h
    exact h
  · rw [h1, Bool.false_or] at h
    rw [bI_0]
    refine ⟨fun h2 => ?_, fun h2 => s_70 ha ⟨_, rfl, ?_⟩⟩
    · rw [Bool.not_eq_false] at h2
      rw [h2] at h
      exact h
    · rw [h2, Bool.false_or] at h
      rw [bI_0]
      refine ⟨fun h3 => ?_, fun h3 => ?_⟩
      · rw [h3] at h; exact h
      · rw [Bool.not_eq_false] at h3
        rw [h3] at h; exact h
theorem nCc {a : Nat} (h : a < 65536) : narrow .char (.int (nI a)) = .int (nI a) := congrArg Value.int (nNc h)
/-! the new texts -/
def addOk (T : gS) (a : Nat) : Bool := decide (T.n < 50) && (!isMk a || (if a = 125 then decide (0 < tD T.c T.n) else decide (tD T.c T.n < 5)))
def addA (T : gS) (a : Nat) : Nat ⊕ Int32 := if isSh a = true ∨ isMk a = true then (if addOk T a = true then .inr (nI (T.n + 1)) else .inl 1) else .inl 0
def putT (T : gS) (a : Nat) : gS := (T.n + 1, upN T.c T.n a, T.b, T.w, T.ln, T.lf, T.ls, T.lw, T.W)
def addT (T : gS) (a : Nat) : gS := if (isSh a = true ∨ isMk a = true) ∧ addOk T a = true then putT T a else T
def cutT (T : gS) : gS := (T.n - 1, T.c, T.b, T.w, T.ln, T.lf, T.ls, T.lw, T.W)
def remA (T : gS) : Nat ⊕ Int32 := if T.n = 0 then .inl 4 else .inr (nI (T.c (T.n - 1)))
def remT (T : gS) : gS := if T.n = 0 then T else cutT T
def swdO (a : Nat) (x : Int32) : Option Nat := if isSh a = true then (match inx x 21 with | none => none | some w => if w = 0 then none else some w) else none
def swdA (T : gS) (a : Nat) (x : Int32) : Nat ⊕ Int32 := match swdO a x with | none => .inl 0 | some _ => .inr (nI (T.w a))
def swdT (T : gS) (a : Nat) (x : Int32) : gS := match swdO a x with | none => T | some w => (T.n, T.c, T.b, upN T.w a w, T.ln, T.lf, T.ls, T.lw, T.W)
def slnO (x : Int32) : Option Nat := match inx x 201 with | none => none | some w => if w < 10 then none else some w
def slnA (T : gS) (x : Int32) : Nat ⊕ Int32 := match slnO x with | none => .inl 0 | some _ => .inr (nI T.W)
def slnT (T : gS) (x : Int32) : gS := match slnO x with | none => T | some w => (T.n, T.c, T.b, T.w, T.ln, T.lf, T.ls, T.lw, w)
def sbsT (T : gS) (r : Bool) : gS := (T.n, T.c, if r = true then 1 else 0, T.w, T.ln, T.lf, T.ls, T.lw, T.W)
/-- the beginning of a rule: a letter or a ligature -/
def ligF (T : gS) (x : Int32) : Option Nat := match inx x 220 with | none => none | some f => if isLt f = true ∨ (200 ≤ f ∧ f < 200 + T.ln) then some f else none
def ligO (T : gS) (x : Int32) (a : Nat) (y : Int32) : Nat ⊕ (Nat × Nat) := match ligF T x, inx y 41 with
  | some f, some w => if isLt a = true ∧ 0 < w then (if T.ln < 20 ∧ tRl T.lf T.ls T.ln f a = 0 then .inr (f, w) else .inl 1) else .inl 0
  | _, _ => .inl 0
def ligA (T : gS) (x : Int32) (a : Nat) (y : Int32) : Nat ⊕ Int32 := match ligO T x a y with | .inl e => .inl e | .inr _ => .inr (nI (200 + T.ln))
def ligT (T : gS) (x : Int32) (a : Nat) (y : Int32) : gS := match ligO T x a y with | .inl _ => T | .inr (f, w) => (T.n, T.c, T.b, T.w, T.ln + 1, upN T.lf T.ln f, upN T.ls T.ln a, upN T.lw T.ln w, T.W)
theorem tD_eq {c c' : Nat → Nat} : ∀ k, (∀ j, j < k → c j = c' j) → tD c k = tD c' k
  | 0, _ => rfl
  | k + 1, h => by
    have ih := tD_eq k (fun j hj => h j (by omega))
    show (if c k = 125 then tD c k - 1 else if isMk (c k) = true then tD c k + 1 else tD c k) = (if c' k = 125 then tD c' k - 1 else if isMk (c' k) = true then tD c' k + 1 else tD c' k)
    rw [h k (by omega), ih]
theorem putT_ok {T : gS} {a : Nat} (hk : gOk T) (ha : isSh a = true ∨ isMk a = true) (ho : addOk T a = true) : gOk (putT T a) := by
  have hd : ∀ k, k ≤ T.n → tD (upN T.c T.n a) k = tD T.c k := fun k hk2 => tD_eq k (fun j hj => upN_ne (by omega))
  unfold addOk at ho
  rw [Bool.and_eq_true, decide_eq_true_eq] at ho
  obtain ⟨h1, h2⟩ := ho
  refine ⟨h1, fun j hj => ?_, fun j hj hc => ?_, fun j hj => ?_, hk.b, hk.w, hk.ln, hk.lf, hk.ls, hk.lw, hk.W⟩
  · show isSh (upN T.c T.n a j) = true ∨ isMk (upN T.c T.n a j) = true
    have hj : j < T.n + 1 := hj
    by_cases q : j = T.n
    · rw [q, upN_eq]; exact ha
    · rw [upN_ne q]; exact hk.c j (by omega)
  · have hj : j < T.n + 1 := hj
    have hc : upN T.c T.n a j = 125 := hc
    show 0 < tD (upN T.c T.n a) j
    rw [hd j (by omega)]
    by_cases q : j = T.n
    · rw [q, upN_eq] at hc
      subst hc
      rw [q]
      simpa [isMk] using h2
    · rw [upN_ne q] at hc
      exact hk.o j (by omega) hc
  · have hj : j ≤ T.n + 1 := hj
    show tD (upN T.c T.n a) j ≤ 5
    by_cases q : j = T.n + 1
    · subst q
      show (if upN T.c T.n a T.n = 125 then tD (upN T.c T.n a) T.n - 1 else if isMk (upN T.c T.n a T.n) = true then tD (upN T.c T.n a) T.n + 1 else tD (upN T.c T.n a) T.n) ≤ 5
      rw [upN_eq, hd T.n (Nat.le_refl _)]
      have h5 := hk.d T.n (Nat.le_refl _)
      by_cases c1 : a = 125
      · rw [if_pos c1]; omega
      · rw [if_neg c1]
        by_cases c2 : isMk a = true
        · rw [if_pos c2]
          rw [c2, if_neg c1] at h2
          have : tD T.c T.n < 5 := by simpa using h2
          omega
        · rw [if_neg c2]; exact h5
    · rw [hd j (by omega)]
      exact hk.d j (by omega)
theorem addT_ok {T : gS} {a : Nat} (hk : gOk T) : gOk (addT T a) := by
  unfold addT
  split
  · rename_i h; exact putT_ok hk h.1 h.2
  · exact hk
theorem remT_ok {T : gS} (hk : gOk T) : gOk (remT T) := by
  unfold remT
  split
  · exact hk
  · have hn := hk.n
    exact ⟨by show T.n - 1 ≤ 50; omega, fun j hj => hk.c j (by have hj : j < T.n - 1 := hj; omega), fun j hj => hk.o j (by have hj : j < T.n - 1 := hj; omega), fun j hj => hk.d j (by have hj : j ≤ T.n - 1 := hj; omega), hk.b, hk.w, hk.ln, hk.lf, hk.ls, hk.lw, hk.W⟩
theorem inx_some {x : Int32} {n j : Nat} (hn : n < 2 ^ 31) (h : inx x n = some j) : j < n ∧ x = nI j := by
  rcases inx_cases x hn with ⟨e, -⟩ | ⟨k, hk, hx, e⟩
  · rw [e] at h; cases h
  · rw [e] at h
    cases h
    exact ⟨hk, hx⟩
theorem swdO_some {a w : Nat} {x : Int32} (h : swdO a x = some w) : isSh a = true ∧ x = nI w ∧ 1 ≤ w ∧ w ≤ 20 := by
  unfold swdO at h
  split at h
  · rename_i hs
    split at h
    · cases h
    · rename_i w' e
      obtain ⟨e1, e2⟩ := inx_some (by decide) e
      split at h
      · cases h
      · cases h
        exact ⟨hs, e2, by omega, by omega⟩
  · cases h
theorem swdT_ok {T : gS} {a : Nat} {x : Int32} (hk : gOk T) : gOk (swdT T a x) := by
  unfold swdT
  split
  · exact hk
  · rename_i w e
    have h := swdO_some e
    refine ⟨hk.n, hk.c, hk.o, hk.d, hk.b, fun j hj => ?_, hk.ln, hk.lf, hk.ls, hk.lw, hk.W⟩
    show 1 ≤ upN T.w a w j ∧ upN T.w a w j ≤ 20
    by_cases q : j = a
    · rw [q, upN_eq]; exact h.2.2
    · rw [upN_ne q]; exact hk.w j hj
theorem slnO_some {w : Nat} {x : Int32} (h : slnO x = some w) : x = nI w ∧ 10 ≤ w ∧ w ≤ 200 := by
  unfold slnO at h
  split at h
  · cases h
  · rename_i w' e
    obtain ⟨e1, e2⟩ := inx_some (by decide) e
    split at h
    · cases h
    · cases h
      exact ⟨e2, by omega, by omega⟩
theorem slnT_ok {T : gS} {x : Int32} (hk : gOk T) : gOk (slnT T x) := by
  unfold slnT
  split
  · exact hk
  · rename_i w e
    exact ⟨hk.n, hk.c, hk.o, hk.d, hk.b, hk.w, hk.ln, hk.lf, hk.ls, hk.lw, (slnO_some e).2⟩
theorem sbsT_ok {T : gS} {r : Bool} (hk : gOk T) : gOk (sbsT T r) := ⟨hk.n, hk.c, hk.o, hk.d, by show (if r = true then 1 else 0) ≤ 1; split <;> omega, hk.w, hk.ln, hk.lf, hk.ls, hk.lw, hk.W⟩
theorem ligF_some {T : gS} {f : Nat} {x : Int32} (h : ligF T x = some f) : x = nI f ∧ (isLt f = true ∨ (200 ≤ f ∧ f < 200 + T.ln)) ∧ f < 220 := by
  unfold ligF at h
  split at h
  · cases h
  · rename_i f' e
    obtain ⟨e1, e2⟩ := inx_some (by decide) e
    split at h
    · rename_i q
      cases h
      exact ⟨e2, q, e1⟩
    · cases h
theorem ligO_inr {T : gS} {x y : Int32} {a f w : Nat} (h : ligO T x a y = .inr (f, w)) : ligF T x = some f ∧ y = nI w ∧ 1 ≤ w ∧ w ≤ 40 ∧ isLt a = true ∧ T.ln < 20 ∧ tRl T.lf T.ls T.ln f a = 0 := by
  unfold ligO at h
  split at h
  · rename_i f' w' e1 e2
    obtain ⟨e3, e4⟩ := inx_some (by decide) e2
    split at h
    · rename_i q
      split at h
      · rename_i q2
        cases h
        exact ⟨e1, e4, by omega, by omega, q.1, q2.1, q2.2⟩
      · cases h
    · cases h
  · cases h
theorem ligT_ok {T : gS} {x y : Int32} {a : Nat} (hk : gOk T) : gOk (ligT T x a y) := by
  unfold ligT
  split
  · exact hk
  · rename_i f w e
    obtain ⟨h1, h2, h3, h4, h5, h6, h7⟩ := ligO_inr e
    have h8 := ligF_some h1
    refine ⟨hk.n, hk.c, hk.o, hk.d, hk.b, hk.w, h6, fun j hj => ?_, fun j hj => ?_, fun j hj => ?_, hk.W⟩
    · have hj : j < T.ln + 1 := hj
      show isLt (upN T.lf T.ln f j) = true ∨ (200 ≤ upN T.lf T.ln f j ∧ upN T.lf T.ln f j < 200 + j)
      by_cases q : j = T.ln
      · rw [q, upN_eq]; exact h8.2.1
      · rw [upN_ne q]; exact hk.lf j (by omega)
    · have hj : j < T.ln + 1 := hj
      show isLt (upN T.ls T.ln a j) = true
      by_cases q : j = T.ln
      · rw [q, upN_eq]; exact h5
      · rw [upN_ne q]; exact hk.ls j (by omega)
    · have hj : j < T.ln + 1 := hj
      show 1 ≤ upN T.lw T.ln w j ∧ upN T.lw T.ln w j ≤ 40
      by_cases q : j = T.ln
      · rw [q, upN_eq]; exact ⟨h3, h4⟩
      · rw [upN_ne q]; exact hk.lw j (by omega)
/-! the class makes them -/
theorem gSm.c {μ μ' : gMu} {q j : Nat} {v : Int32} (h : gSm cC μ μ') (hq : q ∈ cC) : gSm cC μ (gsI μ' q j v) := h.i q j v hq
theorem s_72 {n a : Nat} {μ : gMu} {P : gMu → gRes → Prop} (h1 : gI μ 2 1 = nI n) (hn : n < 50) (ha : a < 65536) (h : P (gsI (gsI μ 3 n (nI a)) 2 1 (nI (n + 1))) (.inl none)) : gCl' 72 [.ref 2, .int (nI a)] μ P := by
  refine vc_72 ?_
  simp (disch := first | omega | decide) only [h1, show ¬ 50 ≤ n by omega, hn, nNc ha, nE_l, nE_r, nE_n, nLe_l, nLe_r, nLe_n, nLt_l, nLt_r, nLt_n, nA_l, nA_r, nI_add, nS_l, nS_n, nIn, nI_clamp, gI_I, gI_J, gI_D, gJ_J, gJ_I, gJ_D, true_and, and_true, false_and, and_false, if_true, if_false, false_implies, true_implies, not_true_eq_false, not_false_eq_true, bI_0, bI_1, Nat.reduceEqDiff, eq_self, nMax, nMin]
  exact h
theorem s_73 {T : gS} {a : Nat} {μ : gMu} {P : gMu → gRes → Prop} (hk : gOk T) (hT : cT T μ) (ha : a < 65536) (h : P μ (.inl (some (.int (bI (addOk T a)))))) : gCl' 73 [.ref 2, .int (nI a)] μ P := by
  have hn := hk.n
  have hd := hk.d T.n (Nat.le_refl _)
  unfold addOk at h
  refine vc_73 ?_
  simp (disch := first | omega | decide) only [hT.1, nE_l, nE_r, nE_n, nLe_l, nLe_r, nLe_n, nLt_l, nLt_r, nLt_n, nA_l, nA_r, nI_add, nS_l, nS_n, nIn, nI_clamp, gI_I, gI_J, gI_D, gJ_J, gJ_I, gJ_D, true_and, and_true, false_and, and_false, if_true, if_false, false_implies, true_implies, not_true_eq_false, not_false_eq_true, bI_0, bI_1, Nat.reduceEqDiff, eq_self, nMax, nMin]
  refine ⟨fun q => s_3 (by omega) ⟨_, rfl, ?_⟩, fun q => ?_⟩
  · rw [decide_eq_true q, Bool.true_and] at h
    rw [bI_0]
    refine ⟨fun m => ?_, fun m => ?_⟩
    · have m : isMk a = true := by simpa using m
      rw [m] at h
      refine ⟨fun c => s_4 hT hk ⟨_, rfl, ?_⟩, fun c => s_4 hT hk ⟨_, rfl, ?_⟩⟩
      · simp (disch := first | omega | decide) only [nE_l, nE_r, nE_n, nLe_l, nLe_r, nLe_n, nLt_l, nLt_r, nLt_n, nA_l, nA_r, nI_add, nS_l, nS_n, nIn, nI_clamp, gI_I, gI_J, gI_D, gJ_J, gJ_I, gJ_D, true_and, and_true, false_and, and_false, if_true, if_false, false_implies, true_implies, not_true_eq_false, not_false_eq_true, bI_0, bI_1, Nat.reduceEqDiff, eq_self, nMax, nMin]
        rw [if_neg (by intro z; rw [z] at c; exact c rfl)] at h
        refine ⟨fun z => ?_, fun z => ?_⟩
        · rw [decide_eq_false (by omega)] at h; exact h
        · rw [decide_eq_true (by omega)] at h; exact h
      · simp (disch := first | omega | decide) only [nE_l, nE_r, nE_n, nLe_l, nLe_r, nLe_n, nLt_l, nLt_r, nLt_n, nA_l, nA_r, nI_add, nS_l, nS_n, nIn, nI_clamp, gI_I, gI_J, gI_D, gJ_J, gJ_I, gJ_D, true_and, and_true, false_and, and_false, if_true, if_false, false_implies, true_implies, not_true_eq_false, not_false_eq_true, bI_0, bI_1, Nat.reduceEqDiff, eq_self, nMax, nMin]
        rw [if_pos c] at h
        refine ⟨fun z => ?_, fun z => ?_⟩
        · rw [decide_eq_false (by omega)] at h; exact h
        · rw [decide_eq_true (by omega)] at h; exact h
    · rw [m] at h
      exact h
  · rw [decide_eq_false q] at h
    exact h
theorem s_74 {T : gS} {a : Nat} {μ : gMu} {P : gMu → gRes → Prop} (hk : gOk T) (hI : cI T μ) (ha : a < 65536) (h : ∀ μ', gSm cC μ μ' → cI (addT T a) μ' → P μ' (rG (addA T a))) : gCl' 74 [.ref 0, .int (nI a)] μ P := by
  have hn := hk.n
  have hT := hI.1
  unfold addA addT at h
  have keep : ¬ ((isSh a = true ∨ isMk a = true) ∧ addOk T a = true) → P μ (rG (if isSh a = true ∨ isMk a = true then (if addOk T a = true then .inr (nI (T.n + 1)) else .inl 1) else .inl 0)) := fun q => h μ (gSm.rf _ _) (by rw [if_neg q]; exact hI)
  have go : (isSh a = true ∨ isMk a = true) → gCl' 73 [.ref 2, .int (nI a)] μ (fun μ3 r => (∃ v4, r = .inl (some (.int v4)) ∧ (((¬ v4 = 0) → (gCl' 72 [.ref 2, .int (nI a)] μ3 (fun μ5 r => (r = .inl none ∧ (P (gsI μ5 0 11 (1 : Int32)) (.inl (some (.int (gI μ5 2 1))))))))) ∧ ((v4 = 0) → (P μ3 (.inr 1)))))) := by
    intro hsm
    refine s_73 hk hT ha ⟨_, rfl, ?_⟩
    rw [bI_0]
    refine ⟨fun q => ?_, fun q => ?_⟩
    · have q : addOk T a = true := by simpa using q
      have hlt : T.n < 50 := by
        unfold addOk at q
        rw [Bool.and_eq_true, decide_eq_true_eq] at q
        exact q.1
      refine s_72 hT.1 hlt ha ⟨rfl, ?_⟩
      have hp := h (gsI (gsI (gsI μ 3 T.n (nI a)) 2 1 (nI (T.n + 1))) 0 11 1) (((gSm.rf cC μ).c (by decide)).c (by decide) |>.c (by decide)) (by
        rw [if_pos ⟨hsm, q⟩]
        obtain ⟨a1, a2, a3, a4, a5, a6, a7, a8, a9⟩ := hT
        refine ⟨⟨by simp (disch := first | omega | decide) only [nE_l, nE_r, nE_n, nLe_l, nLe_r, nLe_n, nLt_l, nLt_r, nLt_n, nA_l, nA_r, nI_add, nS_l, nS_n, nIn, nI_clamp, gI_I, gI_J, gI_D, gJ_J, gJ_I, gJ_D, true_and, and_true, false_and, and_false, if_true, if_false, false_implies, true_implies, not_true_eq_false, not_false_eq_true, bI_0, bI_1, Nat.reduceEqDiff, eq_self, nMax, nMin]; rfl, ?_, by simp (disch := first | omega | decide) only [a3, nE_l, nE_r, nE_n, nLe_l, nLe_r, nLe_n, nLt_l, nLt_r, nLt_n, nA_l, nA_r, nI_add, nS_l, nS_n, nIn, nI_clamp, gI_I, gI_J, gI_D, gJ_J, gJ_I, gJ_D, true_and, and_true, false_and, and_false, if_true, if_false, false_implies, true_implies, not_true_eq_false, not_false_eq_true, bI_0, bI_1, Nat.reduceEqDiff, eq_self, nMax, nMin]; rfl, by simp (disch := first | omega | decide) only [a4, nE_l, nE_r, nE_n, nLe_l, nLe_r, nLe_n, nLt_l, nLt_r, nLt_n, nA_l, nA_r, nI_add, nS_l, nS_n, nIn, nI_clamp, gI_I, gI_J, gI_D, gJ_J, gJ_I, gJ_D, true_and, and_true, false_and, and_false, if_true, if_false, false_implies, true_implies, not_true_eq_false, not_false_eq_true, bI_0, bI_1, Nat.reduceEqDiff, eq_self, nMax, nMin]; rfl, by simp (disch := first | omega | decide) only [a5, nE_l, nE_r, nE_n, nLe_l, nLe_r, nLe_n, nLt_l, nLt_r, nLt_n, nA_l, nA_r, nI_add, nS_l, nS_n, nIn, nI_clamp, gI_I, gI_J, gI_D, gJ_J, gJ_I, gJ_D, true_and, and_true, false_and, and_false, if_true, if_false, false_implies, true_implies, not_true_eq_false, not_false_eq_true, bI_0, bI_1, Nat.reduceEqDiff, eq_self, nMax, nMin]; rfl, ((a6.skip (by decide)).skip (by decide)).skip (by decide), ((a7.skip (by decide)).skip (by decide)).skip (by decide), ((a8.skip (by decide)).skip (by decide)).skip (by decide), ((a9.skip (by decide)).skip (by decide)).skip (by decide)⟩, by simp (disch := first | omega | decide) only [hI.2.1, nE_l, nE_r, nE_n, nLe_l, nLe_r, nLe_n, nLt_l, nLt_r, nLt_n, nA_l, nA_r, nI_add, nS_l, nS_n, nIn, nI_clamp, gI_I, gI_J, gI_D, gJ_J, gJ_I, gJ_D, true_and, and_true, false_and, and_false, if_true, if_false, false_implies, true_implies, not_true_eq_false, not_false_eq_true, bI_0, bI_1, Nat.reduceEqDiff, eq_self, nMax, nMin], by simp (disch := first | omega | decide) only [hI.2.2.1, nE_l, nE_r, nE_n, nLe_l, nLe_r, nLe_n, nLt_l, nLt_r, nLt_n, nA_l, nA_r, nI_add, nS_l, nS_n, nIn, nI_clamp, gI_I, gI_J, gI_D, gJ_J, gJ_I, gJ_D, true_and, and_true, false_and, and_false, if_true, if_false, false_implies, true_implies, not_true_eq_false, not_false_eq_true, bI_0, bI_1, Nat.reduceEqDiff, eq_self, nMax, nMin], Or.inl (by simp (disch := first | omega | decide) only [nE_l, nE_r, nE_n, nLe_l, nLe_r, nLe_n, nLt_l, nLt_r, nLt_n, nA_l, nA_r, nI_add, nS_l, nS_n, nIn, nI_clamp, gI_I, gI_J, gI_D, gJ_J, gJ_I, gJ_D, true_and, and_true, false_and, and_false, if_true, if_false, false_implies, true_implies, not_true_eq_false, not_false_eq_true, bI_0, bI_1, Nat.reduceEqDiff, eq_self, nMax, nMin])⟩
        exact ((a2.push).skip (by decide)).skip (by decide))
      rw [if_pos hsm, if_pos q] at hp
      simp (disch := first | omega | decide) only [nE_l, nE_r, nE_n, nLe_l, nLe_r, nLe_n, nLt_l, nLt_r, nLt_n, nA_l, nA_r, nI_add, nS_l, nS_n, nIn, nI_clamp, gI_I, gI_J, gI_D, gJ_J, gJ_I, gJ_D, true_and, and_true, false_and, and_false, if_true, if_false, false_implies, true_implies, not_true_eq_false, not_false_eq_true, bI_0, bI_1, Nat.reduceEqDiff, eq_self, nMax, nMin]
      exact hp
    · have q2 := keep (fun z => by rw [q] at z; exact absurd z.2 (by decide))
      rw [if_pos hsm, if_neg (by rw [q]; decide)] at q2
      exact q2
  refine vc_74 (s_71 (by omega) ⟨_, rfl, ?_⟩)
  rw [bI_0]
  refine ⟨fun q => go (Or.inl (by simpa using q)), fun q => s_3 (by omega) ⟨_, rfl, ?_⟩⟩
  rw [bI_0]
  refine ⟨fun q2 => go (Or.inr (by simpa using q2)), fun q2 => ?_⟩
  have q3 : ¬ (isSh a = true ∨ isMk a = true) := by rw [q, q2]; decide
  have q4 := keep (fun z => q3 z.1)
  rw [if_neg q3] at q4
  exact q4
theorem s_77 {T : gS} {μ : gMu} {P : gMu → gRes → Prop} (hk : gOk T) (hI : cI T μ) (h : ∀ μ', gSm cC μ μ' → cI (remT T) μ' → P μ' (rG (remA T))) : gCl' 77 [.ref 0] μ P := by
  have hn := hk.n
  have hT := hI.1
  unfold remA remT at h
  refine vc_77 ?_
  rw [hT.1, show (nI T.n = 0) = (T.n = 0) from nE_l (n := 0) (by omega) (by decide)]
  refine ⟨fun q => ?_, fun q => ?_⟩
  · rw [if_neg q, if_neg q] at h
    have hc := hk.c_lt (j := T.n - 1) (by omega)
    have h3 := hT.2.1 (T.n - 1) (by omega)
    refine vc_76 ?_
    simp (disch := first | omega | decide) only [hT.1, show ¬ T.n ≤ 0 by omega, show T.n - 1 < 50 by omega, h3, nE_l, nE_r, nE_n, nLe_l, nLe_r, nLe_n, nLt_l, nLt_r, nLt_n, nA_l, nA_r, nI_add, nS_l, nS_n, nIn, nI_clamp, gI_I, gI_J, gI_D, gJ_J, gJ_I, gJ_D, true_and, and_true, false_and, and_false, if_true, if_false, false_implies, true_implies, not_true_eq_false, not_false_eq_true, bI_0, bI_1, Nat.reduceEqDiff, eq_self, nMax, nMin]
    refine ⟨nCc (by omega), _, rfl, nCc (by omega), ?_⟩
    refine h _ (((gSm.rf cC μ).c (by decide)).c (by decide)) ?_
    obtain ⟨a1, a2, a3, a4, a5, a6, a7, a8, a9⟩ := hT
    refine ⟨⟨by simp (disch := first | omega | decide) only [nE_l, nE_r, nE_n, nLe_l, nLe_r, nLe_n, nLt_l, nLt_r, nLt_n, nA_l, nA_r, nI_add, nS_l, nS_n, nIn, nI_clamp, gI_I, gI_J, gI_D, gJ_J, gJ_I, gJ_D, true_and, and_true, false_and, and_false, if_true, if_false, false_implies, true_implies, not_true_eq_false, not_false_eq_true, bI_0, bI_1, Nat.reduceEqDiff, eq_self, nMax, nMin]; rfl, ((a2.skip (by decide)).skip (by decide)).sub (by show T.n - 1 ≤ T.n; omega), by simp (disch := first | omega | decide) only [a3, nE_l, nE_r, nE_n, nLe_l, nLe_r, nLe_n, nLt_l, nLt_r, nLt_n, nA_l, nA_r, nI_add, nS_l, nS_n, nIn, nI_clamp, gI_I, gI_J, gI_D, gJ_J, gJ_I, gJ_D, true_and, and_true, false_and, and_false, if_true, if_false, false_implies, true_implies, not_true_eq_false, not_false_eq_true, bI_0, bI_1, Nat.reduceEqDiff, eq_self, nMax, nMin]; rfl, by simp (disch := first | omega | decide) only [a4, nE_l, nE_r, nE_n, nLe_l, nLe_r, nLe_n, nLt_l, nLt_r, nLt_n, nA_l, nA_r, nI_add, nS_l, nS_n, nIn, nI_clamp, gI_I, gI_J, gI_D, gJ_J, gJ_I, gJ_D, true_and, and_true, false_and, and_false, if_true, if_false, false_implies, true_implies, not_true_eq_false, not_false_eq_true, bI_0, bI_1, Nat.reduceEqDiff, eq_self, nMax, nMin]; rfl, by simp (disch := first | omega | decide) only [a5, nE_l, nE_r, nE_n, nLe_l, nLe_r, nLe_n, nLt_l, nLt_r, nLt_n, nA_l, nA_r, nI_add, nS_l, nS_n, nIn, nI_clamp, gI_I, gI_J, gI_D, gJ_J, gJ_I, gJ_D, true_and, and_true, false_and, and_false, if_true, if_false, false_implies, true_implies, not_true_eq_false, not_false_eq_true, bI_0, bI_1, Nat.reduceEqDiff, eq_self, nMax, nMin]; rfl, ((a6.skip (by decide)).skip (by decide)), ((a7.skip (by decide)).skip (by decide)), ((a8.skip (by decide)).skip (by decide)), ((a9.skip (by decide)).skip (by decide))⟩, by simp (disch := first | omega | decide) only [hI.2.1, nE_l, nE_r, nE_n, nLe_l, nLe_r, nLe_n, nLt_l, nLt_r, nLt_n, nA_l, nA_r, nI_add, nS_l, nS_n, nIn, nI_clamp, gI_I, gI_J, gI_D, gJ_J, gJ_I, gJ_D, true_and, and_true, false_and, and_false, if_true, if_false, false_implies, true_implies, not_true_eq_false, not_false_eq_true, bI_0, bI_1, Nat.reduceEqDiff, eq_self, nMax, nMin], by simp (disch := first | omega | decide) only [hI.2.2.1, nE_l, nE_r, nE_n, nLe_l, nLe_r, nLe_n, nLt_l, nLt_r, nLt_n, nA_l, nA_r, nI_add, nS_l, nS_n, nIn, nI_clamp, gI_I, gI_J, gI_D, gJ_J, gJ_I, gJ_D, true_and, and_true, false_and, and_false, if_true, if_false, false_implies, true_implies, not_true_eq_false, not_false_eq_true, bI_0, bI_1, Nat.reduceEqDiff, eq_self, nMax, nMin], Or.inl (by simp (disch := first | omega | decide) only [nE_l, nE_r, nE_n, nLe_l, nLe_r, nLe_n, nLt_l, nLt_r, nLt_n, nA_l, nA_r, nI_add, nS_l, nS_n, nIn, nI_clamp, gI_I, gI_J, gI_D, gJ_J, gJ_I, gJ_D, true_and, and_true, false_and, and_false, if_true, if_false, false_implies, true_implies, not_true_eq_false, not_false_eq_true, bI_0, bI_1, Nat.reduceEqDiff, eq_self, nMax, nMin])⟩
  · rw [if_pos q, if_pos q] at h
    exact h μ (gSm.rf _ _) hI
theorem s_80 {T : gS} {a : Nat} {x : Int32} {μ : gMu} {P : gMu → gRes → Prop} (hk : gOk T) (hI : cI T μ) (ha : a < 65536) (h : ∀ μ', gSm cC μ μ' → cI (swdT T a x) μ' → P μ' (rG (swdA T a x))) : gCl' 80 [.ref 0, .int (nI a), .int x] μ P := by
  have hT := hI.1
  have no : swdO a x = none → P μ (.inr 0) := by
    intro e
    have := h μ (gSm.rf _ _) (by unfold swdT; rw [e]; exact hI)
    unfold swdA at this
    rw [e] at this
    exact this
  refine vc_80 (s_71 (by omega) ⟨_, rfl, ?_⟩)
  rw [bI_0]
  refine ⟨fun q => no (by unfold swdO; rw [if_neg (by rw [q]; decide)]), fun q => ?_⟩
  have q : isSh a = true := by simpa using q
  have ha2 := isSh_b q
  have e1 : swdO a x = (match inx x 21 with | none => none | some w => if w = 0 then none else some w) := if_pos q
  rcases inx_cases x (n := 21) (by decide) with ⟨e, q1⟩ | ⟨j, hj, rfl, e⟩
  · rw [e] at e1
    rcases q1 with q1 | ⟨q1, q2⟩
    · have : x < 1 := lt_n (n := 1) q1 (by decide)
      exact ⟨fun _ => no e1, fun z => absurd this z⟩
    · refine ⟨fun _ => no e1, fun _ => ⟨fun z => ?_, fun _ => no e1⟩⟩
      exfalso
      obtain ⟨m, hm, rfl⟩ := nI_of q1
      rw [nLt_n (by omega) (by decide)] at q2
      have z : nI m ≤ nI 20 := z
      rw [nLe_n (by omega) (by decide)] at z
      omega
  · rw [e] at e1
    dsimp only at e1
    simp (disch := first | omega | decide) only [nE_l, nE_r, nE_n, nLe_l, nLe_r, nLe_n, nLt_l, nLt_r, nLt_n, nA_l, nA_r, nI_add, nS_l, nS_n, nIn, nI_clamp, gI_I, gI_J, gI_D, gJ_J, gJ_I, gJ_D, true_and, and_true, false_and, and_false, if_true, if_false, false_implies, true_implies, not_true_eq_false, not_false_eq_true, bI_0, bI_1, Nat.reduceEqDiff, eq_self, nMax, nMin]
    refine ⟨fun z => no (by rw [e1, if_pos (by omega)]), fun z => ⟨fun _ => ?_, fun z2 => by omega⟩⟩
    have e2 : swdO a (nI j) = some j := by rw [e1, if_neg (by omega)]
    have h5 := hT.2.2.2.2.2.1 a (by omega)
    refine vc_79 ?_
    simp (disch := first | omega | decide) only [show a < 128 by omega, h5, nE_l, nE_r, nE_n, nLe_l, nLe_r, nLe_n, nLt_l, nLt_r, nLt_n, nA_l, nA_r, nI_add, nS_l, nS_n, nIn, nI_clamp, gI_I, gI_J, gI_D, gJ_J, gJ_I, gJ_D, true_and, and_true, false_and, and_false, if_true, if_false, false_implies, true_implies, not_true_eq_false, not_false_eq_true, bI_0, bI_1, Nat.reduceEqDiff, eq_self, nMax, nMin]
    have hp := h (gsI (gsI μ 0 11 1) 5 a (nI j)) (((gSm.rf cC μ).c (by decide)).c (by decide)) (by
      unfold swdT
      rw [e2]
      obtain ⟨a1, a2, a3, a4, a5, a6, a7, a8, a9⟩ := hT
      exact ⟨⟨by simp (disch := first | omega | decide) only [a1, nE_l, nE_r, nE_n, nLe_l, nLe_r, nLe_n, nLt_l, nLt_r, nLt_n, nA_l, nA_r, nI_add, nS_l, nS_n, nIn, nI_clamp, gI_I, gI_J, gI_D, gJ_J, gJ_I, gJ_D, true_and, and_true, false_and, and_false, if_true, if_false, false_implies, true_implies, not_true_eq_false, not_false_eq_true, bI_0, bI_1, Nat.reduceEqDiff, eq_self, nMax, nMin]; rfl, (a2.skip (by decide)).skip (by decide), by simp (disch := first | omega | decide) only [a3, nE_l, nE_r, nE_n, nLe_l, nLe_r, nLe_n, nLt_l, nLt_r, nLt_n, nA_l, nA_r, nI_add, nS_l, nS_n, nIn, nI_clamp, gI_I, gI_J, gI_D, gJ_J, gJ_I, gJ_D, true_and, and_true, false_and, and_false, if_true, if_false, false_implies, true_implies, not_true_eq_false, not_false_eq_true, bI_0, bI_1, Nat.reduceEqDiff, eq_self, nMax, nMin]; rfl, by simp (disch := first | omega | decide) only [a4, nE_l, nE_r, nE_n, nLe_l, nLe_r, nLe_n, nLt_l, nLt_r, nLt_n, nA_l, nA_r, nI_add, nS_l, nS_n, nIn, nI_clamp, gI_I, gI_J, gI_D, gJ_J, gJ_I, gJ_D, true_and, and_true, false_and, and_false, if_true, if_false, false_implies, true_implies, not_true_eq_false, not_false_eq_true, bI_0, bI_1, Nat.reduceEqDiff, eq_self, nMax, nMin]; rfl, by simp (disch := first | omega | decide) only [a5, nE_l, nE_r, nE_n, nLe_l, nLe_r, nLe_n, nLt_l, nLt_r, nLt_n, nA_l, nA_r, nI_add, nS_l, nS_n, nIn, nI_clamp, gI_I, gI_J, gI_D, gJ_J, gJ_I, gJ_D, true_and, and_true, false_and, and_false, if_true, if_false, false_implies, true_implies, not_true_eq_false, not_false_eq_true, bI_0, bI_1, Nat.reduceEqDiff, eq_self, nMax, nMin]; rfl, (a6.skip (by decide)).set, (a7.skip (by decide)).skip (by decide), (a8.skip (by decide)).skip (by decide), (a9.skip (by decide)).skip (by decide)⟩, by simp (disch := first | omega | decide) only [hI.2.1, nE_l, nE_r, nE_n, nLe_l, nLe_r, nLe_n, nLt_l, nLt_r, nLt_n, nA_l, nA_r, nI_add, nS_l, nS_n, nIn, nI_clamp, gI_I, gI_J, gI_D, gJ_J, gJ_I, gJ_D, true_and, and_true, false_and, and_false, if_true, if_false, false_implies, true_implies, not_true_eq_false, not_false_eq_true, bI_0, bI_1, Nat.reduceEqDiff, eq_self, nMax, nMin], by simp (disch := first | omega | decide) only [hI.2.2.1, nE_l, nE_r, nE_n, nLe_l, nLe_r, nLe_n, nLt_l, nLt_r, nLt_n, nA_l, nA_r, nI_add, nS_l, nS_n, nIn, nI_clamp, gI_I, gI_J, gI_D, gJ_J, gJ_I, gJ_D, true_and, and_true, false_and, and_false, if_true, if_false, false_implies, true_implies, not_true_eq_false, not_false_eq_true, bI_0, bI_1, Nat.reduceEqDiff, eq_self, nMax, nMin], Or.inl (by simp (disch := first | omega | decide) only [nE_l, nE_r, nE_n, nLe_l, nLe_r, nLe_n, nLt_l, nLt_r, nLt_n, nA_l, nA_r, nI_add, nS_l, nS_n, nIn, nI_clamp, gI_I, gI_J, gI_D, gJ_J, gJ_I, gJ_D, true_and, and_true, false_and, and_false, if_true, if_false, false_implies, true_implies, not_true_eq_false, not_false_eq_true, bI_0, bI_1, Nat.reduceEqDiff, eq_self, nMax, nMin])⟩)
    unfold swdA at hp
    rw [e2] at hp
    exact ⟨_, rfl, hp⟩
theorem s_82 {T : gS} {x : Int32} {μ : gMu} {P : gMu → gRes → Prop} (hI : cI T μ) (h : ∀ μ', gSm cC μ μ' → cI (slnT T x) μ' → P μ' (rG (slnA T x))) : gCl' 82 [.ref 0, .int x] μ P := by
  have hT := hI.1
  have no : slnO x = none → P μ (.inr 0) := by
    intro e
    have := h μ (gSm.rf _ _) (by unfold slnT; rw [e]; exact hI)
    unfold slnA at this
    rw [e] at this
    exact this
  have e1 : slnO x = (match inx x 201 with | none => none | some w => if w < 10 then none else some w) := rfl
  refine vc_82 ?_
  rcases inx_cases x (n := 201) (by decide) with ⟨e, q1⟩ | ⟨j, hj, rfl, e⟩
  · rw [e] at e1
    rcases q1 with q1 | ⟨q1, q2⟩
    · have : x < 10 := lt_n (n := 10) q1 (by decide)
      exact ⟨fun _ => no e1, fun z => absurd this z⟩
    · refine ⟨fun _ => no e1, fun _ => ⟨fun z => ?_, fun _ => no e1⟩⟩
      exfalso
      obtain ⟨m, hm, rfl⟩ := nI_of q1
      rw [nLt_n (by omega) (by decide)] at q2
      have z : nI m ≤ nI 200 := z
      rw [nLe_n (by omega) (by decide)] at z
      omega
  · rw [e] at e1
    dsimp only at e1
    simp (disch := first | omega | decide) only [nE_l, nE_r, nE_n, nLe_l, nLe_r, nLe_n, nLt_l, nLt_r, nLt_n, nA_l, nA_r, nI_add, nS_l, nS_n, nIn, nI_clamp, gI_I, gI_J, gI_D, gJ_J, gJ_I, gJ_D, true_and, and_true, false_and, and_false, if_true, if_false, false_implies, true_implies, not_true_eq_false, not_false_eq_true, bI_0, bI_1, Nat.reduceEqDiff, eq_self, nMax, nMin]
    refine ⟨fun z => no (by rw [e1, if_pos (by omega)]), fun z => ⟨fun _ => ?_, fun z2 => by omega⟩⟩
    have e2 : slnO (nI j) = some j := by rw [e1, if_neg (by omega)]
    have hp := h (gsI (gsI μ 0 9 (nI j)) 0 11 1) (((gSm.rf cC μ).c (by decide)).c (by decide)) (by
      unfold slnT
      rw [e2]
      obtain ⟨a1, a2, a3, a4, a5, a6, a7, a8, a9⟩ := hT
      exact ⟨⟨by simp (disch := first | omega | decide) only [a1, nE_l, nE_r, nE_n, nLe_l, nLe_r, nLe_n, nLt_l, nLt_r, nLt_n, nA_l, nA_r, nI_add, nS_l, nS_n, nIn, nI_clamp, gI_I, gI_J, gI_D, gJ_J, gJ_I, gJ_D, true_and, and_true, false_and, and_false, if_true, if_false, false_implies, true_implies, not_true_eq_false, not_false_eq_true, bI_0, bI_1, Nat.reduceEqDiff, eq_self, nMax, nMin]; rfl, (a2.skip (by decide)).skip (by decide), by simp (disch := first | omega | decide) only [nE_l, nE_r, nE_n, nLe_l, nLe_r, nLe_n, nLt_l, nLt_r, nLt_n, nA_l, nA_r, nI_add, nS_l, nS_n, nIn, nI_clamp, gI_I, gI_J, gI_D, gJ_J, gJ_I, gJ_D, true_and, and_true, false_and, and_false, if_true, if_false, false_implies, true_implies, not_true_eq_false, not_false_eq_true, bI_0, bI_1, Nat.reduceEqDiff, eq_self, nMax, nMin]; rfl, by simp (disch := first | omega | decide) only [a4, nE_l, nE_r, nE_n, nLe_l, nLe_r, nLe_n, nLt_l, nLt_r, nLt_n, nA_l, nA_r, nI_add, nS_l, nS_n, nIn, nI_clamp, gI_I, gI_J, gI_D, gJ_J, gJ_I, gJ_D, true_and, and_true, false_and, and_false, if_true, if_false, false_implies, true_implies, not_true_eq_false, not_false_eq_true, bI_0, bI_1, Nat.reduceEqDiff, eq_self, nMax, nMin]; rfl, by simp (disch := first | omega | decide) only [a5, nE_l, nE_r, nE_n, nLe_l, nLe_r, nLe_n, nLt_l, nLt_r, nLt_n, nA_l, nA_r, nI_add, nS_l, nS_n, nIn, nI_clamp, gI_I, gI_J, gI_D, gJ_J, gJ_I, gJ_D, true_and, and_true, false_and, and_false, if_true, if_false, false_implies, true_implies, not_true_eq_false, not_false_eq_true, bI_0, bI_1, Nat.reduceEqDiff, eq_self, nMax, nMin]; rfl, (a6.skip (by decide)).skip (by decide), (a7.skip (by decide)).skip (by decide), (a8.skip (by decide)).skip (by decide), (a9.skip (by decide)).skip (by decide)⟩, by simp (disch := first | omega | decide) only [hI.2.1, nE_l, nE_r, nE_n, nLe_l, nLe_r, nLe_n, nLt_l, nLt_r, nLt_n, nA_l, nA_r, nI_add, nS_l, nS_n, nIn, nI_clamp, gI_I, gI_J, gI_D, gJ_J, gJ_I, gJ_D, true_and, and_true, false_and, and_false, if_true, if_false, false_implies, true_implies, not_true_eq_false, not_false_eq_true, bI_0, bI_1, Nat.reduceEqDiff, eq_self, nMax, nMin], by simp (disch := first | omega | decide) only [hI.2.2.1, nE_l, nE_r, nE_n, nLe_l, nLe_r, nLe_n, nLt_l, nLt_r, nLt_n, nA_l, nA_r, nI_add, nS_l, nS_n, nIn, nI_clamp, gI_I, gI_J, gI_D, gJ_J, gJ_I, gJ_D, true_and, and_true, false_and, and_false, if_true, if_false, false_implies, true_implies, not_true_eq_false, not_false_eq_true, bI_0, bI_1, Nat.reduceEqDiff, eq_self, nMax, nMin], Or.inl (by simp (disch := first | omega | decide) only [nE_l, nE_r, nE_n, nLe_l, nLe_r, nLe_n, nLt_l, nLt_r, nLt_n, nA_l, nA_r, nI_add, nS_l, nS_n, nIn, nI_clamp, gI_I, gI_J, gI_D, gJ_J, gJ_I, gJ_D, true_and, and_true, false_and, and_false, if_true, if_false, false_implies, true_implies, not_true_eq_false, not_false_eq_true, bI_0, bI_1, Nat.reduceEqDiff, eq_self, nMax, nMin])⟩)
    unfold slnA at hp
    rw [e2] at hp
    rw [hT.2.2.1]
    exact hp
theorem s_1 {T : gS} {r : Bool} {x : Int32} {μ : gMu} {P : gMu → gRes → Prop} (hk : gOk T) (hx : (x = 0) = (r = false)) (hI : cI T μ) (h : ∀ μ', gSm cC μ μ' → cI (sbsT T r) μ' → P μ' (.inl (some (.int (nI T.b))))) : gCl' 1 [.ref 0, .int x] μ P := by
  have hT := hI.1
  have hb := hk.b
  have go : ∀ v, v = (if r = true then 1 else 0) → P (gsI (gsI μ 0 10 (nI v)) 0 11 1) (.inl (some (.int (nI T.b)))) := by
    intro v hv
    refine h _ (((gSm.rf cC μ).c (by decide)).c (by decide)) ?_
    obtain ⟨a1, a2, a3, a4, a5, a6, a7, a8, a9⟩ := hT
    exact ⟨⟨by simp (disch := first | omega | decide) only [a1, nE_l, nE_r, nE_n, nLe_l, nLe_r, nLe_n, nLt_l, nLt_r, nLt_n, nA_l, nA_r, nI_add, nS_l, nS_n, nIn, nI_clamp, gI_I, gI_J, gI_D, gJ_J, gJ_I, gJ_D, true_and, and_true, false_and, and_false, if_true, if_false, false_implies, true_implies, not_true_eq_false, not_false_eq_true, bI_0, bI_1, Nat.reduceEqDiff, eq_self, nMax, nMin]; rfl, (a2.skip (by decide)).skip (by decide), by simp (disch := first | omega | decide) only [a3, nE_l, nE_r, nE_n, nLe_l, nLe_r, nLe_n, nLt_l, nLt_r, nLt_n, nA_l, nA_r, nI_add, nS_l, nS_n, nIn, nI_clamp, gI_I, gI_J, gI_D, gJ_J, gJ_I, gJ_D, true_and, and_true, false_and, and_false, if_true, if_false, false_implies, true_implies, not_true_eq_false, not_false_eq_true, bI_0, bI_1, Nat.reduceEqDiff, eq_self, nMax, nMin]; rfl, by simp (disch := first | omega | decide) only [hv, nE_l, nE_r, nE_n, nLe_l, nLe_r, nLe_n, nLt_l, nLt_r, nLt_n, nA_l, nA_r, nI_add, nS_l, nS_n, nIn, nI_clamp, gI_I, gI_J, gI_D, gJ_J, gJ_I, gJ_D, true_and, and_true, false_and, and_false, if_true, if_false, false_implies, true_implies, not_true_eq_false, not_false_eq_true, bI_0, bI_1, Nat.reduceEqDiff, eq_self, nMax, nMin]; rfl, by simp (disch := first | omega | decide) only [a5, nE_l, nE_r, nE_n, nLe_l, nLe_r, nLe_n, nLt_l, nLt_r, nLt_n, nA_l, nA_r, nI_add, nS_l, nS_n, nIn, nI_clamp, gI_I, gI_J, gI_D, gJ_J, gJ_I, gJ_D, true_and, and_true, false_and, and_false, if_true, if_false, false_implies, true_implies, not_true_eq_false, not_false_eq_true, bI_0, bI_1, Nat.reduceEqDiff, eq_self, nMax, nMin]; rfl, (a6.skip (by decide)).skip (by decide), (a7.skip (by decide)).skip (by decide), (a8.skip (by decide)).skip (by decide), (a9.skip (by decide)).skip (by decide)⟩, by simp (disch := first | omega | decide) only [hI.2.1, nE_l, nE_r, nE_n, nLe_l, nLe_r, nLe_n, nLt_l, nLt_r, nLt_n, nA_l, nA_r, nI_add, nS_l, nS_n, nIn, nI_clamp, gI_I, gI_J, gI_D, gJ_J, gJ_I, gJ_D, true_and, and_true, false_and, and_false, if_true, if_false, false_implies, true_implies, not_true_eq_false, not_false_eq_true, bI_0, bI_1, Nat.reduceEqDiff, eq_self, nMax, nMin], by simp (disch := first | omega | decide) only [hI.2.2.1, nE_l, nE_r, nE_n, nLe_l, nLe_r, nLe_n, nLt_l, nLt_r, nLt_n, nA_l, nA_r, nI_add, nS_l, nS_n, nIn, nI_clamp, gI_I, gI_J, gI_D, gJ_J, gJ_I, gJ_D, true_and, and_true, false_and, and_false, if_true, if_false, false_implies, true_implies, not_true_eq_false, not_false_eq_true, bI_0, bI_1, Nat.reduceEqDiff, eq_self, nMax, nMin], Or.inl (by simp (disch := first | omega | decide) only [nE_l, nE_r, nE_n, nLe_l, nLe_r, nLe_n, nLt_l, nLt_r, nLt_n, nA_l, nA_r, nI_add, nS_l, nS_n, nIn, nI_clamp, gI_I, gI_J, gI_D, gJ_J, gJ_I, gJ_D, true_and, and_true, false_and, and_false, if_true, if_false, false_implies, true_implies, not_true_eq_false, not_false_eq_true, bI_0, bI_1, Nat.reduceEqDiff, eq_self, nMax, nMin])⟩
  refine vc_1 ?_
  rw [hT.2.2.2.1, hx, show (nI T.b = 1) = (T.b = 1) from nE_l (n := 1) (by omega) (by decide)]
  refine ⟨fun q => ?_, fun q => ?_⟩
  · rw [show T.b = 0 by omega] at go
    exact ⟨fun z => go 0 (by rw [if_neg (by rw [z]; decide)]), fun z => go 1 (by rw [if_pos (by simpa using z)])⟩
  · rw [q] at go
    exact ⟨fun z => go 0 (by rw [if_neg (by rw [z]; decide)]), fun z => go 1 (by rw [if_pos (by simpa using z)])⟩
theorem s_85 {T : gS} {x : Int32} {μ : gMu} {P : gMu → gRes → Prop} (hk : gOk T) (hT : cT T μ) (h : P μ (.inl (some (.int (bI (ligF T x).isSome))))) : gCl' 85 [.ref 4, .int x] μ P := by
  have hl := hk.ln
  by_cases hx : x < 0
  · have e : ligF T x = none := by
      unfold ligF inx
      rw [if_pos hx]
    rw [e] at h
    exact vc_85 (s_22m hx ⟨_, rfl, fun q => absurd rfl q, fun _ => s_8m hx ⟨_, rfl, fun _ => h, fun q => absurd rfl q⟩⟩)
  · obtain ⟨m, hm, rfl⟩ := nI_of hx
    have e : ligF T (nI m) = if isLt m = true ∨ (200 ≤ m ∧ m < 200 + T.ln) then some m else none := by
      unfold ligF
      rw [inx_nI hm]
      by_cases q : 220 ≤ m
      · rw [if_pos q, if_neg]
        rintro (z | z)
        · have := isLt_b z; omega
        · omega
      · rw [if_neg q]
    rw [e] at h
    refine vc_85 (s_22 hm ⟨_, rfl, ?_⟩)
    rw [bI_0]
    refine ⟨fun q => ?_, fun q => s_8 hl hT.2.2.2.2.1 hm ⟨_, rfl, ?_⟩⟩
    · rw [if_pos (Or.inl (by simpa using q))] at h
      exact h
    · rw [bI_0, decide_eq_false_iff_not]
      refine ⟨fun z => ?_, fun z => ?_⟩
      · rw [if_neg (by rintro (w | w); rw [q] at w; cases w; exact z w)] at h
        exact h
      · rw [if_pos (Or.inr (Classical.not_not.mp z))] at h
        exact h
theorem s_84 {T : gS} {f a w : Nat} {μ : gMu} {P : gMu → gRes → Prop} (hT : cT T μ) (hl : T.ln < 20) (ha : a < 65536) (h : P (gsI (gsI (gsI (gsI μ 6 T.ln (nI f)) 7 T.ln (nI a)) 8 T.ln (nI w)) 4 4 (nI (T.ln + 1))) (.inl (some (.int (nI (200 + T.ln)))))) : gCl' 84 [.ref 4, .int (nI f), .int (nI a), .int (nI w)] μ P := by
  refine vc_84 ?_
  simp (disch := first | omega | decide) only [hT.2.2.2.2.1, hl, nNc ha, nE_l, nE_r, nE_n, nLe_l, nLe_r, nLe_n, nLt_l, nLt_r, nLt_n, nA_l, nA_r, nI_add, nS_l, nS_n, nIn, nI_clamp, gI_I, gI_J, gI_D, gJ_J, gJ_I, gJ_D, true_and, and_true, false_and, and_false, if_true, if_false, false_implies, true_implies, not_true_eq_false, not_false_eq_true, bI_0, bI_1, Nat.reduceEqDiff, eq_self, nMax, nMin]
  rw [show 200 + (T.ln + 1) - 1 = 200 + T.ln by omega]
  exact h
theorem s_86 {T : gS} {a : Nat} {x y : Int32} {μ : gMu} {P : gMu → gRes → Prop} (hk : gOk T) (hI : cI T μ) (ha : a < 65536) (h : ∀ μ', gSm cC μ μ' → cI (ligT T x a y) μ' → P μ' (rG (ligA T x a y))) : gCl' 86 [.ref 0, .int x, .int (nI a), .int y] μ P := by
  have hT := hI.1
  have hl := hk.ln
  have no : ∀ e, ligO T x a y = .inl e → P μ (.inr e) := by
    intro e he
    have := h μ (gSm.rf _ _) (by unfold ligT; rw [he]; exact hI)
    unfold ligA at this
    rw [he] at this
    exact this
  have eO : ligO T x a y = (match ligF T x, inx y 41 with | some f, some w => if isLt a = true ∧ 0 < w then (if T.ln < 20 ∧ tRl T.lf T.ls T.ln f a = 0 then .inr (f, w) else .inl 1) else .inl 0 | _, _ => .inl 0) := rfl
  refine vc_86 (s_85 hk hT ⟨_, rfl, ?_⟩)
  rw [bI_0]
  cases hf : ligF T x with
  | none =>
    rw [hf] at eO
    refine ⟨fun _ => no 0 eO, fun q => absurd rfl q⟩
  | some f =>
    rw [hf] at eO
    obtain ⟨f1, f2, f3⟩ := ligF_some hf
    subst f1
    refine ⟨fun q => (by cases q), fun _ => s_22 (by omega) ⟨_, rfl, ?_⟩⟩
    rw [bI_0]
    have no0 : (isLt a = false ∨ ∀ w, inx y 41 = some w → w = 0) → P μ (.inr 0) := by
      intro q
      refine no 0 ?_
      rw [eO]
      cases hy : inx y 41 with
      | none => rfl
      | some w =>
        refine if_neg (fun z => ?_)
        rcases q with q | q
        · rw [q] at z; exact absurd z.1 (by decide)
        · have := q w hy
          omega
    refine ⟨fun q => no0 (Or.inl q), fun q => ?_⟩
    have q : isLt a = true := by simpa using q
    rcases inx_cases y (n := 41) (by decide) with ⟨e, q1⟩ | ⟨w, hw, rfl, e⟩
    · have n0 : P μ (.inr 0) := no0 (Or.inr (fun w hw => by rw [e] at hw; cases hw))
      rcases q1 with q1 | ⟨q1, q2⟩
      · have : y < 1 := lt_n (n := 1) q1 (by decide)
        exact ⟨fun _ => n0, fun z => absurd this z⟩
      · refine ⟨fun _ => n0, fun _ => ⟨fun z => ?_, fun _ => n0⟩⟩
        exfalso
        obtain ⟨m, hm, rfl⟩ := nI_of q1
        rw [nLt_n (by omega) (by decide)] at q2
        have z : nI m ≤ nI 40 := z
        rw [nLe_n (by omega) (by decide)] at z
        omega
    · rw [e] at eO
      dsimp only at eO
      simp (disch := first | omega | decide) only [hT.2.2.2.2.1, nE_l, nE_r, nE_n, nLe_l, nLe_r, nLe_n, nLt_l, nLt_r, nLt_n, nA_l, nA_r, nI_add, nS_l, nS_n, nIn, nI_clamp, gI_I, gI_J, gI_D, gJ_J, gJ_I, gJ_D, true_and, and_true, false_and, and_false, if_true, if_false, false_implies, true_implies, not_true_eq_false, not_false_eq_true, bI_0, bI_1, Nat.reduceEqDiff, eq_self, nMax, nMin]
      refine ⟨fun z => no0 (Or.inr (fun w' hw' => by rw [e] at hw'; cases hw'; omega)), fun z => ⟨fun _ => ⟨fun z3 => ?_, fun z3 => ?_⟩, fun z2 => by omega⟩⟩
      · rw [if_pos ⟨q, by omega⟩, if_neg (by omega)] at eO
        exact no 1 eO
      · have hlt : T.ln < 20 := by omega
        have hrl := tRl_lt (lf := T.lf) (ls := T.ls) hl f a
        refine s_6 hl hT.2.2.2.2.1 hT.2.2.2.2.2.2.1 hT.2.2.2.2.2.2.2.1 (fun j hj => by
          rcases hk.lf j hj with z | z
          · have := isLt_b z; omega
          · omega) (fun j hj => by have := isLt_b (hk.ls j hj); omega) (by omega) (by omega) ⟨_, rfl, ?_⟩
        rw [if_pos ⟨q, by omega⟩] at eO
        refine ⟨fun c => ?_, fun c => ?_⟩
        · have hr0 : tRl T.lf T.ls T.ln f a = 0 := by
            by_cases z : tRl T.lf T.ls T.ln f a = 0
            · exact z
            · unfold nZ at c
              rw [if_neg z] at c
              exact absurd c (nI_nm1 (by omega))
          rw [if_pos ⟨hlt, hr0⟩] at eO
          refine s_84 (cT_stale hT) hlt ha ⟨_, rfl, ?_⟩
          have hp := h (gsI (gsI (gsI (gsI (gsI μ 0 11 1) 6 T.ln (nI f)) 7 T.ln (nI a)) 8 T.ln (nI w)) 4 4 (nI (T.ln + 1))) ((((((gSm.rf cC μ).c (by decide)).c (by decide)).c (by decide)).c (by decide)).c (by decide)) (by
            unfold ligT
            rw [eO]
            obtain ⟨a1, a2, a3, a4, a5, a6, a7, a8, a9⟩ := hT
            exact ⟨⟨by simp (disch := first | omega | decide) only [a1, nE_l, nE_r, nE_n, nLe_l, nLe_r, nLe_n, nLt_l, nLt_r, nLt_n, nA_l, nA_r, nI_add, nS_l, nS_n, nIn, nI_clamp, gI_I, gI_J, gI_D, gJ_J, gJ_I, gJ_D, true_and, and_true, false_and, and_false, if_true, if_false, false_implies, true_implies, not_true_eq_false, not_false_eq_true, bI_0, bI_1, Nat.reduceEqDiff, eq_self, nMax, nMin]; rfl, ((((a2.skip (by decide)).skip (by decide)).skip (by decide)).skip (by decide)).skip (by decide), by simp (disch := first | omega | decide) only [a3, nE_l, nE_r, nE_n, nLe_l, nLe_r, nLe_n, nLt_l, nLt_r, nLt_n, nA_l, nA_r, nI_add, nS_l, nS_n, nIn, nI_clamp, gI_I, gI_J, gI_D, gJ_J, gJ_I, gJ_D, true_and, and_true, false_and, and_false, if_true, if_false, false_implies, true_implies, not_true_eq_false, not_false_eq_true, bI_0, bI_1, Nat.reduceEqDiff, eq_self, nMax, nMin]; rfl, by simp (disch := first | omega | decide) only [a4, nE_l, nE_r, nE_n, nLe_l, nLe_r, nLe_n, nLt_l, nLt_r, nLt_n, nA_l, nA_r, nI_add, nS_l, nS_n, nIn, nI_clamp, gI_I, gI_J, gI_D, gJ_J, gJ_I, gJ_D, true_and, and_true, false_and, and_false, if_true, if_false, false_implies, true_implies, not_true_eq_false, not_false_eq_true, bI_0, bI_1, Nat.reduceEqDiff, eq_self, nMax, nMin]; rfl, by simp (disch := first | omega | decide) only [nE_l, nE_r, nE_n, nLe_l, nLe_r, nLe_n, nLt_l, nLt_r, nLt_n, nA_l, nA_r, nI_add, nS_l, nS_n, nIn, nI_clamp, gI_I, gI_J, gI_D, gJ_J, gJ_I, gJ_D, true_and, and_true, false_and, and_false, if_true, if_false, false_implies, true_implies, not_true_eq_false, not_false_eq_true, bI_0, bI_1, Nat.reduceEqDiff, eq_self, nMax, nMin]; rfl, ((((a6.skip (by decide)).skip (by decide)).skip (by decide)).skip (by decide)).skip (by decide), ((((a7.skip (by decide)).push).skip (by decide)).skip (by decide)).skip (by decide), ((((a8.skip (by decide)).skip (by decide)).push).skip (by decide)).skip (by decide), ((((a9.skip (by decide)).skip (by decide)).skip (by decide)).push).skip (by decide)⟩, by simp (disch := first | omega | decide) only [hI.2.1, nE_l, nE_r, nE_n, nLe_l, nLe_r, nLe_n, nLt_l, nLt_r, nLt_n, nA_l, nA_r, nI_add, nS_l, nS_n, nIn, nI_clamp, gI_I, gI_J, gI_D, gJ_J, gJ_I, gJ_D, true_and, and_true, false_and, and_false, if_true, if_false, false_implies, true_implies, not_true_eq_false, not_false_eq_true, bI_0, bI_1, Nat.reduceEqDiff, eq_self, nMax, nMin], by simp (disch := first | omega | decide) only [hI.2.2.1, nE_l, nE_r, nE_n, nLe_l, nLe_r, nLe_n, nLt_l, nLt_r, nLt_n, nA_l, nA_r, nI_add, nS_l, nS_n, nIn, nI_clamp, gI_I, gI_J, gI_D, gJ_J, gJ_I, gJ_D, true_and, and_true, false_and, and_false, if_true, if_false, false_implies, true_implies, not_true_eq_false, not_false_eq_true, bI_0, bI_1, Nat.reduceEqDiff, eq_self, nMax, nMin], Or.inl (by simp (disch := first | omega | decide) only [nE_l, nE_r, nE_n, nLe_l, nLe_r, nLe_n, nLt_l, nLt_r, nLt_n, nA_l, nA_r, nI_add, nS_l, nS_n, nIn, nI_clamp, gI_I, gI_J, gI_D, gJ_J, gJ_I, gJ_D, true_and, and_true, false_and, and_false, if_true, if_false, false_implies, true_implies, not_true_eq_false, not_false_eq_true, bI_0, bI_1, Nat.reduceEqDiff, eq_self, nMax, nMin])⟩)
          unfold ligA at hp
          rw [eO] at hp
          exact hp
        · have hr0 : ¬ tRl T.lf T.ls T.ln f a = 0 := fun z => c (by unfold nZ; rw [if_pos z])
          rw [if_neg (fun z => hr0 z.2)] at eO
          exact no 1 eO
