/-! SCRIPTS AND RUNS, as the class finds them -/
theorem gAr.pushE {μ : gMu} {q m : Nat} {f : Nat → Nat} {v : Nat} (h : gAr μ q m f) (hv : v = f m) : gAr (gsI μ q m (nI v)) q (m + 1) f := fun j hj => by
  rw [gI_I]
  by_cases e : j = m
  · rw [if_pos ⟨rfl, e⟩, e, hv]
  · rw [if_neg (fun x => e x.2)]
    exact h j (by omega)
theorem nI_nm1 {a : Nat} (h : a < 2 ^ 31) : ¬ nI a = -1 := by
  intro e
  have h1 := nI_toInt h
  rw [e] at h1
  have h2 : ((-1 : Int32)).toInt = -1 := rfl
  rw [h2] at h1
  omega
def tFs (sg : Nat → Nat) : Nat → Nat → Nat
  | 0, _ => 0
  | r + 1, k => if isLt (sg k) = true then scOf (sg k) else tFs sg r (k + 1)
def tSb (sg : Nat → Nat) (f0 : Nat) : Nat → Nat
  | 0 => f0
  | k + 1 => if isLt (sg k) = true then scOf (sg k) else tSb sg f0 k
/-- the script of the k-th character -/
def tSc (sg : Nat → Nat) (M k : Nat) : Nat := tSb sg (tFs sg M 0) (k + 1)
/-- a run begins with the k-th character -/
def tRs (sc lv : Nat → Nat) (k : Nat) : Bool := k == 0 || sc k != sc (k - 1) || lv k != lv (k - 1)
/-- how many runs begin before the k-th character -/
def tRn (sc lv : Nat → Nat) : Nat → Nat
  | 0 => 0
  | k + 1 => if tRs sc lv k = true then tRn sc lv k + 1 else tRn sc lv k
theorem scOf_le (a : Nat) : scOf a ≤ 2 := by unfold scOf; split; omega; split <;> omega
theorem tFs_le (sg : Nat → Nat) : ∀ r k, tFs sg r k ≤ 2
  | 0, _ => Nat.zero_le _
  | r + 1, k => by
    unfold tFs
    split
    · exact scOf_le _
    · exact tFs_le sg r (k + 1)
theorem tSb_le {sg : Nat → Nat} {f0 : Nat} (h : f0 ≤ 2) : ∀ k, tSb sg f0 k ≤ 2
  | 0 => h
  | k + 1 => by
    unfold tSb
    split
    · exact scOf_le _
    · exact tSb_le h k
theorem tSc_le (sg : Nat → Nat) (M k : Nat) : tSc sg M k ≤ 2 := tSb_le (tFs_le sg M 0) (k + 1)
theorem tRn_le (sc lv : Nat → Nat) : ∀ k, tRn sc lv k ≤ k
  | 0 => Nat.le_refl 0
  | k + 1 => by
    have := tRn_le sc lv k
    unfold tRn
    split <;> omega
theorem tRn_pos (sc lv : Nat → Nat) : ∀ k, 0 < tRn sc lv (k + 1)
  | 0 => by unfold tRn; rw [if_pos (by simp [tRs])]; omega
  | k + 1 => by
    have := tRn_pos sc lv k
    unfold tRn
    split <;> omega
theorem s_56 {a : Nat} {μ : gMu} {P : gMu → gRes → Prop} (ha : a < 2 ^ 31) (h : P μ (.inl (some (.int (nI (scOf a)))))) : gCl' 56 [.int (nI a)] μ P := by
  refine vc_56 (s_21 ha ⟨_, rfl, ?_⟩)
  unfold scOf at h
  simp (disch := first | omega | decide) only [Bool.not_eq_false, nE_l, nE_r, nE_n, nLe_l, nLe_r, nLe_n, nLt_l, nLt_r, nLt_n, nA_l, nA_r, nI_add, nS_l, nS_n, nIn, nI_clamp, gI_I, gI_J, gI_D, gJ_J, gJ_I, gJ_D, true_and, and_true, false_and, and_false, if_true, if_false, false_implies, true_implies, not_true_eq_false, not_false_eq_true, bI_0, bI_1, Nat.reduceEqDiff, eq_self, nMax, nMin]
  refine ⟨fun h1 => ⟨fun h2 => ?_, fun h2 => ?_⟩, fun h1 => ?_⟩
  · rw [if_neg (by rw [h1]; decide), if_neg (by omega)] at h; exact h
  · rw [if_neg (by rw [h1]; decide), if_pos (by omega)] at h; exact h
  · rw [if_pos h1] at h; exact h
theorem s_57 {sg : Nat → Nat} {M : Nat} {μ : gMu} {P : gMu → gRes → Prop} (hM : M ≤ 50) (h9 : gI μ 9 5 = nI M) (hsg : gAr μ 12 M sg) (hb : ∀ k, k < M → sg k < 128) (h : P μ (.inl (some (.int (nI (tFs sg M 0)))))) : gCl' 57 [.ref 18] μ P := by
  have loop : ∀ r k, k + r = M → P μ (.inl (some (.int (nI (tFs sg r k))))) → gWp none 57 (2, [some (.ref 18), some (.int (nI k))], [], μ) 0 P := by
    intro r
    induction r with
    | zero =>
      intro k hr hp
      refine vc_57_2 ?_
      simp (disch := first | omega | decide) only [h9, show M ≤ k by omega, nE_l, nE_r, nE_n, nLe_l, nLe_r, nLe_n, nLt_l, nLt_r, nLt_n, nA_l, nA_r, nI_add, nS_l, nS_n, nIn, nI_clamp, gI_I, gI_J, gI_D, gJ_J, gJ_I, gJ_D, true_and, and_true, false_and, and_false, if_true, if_false, false_implies, true_implies, not_true_eq_false, not_false_eq_true, bI_0, bI_1, Nat.reduceEqDiff, eq_self, nMax, nMin]
      exact hp
    | succ r ih =>
      intro k hr hp
      have hbk := hb k (by omega)
      have h3 := hsg k (by omega)
      unfold tFs at hp
      refine vc_57_2 ?_
      simp (disch := first | omega | decide) only [h9, h3, show ¬ M ≤ k by omega, show k < 50 by omega, nE_l, nE_r, nE_n, nLe_l, nLe_r, nLe_n, nLt_l, nLt_r, nLt_n, nA_l, nA_r, nI_add, nS_l, nS_n, nIn, nI_clamp, gI_I, gI_J, gI_D, gJ_J, gJ_I, gJ_D, true_and, and_true, false_and, and_false, if_true, if_false, false_implies, true_implies, not_true_eq_false, not_false_eq_true, bI_0, bI_1, Nat.reduceEqDiff, eq_self, nMax, nMin]
      refine s_22 (by omega) ⟨_, rfl, ?_⟩
      simp (disch := first | omega | decide) only [h3, Bool.not_eq_false, nE_l, nE_r, nE_n, nLe_l, nLe_r, nLe_n, nLt_l, nLt_r, nLt_n, nA_l, nA_r, nI_add, nS_l, nS_n, nIn, nI_clamp, gI_I, gI_J, gI_D, gJ_J, gJ_I, gJ_D, true_and, and_true, false_and, and_false, if_true, if_false, false_implies, true_implies, not_true_eq_false, not_false_eq_true, bI_0, bI_1, Nat.reduceEqDiff, eq_self, nMax, nMin]
      refine ⟨fun hl => ih (k + 1) (by omega) ?_, fun hl => s_56 (by omega) ⟨_, rfl, ?_⟩⟩
      · rw [if_neg (by rw [hl]; decide)] at hp; exact hp
      · rw [if_pos hl] at hp; exact hp
  exact vc_57 (loop M 0 (by omega) h)
theorem s_58 {sg lv : Nat → Nat} {M : Nat} {μ : gMu} {P : gMu → gRes → Prop} (hM : M ≤ 50) (h9 : gI μ 9 5 = nI M) (hsg : gAr μ 12 M sg) (hb : ∀ k, k < M → sg k < 128) (hlv : gAr μ 17 M lv) (hb2 : ∀ k, k < M → lv k < 1000) (h : ∀ μ', gSm [18, 19, 20] μ μ' → gI μ' 18 4 = nI (tRn (tSc sg M) lv M) → gAr μ' 19 M (tSc sg M) → gAr μ' 20 M (fun k => tRn (tSc sg M) lv (k + 1) - 1) → P μ' (.inl none)) : gCl' 58 [.ref 18] μ P := by
  have loop : ∀ r k μ', k + r = M → gSm [18, 19, 20] μ μ' → gI μ' 18 4 = nI (tRn (tSc sg M) lv k) → gAr μ' 19 k (tSc sg M) → gAr μ' 20 k (fun k => tRn (tSc sg M) lv (k + 1) - 1) → gWp none 58 (12, [some (.ref 18), some (.int (nI (tSb sg (tFs sg M 0) k))), some (.int (nI k))], [], μ') 0 P := by
    intro r
    induction r with
    | zero =>
      intro k μ' hr hs hs4 hsc hnu
      have hk : k = M := by omega
      subst hk
      refine vc_58_12 ?_
      rw [hs.I (by decide), h9]
      simp (disch := first | omega | decide) only [Nat.le_refl, nE_l, nE_r, nE_n, nLe_l, nLe_r, nLe_n, nLt_l, nLt_r, nLt_n, nA_l, nA_r, nI_add, nS_l, nS_n, nIn, nI_clamp, gI_I, gI_J, gI_D, gJ_J, gJ_I, gJ_D, true_and, and_true, false_and, and_false, if_true, if_false, false_implies, true_implies, not_true_eq_false, not_false_eq_true, bI_0, bI_1, Nat.reduceEqDiff, eq_self, nMax, nMin]
      exact h μ' hs hs4 hsc hnu
    | succ r ih =>
      intro k μ' hr hs hs4 hsc hnu
      have hbk := hb k (by omega)
      have hle := tRn_le (tSc sg M) lv k
      have h3 : gI μ' 12 k = nI (sg k) := by rw [hs.I (by decide), hsg k (by omega)]
      have hvv : (if isLt (sg k) = true then scOf (sg k) else tSb sg (tFs sg M 0) k) = tSc sg M k := rfl
      have ih : ∀ k μ', k + r = M → gSm [18, 19, 20] μ μ' → gI μ' 18 4 = nI (tRn (tSc sg M) lv k) → gAr μ' 19 k (tSc sg M) → gAr μ' 20 k (fun k => tRn (tSc sg M) lv (k + 1) - 1) → gWp none 58 (12, [some (.ref 18), some (.int (nI (tSb sg (tFs sg M 0) k))), some (.int (nI k))], [], μ') 0 P := ih
      refine vc_58_12 ?_
      rw [hs.I (by decide), h9]
      simp (disch := first | omega | decide) only [h3, show ¬ M ≤ k by omega, show k < 50 by omega, nE_l, nE_r, nE_n, nLe_l, nLe_r, nLe_n, nLt_l, nLt_r, nLt_n, nA_l, nA_r, nI_add, nS_l, nS_n, nIn, nI_clamp, gI_I, gI_J, gI_D, gJ_J, gJ_I, gJ_D, true_and, and_true, false_and, and_false, if_true, if_false, false_implies, true_implies, not_true_eq_false, not_false_eq_true, bI_0, bI_1, Nat.reduceEqDiff, eq_self, nMax, nMin]
      refine s_22 (by omega) ⟨_, rfl, ?_⟩
      simp (disch := first | omega | decide) only [h3, show k < 50 by omega, Bool.not_eq_false, nE_l, nE_r, nE_n, nLe_l, nLe_r, nLe_n, nLt_l, nLt_r, nLt_n, nA_l, nA_r, nI_add, nS_l, nS_n, nIn, nI_clamp, gI_I, gI_J, gI_D, gJ_J, gJ_I, gJ_D, true_and, and_true, false_and, and_false, if_true, if_false, false_implies, true_implies, not_true_eq_false, not_false_eq_true, bI_0, bI_1, Nat.reduceEqDiff, eq_self, nMax, nMin]
      refine ⟨fun hl => ?_, fun hl => s_56 (by omega) ⟨_, rfl, ?_⟩⟩
      · rw [if_neg (by rw [hl]; decide)] at hvv
        rw [hvv]
        by_cases hk0 : k = 0
        · subst hk0
          have e1 : tRn (tSc sg M) lv (0 + 1) = tRn (tSc sg M) lv 0 + 1 := rfl
          simp (disch := first | omega | decide) only [hs4, nE_l, nE_r, nE_n, nLe_l, nLe_r, nLe_n, nLt_l, nLt_r, nLt_n, nA_l, nA_r, nI_add, nS_l, nS_n, nIn, nI_clamp, gI_I, gI_J, gI_D, gJ_J, gJ_I, gJ_D, true_and, and_true, false_and, and_false, if_true, if_false, false_implies, true_implies, not_true_eq_false, not_false_eq_true, bI_0, bI_1, Nat.reduceEqDiff, eq_self, nMax, nMin]
          have e2 := ih (0 + 1) (gsI (gsI (gsI μ' 19 0 (nI (tSc sg M 0))) 18 4 (nI (tRn (tSc sg M) lv 0 + 1))) 20 0 (nI (tRn (tSc sg M) lv 0 + 1 - 1))) (by omega) (((hs.i 19 _ _ (by decide)).i 18 _ _ (by decide)).i 20 _ _ (by decide)) (by simp (disch := first | omega | decide) only [e1, nE_l, nE_r, nE_n, nLe_l, nLe_r, nLe_n, nLt_l, nLt_r, nLt_n, nA_l, nA_r, nI_add, nS_l, nS_n, nIn, nI_clamp, gI_I, gI_J, gI_D, gJ_J, gJ_I, gJ_D, true_and, and_true, false_and, and_false, if_true, if_false, false_implies, true_implies, not_true_eq_false, not_false_eq_true, bI_0, bI_1, Nat.reduceEqDiff, eq_self, nMax, nMin]) ((((hsc.pushE rfl).skip (by decide)).skip (by decide))) (((hnu.skip (by decide)).skip (by decide)).pushE rfl)
          exact e2
        · have hk1 : ¬ (k - 1 = k) := by omega
          have h5 := hsc (k - 1) (by omega)
          have h6 := tSc_le sg M k
          have h7 := tSc_le sg M (k - 1)
          have h8 : gI μ' 17 k = nI (lv k) := by rw [hs.I (by decide)]; exact hlv k (by omega)
          have h9' : gI μ' 17 (k - 1) = nI (lv (k - 1)) := by rw [hs.I (by decide)]; exact hlv (k - 1) (by omega)
          have h10 := hb2 k (by omega)
          have h11 := hb2 (k - 1) (by omega)
          simp (disch := first | omega | decide) only [hs4, hk0, hk1, h5, h8, h9', nE_l, nE_r, nE_n, nLe_l, nLe_r, nLe_n, nLt_l, nLt_r, nLt_n, nA_l, nA_r, nI_add, nS_l, nS_n, nIn, nI_clamp, gI_I, gI_J, gI_D, gJ_J, gJ_I, gJ_D, true_and, and_true, false_and, and_false, if_true, if_false, false_implies, true_implies, not_true_eq_false, not_false_eq_true, bI_0, bI_1, Nat.reduceEqDiff, eq_self, nMax, nMin]
          have new : tRs (tSc sg M) lv k = true → gWp none 58 (12, [some (.ref 18), some (.int (nI (tSc sg M k))), some (.int (nI (k + 1)))], [], gsI (gsI (gsI μ' 19 k (nI (tSc sg M k))) 18 4 (nI (tRn (tSc sg M) lv k + 1))) 20 k (nI (tRn (tSc sg M) lv k + 1 - 1))) 0 P := by
            intro ht
            have e1 : tRn (tSc sg M) lv (k + 1) = tRn (tSc sg M) lv k + 1 := if_pos ht
            exact ih (k + 1) _ (by omega) (((hs.i 19 _ _ (by decide)).i 18 _ _ (by decide)).i 20 _ _ (by decide)) (by simp (disch := first | omega | decide) only [e1, nE_l, nE_r, nE_n, nLe_l, nLe_r, nLe_n, nLt_l, nLt_r, nLt_n, nA_l, nA_r, nI_add, nS_l, nS_n, nIn, nI_clamp, gI_I, gI_J, gI_D, gJ_J, gJ_I, gJ_D, true_and, and_true, false_and, and_false, if_true, if_false, false_implies, true_implies, not_true_eq_false, not_false_eq_true, bI_0, bI_1, Nat.reduceEqDiff, eq_self, nMax, nMin]) ((((hsc.pushE rfl).skip (by decide)).skip (by decide))) (((hnu.skip (by decide)).skip (by decide)).pushE (by rw [e1]))
          refine ⟨fun hne => new (by simp [tRs, hne]), fun heq => ⟨fun heq2 => ?_, fun hne => new (by simp [tRs, hne])⟩⟩
          have ht : tRs (tSc sg M) lv k = false := by simp [tRs, hk0, heq, heq2]
          have e1 : tRn (tSc sg M) lv (k + 1) = tRn (tSc sg M) lv k := if_neg (by rw [ht]; decide)
          have hp := tRn_pos (tSc sg M) lv (k - 1)
          rw [show k - 1 + 1 = k by omega] at hp
          simp (disch := first | omega | decide) only [nE_l, nE_r, nE_n, nLe_l, nLe_r, nLe_n, nLt_l, nLt_r, nLt_n, nA_l, nA_r, nI_add, nS_l, nS_n, nIn, nI_clamp, gI_I, gI_J, gI_D, gJ_J, gJ_I, gJ_D, true_and, and_true, false_and, and_false, if_true, if_false, false_implies, true_implies, not_true_eq_false, not_false_eq_true, bI_0, bI_1, Nat.reduceEqDiff, eq_self, nMax, nMin]
          exact ih (k + 1) _ (by omega) ((hs.i 19 _ _ (by decide)).i 20 _ _ (by decide)) (by simp (disch := first | omega | decide) only [hs4, e1, nE_l, nE_r, nE_n, nLe_l, nLe_r, nLe_n, nLt_l, nLt_r, nLt_n, nA_l, nA_r, nI_add, nS_l, nS_n, nIn, nI_clamp, gI_I, gI_J, gI_D, gJ_J, gJ_I, gJ_D, true_and, and_true, false_and, and_false, if_true, if_false, false_implies, true_implies, not_true_eq_false, not_false_eq_true, bI_0, bI_1, Nat.reduceEqDiff, eq_self, nMax, nMin]) ((hsc.pushE rfl).skip (by decide)) ((hnu.skip (by decide)).pushE (by rw [e1]))
      · rw [if_pos hl] at hvv
        rw [hvv]
        by_cases hk0 : k = 0
        · subst hk0
          have e1 : tRn (tSc sg M) lv (0 + 1) = tRn (tSc sg M) lv 0 + 1 := rfl
          simp (disch := first | omega | decide) only [hs4, nE_l, nE_r, nE_n, nLe_l, nLe_r, nLe_n, nLt_l, nLt_r, nLt_n, nA_l, nA_r, nI_add, nS_l, nS_n, nIn, nI_clamp, gI_I, gI_J, gI_D, gJ_J, gJ_I, gJ_D, true_and, and_true, false_and, and_false, if_true, if_false, false_implies, true_implies, not_true_eq_false, not_false_eq_true, bI_0, bI_1, Nat.reduceEqDiff, eq_self, nMax, nMin]
          have e2 := ih (0 + 1) (gsI (gsI (gsI μ' 19 0 (nI (tSc sg M 0))) 18 4 (nI (tRn (tSc sg M) lv 0 + 1))) 20 0 (nI (tRn (tSc sg M) lv 0 + 1 - 1))) (by omega) (((hs.i 19 _ _ (by decide)).i 18 _ _ (by decide)).i 20 _ _ (by decide)) (by simp (disch := first | omega | decide) only [e1, nE_l, nE_r, nE_n, nLe_l, nLe_r, nLe_n, nLt_l, nLt_r, nLt_n, nA_l, nA_r, nI_add, nS_l, nS_n, nIn, nI_clamp, gI_I, gI_J, gI_D, gJ_J, gJ_I, gJ_D, true_and, and_true, false_and, and_false, if_true, if_false, false_implies, true_implies, not_true_eq_false, not_false_eq_true, bI_0, bI_1, Nat.reduceEqDiff, eq_self, nMax, nMin]) ((((hsc.pushE rfl).skip (by decide)).skip (by decide))) (((hnu.skip (by decide)).skip (by decide)).pushE rfl)
          exact e2
        · have hk1 : ¬ (k - 1 = k) := by omega
          have h5 := hsc (k - 1) (by omega)
          have h6 := tSc_le sg M k
          have h7 := tSc_le sg M (k - 1)
          have h8 : gI μ' 17 k = nI (lv k) := by rw [hs.I (by decide)]; exact hlv k (by omega)
          have h9' : gI μ' 17 (k - 1) = nI (lv (k - 1)) := by rw [hs.I (by decide)]; exact hlv (k - 1) (by omega)
          have h10 := hb2 k (by omega)
          have h11 := hb2 (k - 1) (by omega)
          simp (disch := first | omega | decide) only [hs4, hk0, hk1, h5, h8, h9', nE_l, nE_r, nE_n, nLe_l, nLe_r, nLe_n, nLt_l, nLt_r, nLt_n, nA_l, nA_r, nI_add, nS_l, nS_n, nIn, nI_clamp, gI_I, gI_J, gI_D, gJ_J, gJ_I, gJ_D, true_and, and_true, false_and, and_false, if_true, if_false, false_implies, true_implies, not_true_eq_false, not_false_eq_true, bI_0, bI_1, Nat.reduceEqDiff, eq_self, nMax, nMin]
          have new : tRs (tSc sg M) lv k = true → gWp none 58 (12, [some (.ref 18), some (.int (nI (tSc sg M k))), some (.int (nI (k + 1)))], [], gsI (gsI (gsI μ' 19 k (nI (tSc sg M k))) 18 4 (nI (tRn (tSc sg M) lv k + 1))) 20 k (nI (tRn (tSc sg M) lv k + 1 - 1))) 0 P := by
            intro ht
            have e1 : tRn (tSc sg M) lv (k + 1) = tRn (tSc sg M) lv k + 1 := if_pos ht
            exact ih (k + 1) _ (by omega) (((hs.i 19 _ _ (by decide)).i 18 _ _ (by decide)).i 20 _ _ (by decide)) (by simp (disch := first | omega | decide) only [e1, nE_l, nE_r, nE_n, nLe_l, nLe_r, nLe_n, nLt_l, nLt_r, nLt_n, nA_l, nA_r, nI_add, nS_l, nS_n, nIn, nI_clamp, gI_I, gI_J, gI_D, gJ_J, gJ_I, gJ_D, true_and, and_true, false_and, and_false, if_true, if_false, false_implies, true_implies, not_true_eq_false, not_false_eq_true, bI_0, bI_1, Nat.reduceEqDiff, eq_self, nMax, nMin]) ((((hsc.pushE rfl).skip (by decide)).skip (by decide))) (((hnu.skip (by decide)).skip (by decide)).pushE (by rw [e1]))
          refine ⟨fun hne => new (by simp [tRs, hne]), fun heq => ⟨fun heq2 => ?_, fun hne => new (by simp [tRs, hne])⟩⟩
          have ht : tRs (tSc sg M) lv k = false := by simp [tRs, hk0, heq, heq2]
          have e1 : tRn (tSc sg M) lv (k + 1) = tRn (tSc sg M) lv k := if_neg (by rw [ht]; decide)
          have hp := tRn_pos (tSc sg M) lv (k - 1)
          rw [show k - 1 + 1 = k by omega] at hp
          simp (disch := first | omega | decide) only [nE_l, nE_r, nE_n, nLe_l, nLe_r, nLe_n, nLt_l, nLt_r, nLt_n, nA_l, nA_r, nI_add, nS_l, nS_n, nIn, nI_clamp, gI_I, gI_J, gI_D, gJ_J, gJ_I, gJ_D, true_and, and_true, false_and, and_false, if_true, if_false, false_implies, true_implies, not_true_eq_false, not_false_eq_true, bI_0, bI_1, Nat.reduceEqDiff, eq_self, nMax, nMin]
          exact ih (k + 1) _ (by omega) ((hs.i 19 _ _ (by decide)).i 20 _ _ (by decide)) (by simp (disch := first | omega | decide) only [hs4, e1, nE_l, nE_r, nE_n, nLe_l, nLe_r, nLe_n, nLt_l, nLt_r, nLt_n, nA_l, nA_r, nI_add, nS_l, nS_n, nIn, nI_clamp, gI_I, gI_J, gI_D, gJ_J, gJ_I, gJ_D, true_and, and_true, false_and, and_false, if_true, if_false, false_implies, true_implies, not_true_eq_false, not_false_eq_true, bI_0, bI_1, Nat.reduceEqDiff, eq_self, nMax, nMin]) ((hsc.pushE rfl).skip (by decide)) ((hnu.skip (by decide)).pushE (by rw [e1]))
  refine vc_58 (s_57 hM h9 hsg hb ⟨_, rfl, ?_⟩)
  exact loop M 0 _ (by omega) ((gSm.rf _ μ).i 18 _ _ (by decide)) rfl (gAr.nil _ _ _) (gAr.nil _ _ _)
