/-! ALL THAT FOLLOWS FROM A TEXT, and how the class refreshes it -/
def tMn (T : gS) : Nat := tM T.c T.n
def tSg (T : gS) (k : Nat) : Nat := T.c (tIx T.c T.n k)
def tEmT (T : gS) : Nat → Nat := tEm T.c T.b T.n
def tLv (T : gS) : Nat → Nat := tLev (tEmT T) (tSg T) (tMn T) T.b
def tScT (T : gS) : Nat → Nat := tSc (tSg T) (tMn T)
def tRnT (T : gS) (k : Nat) : Nat := tRn (tScT T) (tLv T) (k + 1) - 1
def tRlT (T : gS) : Nat → Nat → Nat := tRl T.lf T.ls T.ln
def tGT (T : gS) : Nat := tGc (tRlT T) (tRnT T) (tSg T) (tMn T)
def tNu (T : gS) : Nat → Nat := tGn (tRlT T) (tRnT T) (tSg T) (tMn T)
def tGsT (T : gS) : Nat → Nat := tGs (tRlT T) (tRnT T) (tSg T) (tMn T)
def tGw (T : gS) (g : Nat) : Nat := tWd T.w T.lw (tNu T g)
def tGl (T : gS) (g : Nat) : Nat := tLv T (tGsT T g)
def tXx (T : gS) : xX := xOf (tGT T) T.W (tNu T) (tGw T)
def tBlT (T : gS) : Bool := tBl (tNu T) (tGT T)
/-- the first part that is too wide, plus 1 -/
def tTwT (T : gS) : Nat := if tBlT T = true then 0 else tTw (xQ (tXx T)) (tXx T).P 0
/-- there are lines -/
def tAc (T : gS) : Bool := tTwT T == 0 && !tBlT T
def tCn (T : gS) : Nat := if tAc T = true then kK (tXx T) 0 else 0
def tDm (T : gS) : Nat := if tAc T = true then kL (tXx T) 0 else 0
def tLs (T : gS) (l : Nat) : Nat := if tAc T = true then kS (tXx T) l else (tXx T).P
theorem tIx_ok (c : Nat → Nat) : ∀ n k, k < tM c n → tIx c n k < n ∧ isMk (c (tIx c n k)) = false
  | 0, k, h => absurd h (Nat.not_lt_zero k)
  | n + 1, k, h => by
    have e1 : tM c (n + 1) = if isMk (c n) = true then tM c n else tM c n + 1 := rfl
    have e2 : tIx c (n + 1) = if isMk (c n) = true then tIx c n else upN (tIx c n) (tM c n) n := rfl
    rw [e1] at h
    rw [e2]
    by_cases q : isMk (c n) = true
    · rw [if_pos q] at h ⊢
      have := tIx_ok c n k h
      exact ⟨by omega, this.2⟩
    · rw [if_neg q] at h ⊢
      by_cases q2 : k = tM c n
      · rw [q2, upN_eq]
        exact ⟨by omega, by simpa using q⟩
      · rw [upN_ne q2]
        have := tIx_ok c n k (by omega)
        exact ⟨by omega, this.2⟩
theorem tEm_le {c : Nat → Nat} {b : Nat} (hb : b ≤ 1) : ∀ n, (∀ j, j ≤ n → tD c j ≤ 5) → ∀ k, k < tM c n → tEm c b n k ≤ 11
  | 0, _, k, h => absurd h (Nat.not_lt_zero k)
  | n + 1, hd, k, h => by
    have e1 : tM c (n + 1) = if isMk (c n) = true then tM c n else tM c n + 1 := rfl
    have e2 : tEm c b (n + 1) = if isMk (c n) = true then tEm c b n else upN (tEm c b n) (tM c n) (tSt c b n (tD c n)) := rfl
    have ih := tEm_le (c := c) hb n (fun j hj => hd j (by omega))
    rw [e1] at h
    rw [e2]
    by_cases q : isMk (c n) = true
    · rw [if_pos q] at h ⊢
      exact ih k h
    · rw [if_neg q] at h ⊢
      by_cases q2 : k = tM c n
      · rw [q2, upN_eq]
        have := tSt_le c b hb n (tD c n) (Nat.le_refl _)
        have := hd n (by omega)
        omega
      · rw [upN_ne q2]
        exact ih k (by omega)
theorem tSs_le (em : Nat → Nat) : ∀ k, tSs em k ≤ k
  | 0 => Nat.le_refl 0
  | k + 1 => by
    have := tSs_le em k
    show (if em (k + 1) = em k then tSs em k else k + 1) ≤ k + 1
    split <;> omega
theorem tGs_lt (rl : Nat → Nat → Nat) (rn sg : Nat → Nat) : ∀ k g, g < tGc rl rn sg k → tGs rl rn sg k g < k
  | 0, g, h => absurd h (Nat.not_lt_zero g)
  | k + 1, g, h => by
    have e1 : tGc rl rn sg (k + 1) = if tLg rl rn sg k = 0 then tGc rl rn sg k + 1 else tGc rl rn sg k := rfl
    have e2 : tGs rl rn sg (k + 1) = if tLg rl rn sg k = 0 then upN (tGs rl rn sg k) (tGc rl rn sg k) k else tGs rl rn sg k := rfl
    have ih := tGs_lt rl rn sg k
    rw [e1] at h
    rw [e2]
    by_cases q : tLg rl rn sg k = 0
    · rw [if_pos q] at h ⊢
      by_cases q2 : g = tGc rl rn sg k
      · rw [q2, upN_eq]; omega
      · rw [upN_ne q2]
        have := ih g (by omega)
        omega
    · rw [if_neg q] at h ⊢
      have := ih g h
      omega
section
theorem tMn_le {T : gS} (hk : gOk T) : tMn T ≤ 50 := Nat.le_trans (tM_le _ _) hk.n
theorem tSg_sh {T : gS} (hk : gOk T) {k : Nat} (h : k < tMn T) : isSh (tSg T k) = true := by
  have h1 := tIx_ok T.c T.n k h
  rcases hk.c _ h1.1 with q | q
  · exact q
  · rw [h1.2] at q; cases q
theorem tSg_lt {T : gS} (hk : gOk T) {k : Nat} (h : k < tMn T) : tSg T k < 128 := by
  have := isSh_b (tSg_sh hk h)
  omega
theorem tEmT_le {T : gS} (hk : gOk T) {k : Nat} (h : k < tMn T) : tEmT T k ≤ 11 := tEm_le hk.b T.n hk.d k h
theorem tLv_le {T : gS} (hk : gOk T) {k : Nat} (h : k < tMn T) : tLv T k ≤ 13 := by
  have h1 := tSs_le (tEmT T) k
  have h2 := tEmT_le hk (show tSs (tEmT T) k < tMn T by omega)
  have h3 : tLv T k ≤ tEmT T (tSs (tEmT T) k) + 2 := tLvK_le _ _
  omega
theorem tRnT_le {T : gS} (hk : gOk T) {k : Nat} (h : k < tMn T) : tRnT T k < 1000 := by
  have h1 := tRn_le (tScT T) (tLv T) (k + 1)
  have h2 := tMn_le hk
  unfold tRnT
  omega
theorem tGT_le (T : gS) : tGT T ≤ tMn T := tGc_le _ _ _ _
theorem tNu_gn {T : gS} (hk : gOk T) {g : Nat} (h : g < tGT T) : isGn T.ln (tNu T g) := tGn_gn (tMn T) (fun j hj => tSg_lt hk hj) g h
theorem tNu_lt {T : gS} (hk : gOk T) {g : Nat} (h : g < tGT T) : tNu T g < 220 := isGn_lt hk.ln (tNu_gn hk h)
theorem tGw_le {T : gS} (hk : gOk T) {g : Nat} (h : g < tGT T) : tGw T g ≤ 40 := tWd_le (fun j hj => (hk.w j hj).2) (fun j hj => (hk.lw j hj).2) (tNu_gn hk h)
theorem tGw_ge {T : gS} (hk : gOk T) {g : Nat} (h : g < tGT T) : 1 ≤ tGw T g := by
  have h1 := tNu_gn hk h
  unfold isGn at h1
  unfold tGw tWd
  split
  · exact (hk.lw _ (by omega)).1
  · exact (hk.w _ (by omega)).1
theorem tGsT_lt {T : gS} {g : Nat} (h : g < tGT T) : tGsT T g < tMn T := tGs_lt _ _ _ _ _ h
theorem tGl_le {T : gS} (hk : gOk T) {g : Nat} (h : g < tGT T) : tGl T g ≤ 13 := tLv_le hk (tGsT_lt h)
theorem tXx_ok {T : gS} (hk : gOk T) : xOk (tXx T) := xOf_ok (Nat.le_trans (tGT_le T) (tMn_le hk)) hk.W (fun g h => by have := tNu_lt hk h; omega) (fun g h => tGw_le hk h)
theorem tXx_q {T : gS} (h : tAc T = true) : ∀ i, i < (tXx T).P → xQ (tXx T) i (i + 1) = true := by
  intro i hi
  unfold tAc at h
  rw [Bool.and_eq_true, beq_iff_eq, Bool.not_eq_true'] at h
  obtain ⟨h1, h2⟩ := h
  unfold tTwT at h1
  rw [if_neg (by rw [h2]; decide)] at h1
  exact tTw_0 (xQ (tXx T)) (tXx T).P 0 h1 i (Nat.zero_le i) (by omega)
theorem tAc_pos {T : gS} (h : tAc T = true) : 0 < (tXx T).P := by
  unfold tAc at h
  rw [Bool.and_eq_true, Bool.not_eq_true'] at h
  have h2 := h.2
  rcases Nat.eq_zero_or_pos (tGT T) with q | q
  · unfold tBlT at h2
    rw [q] at h2
    cases h2
  · obtain ⟨g, hg⟩ : ∃ g, tGT T = g + 1 := ⟨tGT T - 1, by omega⟩
    show 0 < tPc (tNu T) (tGT T)
    rw [hg]
    exact tPc_pos _ _
theorem tLs_ok {T : gS} : lOk (tXx T) (tCn T) (tLs T) := by
  cases h : tAc T with
  | true =>
    have e1 : tCn T = kK (tXx T) 0 := if_pos h
    have e2 : tLs T = kS (tXx T) := funext fun l => if_pos h
    rw [e1, e2]
    exact k_lOk (tXx_q h)
  | false =>
    have h' : ¬ tAc T = true := by rw [h]; decide
    have e1 : tCn T = 0 := if_neg h'
    have e2 : tLs T = fun _ => (tXx T).P := funext fun l => if_neg h'
    rw [e1, e2]
    exact ⟨Nat.zero_le _, fun l hl => absurd hl (Nat.not_lt_zero l), fun l _ => Nat.le_refl _⟩
end
theorem nO_m1 {x : Nat} (h : x < 2 ^ 31) : (nO x = -1) = (x = 0) := by
  apply propext
  unfold nO
  by_cases q : x = 0
  · rw [if_pos q]
    exact ⟨fun _ => q, fun _ => rfl⟩
  · rw [if_neg q]
    exact ⟨fun e => absurd e (nI_nm1 (by omega)), fun e => absurd e q⟩
/-- the class's tables of the text T -/
def cTab (T : gS) (μ : gMu) : Prop :=
  cSq T.c T.b T.n μ ∧ gAr μ 17 (tMn T) (tLv T) ∧ gAr μ 19 (tMn T) (tScT T) ∧ gAr μ 20 (tMn T) (tRnT T) ∧ gI μ 18 4 = nI (tRn (tScT T) (tLv T) (tMn T)) ∧ cGy (tRlT T) (tRnT T) (tSg T) (tLv T) (tMn T) μ ∧ gAr μ 26 (tGT T) (tGw T) ∧ cX (tXx T) μ ∧ gI μ 29 4 = bI (tBlT T) ∧ gI μ 32 6 = nI T.W ∧ gI μ 32 7 = nO (tTwT T) ∧ cLs (tXx T) (tCn T) (tDm T) (tLs T) μ ∧ (∀ l, l < tCn T → cRow (tXx T) (tLs T) (tGw T) (tGl T) T.b l μ)
def cC : List Nat := [0, 2, 3, 4, 5, 6, 7, 8, 9, 10, 11, 12, 13, 14, 15, 16, 17, 18, 19, 20, 21, 22, 23, 24, 25, 26, 27, 28, 29, 30, 31, 32, 33, 34, 35, 36, 37, 38, 39, 40, 41, 42, 1]
def cD : List Nat := [9, 10, 11, 12, 13, 14, 15, 16, 17, 18, 19, 20, 21, 22, 23, 24, 25, 26, 27, 28, 29, 30, 31, 32, 33, 34, 35, 36, 37, 38, 39, 40, 41, 42, 1]
theorem cT.sm {A : List Nat} {T : gS} {μ μ' : gMu} (h : cT T μ) (hs : gSm A μ μ') (h0 : 0 ∉ A) (h2 : 2 ∉ A) (h3 : 3 ∉ A) (h4 : 4 ∉ A) (h5 : 5 ∉ A) (h6 : 6 ∉ A) (h7 : 7 ∉ A) (h8 : 8 ∉ A) : cT T μ' := by
  obtain ⟨a1, a2, a3, a4, a5, a6, a7, a8, a9⟩ := h
  exact ⟨by rw [hs.I h2, a1], a2.sm hs h3, by rw [hs.I h0, a3], by rw [hs.I h0, a4], by rw [hs.I h4, a5], a6.sm hs h5, a7.sm hs h6, a8.sm hs h7, a9.sm hs h8⟩
theorem cT.fo {T : gS} {μ : gMu} (h : cT T μ) : cFo T.ln T.w T.lf T.ls T.lw μ := ⟨h.2.2.2.2.1, h.2.2.2.2.2⟩
theorem cRow.sm {A : List Nat} {X : xX} {ls gw gl : Nat → Nat} {b l : Nat} {μ μ' : gMu} (h : cRow X ls gw gl b l μ) (hs : gSm A μ μ') (h1 : 39 ∉ A) (h2 : 40 ∉ A) (h3 : 41 ∉ A) (h4 : 42 ∉ A) (h5 : 1 ∉ A) : cRow X ls gw gl b l μ' := by
  obtain ⟨a1, a2, a3⟩ := h
  refine ⟨fun g g1 g2 => by rw [hs.I h1, a1 g g1 g2], fun x x1 x2 => ?_, fun g g1 g2 => by rw [hs.I h3, a3 g g1 g2]⟩
  obtain ⟨b1, b2, b3, b4⟩ := a2 x x1 x2
  exact ⟨by rw [hs.I h2, b1], by rw [hs.I h3, b2], by rw [hs.I h5, b3], by rw [hs.I h4, b4]⟩
/-- the class at rest behind a question -/
def cR (T : gS) (μ : gMu) : Prop := cT T μ ∧ gI μ 27 0 = 0 ∧ gI μ 28 0 = 0 ∧ gI μ 0 11 = 0 ∧ cTab T μ
/-- the class between calls -/
def cI (T : gS) (μ : gMu) : Prop := cT T μ ∧ gI μ 27 0 = 0 ∧ gI μ 28 0 = 0 ∧ (gI μ 0 11 = 1 ∨ (gI μ 0 11 = 0 ∧ cTab T μ))
theorem cR.i {T : gS} {μ : gMu} (h : cR T μ) : cI T μ := ⟨h.1, h.2.1, h.2.2.1, Or.inr h.2.2.2⟩
theorem cTab_stale {T : gS} {μ : gMu} {v : Int32} (h : cTab T μ) : cTab T (gsI μ 0 11 v) := by
  have hs : gSm [0] μ (gsI μ 0 11 v) := (gSm.rf _ μ).i 0 11 v (by decide)
  obtain ⟨a1, a2, a3, a4, a5, a6, a7, a8, a9, a10, a11, a12, a13⟩ := h
  refine ⟨cSq_sm a1 hs (by decide) (by decide) (by decide) (by decide) (by decide), a2.sm hs (by decide), a3.sm hs (by decide), a4.sm hs (by decide), by rw [hs.I (by decide), a5], a6.sm hs (by decide) (by decide) (by decide) (by decide) (by decide), a7.sm hs (by decide), a8.sm hs (by decide) (by decide) (by decide) (by decide) (by decide) (by decide), by rw [hs.I (by decide), a9], by rw [hs.I (by decide), a10], by rw [hs.I (by decide), a11], ⟨by rw [hs.I (by decide), a12.1], by rw [hs.J (by decide), a12.2.1], a12.2.2.sm hs (by decide)⟩, fun l hl => (a13 l hl).sm hs (by decide) (by decide) (by decide) (by decide) (by decide)⟩
theorem cT_stale {T : gS} {μ : gMu} {v : Int32} (h : cT T μ) : cT T (gsI μ 0 11 v) := by
  obtain ⟨a1, a2, a3, a4, a5, a6, a7, a8, a9⟩ := h
  exact ⟨by simp (disch := first | omega | decide) only [a1, nE_l, nE_r, nE_n, nLe_l, nLe_r, nLe_n, nLt_l, nLt_r, nLt_n, nA_l, nA_r, nI_add, nS_l, nS_n, nIn, nI_clamp, gI_I, gI_J, gI_D, gJ_J, gJ_I, gJ_D, true_and, and_true, false_and, and_false, if_true, if_false, false_implies, true_implies, not_true_eq_false, not_false_eq_true, bI_0, bI_1, Nat.reduceEqDiff, eq_self, nMax, nMin], a2.skip (by decide), by simp (disch := first | omega | decide) only [a3, nE_l, nE_r, nE_n, nLe_l, nLe_r, nLe_n, nLt_l, nLt_r, nLt_n, nA_l, nA_r, nI_add, nS_l, nS_n, nIn, nI_clamp, gI_I, gI_J, gI_D, gJ_J, gJ_I, gJ_D, true_and, and_true, false_and, and_false, if_true, if_false, false_implies, true_implies, not_true_eq_false, not_false_eq_true, bI_0, bI_1, Nat.reduceEqDiff, eq_self, nMax, nMin], by simp (disch := first | omega | decide) only [a4, nE_l, nE_r, nE_n, nLe_l, nLe_r, nLe_n, nLt_l, nLt_r, nLt_n, nA_l, nA_r, nI_add, nS_l, nS_n, nIn, nI_clamp, gI_I, gI_J, gI_D, gJ_J, gJ_I, gJ_D, true_and, and_true, false_and, and_false, if_true, if_false, false_implies, true_implies, not_true_eq_false, not_false_eq_true, bI_0, bI_1, Nat.reduceEqDiff, eq_self, nMax, nMin], by simp (disch := first | omega | decide) only [a5, nE_l, nE_r, nE_n, nLe_l, nLe_r, nLe_n, nLt_l, nLt_r, nLt_n, nA_l, nA_r, nI_add, nS_l, nS_n, nIn, nI_clamp, gI_I, gI_J, gI_D, gJ_J, gJ_I, gJ_D, true_and, and_true, false_and, and_false, if_true, if_false, false_implies, true_implies, not_true_eq_false, not_false_eq_true, bI_0, bI_1, Nat.reduceEqDiff, eq_self, nMax, nMin], a6.skip (by decide), a7.skip (by decide), a8.skip (by decide), a9.skip (by decide)⟩
theorem s_62 {T : gS} {μ : gMu} {P : gMu → gRes → Prop} (hk : gOk T) (hI : cI T μ) (h : ∀ μ', gSm cC μ μ' → cR T μ' → P μ' (.inl none)) : gCl' 62 [.ref 0] μ P := by
  obtain ⟨hT, h27, h28, hst⟩ := hI
  rcases hst with hst | ⟨hst, htab⟩
  · have hM := tMn_le hk
    have hsg2 : ∀ k, k < tMn T → tSg T k < 128 := fun k hk2 => tSg_lt hk hk2
    have hb := hT.2.2.2.1
    have hW := hT.2.2.1
    have hX := tXx_ok hk
    refine vc_62 ⟨fun _ => ?_, fun q => by rw [hst] at q; exact absurd q (by decide)⟩
    rw [hb]
    refine s_61 hT hk (fun μ1 hs1 q1 => ⟨rfl, ?_⟩)
    have S1 : gSm cD μ μ1 := hs1.up (by decide)
    rw [S1.I (by decide), hb]
    refine s_25 (em := tEmT T) (sg := tSg T) hM q1.1 q1.2.2.2.2 q1.2.2.2.1 (fun k hk2 => by have := tEmT_le hk hk2; omega) hsg2 hk.b (fun μ2 hs2 q2 => ⟨rfl, ?_⟩)
    have S2 : gSm cD μ μ2 := S1.tr (hs2.up (by decide))
    have q2' : gAr μ2 17 (tMn T) (tLv T) := fun j hj => q2 j (Nat.zero_le j) hj
    have q12 := cSq_sm q1 hs2 (by decide) (by decide) (by decide) (by decide) (by decide)
    refine s_58 (sg := tSg T) (lv := tLv T) hM q12.1 q12.2.2.2.1 hsg2 q2' (fun k hk2 => by have := tLv_le hk hk2; omega) (fun μ3 hs3 q3a q3b q3c => ⟨rfl, ?_⟩)
    have S3 : gSm cD μ μ3 := S2.tr (hs3.up (by decide))
    have q13 := cSq_sm q12 hs3 (by decide) (by decide) (by decide) (by decide) (by decide)
    have q23 : gAr μ3 17 (tMn T) (tLv T) := q2'.sm hs3 (by decide)
    have T3 : cT T μ3 := hT.sm S3 (by decide) (by decide) (by decide) (by decide) (by decide) (by decide) (by decide) (by decide)
    refine s_12 (rn := tRnT T) (sg := tSg T) (lv := tLv T) hk.ln T3.fo (fun j hj => by
      rcases hk.lf j hj with z | z
      · have := isLt_b z; omega
      · have := hk.ln; omega) (fun j hj => by have := isLt_b (hk.ls j hj); omega) (fun j hj => (hk.w j hj).2) (fun j hj => (hk.lw j hj).2) hM q13.1 q13.2.2.2.1 hsg2 q3c (fun k hk2 => tRnT_le hk hk2) q23 (by rw [hs3.I (by decide), hs2.I (by decide), hs1.I (by decide), h27]) (by rw [hs3.I (by decide), hs2.I (by decide), hs1.I (by decide), h28]) (fun μ4 hs4 q4a q4b q4c q4d => ⟨rfl, ?_⟩)
    have S4 : gSm cD μ μ4 := S3.tr (hs4.up (by decide))
    have hG := Nat.le_trans (tGT_le T) hM
    have q4a' : cGy (tRlT T) (tRnT T) (tSg T) (tLv T) (tMn T) μ4 := q4a
    refine s_46 (nu := tNu T) (G := tGT T) hG q4a'.1 q4a'.2.2.1 (fun g hg => by have := tNu_lt hk hg; omega) (fun μ5 hs5 q5a q5b q5c q5d => ⟨rfl, ?_⟩)
    have S5 : gSm cD μ μ5 := S4.tr (hs5.up (by decide))
    rw [S5.I (by decide), hW]
    have X5 : cX (tXx T) μ5 := ⟨q5a, q4a'.2.2.1.sm hs5 (by decide), q4c.sm hs5 (by decide), q4d.sm hs5 (by decide), q5c, q5d⟩
    refine s_44 (X := tXx T) (bl := tBlT T) hX X5 q5b ⟨rfl, ?_⟩
    have e44 : (if tBlT T = true then 0 else tTw (xQ (tXx T)) (tXx T).P 0) = tTwT T := rfl
    rw [e44]
    have hs6 : gSm [32] μ5 (gsI (gsI μ5 32 6 (nI (tXx T).W)) 32 7 (nO (tTwT T))) := ((gSm.rf _ μ5).i 32 _ _ (by decide)).i 32 _ _ (by decide)
    generalize hμ6 : gsI (gsI μ5 32 6 (nI (tXx T).W)) 32 7 (nO (tTwT T)) = μ6 at hs6 ⊢
    have f6 : gI μ6 32 6 = nI (tXx T).W := by rw [← hμ6]; simp (disch := first | omega | decide) only [nE_l, nE_r, nE_n, nLe_l, nLe_r, nLe_n, nLt_l, nLt_r, nLt_n, nA_l, nA_r, nI_add, nS_l, nS_n, nIn, nI_clamp, gI_I, gI_J, gI_D, gJ_J, gJ_I, gJ_D, true_and, and_true, false_and, and_false, if_true, if_false, false_implies, true_implies, not_true_eq_false, not_false_eq_true, bI_0, bI_1, Nat.reduceEqDiff, eq_self, nMax, nMin]
    have f7 : gI μ6 32 7 = nO (tTwT T) := by rw [← hμ6]; simp (disch := first | omega | decide) only [nE_l, nE_r, nE_n, nLe_l, nLe_r, nLe_n, nLt_l, nLt_r, nLt_n, nA_l, nA_r, nI_add, nS_l, nS_n, nIn, nI_clamp, gI_I, gI_J, gI_D, gJ_J, gJ_I, gJ_D, true_and, and_true, false_and, and_false, if_true, if_false, false_implies, true_implies, not_true_eq_false, not_false_eq_true, bI_0, bI_1, Nat.reduceEqDiff, eq_self, nMax, nMin]
    have htw : tTwT T < 2 ^ 31 := by
      have := tTw_le (xQ (tXx T)) (tXx T).P 0
      have h1 := hX.P
      have h2 := hX.G
      unfold tTwT
      split <;> omega
    have S6 : gSm cD μ μ6 := S5.tr (hs6.up (by decide))
    have X6 : cX (tXx T) μ6 := X5.sm hs6 (by decide) (by decide) (by decide) (by decide) (by decide) (by decide)
    -- the end
    have fin : ∀ μ7, gSm [32, 33, 34, 35, 36, 37] μ6 μ7 → gI μ7 32 6 = nI (tXx T).W → gI μ7 32 7 = gI μ6 32 7 → cLs (tXx T) (tCn T) (tDm T) (tLs T) μ7 → gCl' 55 [.ref 38, .int (gI μ7 0 10)] μ7 (fun μ8 r => r = .inl none ∧ P (gsI μ8 0 11 (0 : Int32)) (.inl none)) := by
      intro μ7 hs7 g6 g7 hls
      have S7 : gSm cD μ μ7 := S6.tr (hs7.up (by decide))
      rw [S7.I (by decide), hb]
      have hs47 : gSm [29, 30, 31, 32, 33, 34, 35, 36, 37] μ4 μ7 := ((hs5.up (by decide)).tr (hs6.up (by decide))).tr (hs7.up (by decide))
      refine s_55 (X := tXx T) (C := tCn T) (ls := tLs T) (gw := tGw T) (gl := tGl T) hX (X6.sm hs7 (by decide) (by decide) (by decide) (by decide) (by decide) (by decide)) g6 hls.1 hls.2.2 tLs_ok (q4a'.2.2.2.2.sm hs47 (by decide)) (fun g hg => by have := tGl_le hk hg; omega) (q4b.sm hs47 (by decide)) hk.b (fun g hg => tGw_le hk hg) (fun g hg => tGw_ge hk hg) (fun l hl => ?_) (fun μ8 hs8 hrows => ⟨rfl, ?_⟩)
      · cases hac : tAc T with
        | true =>
          have e1 : tCn T = kK (tXx T) 0 := if_pos hac
          have e2 : ∀ m, tLs T m = kS (tXx T) m := fun m => if_pos hac
          rw [e1] at hl
          rw [e2, e2]
          exact (kS_lt (tXx_q hac) hl).2.2.2.1
        | false =>
          have e1 : tCn T = 0 := if_neg (by rw [hac]; decide)
          rw [e1] at hl
          exact absurd hl (Nat.not_lt_zero l)
      · have S8 : gSm cD μ μ8 := S7.tr (hs8.up (by decide))
        have hs48 : gSm [29, 30, 31, 32, 33, 34, 35, 36, 37, 38, 39, 40, 41, 42, 1] μ4 μ8 := (hs47.up (by decide)).tr (hs8.up (by decide))
        have hs38 : gSm [21, 22, 23, 24, 25, 26, 27, 28, 29, 30, 31, 32, 33, 34, 35, 36, 37, 38, 39, 40, 41, 42, 1] μ3 μ8 := (hs4.up (by decide)).tr (hs48.up (by decide))
        have hT8 : cT T μ8 := hT.sm S8 (by decide) (by decide) (by decide) (by decide) (by decide) (by decide) (by decide) (by decide)
        have hc27 : gI μ8 27 0 = 0 := by rw [hs48.I (by decide)]; exact q4c 0 (by omega)
        have hc28 : gI μ8 28 0 = 0 := by rw [hs48.I (by decide)]; exact q4d 0 (by omega)
        have tab : cTab T μ8 := ⟨cSq_sm q13 hs38 (by decide) (by decide) (by decide) (by decide) (by decide), q23.sm hs38 (by decide), q3b.sm hs38 (by decide), q3c.sm hs38 (by decide), by rw [hs38.I (by decide)]; exact q3a, q4a'.sm hs48 (by decide) (by decide) (by decide) (by decide) (by decide), q4b.sm hs48 (by decide), (X6.sm hs7 (by decide) (by decide) (by decide) (by decide) (by decide) (by decide)).sm hs8 (by decide) (by decide) (by decide) (by decide) (by decide) (by decide), by rw [hs8.I (by decide), hs7.I (by decide), hs6.I (by decide)]; exact q5b, by rw [hs8.I (by decide)]; exact g6, by rw [hs8.I (by decide), g7, f7], ⟨by rw [hs8.I (by decide)]; exact hls.1, by rw [hs8.J (by decide)]; exact hls.2.1, hls.2.2.sm hs8 (by decide)⟩, hrows⟩
        exact h _ ((S8.up (by decide)).i 0 11 _ (by decide)) ⟨cT_stale hT8, by simp (disch := first | omega | decide) only [hc27, nE_l, nE_r, nE_n, nLe_l, nLe_r, nLe_n, nLt_l, nLt_r, nLt_n, nA_l, nA_r, nI_add, nS_l, nS_n, nIn, nI_clamp, gI_I, gI_J, gI_D, gJ_J, gJ_I, gJ_D, true_and, and_true, false_and, and_false, if_true, if_false, false_implies, true_implies, not_true_eq_false, not_false_eq_true, bI_0, bI_1, Nat.reduceEqDiff, eq_self, nMax, nMin], by simp (disch := first | omega | decide) only [hc28, nE_l, nE_r, nE_n, nLe_l, nLe_r, nLe_n, nLt_l, nLt_r, nLt_n, nA_l, nA_r, nI_add, nS_l, nS_n, nIn, nI_clamp, gI_I, gI_J, gI_D, gJ_J, gJ_I, gJ_D, true_and, and_true, false_and, and_false, if_true, if_false, false_implies, true_implies, not_true_eq_false, not_false_eq_true, bI_0, bI_1, Nat.reduceEqDiff, eq_self, nMax, nMin], by simp (disch := first | omega | decide) only [nE_l, nE_r, nE_n, nLe_l, nLe_r, nLe_n, nLt_l, nLt_r, nLt_n, nA_l, nA_r, nI_add, nS_l, nS_n, nIn, nI_clamp, gI_I, gI_J, gI_D, gJ_J, gJ_I, gJ_D, true_and, and_true, false_and, and_false, if_true, if_false, false_implies, true_implies, not_true_eq_false, not_false_eq_true, bI_0, bI_1, Nat.reduceEqDiff, eq_self, nMax, nMin], cTab_stale tab⟩
    refine s_42 (X := tXx T) (a := (tTwT T == 0)) (bl := tBlT T) hX X6 f6 (by rw [f7, nO_m1 htw]; exact propext ⟨fun z => by simpa using z, fun z => by simpa using z⟩) (by rw [hs6.I (by decide)]; exact q5b) (fun a1 a2 => tXx_q (by unfold tAc; rw [a1, a2]; rfl)) (fun a1 a2 μ7 Z hs7 g6 g7 hz hls => ⟨rfl, fin μ7 hs7 g6 g7 ?_⟩) (fun hno μ7 hs7 g6 g7 hls => ⟨rfl, fin μ7 hs7 g6 g7 ?_⟩)
    · have hac : tAc T = true := by unfold tAc; rw [a1, a2]; rfl
      have hXP := hX.P
      have hXG := hX.G
      obtain ⟨k1, k2, k3⟩ := k_same (by omega) (tXx_q hac) hz
      have e1 : tCn T = kK (tXx T) 0 := if_pos hac
      have e2 : tDm T = kL (tXx T) 0 := if_pos hac
      have e3 : ∀ m, tLs T m = kS (tXx T) m := fun m => if_pos hac
      refine ⟨by rw [e1, ← k2]; exact hls.1, by rw [e2, ← k1]; exact hls.2.1, fun j hj => ?_⟩
      rw [e1] at hj
      rw [hls.2.2 j (by omega), e3]
      exact congrArg nI (k3 j (by omega))
    · have hac : tAc T = false := by
        cases hac : tAc T with
        | false => rfl
        | true =>
          exfalso
          have hp := tAc_pos hac
          unfold tAc at hac
          rw [Bool.and_eq_true, Bool.not_eq_true'] at hac
          rcases hno with z | z | z
          · rw [hac.1] at z; cases z
          · rw [hac.2] at z; cases z
          · omega
      have h' : ¬ tAc T = true := by rw [hac]; decide
      have e1 : tCn T = 0 := if_neg h'
      have e2 : tDm T = 0 := if_neg h'
      have e3 : ∀ m, tLs T m = (tXx T).P := fun m => if_neg h'
      refine ⟨by rw [e1]; exact hls.1, by rw [e2]; exact hls.2.1, fun j hj => ?_⟩
      rw [e1] at hj
      rw [hls.2.2 j hj, e3]
  · refine vc_62 ⟨fun q => absurd hst q, fun _ => h μ (gSm.rf _ _) ⟨hT, h27, h28, hst, htab⟩⟩
