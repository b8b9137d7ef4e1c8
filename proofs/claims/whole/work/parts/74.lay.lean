/-! THE MODEL: what it lays, and how it measures lines -/
section
def mA : List Nat := [49, 50, 51, 52, 53, 54, 55, 56, 57, 58, 59, 60, 61, 62]
def mB : List Nat := [9, 19, 20, 21, 23, 29]
def mC : List Nat := [9, 19, 20, 21, 23]
def mLay (T : gS) (μ : gMu) : Prop := mSq T.c T.b T.n μ ∧ gAr μ 52 (tMn T) (tLv T) ∧ gAr μ 53 (tMn T) (tScT T) ∧ gAr μ 54 (tMn T) (tRnT T) ∧ gI μ 1 21 = nI (tRn (tScT T) (tLv T) (tMn T)) ∧ gAr μ 55 (tMn T) (fun n => tNu T (tOw T n)) ∧ gAr μ 56 (tMn T) (fun n => tGsT T (tOw T n)) ∧ gI μ 1 23 = nI (tXx T).P ∧ gAr μ 58 ((tXx T).P + 1) (mPtT T)
theorem mLay.M {T : gS} {μ : gMu} (h : mLay T μ) : gI μ 1 19 = nI (tMn T) := h.1.1
theorem mLay.ix {T : gS} {μ : gMu} (h : mLay T μ) : gAr μ 49 (tMn T) (tIx T.c T.n) := h.1.2.2.1
theorem mLay.sg {T : gS} {μ : gMu} (h : mLay T μ) : gAr μ 50 (tMn T) (tSg T) := h.1.2.2.2.1
theorem mLay.em {T : gS} {μ : gMu} (h : mLay T μ) : gAr μ 51 (tMn T) (tEmT T) := h.1.2.2.2.2
theorem mLay.lv {T : gS} {μ : gMu} (h : mLay T μ) : gAr μ 52 (tMn T) (tLv T) := h.2.1
theorem mLay.gl {T : gS} {μ : gMu} (h : mLay T μ) : gAr μ 55 (tMn T) (fun n => tNu T (tOw T n)) := h.2.2.2.2.2.1
theorem mLay.gs {T : gS} {μ : gMu} (h : mLay T μ) : gAr μ 56 (tMn T) (fun n => tGsT T (tOw T n)) := h.2.2.2.2.2.2.1
theorem mLay.P {T : gS} {μ : gMu} (h : mLay T μ) : gI μ 1 23 = nI (tXx T).P := h.2.2.2.2.2.2.2.1
theorem mLay.pt {T : gS} {μ : gMu} (h : mLay T μ) : gAr μ 58 ((tXx T).P + 1) (mPtT T) := h.2.2.2.2.2.2.2.2
theorem mLay.gf {A F : List Nat} {T : gS} {μ μ' : gMu} (h : mLay T μ) (hs : mF A F μ μ') (f19 : 19 ∉ F) (f20 : 20 ∉ F) (f21 : 21 ∉ F) (f23 : 23 ∉ F) (a : ∀ x ∈ [49, 50, 51, 52, 53, 54, 55, 56, 58], x ∉ A) : mLay T μ' := by
  obtain ⟨h1, h2, h3, h4, h5, h6, h7, h8, h9⟩ := h
  exact ⟨h1.gf hs f19 f20 (a 49 (by decide)) (a 50 (by decide)) (a 51 (by decide)), h2.gf hs (a 52 (by decide)) (by decide), h3.gf hs (a 53 (by decide)) (by decide), h4.gf hs (a 54 (by decide)) (by decide), by rw [hs.F f21, h5], h6.gf hs (a 55 (by decide)) (by decide), h7.gf hs (a 56 (by decide)) (by decide), by rw [hs.F f23, h8], h9.gf hs (a 58 (by decide)) (by decide)⟩
theorem mTx.m {A F : List Nat} {T : gS} {μ μ' : gMu} (h : mTx T μ) (hs : mF A F μ μ') (hA : ∀ a ∈ A, a ∈ mA) (hF : ∀ a ∈ F, a ∈ mB) : mTx T μ' := h.gf (hs.up hA hF) (by decide) (by decide) (by decide) (by decide) (by decide) (by decide) (by decide) (by decide) (by decide)
theorem tSgT (T : gS) : tSg T = fun j => T.c (tIx T.c T.n j) := rfl
theorem s_179 {T : gS} {μ : gMu} {P : gMu → gRes → Prop} (hk : gOk T) (hT : mTx T μ) (h : ∀ μ', mF mA [19, 20, 21, 23] μ μ' → mLay T μ' → P μ' (.inl none)) : gCl' 179 [.ref 1] μ P := by
  have hM := tMn_le hk
  refine vc_179 (s_160 hT hk (fun μ1 s1 q1 => ⟨rfl, ?_⟩))
  have t1 := hT.m s1 (by decide) (by decide)
  obtain ⟨c1, c2, c3, c4, c5⟩ := id q1
  refine s_176 (M := tMn T) (b := T.b) hM c1 c5 c4 (fun k h => by have : tEmT T k ≤ 11 := tEmT_le hk h; exact Nat.lt_of_le_of_lt this (by decide)) (fun k h => tSg_lt hk h) (fun k h => tSg_sh hk h) hk.b t1.2.2.2.1 (fun μ2 s2 q2 => ⟨rfl, ?_⟩)
  have t2 := t1.m s2 (by decide) (by decide)
  have d1 : gI μ2 1 19 = nI (tMn T) := by rw [s2.F (by decide)]; exact c1
  have d4 : gAr μ2 50 (tMn T) (tSg T) := c4.gf s2 (by decide) (by decide)
  refine s_178 (M := tMn T) hM d1 d4 (fun k h => tSg_lt hk h) q2 (fun k h => by have : tLv T k ≤ 13 := tLv_le hk h; exact Nat.lt_of_le_of_lt this (by decide)) (fun μ3 s3 r3 q3 q4 => ⟨rfl, ?_⟩)
  have t3 := t2.m s3 (by decide) (by decide)
  have e1 : gI μ3 1 19 = nI (tMn T) := by rw [s3.F (by decide)]; exact d1
  have e4 : gAr μ3 50 (tMn T) (tSg T) := d4.gf s3 (by decide) (by decide)
  have hrn : ∀ k, k < tMn T → tRnT T k < 1000 := fun k h => tRnT_le hk h
  refine s_173 (ln := T.ln) (lf := T.lf) (ls := T.ls) (M := tMn T) (w := T.w) (lw := T.lw) hk.ln t3.2.2.2.2.1 t3.2.2.2.2.2.2.1 t3.2.2.2.2.2.2.2.1 (fun j hj => ?_) (fun j hj => ?_) hM e1 e4 (fun k h => tSg_lt hk h) q4 hrn (fun μ4 s4 q5 q6 => ⟨rfl, ?_⟩)
  · have := hk.ln
    rcases hk.lf j hj with z | z
    · have := isLt_b z
      omega
    · omega
  · have := isLt_b (hk.ls j hj)
    omega
  have t4 := t3.m s4 (by decide) (by decide)
  have f1 : gI μ4 1 19 = nI (tMn T) := by rw [s4.F (by decide)]; exact e1
  have f4 : gAr μ4 50 (tMn T) (tSg T) := e4.gf s4 (by decide) (by decide)
  have S : mF mA [19, 20, 21, 23] μ μ4 := (((s1.up (by decide) (by decide)).tr (s2.up (by decide) (by decide))).tr (s3.up (by decide) (by decide))).tr (s4.up (by decide) (by decide))
  have sq : mSq T.c T.b T.n μ4 := ((q1.gf s2 (by decide) (by decide) (by decide) (by decide) (by decide)).gf s3 (by decide) (by decide) (by decide) (by decide) (by decide)).gf s4 (by decide) (by decide) (by decide) (by decide) (by decide)
  have l4 : gAr μ4 52 (tMn T) (tLv T) := (q2.gf s3 (by decide) (by decide)).gf s4 (by decide) (by decide)
  have sc4 : gAr μ4 53 (tMn T) (tScT T) := q3.gf s4 (by decide) (by decide)
  have rn4 : gAr μ4 54 (tMn T) (tRnT T) := q4.gf s4 (by decide) (by decide)
  have r4 : gI μ4 1 21 = nI (tRn (tScT T) (tLv T) (tMn T)) := by rw [s4.F (by decide)]; exact r3
  have fin : ∀ y, y = nI (if tMn T = 0 then 0 else 1) → gWp none 179 (41, [some (.ref 1), some (.int (nI 0))], [], gsI (gsI μ4 1 23 y) 58 0 0) 0 P := by
    intro y hy
    subst hy
    have S5 : mF [58] [23] μ4 (gsI (gsI μ4 1 23 (nI (if tMn T = 0 then 0 else 1))) 58 0 0) := ((mF.rf _ _ _).f 23 _ (by decide)).i 58 0 0 (by decide) (by decide)
    refine mPart_loop hM (by rw [S5.F (by decide)]; exact f1) (f4.gf S5 (by decide) (by decide)) (fun k h => tSg_lt hk h) (by simp (disch := first | omega | decide) only [nE_l, nE_r, nE_n, nLe_l, nLe_r, nLe_n, nLt_l, nLt_r, nLt_n, nA_l, nA_r, nI_add, nS_l, nS_n, nIn, nI_clamp, gI_I, gI_J, gI_D, gJ_J, gJ_I, gJ_D, true_and, and_true, false_and, and_false, if_true, if_false, false_implies, true_implies, not_true_eq_false, not_false_eq_true, bI_0, bI_1, Nat.reduceEqDiff, eq_self, nMax, nMin]) (by simp (disch := first | omega | decide) only [nE_l, nE_r, nE_n, nLe_l, nLe_r, nLe_n, nLt_l, nLt_r, nLt_n, nA_l, nA_r, nI_add, nS_l, nS_n, nIn, nI_clamp, gI_I, gI_J, gI_D, gJ_J, gJ_I, gJ_D, true_and, and_true, false_and, and_false, if_true, if_false, false_implies, true_implies, not_true_eq_false, not_false_eq_true, bI_0, bI_1, Nat.reduceEqDiff, eq_self, nMax, nMin]) (fun μ5 s5 p1 p2 => ?_)
    have S6 := S5.tr s5
    have hPn : mPn (tSg T) (tMn T) = (tXx T).P := mPn_eq hk
    rw [hPn] at p1 p2
    exact h μ5 (S.tr (S6.up (by decide) (by decide))) ⟨sq.gf S6 (by decide) (by decide) (by decide) (by decide) (by decide), l4.gf S6 (by decide) (by decide), sc4.gf S6 (by decide) (by decide), rn4.gf S6 (by decide) (by decide), by rw [S6.F (by decide)]; exact r4, (q5.gf S6 (by decide) (by decide)), (q6.gf S6 (by decide) (by decide)), p1, p2⟩
  rw [f1]
  refine ⟨fun z => ⟨vp_in_nI (n := 0) (by decide) (by decide), ?_⟩, fun z => ⟨vp_in_nI (n := 0) (by decide) (by decide), ?_⟩⟩
  · have z : nI (tMn T) ≤ 0 := z
    rw [show (nI (tMn T) ≤ 0) = (tMn T ≤ 0) from nLe_l (by omega) (by decide)] at z
    rw [sb_cl0]
    exact fin _ (by rw [if_pos (by omega)]; rfl)
  · have z : ¬ nI (tMn T) ≤ 0 := z
    rw [show (nI (tMn T) ≤ 0) = (tMn T ≤ 0) from nLe_l (by omega) (by decide)] at z
    rw [sb_cl0]
    exact fin _ (by rw [if_neg (by omega)]; rfl)
/-! whether there is a line -/
def mNb (sg : Nat → Nat) : Nat → Bool
  | 0 => false
  | k + 1 => mNb sg k || sg k != 32
theorem mNb_iff (sg : Nat → Nat) : ∀ k, mNb sg k = false ↔ ∀ n, n < k → sg n = 32
  | 0 => ⟨fun _ n hn => absurd hn (Nat.not_lt_zero n), fun _ => rfl⟩
  | k + 1 => by
    have e : mNb sg (k + 1) = (mNb sg k || sg k != 32) := rfl
    rw [e, Bool.or_eq_false_iff, mNb_iff sg k]
    constructor
    · intro h n hn
      by_cases c : n = k
      · rw [c]; simpa using h.2
      · exact h.1 n (by omega)
    · intro h
      exact ⟨fun n hn => h n (by omega), by simpa using h k (by omega)⟩
theorem mNb_bl {T : gS} (hk : gOk T) : mNb (tSg T) (tMn T) = !tBlT T := by
  have a := mNb_iff (tSg T) (tMn T)
  have b := bl_slot hk
  cases h1 : tBlT T with
  | true => exact a.mpr (b.mp h1)
  | false =>
    cases h2 : mNb (tSg T) (tMn T) with
    | true => rfl
    | false =>
      have := b.mpr (a.mp h2)
      rw [h1] at this
      cases this
theorem s_191 {T : gS} {μ : gMu} {P : gMu → gRes → Prop} (hk : gOk T) (hL : mLay T μ) (h : P μ (.inl (some (.int (bI (!tBlT T)))))) : gCl' 191 [.ref 1] μ P := by
  have hM := tMn_le hk
  have h1 := hL.M
  have h2 := hL.sg
  rw [← mNb_bl hk] at h
  have loop : ∀ r k, k + r = tMn T → gWp none 191 (4, [some (.ref 1), some (.int (bI (mNb (tSg T) k))), some (.int (nI k))], [], μ) 0 P := by
    intro r
    induction r with
    | zero =>
      intro k hr
      have hkM : k = tMn T := by omega
      refine vc_191_4 ?_
      rw [h1, hkM]
      simp (disch := first | omega | decide) only [Nat.le_refl, nE_l, nE_r, nE_n, nLe_l, nLe_r, nLe_n, nLt_l, nLt_r, nLt_n, nA_l, nA_r, nI_add, nS_l, nS_n, nIn, nI_clamp, gI_I, gI_J, gI_D, gJ_J, gJ_I, gJ_D, true_and, and_true, false_and, and_false, if_true, if_false, false_implies, true_implies, not_true_eq_false, not_false_eq_true, bI_0, bI_1, Nat.reduceEqDiff, eq_self, nMax, nMin]
      exact ⟨nBb _, h⟩
    | succ r ih =>
      intro k hr
      have g := h2 k (by omega)
      have b := tSg_lt hk (show k < tMn T by omega)
      have z := ih (k + 1) (by omega)
      have e : mNb (tSg T) (k + 1) = (mNb (tSg T) k || tSg T k != 32) := rfl
      rw [e] at z
      refine vc_191_4 ?_
      rw [h1]
      simp (disch := first | omega | decide) only [g, show ¬ tMn T ≤ k by omega, show k < 50 by omega, nE_l, nE_r, nE_n, nLe_l, nLe_r, nLe_n, nLt_l, nLt_r, nLt_n, nA_l, nA_r, nI_add, nS_l, nS_n, nIn, nI_clamp, gI_I, gI_J, gI_D, gJ_J, gJ_I, gJ_D, true_and, and_true, false_and, and_false, if_true, if_false, false_implies, true_implies, not_true_eq_false, not_false_eq_true, bI_0, bI_1, Nat.reduceEqDiff, eq_self, nMax, nMin]
      refine ⟨fun q => ?_, fun q => ⟨fun q2 => ?_, fun q2 => ?_⟩⟩
      · rw [Bool.not_eq_false] at q
        rw [q] at z
        exact z
      · rw [q, show (tSg T k != 32) = false by simpa using q2] at z
        exact z
      · rw [q, show (tSg T k != 32) = true by simpa using q2] at z
        exact z
  exact vc_191 (loop (tMn T) 0 (by omega))
theorem s_192 {T : gS} {i j : Nat} {μ : gMu} {P : gMu → gRes → Prop} (hk : gOk T) (hL : mLay T μ) (hij : i < j) (hj : j ≤ (tXx T).P) (h : P μ (.inl (some (.int (nI (mLa T i j)))))) : gCl' 192 [.ref 1, .int (nI i), .int (nI j)] μ P := by
  have hM := tMn_le hk
  have hP := (tXx_ok hk).P
  have hG := (tXx_ok hk).G
  have h2 := hL.sg
  have pi := mPt_ok hk (show i ≤ (tXx T).P by omega)
  have pj := mPt_ok hk hj
  have gi := hL.pt i (by omega)
  have gj := hL.pt j (by omega)
  have hlt := mPt_lt hk hij hj
  unfold mLa at h
  have loop : ∀ r k, mPtT T i ≤ k → k ≤ mPtT T i + r → k ≤ tMn T → P μ (.inl (some (.int (nI (laF (tSg T) (mPtT T i) r k))))) → gWp none 192 (7, [some (.ref 1), some (.int (nI i)), some (.int (nI j)), some (.int (nI k))], [], μ) 0 P := by
    intro r
    induction r with
    | zero =>
      intro k k1 k2 k3 hp
      have hp : P μ (.inl (some (.int (nI k)))) := hp
      refine vc_192_7 ?_
      simp (disch := first | omega | decide) only [gi, show i < 51 by omega, show k ≤ mPtT T i by omega, nE_l, nE_r, nE_n, nLe_l, nLe_r, nLe_n, nLt_l, nLt_r, nLt_n, nA_l, nA_r, nI_add, nS_l, nS_n, nIn, nI_clamp, gI_I, gI_J, gI_D, gJ_J, gJ_I, gJ_D, true_and, and_true, false_and, and_false, if_true, if_false, false_implies, true_implies, not_true_eq_false, not_false_eq_true, bI_0, bI_1, Nat.reduceEqDiff, eq_self, nMax, nMin]
      exact hp
    | succ r ih =>
      intro k k1 k2 k3 hp
      unfold laF at hp
      refine vc_192_7 ?_
      by_cases c : mPtT T i < k
      · have g := h2 (k - 1) (by omega)
        have b := tSg_lt hk (show k - 1 < tMn T by omega)
        simp (disch := first | omega | decide) only [gi, g, show i < 51 by omega, show ¬ k ≤ mPtT T i by omega, show k - 1 < 50 by omega, nE_l, nE_r, nE_n, nLe_l, nLe_r, nLe_n, nLt_l, nLt_r, nLt_n, nA_l, nA_r, nI_add, nS_l, nS_n, nIn, nI_clamp, gI_I, gI_J, gI_D, gJ_J, gJ_I, gJ_D, true_and, and_true, false_and, and_false, if_true, if_false, false_implies, true_implies, not_true_eq_false, not_false_eq_true, bI_0, bI_1, Nat.reduceEqDiff, eq_self, nMax, nMin]
        refine ⟨fun q => ?_, fun q => ?_⟩
        · rw [if_neg (fun z => q z.2)] at hp; exact hp
        · rw [if_pos ⟨c, q⟩] at hp
          have e : nI k + (-1 : Int32) = nI (k - 1) := nI_m1 (by omega)
          rw [e]
          exact ih (k - 1) (by omega) (by omega) (by omega) hp
      · rw [if_neg (fun z => c z.1)] at hp
        simp (disch := first | omega | decide) only [gi, show i < 51 by omega, show k ≤ mPtT T i by omega, nE_l, nE_r, nE_n, nLe_l, nLe_r, nLe_n, nLt_l, nLt_r, nLt_n, nA_l, nA_r, nI_add, nS_l, nS_n, nIn, nI_clamp, gI_I, gI_J, gI_D, gJ_J, gJ_I, gJ_D, true_and, and_true, false_and, and_false, if_true, if_false, false_implies, true_implies, not_true_eq_false, not_false_eq_true, bI_0, bI_1, Nat.reduceEqDiff, eq_self, nMax, nMin]
        exact hp
  refine vc_192 ?_
  simp (disch := first | omega | decide) only [gj, show j < 51 by omega, nE_l, nE_r, nE_n, nLe_l, nLe_r, nLe_n, nLt_l, nLt_r, nLt_n, nA_l, nA_r, nI_add, nS_l, nS_n, nIn, nI_clamp, gI_I, gI_J, gI_D, gJ_J, gJ_I, gJ_D, true_and, and_true, false_and, and_false, if_true, if_false, false_implies, true_implies, not_true_eq_false, not_false_eq_true, bI_0, bI_1, Nat.reduceEqDiff, eq_self, nMax, nMin]
  exact loop (mPtT T j) (mPtT T j) (by omega) (by omega) (by omega) h
theorem s_193 {T : gS} {n : Nat} {μ : gMu} {P : gMu → gRes → Prop} (hk : gOk T) (hT : mTx T μ) (hL : mLay T μ) (hn : n < tMn T) (h : P μ (.inl (some (.int (nI (tGw T (tOw T n))))))) : gCl' 193 [.ref 1, .int (nI n)] μ P := by
  have hM := tMn_le hk
  have g := hL.gl n hn
  dsimp only at g
  have b := tNu_gn hk (tOw_lt hn)
  unfold isGn at b
  have hln := hk.ln
  unfold tGw tWd at h
  refine vc_193 ?_
  rcases b with b | b
  · have g2 := hT.2.2.2.2.2.1 (tNu T (tOw T n)) b
    rw [if_neg (by omega)] at h
    simp (disch := first | omega | decide) only [g, g2, show n < 50 by omega, show tNu T (tOw T n) < 200 by omega, nE_l, nE_r, nE_n, nLe_l, nLe_r, nLe_n, nLt_l, nLt_r, nLt_n, nA_l, nA_r, nI_add, nS_l, nS_n, nIn, nI_clamp, gI_I, gI_J, gI_D, gJ_J, gJ_I, gJ_D, true_and, and_true, false_and, and_false, if_true, if_false, false_implies, true_implies, not_true_eq_false, not_false_eq_true, bI_0, bI_1, Nat.reduceEqDiff, eq_self, nMax, nMin]
    exact h
  · have g2 := hT.2.2.2.2.2.2.2.2 (tNu T (tOw T n) - 200) (by omega)
    rw [if_pos (by omega)] at h
    simp (disch := first | omega | decide) only [g, g2, show n < 50 by omega, show ¬ tNu T (tOw T n) < 200 by omega, show tNu T (tOw T n) - 200 < 20 by omega, nE_l, nE_r, nE_n, nLe_l, nLe_r, nLe_n, nLt_l, nLt_r, nLt_n, nA_l, nA_r, nI_add, nS_l, nS_n, nIn, nI_clamp, gI_I, gI_J, gI_D, gJ_J, gJ_I, gJ_D, true_and, and_true, false_and, and_false, if_true, if_false, false_implies, true_implies, not_true_eq_false, not_false_eq_true, bI_0, bI_1, Nat.reduceEqDiff, eq_self, nMax, nMin]
    exact h
theorem s_194 {T : gS} {i j : Nat} {μ : gMu} {P : gMu → gRes → Prop} (hk : gOk T) (hT : mTx T μ) (hL : mLay T μ) (hij : i < j) (hj : j ≤ (tXx T).P) (h : P μ (.inl (some (.int (nI (xN (tXx T) i j)))))) : gCl' 194 [.ref 1, .int (nI i), .int (nI j)] μ P := by
  have hM := tMn_le hk
  have hP := (tXx_ok hk).P
  have hG := (tXx_ok hk).G
  have pi := mPt_ok hk (show i ≤ (tXx T).P by omega)
  have gi := hL.pt i (by omega)
  have la := mLa_ok hk hij hj
  have pj := mPt_ok hk hj
  have hx : xN (tXx T) i j = tPs (tGw T) (gc T (mLa T i j)) - tPs (tGw T) (gc T (mPtT T i)) := by
    rw [la.2.2, pi.2.1]
    rfl
  rw [hx] at h
  have loop : ∀ r k, k + r = mLa T i j → mPtT T i ≤ k → gWp none 194 (10, [some (.ref 1), some (.int (nI i)), some (.int (nI j)), some (.int (nI (tPs (tGw T) (gc T k) - tPs (tGw T) (gc T (mPtT T i))))), some (.int (nI k))], [], μ) 0 P := by
    intro r
    induction r with
    | zero =>
      intro k hr hk1
      have hkM : k = mLa T i j := by omega
      refine vc_194_10 (s_192 hk hL hij hj ⟨_, rfl, ?_⟩)
      rw [hkM]
      simp (disch := first | omega | decide) only [Nat.le_refl, nE_l, nE_r, nE_n, nLe_l, nLe_r, nLe_n, nLt_l, nLt_r, nLt_n, nA_l, nA_r, nI_add, nS_l, nS_n, nIn, nI_clamp, gI_I, gI_J, gI_D, gJ_J, gJ_I, gJ_D, true_and, and_true, false_and, and_false, if_true, if_false, false_implies, true_implies, not_true_eq_false, not_false_eq_true, bI_0, bI_1, Nat.reduceEqDiff, eq_self, nMax, nMin]
      exact h
    | succ r ih =>
      intro k hr hk1
      have hkM : k < tMn T := by omega
      have z := ih (k + 1) (by omega) (by omega)
      have hw := wid_slot hkM
      have hmo := tPs_mono (f := tGw T) (gc_mono T hk1)
      have g := hL.gs k hkM
      dsimp only at g
      have hgl := (gsT_ok (tOw_lt hkM)).1
      refine vc_194_10 (s_192 hk hL hij hj ⟨_, rfl, ?_⟩)
      simp (disch := first | omega | decide) only [g, show ¬ mLa T i j ≤ k by omega, show k < 50 by omega, nE_l, nE_r, nE_n, nLe_l, nLe_r, nLe_n, nLt_l, nLt_r, nLt_n, nA_l, nA_r, nI_add, nS_l, nS_n, nIn, nI_clamp, gI_I, gI_J, gI_D, gJ_J, gJ_I, gJ_D, true_and, and_true, false_and, and_false, if_true, if_false, false_implies, true_implies, not_true_eq_false, not_false_eq_true, bI_0, bI_1, Nat.reduceEqDiff, eq_self, nMax, nMin]
      refine ⟨fun q => ?_, fun q => ?_⟩
      · rw [if_neg q] at hw
        rw [hw, Nat.add_zero] at z
        rw [Nat.add_zero]
        exact z
      · rw [if_pos q] at hw
        rw [hw] at z
        refine s_193 hk hT hL hkM ⟨_, rfl, ?_⟩
        rw [nI_add, show tPs (tGw T) (gc T k) - tPs (tGw T) (gc T (mPtT T i)) + tGw T (tOw T k) = tPs (tGw T) (gc T k) + tGw T (tOw T k) - tPs (tGw T) (gc T (mPtT T i)) by omega]
        exact z
  refine vc_194 ?_
  simp (disch := first | omega | decide) only [gi, show i < 51 by omega, nE_l, nE_r, nE_n, nLe_l, nLe_r, nLe_n, nLt_l, nLt_r, nLt_n, nA_l, nA_r, nI_add, nS_l, nS_n, nIn, nI_clamp, gI_I, gI_J, gI_D, gJ_J, gJ_I, gJ_D, true_and, and_true, false_and, and_false, if_true, if_false, false_implies, true_implies, not_true_eq_false, not_false_eq_true, bI_0, bI_1, Nat.reduceEqDiff, eq_self, nMax, nMin]
  have z := loop (mLa T i j - mPtT T i) (mPtT T i) (by omega) (Nat.le_refl _)
  rw [Nat.sub_self] at z
  exact z
theorem s_195 {T : gS} {i j : Nat} {μ : gMu} {P : gMu → gRes → Prop} (hk : gOk T) (hL : mLay T μ) (hij : i < j) (hj : j ≤ (tXx T).P) (h : P μ (.inl (some (.int (nI (xK (tXx T) i j)))))) : gCl' 195 [.ref 1, .int (nI i), .int (nI j)] μ P := by
  have hM := tMn_le hk
  have hP := (tXx_ok hk).P
  have hG := (tXx_ok hk).G
  have pi := mPt_ok hk (show i ≤ (tXx T).P by omega)
  have gi := hL.pt i (by omega)
  have la := mLa_ok hk hij hj
  have pj := mPt_ok hk hj
  have hx : xK (tXx T) i j = tPs (fun g => spN (tNu T g)) (gc T (mLa T i j)) - tPs (fun g => spN (tNu T g)) (gc T (mPtT T i)) := by
    rw [la.2.2, pi.2.1]
    rfl
  rw [hx] at h
  have loop : ∀ r k, k + r = mLa T i j → mPtT T i ≤ k → gWp none 195 (10, [some (.ref 1), some (.int (nI i)), some (.int (nI j)), some (.int (nI (tPs (fun g => spN (tNu T g)) (gc T k) - tPs (fun g => spN (tNu T g)) (gc T (mPtT T i))))), some (.int (nI k))], [], μ) 0 P := by
    intro r
    induction r with
    | zero =>
      intro k hr hk1
      have hkM : k = mLa T i j := by omega
      refine vc_195_10 (s_192 hk hL hij hj ⟨_, rfl, ?_⟩)
      rw [hkM]
      simp (disch := first | omega | decide) only [Nat.le_refl, nE_l, nE_r, nE_n, nLe_l, nLe_r, nLe_n, nLt_l, nLt_r, nLt_n, nA_l, nA_r, nI_add, nS_l, nS_n, nIn, nI_clamp, gI_I, gI_J, gI_D, gJ_J, gJ_I, gJ_D, true_and, and_true, false_and, and_false, if_true, if_false, false_implies, true_implies, not_true_eq_false, not_false_eq_true, bI_0, bI_1, Nat.reduceEqDiff, eq_self, nMax, nMin]
      exact h
    | succ r ih =>
      intro k hr hk1
      have hkM : k < tMn T := by omega
      have z := ih (k + 1) (by omega) (by omega)
      have hw := spc_slot hk hkM
      have hmo := tPs_mono (f := fun g => spN (tNu T g)) (gc_mono T hk1)
      have g := hL.sg k hkM
      have b := tSg_lt hk hkM
      refine vc_195_10 (s_192 hk hL hij hj ⟨_, rfl, ?_⟩)
      simp (disch := first | omega | decide) only [g, show ¬ mLa T i j ≤ k by omega, show k < 50 by omega, nE_l, nE_r, nE_n, nLe_l, nLe_r, nLe_n, nLt_l, nLt_r, nLt_n, nA_l, nA_r, nI_add, nS_l, nS_n, nIn, nI_clamp, gI_I, gI_J, gI_D, gJ_J, gJ_I, gJ_D, true_and, and_true, false_and, and_false, if_true, if_false, false_implies, true_implies, not_true_eq_false, not_false_eq_true, bI_0, bI_1, Nat.reduceEqDiff, eq_self, nMax, nMin]
      refine ⟨fun q => ?_, fun q => ?_⟩
      · rw [if_neg q] at hw
        rw [hw, Nat.add_zero] at z
        rw [Nat.add_zero]
        exact z
      · rw [if_pos q] at hw
        rw [hw] at z
        rw [show tPs (fun g => spN (tNu T g)) (gc T k) - tPs (fun g => spN (tNu T g)) (gc T (mPtT T i)) + 1 = tPs (fun g => spN (tNu T g)) (gc T k) + 1 - tPs (fun g => spN (tNu T g)) (gc T (mPtT T i)) by omega]
        exact z
  refine vc_195 ?_
  simp (disch := first | omega | decide) only [gi, show i < 51 by omega, nE_l, nE_r, nE_n, nLe_l, nLe_r, nLe_n, nLt_l, nLt_r, nLt_n, nA_l, nA_r, nI_add, nS_l, nS_n, nIn, nI_clamp, gI_I, gI_J, gI_D, gJ_J, gJ_I, gJ_D, true_and, and_true, false_and, and_false, if_true, if_false, false_implies, true_implies, not_true_eq_false, not_false_eq_true, bI_0, bI_1, Nat.reduceEqDiff, eq_self, nMax, nMin]
  have z := loop (mLa T i j - mPtT T i) (mPtT T i) (by omega) (Nat.le_refl _)
  rw [Nat.sub_self] at z
  exact z
theorem s_196 {T : gS} {i j : Nat} {μ : gMu} {P : gMu → gRes → Prop} (hk : gOk T) (hT : mTx T μ) (hL : mLay T μ) (hij : i < j) (hj : j ≤ (tXx T).P) (h : P μ (.inl (some (.int (bI (xQ (tXx T) i j)))))) : gCl' 196 [.ref 1, .int (nI i), .int (nI j)] μ P := by
  refine vc_196 (s_194 hk hT hL hij hj ⟨_, rfl, s_195 hk hL hij hj ⟨_, rfl, ?_⟩⟩)
  have hX := tXx_ok hk
  have g1 := xN_le hX hij hj
  have g2 := xK_le hX hij hj
  have g3 := hk.W
  unfold xQ at h
  have hW : (tXx T).W = T.W := rfl
  rw [hW] at h
  rw [hT.2.2.1, dZ_ltn (by omega) (by omega) (by omega)]
  refine ⟨fun h1 => ?_, fun h1 => ?_⟩
  · rw [decide_eq_false (by omega)] at h; exact h
  · rw [decide_eq_true (by omega)] at h; exact h
theorem s_197 {T : gS} {μ : gMu} {P : gMu → gRes → Prop} (hk : gOk T) (hT : mTx T μ) (hL : mLay T μ) (h : P μ (.inl (some (.int (nO (tTwT T)))))) : gCl' 197 [.ref 1] μ P := by
  have hP := (tXx_ok hk).P
  have hG := (tXx_ok hk).G
  have hp := hL.P
  have i10 : ((1 : Int32) = 0) = False := eq_false (by decide)
  have loop : ∀ r i, i + r = (tXx T).P → P μ (.inl (some (.int (nO (if tBlT T = true then 0 else tTw (xQ (tXx T)) r i))))) → gWp none 197 (2, [some (.ref 1), some (.int (nI i))], [], μ) 0 P := by
    intro r
    induction r with
    | zero =>
      intro i hr hq
      have hq : P μ (.inl (some (.int (nO (if tBlT T = true then 0 else 0))))) := hq
      rw [ite_self] at hq
      refine vc_197_2 ?_
      rw [hp]
      simp (disch := first | omega | decide) only [show (tXx T).P ≤ i by omega, nE_l, nE_r, nE_n, nLe_l, nLe_r, nLe_n, nLt_l, nLt_r, nLt_n, nA_l, nA_r, nI_add, nS_l, nS_n, nIn, nI_clamp, gI_I, gI_J, gI_D, gJ_J, gJ_I, gJ_D, true_and, and_true, false_and, and_false, if_true, if_false, false_implies, true_implies, not_true_eq_false, not_false_eq_true, bI_0, bI_1, Nat.reduceEqDiff, eq_self, nMax, nMin]
      exact hq
    | succ r ih =>
      intro i hr hq
      unfold tTw at hq
      refine vc_197_2 ?_
      rw [hp]
      simp (disch := first | omega | decide) only [show ¬ (tXx T).P ≤ i by omega, nE_l, nE_r, nE_n, nLe_l, nLe_r, nLe_n, nLt_l, nLt_r, nLt_n, nA_l, nA_r, nI_add, nS_l, nS_n, nIn, nI_clamp, gI_I, gI_J, gI_D, gJ_J, gJ_I, gJ_D, true_and, and_true, false_and, and_false, if_true, if_false, false_implies, true_implies, not_true_eq_false, not_false_eq_true, bI_0, bI_1, Nat.reduceEqDiff, eq_self, nMax, nMin]
      refine s_191 hk hL ⟨_, rfl, ?_⟩
      rw [bI_0]
      refine ⟨fun q => ?_, fun q => s_196 hk hT hL (by omega) (by omega) ⟨_, rfl, ?_⟩⟩
      · rw [if_pos (by simpa using q)] at hq; exact hq
      · have q' : ¬ tBlT T = true := by simpa using q
        simp only [if_neg q'] at hq ih
        rw [bI_0]
        refine ⟨fun q2 => ?_, fun q2 => ?_⟩
        · rw [if_pos (by simpa using q2)] at hq
          exact ih (i + 1) (by omega) hq
        · rw [if_neg (by rw [q2]; decide)] at hq
          exact hq
  exact vc_197 (loop (tXx T).P 0 (by omega) h)
end
