/-! THE MODEL: badness, demerits and how lines are laid -/
section
theorem cub8 : ∀ k, k < 51 → 2 * k * (2 * k) * (2 * k) = 8 * k * k * k := by decide
theorem cubI (d : Nat) : (100 : Int32) * nI d * nI d * nI d = nI (100 * d * d * d) := by
  rw [show (100 : Int32) = nI 100 from rfl, iMul, iMul, iMul]
theorem cubJ (d : Nat) : (8 : Int32) * nI d * nI d * nI d = nI (8 * d * d * d) := by
  rw [show (8 : Int32) = nI 8 from rfl, iMul, iMul, iMul]
theorem cubK (d : Nat) : nI d * nI d * nI d = nI (d * d * d) := by
  rw [iMul, iMul]
theorem cubN (d : Nat) : (-100 : Int32) * -nI d * -nI d * -nI d = nI (100 * d * d * d) := by
  rw [← cubI]
  simp only [Int32.neg_mul, Int32.mul_neg, Int32.neg_neg]
theorem s_200 {T : gS} {i j : Nat} {μ : gMu} {P : gMu → gRes → Prop} (hk : gOk T) (hT : mTx T μ) (hL : mLay T μ) (hij : i < j) (hj : j ≤ (tXx T).P) (hq : xQ (tXx T) i j = true) (h : P μ (.inl (some (.int (nI (xB (tXx T) i j)))))) : gCl' 200 [.ref 1, .int (nI i), .int (nI j)] μ P := by
  refine vc_200 (s_194 hk hT hL hij hj ⟨_, rfl, s_195 hk hL hij hj ⟨_, rfl, ?_⟩⟩)
  have hX := tXx_ok hk
  have g1 := xN_le hX hij hj
  have g2 := xK_le hX hij hj
  have g3 := hk.W
  have g4 := hX.P
  have g5 := hX.G
  have hp := hL.P
  have hW : (tXx T).W = T.W := rfl
  unfold xQ at hq
  rw [hW, decide_eq_true_eq] at hq
  unfold xB at h
  rw [hW] at h
  rw [hT.2.2.1]
  generalize xN (tXx T) i j = n at h g1 hq ⊢
  generalize xK (tXx T) i j = k at h g2 hq ⊢
  generalize (tXx T).P = Pn at h hp hj g4 ⊢
  generalize T.W = W at h g3 hq ⊢
  unfold bdN at h
  rcases Nat.lt_trichotomy n W with hlt | heq | hgt
  · rw [if_neg (by omega), if_pos hlt] at h
    rw [nS_n (Nat.le_of_lt hlt)]
    have hd0 : 0 < W - n := by omega
    have hd1 : W - n ≤ 200 := by omega
    generalize W - n = d at h hd0 hd1 ⊢
    have hA : 100 * d * d * d ≤ 100 * 200 * 200 * 200 := Nat.mul_le_mul (Nat.mul_le_mul (Nat.mul_le_mul_left 100 hd1) hd1) hd1
    rw [cubI, cubJ]
    rw [cub8 k (by omega)] at h
    generalize 100 * d * d * d = A at h hA ⊢
    by_cases k0 : k = 0
    · rw [if_pos k0] at h
      simp (disch := first | omega | decide) only [hp, k0, show ¬ d = 0 by omega, show ¬ d ≤ 0 by omega, nE_l, nE_r, nE_n, nLe_l, nLe_r, nLe_n, nLt_l, nLt_r, nLt_n, nA_l, nA_r, nI_add, nS_l, nS_n, nIn, nI_clamp, gI_I, gI_J, gI_D, gJ_J, gJ_I, gJ_D, true_and, and_true, false_and, and_false, if_true, if_false, false_implies, true_implies, not_true_eq_false, not_false_eq_true, bI_0, bI_1, Nat.reduceEqDiff, eq_self, nMax, nMin]
      refine ⟨fun q => ?_, fun q => ?_⟩
      · rw [if_neg (by simpa using q)] at h; exact h
      · rw [if_pos (by simpa using q)] at h; exact h
    · have hU0 : 0 < 8 * k * k * k := Nat.mul_pos (Nat.mul_pos (Nat.mul_pos (by decide) (by omega)) (by omega)) (by omega)
      have hU1 : 8 * k * k * k ≤ 8 * 50 * 50 * 50 := Nat.mul_le_mul (Nat.mul_le_mul (Nat.mul_le_mul_left 8 g2) g2) g2
      rw [if_neg k0] at h
      generalize 8 * k * k * k = U at h hU0 hU1 ⊢
      have hdv := Nat.div_le_self A U
      rw [iDiv (by omega) hU0 (by omega)]
      simp (disch := first | omega | decide) only [hp, k0, show ¬ d = 0 by omega, show ¬ d ≤ 0 by omega, show ¬ U = 0 by omega, nE_l, nE_r, nE_n, nLe_l, nLe_r, nLe_n, nLt_l, nLt_r, nLt_n, nA_l, nA_r, nI_add, nS_l, nS_n, nIn, nI_clamp, gI_I, gI_J, gI_D, gJ_J, gJ_I, gJ_D, true_and, and_true, false_and, and_false, if_true, if_false, false_implies, true_implies, not_true_eq_false, not_false_eq_true, bI_0, bI_1, Nat.reduceEqDiff, eq_self, nMax, nMin]
      refine ⟨fun q => ?_, fun q => ?_⟩
      · rw [if_neg (by simpa using q)] at h
        unfold capN at h
        by_cases c : A / U < 10000
        · rw [if_pos c]
          rw [if_neg (by omega)] at h
          exact h
        · rw [if_neg c]
          by_cases c2 : 10000 < A / U
          · rw [if_pos c2] at h
            exact h
          · rw [if_neg c2, show A / U = 10000 by omega] at h
            exact h
      · rw [if_pos (by simpa using q)] at h; exact h
  · rw [if_pos heq] at h
    refine ⟨fun _ => h, fun hn => absurd ?_ hn⟩
    rw [dZ_eq (by omega) (by omega)]
    exact heq.symm
  · rw [if_neg (by omega), if_neg (by omega), if_neg (by omega)] at h
    rw [dZ_neg (by omega) (by omega) (Nat.le_of_lt hgt)]
    have hd0 : 0 < n - W := by omega
    have hd1 : n - W ≤ k := by omega
    generalize n - W = d at h hd0 hd1 ⊢
    have hA : 100 * d * d * d ≤ 100 * k * k * k := Nat.mul_le_mul (Nat.mul_le_mul (Nat.mul_le_mul_left 100 hd1) hd1) hd1
    have hU0 : 0 < k * k * k := Nat.mul_pos (Nat.mul_pos (by omega) (by omega)) (by omega)
    have hU1 : k * k * k ≤ 50 * 50 * 50 := Nat.mul_le_mul (Nat.mul_le_mul g2 g2) g2
    rw [show 100 * k * k * k = 100 * (k * k * k) by rw [Nat.mul_assoc, Nat.mul_assoc, Nat.mul_assoc]] at hA
    rw [cubN, cubK]
    generalize 100 * d * d * d = A at h hA ⊢
    generalize k * k * k = U at h hU0 hU1 hA ⊢
    have hdv : A / U ≤ 100 := Nat.div_le_of_le_mul (by rw [Nat.mul_comm]; exact hA)
    rw [iDiv (by omega) hU0 (by omega)]
    unfold capN at h
    rw [if_neg (by omega)] at h
    simp (disch := first | omega | decide) only [hp, nZ_eq hd0 (by omega), nZ_le (show d < 2 ^ 30 by omega), show ¬ k = 0 by omega, show ¬ U = 0 by omega, nE_l, nE_r, nE_n, nLe_l, nLe_r, nLe_n, nLt_l, nLt_r, nLt_n, nA_l, nA_r, nI_add, nS_l, nS_n, nIn, nI_clamp, gI_I, gI_J, gI_D, gJ_J, gJ_I, gJ_D, true_and, and_true, false_and, and_false, if_true, if_false, false_implies, true_implies, not_true_eq_false, not_false_eq_true, bI_0, bI_1, Nat.reduceEqDiff, eq_self, nMax, nMin]
    exact h
theorem s_201 {T : gS} {j : Nat} {μ : gMu} {P : gMu → gRes → Prop} (hk : gOk T) (hL : mLay T μ) (hj : j ≤ (tXx T).P) (h : P μ (.inl (some (.int (bI (xH (tXx T) j)))))) : gCl' 201 [.ref 1, .int (nI j)] μ P := by
  have hM := tMn_le hk
  have hP := (tXx_ok hk).P
  have hG := (tXx_ok hk).G
  have pj := mPt_ok hk hj
  have gj := hL.pt j (by omega)
  rw [hy_slot hk hj] at h
  refine vc_201 ?_
  by_cases c : 0 < mPtT T j
  · have g := hL.sg (mPtT T j - 1) (by omega)
    have b := tSg_lt hk (show mPtT T j - 1 < tMn T by omega)
    rw [decide_eq_true c, Bool.true_and] at h
    simp (disch := first | omega | decide) only [gj, g, show j < 51 by omega, show ¬ mPtT T j ≤ 0 by omega, show mPtT T j - 1 < 50 by omega, nE_l, nE_r, nE_n, nLe_l, nLe_r, nLe_n, nLt_l, nLt_r, nLt_n, nA_l, nA_r, nI_add, nS_l, nS_n, nIn, nI_clamp, gI_I, gI_J, gI_D, gJ_J, gJ_I, gJ_D, true_and, and_true, false_and, and_false, if_true, if_false, false_implies, true_implies, not_true_eq_false, not_false_eq_true, bI_0, bI_1, Nat.reduceEqDiff, eq_self, nMax, nMin]
    refine ⟨fun q => ?_, fun q => ?_⟩
    · rw [show (tSg T (mPtT T j - 1) == 45) = false by simpa using q] at h; exact h
    · rw [show (tSg T (mPtT T j - 1) == 45) = true by simpa using q] at h; exact h
  · rw [decide_eq_false c, Bool.false_and] at h
    simp (disch := first | omega | decide) only [gj, show j < 51 by omega, show mPtT T j ≤ 0 by omega, nE_l, nE_r, nE_n, nLe_l, nLe_r, nLe_n, nLt_l, nLt_r, nLt_n, nA_l, nA_r, nI_add, nS_l, nS_n, nIn, nI_clamp, gI_I, gI_J, gI_D, gJ_J, gJ_I, gJ_D, true_and, and_true, false_and, and_false, if_true, if_false, false_implies, true_implies, not_true_eq_false, not_false_eq_true, bI_0, bI_1, Nat.reduceEqDiff, eq_self, nMax, nMin]
    exact h
theorem s_202 {T : gS} {i j : Nat} {μ : gMu} {P : gMu → gRes → Prop} (hk : gOk T) (hT : mTx T μ) (hL : mLay T μ) (hij : i < j) (hj : j ≤ (tXx T).P) (hq : xQ (tXx T) i j = true) (h : P μ (.inl (some (.long (lN (xD (tXx T) i j)))))) : gCl' 202 [.ref 1, .int (nI i), .int (nI j)] μ P := by
  refine vc_202 (s_200 hk hT hL hij hj hq ⟨_, rfl, ?_⟩)
  have g1 := xB_le (tXx T) i j
  have hP := (tXx_ok hk).P
  have hG := (tXx_ok hk).G
  have hp := hL.P
  rw [l1b g1, hp]
  unfold xD at h
  simp (disch := first | omega | decide) only [nE_l, nE_r, nE_n, nLe_l, nLe_r, nLe_n, nLt_l, nLt_r, nLt_n, nA_l, nA_r, nI_add, nS_l, nS_n, nIn, nI_clamp, gI_I, gI_J, gI_D, gJ_J, gJ_I, gJ_D, true_and, and_true, false_and, and_false, if_true, if_false, false_implies, true_implies, not_true_eq_false, not_false_eq_true, bI_0, bI_1, Nat.reduceEqDiff, eq_self, nMax, nMin]
  refine ⟨fun h1 => ?_, fun h1 => s_201 hk hL hj ⟨_, rfl, ?_⟩⟩
  · rw [if_neg (fun q => by omega)] at h
    exact h
  · rw [bI_0]
    refine ⟨fun h2 => ?_, fun h2 => s_201 hk hL (by omega) ⟨_, rfl, ?_⟩⟩
    · rw [if_neg (fun q => by rw [h2] at q; cases q.2)] at h
      exact h
    · rw [Bool.not_eq_false] at h2
      rw [if_pos ⟨by omega, h2⟩] at h
      rw [bI_0]
      refine ⟨fun h3 => ?_, fun h3 => ?_⟩
      · rw [if_neg (by rw [h3]; decide)] at h
        rw [show (2500 : Int64) = lN 2500 from rfl, lN_add]
        exact h
      · rw [Bool.not_eq_false] at h3
        rw [if_pos h3] at h
        rw [show (5500 : Int64) = lN 5500 from rfl, lN_add]
        exact h
/-! the tables of the best lines -/
theorem lL_lt {x y : Nat} (h : x < 2 ^ 61) (h' : y < 2 ^ 61) : (lg_cmp (lN x) (lN y) < 0) = (x < y) := by
  have := lO_lt (x := x + 1) (y := y + 1) (by omega) (by omega)
  rw [lO_pos (by omega), lO_pos (by omega), Nat.add_sub_cancel, Nat.add_sub_cancel] at this
  rw [this]
  exact propext ⟨fun q => by omega, fun q => by omega⟩
theorem lL_eq {x y : Nat} (h : x < 2 ^ 61) (h' : y < 2 ^ 61) : (lg_cmp (lN x) (lN y) = 0) = (x = y) := by
  have := lO_eq (x := x + 1) (y := y + 1) (by omega) (by omega)
  rw [lO_pos (by omega), lO_pos (by omega), Nat.add_sub_cancel, Nat.add_sub_cancel] at this
  rw [this]
  exact propext ⟨fun q => by omega, fun q => by omega⟩
theorem mT_bd {Q : Nat → Nat → Bool} {D : Nat → Nat → Nat} {P : Nat} (hq : ∀ i, i < P → Q i (i + 1) = true) (hD : ∀ i j, D i j ≤ 200000000) : ∀ d, d ≤ P → ∀ i, P - d ≤ i → i ≤ P → (mT Q D P d).2.1 i ≤ 200000000 * (P - i) ∧ (mT Q D P d).2.2 i ≤ P - i ∧ (i < P → i < (mT Q D P d).1 i ∧ (mT Q D P d).1 i ≤ P)
  | 0, _, i, h1, h2 => ⟨Nat.zero_le _, Nat.zero_le _, fun h => by omega⟩
  | d + 1, hd, i, h1, h2 => by
    have ih := mT_bd hq hD d (by omega)
    have e1 : (mT Q D P (d + 1)).1 = upN (mT Q D P d).1 (P - (d + 1)) (mJ Q D (mT Q D P d).2.1 (mT Q D P d).2.2 (P - (d + 1)) (d + 1)).1 := rfl
    have e2 : (mT Q D P (d + 1)).2.1 = upN (mT Q D P d).2.1 (P - (d + 1)) (mJ Q D (mT Q D P d).2.1 (mT Q D P d).2.2 (P - (d + 1)) (d + 1)).2.1 := rfl
    have e3 : (mT Q D P (d + 1)).2.2 = upN (mT Q D P d).2.2 (P - (d + 1)) (mJ Q D (mT Q D P d).2.1 (mT Q D P d).2.2 (P - (d + 1)) (d + 1)).2.2 := rfl
    rw [e1, e2, e3]
    by_cases c : i = P - (d + 1)
    · rw [c, upN_eq, upN_eq, upN_eq]
      rcases mJ_ok Q D (mT Q D P d).2.1 (mT Q D P d).2.2 (P - (d + 1)) (d + 1) with ⟨-, z⟩ | ⟨z1, z2, z3, z4, z5, -⟩
      · have := z (P - (d + 1) + 1) (by omega) (by omega)
        rw [hq _ (by omega)] at this
        cases this
      · have := ih (mJ Q D (mT Q D P d).2.1 (mT Q D P d).2.2 (P - (d + 1)) (d + 1)).1 (by omega) (by omega)
        have h4 := hD (P - (d + 1)) (mJ Q D (mT Q D P d).2.1 (mT Q D P d).2.2 (P - (d + 1)) (d + 1)).1
        rw [z4, z5]
        exact ⟨by omega, by omega, fun _ => ⟨z1, by omega⟩⟩
    · rw [upN_ne c, upN_ne c, upN_ne c]
      exact ih i (by omega) h2
def mLn (T : gS) (μ : gMu) : Prop := tBlT T = false → (∀ i, i ≤ (tXx T).P → gJ μ 59 i = lN (kL (tXx T) i)) ∧ gAr μ 60 ((tXx T).P + 1) (kK (tXx T)) ∧ gAr μ 61 (tXx T).P (kN (tXx T))
theorem mLn.gf {A F : List Nat} {T : gS} {μ μ' : gMu} (h : mLn T μ) (hs : mF A F μ μ') (h1 : 59 ∉ A) (h2 : 60 ∉ A) (h3 : 61 ∉ A) : mLn T μ' := fun hb => by
  obtain ⟨a, b, c⟩ := h hb
  exact ⟨fun i hi => by rw [hs.J h1 (by decide), a i hi], b.gf hs h2 (by decide), c.gf hs h3 (by decide)⟩
theorem tXx_q0 {T : gS} (h0 : tTwT T = 0) (hb : tBlT T = false) : ∀ i, i < (tXx T).P → xQ (tXx T) i (i + 1) = true := tXx_q (by unfold tAc; rw [h0, hb]; rfl)
theorem s_203 {T : gS} {μ : gMu} {P : gMu → gRes → Prop} (hk : gOk T) (hT : mTx T μ) (hL : mLay T μ) (h0 : tTwT T = 0) (h : ∀ μ', mF [59, 60, 61] [] μ μ' → mLn T μ' → P μ' (.inl none)) : gCl' 203 [.ref 1] μ P := by
  refine vc_203 (s_191 hk hL ⟨_, rfl, ?_⟩)
  rw [bI_0]
  have hX := tXx_ok hk
  have g4 := hX.P
  have g5 := hX.G
  refine ⟨fun q => ⟨vp_in_nI (n := 0) (by decide) (by decide), vp_in_nI (n := 0) (by decide) (by decide), ?_⟩, fun q => ?_⟩
  · have hb : tBlT T = true := by simpa using q
    rw [sb_cl0]
    refine vc_203_34 ⟨fun _ => ?_, fun z => absurd (by decide) z⟩
    exact h _ (((mF.rf _ _ μ).j 59 0 _ (by decide)).i 60 0 _ (by decide) (by decide)) (fun z => by rw [hb] at z; cases z)
  · have hb : tBlT T = false := by simpa using q
    have hq := tXx_q0 h0 hb
    have hD := xD_le (tXx T)
    have hp := hL.P
    generalize hQ : xQ (tXx T) = Q at hq
    generalize hDD : xD (tXx T) = D at hD
    have kNe : kN (tXx T) = (mT Q D (tXx T).P (tXx T).P).1 := by rw [← hQ, ← hDD]; rfl
    have kLe : kL (tXx T) = (mT Q D (tXx T).P (tXx T).P).2.1 := by rw [← hQ, ← hDD]; rfl
    have kKe : kK (tXx T) = (mT Q D (tXx T).P (tXx T).P).2.2 := by rw [← hQ, ← hDD]; rfl
    unfold mLn at h
    rw [kNe, kLe, kKe] at h
    have bd := mT_bd (P := (tXx T).P) hq hD
    have qE : ∀ i j, xQ (tXx T) i j = Q i j := fun i j => by rw [hQ]
    have dE : ∀ i j, xD (tXx T) i j = D i j := fun i j => by rw [hDD]
    rw [hp]
    generalize hPn : (tXx T).P = Pn at h bd hp g4 hq ⊢
    have tail : ∀ n d μ', n + d = Pn → mF [59, 60, 61] [] μ μ' → (∀ i, Pn - d ≤ i → i ≤ Pn → gJ μ' 59 i = lN ((mT Q D Pn d).2.1 i) ∧ gI μ' 60 i = nI ((mT Q D Pn d).2.2 i) ∧ (i < Pn → gI μ' 61 i = nI ((mT Q D Pn d).1 i))) → gWp none 203 (34, [some (.ref 1), some (.int (nI Pn)), some (.int (nI (Pn - d) - 1)), none, none, none, none], [], μ') 0 P := by
      intro n
      induction n with
      | zero =>
        intro d μ' hd hs hi
        have : d = Pn := by omega
        subst this
        refine vc_203_34 ?_
        rw [Nat.sub_self]
        refine ⟨fun _ => h μ' hs (fun _ => ⟨fun i hi2 => (hi i (by omega) hi2).1, fun i hi2 => (hi i (by omega) (by omega)).2.1, fun i hi2 => (hi i (by omega) (by omega)).2.2 hi2⟩), fun z => absurd (by decide) z⟩
      | succ n ih =>
        intro d μ' hd hs hi
        have hiN : Pn - d - 1 = n := by omega
        have bdd := bd d (by omega)
        have L' : mLay T μ' := hL.gf hs (by decide) (by decide) (by decide) (by decide) (by decide)
        have T' : mTx T μ' := hT.m hs (by decide) (by decide)
        refine vc_203_34 ?_
        simp (disch := first | omega | decide) only [hiN, show n < 51 by omega, nE_l, nE_r, nE_n, nLe_l, nLe_r, nLe_n, nLt_l, nLt_r, nLt_n, nA_l, nA_r, nI_add, nS_l, nS_n, nIn, nI_clamp, gI_I, gI_J, gI_D, gJ_J, gJ_I, gJ_D, true_and, and_true, false_and, and_false, if_true, if_false, false_implies, true_implies, not_true_eq_false, not_false_eq_true, bI_0, bI_1, Nat.reduceEqDiff, eq_self, nMax, nMin]
        have eP : Pn - (d + 1) = n := by omega
        have inner : ∀ r m μ'', m + r = d + 1 → mF [59, 60, 61] [] μ μ'' → (∀ i, Pn - d ≤ i → i ≤ Pn → gJ μ'' 59 i = lN ((mT Q D Pn d).2.1 i) ∧ gI μ'' 60 i = nI ((mT Q D Pn d).2.2 i) ∧ (i < Pn → gI μ'' 61 i = nI ((mT Q D Pn d).1 i))) → gI μ'' 61 n = nZ (mJ Q D (mT Q D Pn d).2.1 (mT Q D Pn d).2.2 n m).1 → ((mJ Q D (mT Q D Pn d).2.1 (mT Q D Pn d).2.2 n m).1 ≠ 0 → gJ μ'' 59 n = lN (mJ Q D (mT Q D Pn d).2.1 (mT Q D Pn d).2.2 n m).2.1 ∧ gI μ'' 60 n = nI (mJ Q D (mT Q D Pn d).2.1 (mT Q D Pn d).2.2 n m).2.2) → gWp none 203 (49, [some (.ref 1), some (.int (nI Pn)), some (.int (nI n)), some (.int (nI (n + m + 1))), none, none, none], [], μ'') 0 P := by
          intro r
          induction r with
          | zero =>
            intro m μ'' hm hs2 hi2 h61 hval
            have hmd : m = d + 1 := by omega
            subst hmd
            have hne : (mJ Q D (mT Q D Pn d).2.1 (mT Q D Pn d).2.2 n (d + 1)).1 ≠ 0 := by
              rcases mJ_ok Q D (mT Q D Pn d).2.1 (mT Q D Pn d).2.2 n (d + 1) with ⟨-, z⟩ | ⟨z1, -⟩
              · have := z (n + 1) (by omega) (by omega)
                rw [hq _ (by omega)] at this
                cases this
              · omega
            have hv := hval hne
            refine vc_203_49 ?_
            simp (disch := first | omega | decide) only [show Pn < n + (d + 1) + 1 by omega, nE_l, nE_r, nE_n, nLe_l, nLe_r, nLe_n, nLt_l, nLt_r, nLt_n, nA_l, nA_r, nI_add, nS_l, nS_n, nIn, nI_clamp, gI_I, gI_J, gI_D, gJ_J, gJ_I, gJ_D, true_and, and_true, false_and, and_false, if_true, if_false, false_implies, true_implies, not_true_eq_false, not_false_eq_true, bI_0, bI_1, Nat.reduceEqDiff, eq_self, nMax, nMin]
            have z := ih (d + 1) μ'' (by omega) hs2 (by
              have e1 : (mT Q D Pn (d + 1)).1 = upN (mT Q D Pn d).1 (Pn - (d + 1)) (mJ Q D (mT Q D Pn d).2.1 (mT Q D Pn d).2.2 (Pn - (d + 1)) (d + 1)).1 := rfl
              have e2 : (mT Q D Pn (d + 1)).2.1 = upN (mT Q D Pn d).2.1 (Pn - (d + 1)) (mJ Q D (mT Q D Pn d).2.1 (mT Q D Pn d).2.2 (Pn - (d + 1)) (d + 1)).2.1 := rfl
              have e3 : (mT Q D Pn (d + 1)).2.2 = upN (mT Q D Pn d).2.2 (Pn - (d + 1)) (mJ Q D (mT Q D Pn d).2.1 (mT Q D Pn d).2.2 (Pn - (d + 1)) (d + 1)).2.2 := rfl
              intro i i1 i2
              rw [e1, e2, e3, eP]
              by_cases c : i = n
              · rw [c, upN_eq, upN_eq, upN_eq]
                refine ⟨hv.1, hv.2, fun _ => ?_⟩
                rw [h61]
                exact if_neg hne
              · rw [upN_ne c, upN_ne c, upN_ne c]
                exact hi2 i (by omega) i2)
            rw [eP, ← addm1] at z
            exact gWp_up z (by (repeat (first | exact gUp.nil | refine gUp.cs ?_ | refine gUp.cn ?_)))
          | succ r ihr =>
            intro m μ'' hm hs2 hi2 h61 hval
            have hj := hi2 (n + m + 1) (by omega) (by omega)
            have bj := bdd (n + m + 1) (by omega) (by omega)
            have L2 : mLay T μ'' := hL.gf hs2 (by decide) (by decide) (by decide) (by decide) (by decide)
            have T2 : mTx T μ'' := hT.m hs2 (by decide) (by decide)
            have e : mJ Q D (mT Q D Pn d).2.1 (mT Q D Pn d).2.2 n (m + 1) = if Q n (n + m + 1) = true ∧ ((mJ Q D (mT Q D Pn d).2.1 (mT Q D Pn d).2.2 n m).1 = 0 ∨ D n (n + m + 1) + (mT Q D Pn d).2.1 (n + m + 1) < (mJ Q D (mT Q D Pn d).2.1 (mT Q D Pn d).2.2 n m).2.1 ∨ (D n (n + m + 1) + (mT Q D Pn d).2.1 (n + m + 1) = (mJ Q D (mT Q D Pn d).2.1 (mT Q D Pn d).2.2 n m).2.1 ∧ 1 + (mT Q D Pn d).2.2 (n + m + 1) < (mJ Q D (mT Q D Pn d).2.1 (mT Q D Pn d).2.2 n m).2.2)) then (n + m + 1, D n (n + m + 1) + (mT Q D Pn d).2.1 (n + m + 1), 1 + (mT Q D Pn d).2.2 (n + m + 1)) else mJ Q D (mT Q D Pn d).2.1 (mT Q D Pn d).2.2 n m := rfl
            have jb : (mJ Q D (mT Q D Pn d).2.1 (mT Q D Pn d).2.2 n m).1 ≠ 0 → (mJ Q D (mT Q D Pn d).2.1 (mT Q D Pn d).2.2 n m).1 ≤ Pn ∧ (mJ Q D (mT Q D Pn d).2.1 (mT Q D Pn d).2.2 n m).2.1 ≤ 200000000 * 60 ∧ (mJ Q D (mT Q D Pn d).2.1 (mT Q D Pn d).2.2 n m).2.2 ≤ 60 := by
              intro hne
              rcases mJ_ok Q D (mT Q D Pn d).2.1 (mT Q D Pn d).2.2 n m with ⟨z, -⟩ | ⟨z1, z2, z3, z4, z5, -⟩
              · exact absurd z hne
              · have b1 := bdd (mJ Q D (mT Q D Pn d).2.1 (mT Q D Pn d).2.2 n m).1 (by omega) (by omega)
                have b2 := hD n (mJ Q D (mT Q D Pn d).2.1 (mT Q D Pn d).2.2 n m).1
                rw [z4, z5]
                omega
            have hDj := hD n (n + m + 1)
            have ihz := ihr (m + 1)
            rw [e] at ihz
            generalize mJ Q D (mT Q D Pn d).2.1 (mT Q D Pn d).2.2 n m = p at h61 hval jb ihz
            obtain ⟨p1, p2, p3⟩ := p
            dsimp only at h61 hval jb ihz
            refine vc_203_49 ?_
            simp (disch := first | omega | decide) only [show ¬ Pn < n + m + 1 by omega, nE_l, nE_r, nE_n, nLe_l, nLe_r, nLe_n, nLt_l, nLt_r, nLt_n, nA_l, nA_r, nI_add, nS_l, nS_n, nIn, nI_clamp, gI_I, gI_J, gI_D, gJ_J, gJ_I, gJ_D, true_and, and_true, false_and, and_false, if_true, if_false, false_implies, true_implies, not_true_eq_false, not_false_eq_true, bI_0, bI_1, Nat.reduceEqDiff, eq_self, nMax, nMin]
            refine s_196 hk T2 L2 (by omega) (by omega) ⟨_, rfl, ?_⟩
            rw [bI_0, qE]
            refine ⟨fun q => ?_, fun q => s_202 hk T2 L2 (by omega) (by omega) (by rw [qE]; simpa using q) ⟨_, rfl, ?_⟩⟩
            · rw [if_neg (fun z => by rw [q] at z; cases z.1)] at ihz
              exact gWp_up (ihz μ'' (by omega) hs2 hi2 h61 hval) (by (repeat (first | exact gUp.nil | refine gUp.cs ?_ | refine gUp.cn ?_)))
            · rw [Bool.not_eq_false] at q
              rw [dE, hj.1, lN_add]
              have stay : ¬ (p1 = 0 ∨ D n (n + m + 1) + (mT Q D Pn d).2.1 (n + m + 1) < p2 ∨ (D n (n + m + 1) + (mT Q D Pn d).2.1 (n + m + 1) = p2 ∧ 1 + (mT Q D Pn d).2.2 (n + m + 1) < p3)) → ∀ y z w, gWp none 203 (49, [some (.ref 1), some (.int (nI Pn)), some (.int (nI n)), some (.int (nI (n + m + 1 + 1))), y, z, w], [], μ'') 0 P := by
                intro hc y z w
                rw [if_neg (fun z => hc z.2)] at ihz
                exact gWp_up (ihz μ'' (by omega) hs2 hi2 h61 hval) (by (repeat (first | exact gUp.nil | refine gUp.cs ?_ | refine gUp.cn ?_)))
              have put : (p1 = 0 ∨ D n (n + m + 1) + (mT Q D Pn d).2.1 (n + m + 1) < p2 ∨ (D n (n + m + 1) + (mT Q D Pn d).2.1 (n + m + 1) = p2 ∧ 1 + (mT Q D Pn d).2.2 (n + m + 1) < p3)) → ∀ y z w, gWp none 203 (49, [some (.ref 1), some (.int (nI Pn)), some (.int (nI n)), some (.int (nI (n + m + 1 + 1))), y, z, w], [], gsI (gsJ (gsI μ'' 61 n (nI (n + m + 1))) 59 n (lN (D n (n + m + 1) + (mT Q D Pn d).2.1 (n + m + 1)))) 60 n (nI (1 + (mT Q D Pn d).2.2 (n + m + 1)))) 0 P := by
                intro hc y z w
                rw [if_pos ⟨q, hc⟩] at ihz
                refine gWp_up (ihz _ (by omega) (((hs2.i 61 _ _ (by decide) (by decide)).j 59 _ _ (by decide)).i 60 _ _ (by decide) (by decide)) ?_ ?_ ?_) (by (repeat (first | exact gUp.nil | refine gUp.cs ?_ | refine gUp.cn ?_)))
                · intro i i1 i2
                  have := hi2 i i1 i2
                  have hin : ¬ i = n := by omega
                  simp (disch := first | omega | decide) only [hin, this.1, this.2.1, nE_l, nE_r, nE_n, nLe_l, nLe_r, nLe_n, nLt_l, nLt_r, nLt_n, nA_l, nA_r, nI_add, nS_l, nS_n, nIn, nI_clamp, gI_I, gI_J, gI_D, gJ_J, gJ_I, gJ_D, true_and, and_true, false_and, and_false, if_true, if_false, false_implies, true_implies, not_true_eq_false, not_false_eq_true, bI_0, bI_1, Nat.reduceEqDiff, eq_self, nMax, nMin]
                  exact this.2.2
                · simp (disch := first | omega | decide) only [nE_l, nE_r, nE_n, nLe_l, nLe_r, nLe_n, nLt_l, nLt_r, nLt_n, nA_l, nA_r, nI_add, nS_l, nS_n, nIn, nI_clamp, gI_I, gI_J, gI_D, gJ_J, gJ_I, gJ_D, true_and, and_true, false_and, and_false, if_true, if_false, false_implies, true_implies, not_true_eq_false, not_false_eq_true, bI_0, bI_1, Nat.reduceEqDiff, eq_self, nMax, nMin]
                  exact (if_neg (by omega)).symm
                · intro _
                  simp (disch := first | omega | decide) only [nE_l, nE_r, nE_n, nLe_l, nLe_r, nLe_n, nLt_l, nLt_r, nLt_n, nA_l, nA_r, nI_add, nS_l, nS_n, nIn, nI_clamp, gI_I, gI_J, gI_D, gJ_J, gJ_I, gJ_D, true_and, and_true, false_and, and_false, if_true, if_false, false_implies, true_implies, not_true_eq_false, not_false_eq_true, bI_0, bI_1, Nat.reduceEqDiff, eq_self, nMax, nMin]
              have hk60 := hj.2.1
              simp (disch := first | omega | decide) only [hk60, show n < 51 by omega, show n + m + 1 < 51 by omega, nE_l, nE_r, nE_n, nLe_l, nLe_r, nLe_n, nLt_l, nLt_r, nLt_n, nA_l, nA_r, nI_add, nS_l, nS_n, nIn, nI_clamp, gI_I, gI_J, gI_D, gJ_J, gJ_I, gJ_D, true_and, and_true, false_and, and_false, if_true, if_false, false_implies, true_implies, not_true_eq_false, not_false_eq_true, bI_0, bI_1, Nat.reduceEqDiff, eq_self, nMax, nMin]
              rw [h61]
              by_cases c0 : p1 = 0
              · refine ⟨fun _ => put (Or.inl c0) _ _ _, fun z => absurd (by unfold nZ; rw [if_pos c0]) z⟩
              · have hv := hval c0
                have jb' := jb c0
                refine ⟨fun z => absurd z (by unfold nZ; rw [if_neg c0]; exact nI_nm1 (by omega)), fun _ => ?_⟩
                rw [hv.1, hv.2, lL_lt (by omega) (by omega), lL_eq (by omega) (by omega)]
                simp (disch := first | omega | decide) only [nE_l, nE_r, nE_n, nLe_l, nLe_r, nLe_n, nLt_l, nLt_r, nLt_n, nA_l, nA_r, nI_add, nS_l, nS_n, nIn, nI_clamp, gI_I, gI_J, gI_D, gJ_J, gJ_I, gJ_D, true_and, and_true, false_and, and_false, if_true, if_false, false_implies, true_implies, not_true_eq_false, not_false_eq_true, bI_0, bI_1, Nat.reduceEqDiff, eq_self, nMax, nMin]
                refine ⟨fun c1 => put (Or.inr (Or.inl c1)) _ _ _, fun c1 => ⟨fun c2 => stay ?_ _ _ _, fun c2 => ⟨fun c3 => stay ?_ _ _ _, fun c3 => put (Or.inr (Or.inr ⟨c2, by omega⟩)) _ _ _⟩⟩⟩
                · rintro (z | z | ⟨z, -⟩)
                  · exact c0 z
                  · exact c1 z
                  · exact c2 z
                · rintro (z | z | ⟨-, z⟩)
                  · exact c0 z
                  · exact c1 z
                  · omega
        have z := inner (d + 1) 0 (gsI μ' 61 n (-1)) (by omega) (hs.i 61 _ _ (by decide) (by decide)) (fun i i1 i2 => by
          have := hi i i1 i2
          have hin : ¬ i = n := by omega
          simp (disch := first | omega | decide) only [hin, this.1, this.2.1, nE_l, nE_r, nE_n, nLe_l, nLe_r, nLe_n, nLt_l, nLt_r, nLt_n, nA_l, nA_r, nI_add, nS_l, nS_n, nIn, nI_clamp, gI_I, gI_J, gI_D, gJ_J, gJ_I, gJ_D, true_and, and_true, false_and, and_false, if_true, if_false, false_implies, true_implies, not_true_eq_false, not_false_eq_true, bI_0, bI_1, Nat.reduceEqDiff, eq_self, nMax, nMin]
          exact this.2.2) (by simp (disch := first | omega | decide) only [nE_l, nE_r, nE_n, nLe_l, nLe_r, nLe_n, nLt_l, nLt_r, nLt_n, nA_l, nA_r, nI_add, nS_l, nS_n, nIn, nI_clamp, gI_I, gI_J, gI_D, gJ_J, gJ_I, gJ_D, true_and, and_true, false_and, and_false, if_true, if_false, false_implies, true_implies, not_true_eq_false, not_false_eq_true, bI_0, bI_1, Nat.reduceEqDiff, eq_self, nMax, nMin]; rfl) (fun z => absurd rfl z)
        exact ⟨fun q => absurd q (Nat.not_lt_zero n), fun _ => z⟩
    have hin : vp_in (nI Pn) 51 := vp_in_nI (by omega) (by decide)
    refine ⟨hin, hin, ?_⟩
    rw [nI_clamp (by omega)]
    have z := tail Pn 0 (gsI (gsJ μ 59 Pn 0) 60 Pn 0) (by omega) (((mF.rf _ _ μ).j 59 _ _ (by decide)).i 60 _ _ (by decide) (by decide)) (fun i i1 i2 => by
      have hin : i = Pn := by omega
      subst hin
      simp (disch := first | omega | decide) only [Nat.lt_irrefl, nE_l, nE_r, nE_n, nLe_l, nLe_r, nLe_n, nLt_l, nLt_r, nLt_n, nA_l, nA_r, nI_add, nS_l, nS_n, nIn, nI_clamp, gI_I, gI_J, gI_D, gJ_J, gJ_I, gJ_D, true_and, and_true, false_and, and_false, if_true, if_false, false_implies, true_implies, not_true_eq_false, not_false_eq_true, bI_0, bI_1, Nat.reduceEqDiff, eq_self, nMax, nMin]
      exact ⟨rfl, rfl⟩)
    rw [Nat.sub_zero] at z
    exact z
end
