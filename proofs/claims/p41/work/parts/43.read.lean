/-! READING THE TEXT: the sequence -/
theorem nNc {a : Nat} (h : a < 65536) : vp_nar .char (nI a) = nI a := by
  have e : (UInt32.ofNat a).toUInt16.toUInt32 = UInt32.ofNat a := by
    apply UInt32.toNat_inj.mp
    rw [UInt16.toNat_toUInt32, UInt32.toNat_toUInt16, UInt32.toNat_ofNat']
    omega
  show ((UInt32.ofNat a).toUInt16.toUInt32).toInt32 = nI a
  rw [e]
  rfl
theorem s_60 {i x e m : Nat} {μ : gMu} {P : gMu → gRes → Prop} (hm : gI μ 9 5 = nI m) (hm5 : m < 50) (hi : i < 50) (hx : x < 128) (h : P (gsI (gsI (gsI (gsI (gsI μ 10 i (nI m)) 11 m (nI i)) 12 m (nI x)) 13 m (nI e)) 9 5 (nI (m + 1))) (.inl none)) : gCl' 60 [.ref 9, .int (nI i), .int (nI x), .int (nI e)] μ P := by
  refine vc_60 ?_
  rw [hm]
  simp (disch := first | omega | decide) only [nNc (show x < 65536 by omega), nE_l, nE_r, nE_n, nLe_l, nLe_r, nLe_n, nLt_l, nLt_r, nLt_n, nA_l, nA_r, nI_add, nS_l, nS_n, nIn, nI_clamp, gI_I, gI_J, gI_D, gJ_J, gJ_I, gJ_D, true_and, and_true, false_and, and_false, if_true, if_false, false_implies, true_implies, not_true_eq_false, not_false_eq_true, bI_0, bI_1, Nat.reduceEqDiff, eq_self, nMax, nMin]
  exact h
theorem tM_lt {c : Nat → Nat} {k : Nat} : tM c k ≤ k := tM_le c k
theorem cSq_next_mark {c : Nat → Nat} {b k : Nat} {μ : gMu} (h : cSq c b k μ) (hm : isMk (c k) = true) : cSq c b (k + 1) (gsI μ 10 k (-1)) := by
  obtain ⟨h1, h2, h3, h4, h5⟩ := h
  have e1 : tM c (k + 1) = tM c k := by
    show (if isMk (c k) = true then tM c k else _) = _
    rw [if_pos hm]
  have e2 : tIx c (k + 1) = tIx c k := by
    show (if isMk (c k) = true then tIx c k else _) = _
    rw [if_pos hm]
  have e3 : tEm c b (k + 1) = tEm c b k := by
    show (if isMk (c k) = true then tEm c b k else _) = _
    rw [if_pos hm]
  unfold cSq
  rw [e1, e2, e3]
  refine ⟨by simp (disch := first | omega | decide) only [h1, nE_l, nE_r, nE_n, nLe_l, nLe_r, nLe_n, nLt_l, nLt_r, nLt_n, nA_l, nA_r, nI_add, nS_l, nS_n, nIn, nI_clamp, gI_I, gI_J, gI_D, gJ_J, gJ_I, gJ_D, true_and, and_true, false_and, and_false, if_true, if_false, false_implies, true_implies, not_true_eq_false, not_false_eq_true, bI_0, bI_1, Nat.reduceEqDiff, eq_self, nMax, nMin], fun i hi => ?_, h3.skip (by decide), h4.skip (by decide), h5.skip (by decide)⟩
  rw [gI_I]
  by_cases e : i = k
  · rw [if_pos ⟨rfl, e⟩, e, if_pos hm]
  · rw [if_neg (fun q => e q.2)]
    exact h2 i (by omega)
theorem cSq_next_char {c : Nat → Nat} {b k : Nat} {μ : gMu} (h : cSq c b k μ) (hm : isMk (c k) = false) : cSq c b (k + 1) (gsI (gsI (gsI (gsI (gsI (gsI μ 10 k (-1)) 10 k (nI (tM c k))) 11 (tM c k) (nI k)) 12 (tM c k) (nI (c k))) 13 (tM c k) (nI (tSt c b k (tD c k)))) 9 5 (nI (tM c k + 1))) := by
  obtain ⟨h1, h2, h3, h4, h5⟩ := h
  have e1 : tM c (k + 1) = tM c k + 1 := by
    show (if isMk (c k) = true then _ else _) = _
    rw [if_neg (by rw [hm]; decide)]
  have e2 : tIx c (k + 1) = upN (tIx c k) (tM c k) k := by
    show (if isMk (c k) = true then tIx c k else _) = _
    rw [if_neg (by rw [hm]; decide)]
  have e3 : tEm c b (k + 1) = upN (tEm c b k) (tM c k) (tSt c b k (tD c k)) := by
    show (if isMk (c k) = true then tEm c b k else _) = _
    rw [if_neg (by rw [hm]; decide)]
  unfold cSq
  rw [e1, e2, e3]
  refine ⟨by simp (disch := first | omega | decide) only [nE_l, nE_r, nE_n, nLe_l, nLe_r, nLe_n, nLt_l, nLt_r, nLt_n, nA_l, nA_r, nI_add, nS_l, nS_n, nIn, nI_clamp, gI_I, gI_J, gI_D, gJ_J, gJ_I, gJ_D, true_and, and_true, false_and, and_false, if_true, if_false, false_implies, true_implies, not_true_eq_false, not_false_eq_true, bI_0, bI_1, Nat.reduceEqDiff, eq_self, nMax, nMin], fun i hi => ?_, ?_, ?_, ?_⟩
  · by_cases e : i = k
    · subst e
      simp (disch := first | omega | decide) only [hm, nE_l, nE_r, nE_n, nLe_l, nLe_r, nLe_n, nLt_l, nLt_r, nLt_n, nA_l, nA_r, nI_add, nS_l, nS_n, nIn, nI_clamp, gI_I, gI_J, gI_D, gJ_J, gJ_I, gJ_D, true_and, and_true, false_and, and_false, if_true, if_false, false_implies, true_implies, not_true_eq_false, not_false_eq_true, bI_0, bI_1, Nat.reduceEqDiff, eq_self, nMax, nMin]
      rfl
    · simp (disch := first | omega | decide) only [e, nE_l, nE_r, nE_n, nLe_l, nLe_r, nLe_n, nLt_l, nLt_r, nLt_n, nA_l, nA_r, nI_add, nS_l, nS_n, nIn, nI_clamp, gI_I, gI_J, gI_D, gJ_J, gJ_I, gJ_D, true_and, and_true, false_and, and_false, if_true, if_false, false_implies, true_implies, not_true_eq_false, not_false_eq_true, bI_0, bI_1, Nat.reduceEqDiff, eq_self, nMax, nMin]
      exact h2 i (by omega)
  · exact (((((h3.skip (by decide)).skip (by decide)).push).skip (by decide)).skip (by decide)).skip (by decide)
  · have h6 := (((((h4.skip (q' := 10) (i := k) (v := -1) (by decide)).skip (q' := 10) (i := k) (v := nI (tM c k)) (by decide)).skip (q' := 11) (i := tM c k) (v := nI k) (by decide)).push (v := c k)).skip (q' := 13) (i := tM c k) (v := nI (tSt c b k (tD c k))) (by decide)).skip (q' := 9) (i := 5) (v := nI (tM c k + 1)) (by decide)
    refine h6.eq (fun j hj => ?_)
    unfold upN
    split
    · rfl
    · rfl
  · exact (((((h5.skip (by decide)).skip (by decide)).skip (by decide)).skip (by decide)).push).skip (by decide)
theorem cSq_sm {A : List Nat} {c : Nat → Nat} {b k : Nat} {μ μ' : gMu} (h : cSq c b k μ) (hs : gSm A μ μ') (h9 : 9 ∉ A) (h10 : 10 ∉ A) (h11 : 11 ∉ A) (h12 : 12 ∉ A) (h13 : 13 ∉ A) : cSq c b k μ' := by
  obtain ⟨h1, h2, h3, h4, h5⟩ := h
  exact ⟨by rw [hs.I h9, h1], fun i hi => by rw [hs.I h10, h2 i hi], h3.sm hs h11, h4.sm hs h12, h5.sm hs h13⟩
theorem s_61 {T : gS} {μ : gMu} {P : gMu → gRes → Prop} (hT : cT T μ) (hk : gOk T) (h : ∀ μ', gSm [9, 10, 11, 12, 13, 14] μ μ' → cSq T.c T.b T.n μ' → P μ' (.inl none)) : gCl' 61 [.ref 9, .ref 2, .int (nI T.b)] μ P := by
  obtain ⟨h1, h2, -⟩ := hT
  have hn := hk.n
  have loop : ∀ r k μ', k + r = T.n → gSm [9, 10, 11, 12, 13, 14] μ μ' → cSq T.c T.b k μ' → gAr μ' 14 (tD T.c k + 1) (tSt T.c T.b k) → gWp none 61 (17, [some (.ref 9), some (.ref 2), some (.int (nI T.b)), some (.int (nI (tD T.c k))), some (.int (nI k)), none], [], μ') 0 P := by
    intro r
    induction r with
    | zero =>
      intro k μ' hr hs hc ho
      have hkn : k = T.n := by omega
      subst hkn
      refine vc_61_17 ?_
      rw [hs.I (by decide), h1]
      simp (disch := first | omega | decide) only [Nat.le_refl, nE_l, nE_r, nE_n, nLe_l, nLe_r, nLe_n, nLt_l, nLt_r, nLt_n, nA_l, nA_r, nI_add, nS_l, nS_n, nIn, nI_clamp, gI_I, gI_J, gI_D, gJ_J, gJ_I, gJ_D, true_and, and_true, false_and, and_false, if_true, if_false, false_implies, true_implies, not_true_eq_false, not_false_eq_true, bI_0, bI_1, Nat.reduceEqDiff, eq_self, nMax, nMin]
      exact h μ' hs hc
    | succ r ih =>
      intro k μ' hr hs hc ho
      have hlt : k < T.n := by omega
      have hck := hk.c_lt hlt
      have hd := hk.d k (by omega)
      have hd1 := hk.d (k + 1) (by omega)
      have hM := tM_le T.c k
      have h3 : gI μ' 3 k = nI (T.c k) := by rw [hs.I (by decide), h2 k hlt]
      have h4 := ho (tD T.c k) (by omega)
      have h5 := tSt_le T.c T.b hk.b k (tD T.c k) (Nat.le_refl _)
      have e := ih (k + 1)
      have e1 : tD T.c (k + 1) = if T.c k = 125 then tD T.c k - 1 else if isMk (T.c k) then tD T.c k + 1 else tD T.c k := rfl
      have e2 : tSt T.c T.b (k + 1) = if T.c k = 125 then tSt T.c T.b k else if isMk (T.c k) then upN (tSt T.c T.b k) (tD T.c k + 1) (lvIn (tSt T.c T.b k (tD T.c k)) (T.c k == 123)) else tSt T.c T.b k := rfl
      refine vc_61_17 ?_
      rw [hs.I (by decide), h1]
      simp (disch := first | omega | decide) only [h3, show ¬ T.n ≤ k by omega, show k < 50 by omega, nE_l, nE_r, nE_n, nLe_l, nLe_r, nLe_n, nLt_l, nLt_r, nLt_n, nA_l, nA_r, nI_add, nS_l, nS_n, nIn, nI_clamp, gI_I, gI_J, gI_D, gJ_J, gJ_I, gJ_D, true_and, and_true, false_and, and_false, if_true, if_false, false_implies, true_implies, not_true_eq_false, not_false_eq_true, bI_0, bI_1, Nat.reduceEqDiff, eq_self, nMax, nMin]
      refine s_3 (by omega) ⟨_, rfl, ?_⟩
      simp (disch := first | omega | decide) only [Bool.not_eq_false, nE_l, nE_r, nE_n, nLe_l, nLe_r, nLe_n, nLt_l, nLt_r, nLt_n, nA_l, nA_r, nI_add, nS_l, nS_n, nIn, nI_clamp, gI_I, gI_J, gI_D, gJ_J, gJ_I, gJ_D, true_and, and_true, false_and, and_false, if_true, if_false, false_implies, true_implies, not_true_eq_false, not_false_eq_true, bI_0, bI_1, Nat.reduceEqDiff, eq_self, nMax, nMin]
      refine ⟨fun hm => ⟨fun h6 => ?_, fun h6 => ?_⟩, fun hm => ?_⟩
      · have hm' : isMk (T.c k) = true := hm
        rw [if_neg h6, if_pos hm'] at e1 e2
        have hs1 : gSm [9, 10, 11, 12, 13, 14] μ (gsI μ' 10 k (-1)) := hs.i 10 k (-1) (by decide)
        have hc1 := cSq_next_mark hc hm'
        simp (disch := first | omega | decide) only [h4, show ¬ 5 ≤ tD T.c k by omega, nE_l, nE_r, nE_n, nLe_l, nLe_r, nLe_n, nLt_l, nLt_r, nLt_n, nA_l, nA_r, nI_add, nS_l, nS_n, nIn, nI_clamp, gI_I, gI_J, gI_D, gJ_J, gJ_I, gJ_D, true_and, and_true, false_and, and_false, if_true, if_false, false_implies, true_implies, not_true_eq_false, not_false_eq_true, bI_0, bI_1, Nat.reduceEqDiff, eq_self, nMax, nMin]
        refine ⟨fun h7 => ?_, fun h7 => ?_⟩
        · refine s_59 (r := false) (by omega) ⟨_, rfl, ?_⟩
          have e3 := e (gsI (gsI μ' 10 k (-1)) 14 (tD T.c k + 1) (nI (lvIn (tSt T.c T.b k (tD T.c k)) false))) (by omega) (hs1.i _ _ _ (by decide)) (cSq_sm hc1 ((gSm.rf [14] _).i 14 _ _ (by decide)) (by decide) (by decide) (by decide) (by decide) (by decide)) (by
            rw [e1, e2, show (T.c k == 123) = false by simpa using h7]
            exact (ho.skip (by decide)).push)
          rw [e1] at e3
          exact gWp_up e3 (by (repeat (first | exact gUp.nil | refine gUp.cs ?_ | refine gUp.cn ?_)))
        · refine s_59 (r := true) (by omega) ⟨_, rfl, ?_⟩
          have e3 := e (gsI (gsI μ' 10 k (-1)) 14 (tD T.c k + 1) (nI (lvIn (tSt T.c T.b k (tD T.c k)) true))) (by omega) (hs1.i _ _ _ (by decide)) (cSq_sm hc1 ((gSm.rf [14] _).i 14 _ _ (by decide)) (by decide) (by decide) (by decide) (by decide) (by decide)) (by
            rw [e1, e2, show (T.c k == 123) = true by simpa using h7]
            exact (ho.skip (by decide)).push)
          rw [e1] at e3
          exact gWp_up e3 (by (repeat (first | exact gUp.nil | refine gUp.cs ?_ | refine gUp.cn ?_)))
      · have hm' : isMk (T.c k) = true := hm
        rw [if_pos h6] at e1 e2
        have h8 := hk.o k hlt h6
        simp (disch := first | omega | decide) only [show ¬ tD T.c k ≤ 0 by omega, nE_l, nE_r, nE_n, nLe_l, nLe_r, nLe_n, nLt_l, nLt_r, nLt_n, nA_l, nA_r, nI_add, nS_l, nS_n, nIn, nI_clamp, gI_I, gI_J, gI_D, gJ_J, gJ_I, gJ_D, true_and, and_true, false_and, and_false, if_true, if_false, false_implies, true_implies, not_true_eq_false, not_false_eq_true, bI_0, bI_1, Nat.reduceEqDiff, eq_self, nMax, nMin]
        have e3 := e (gsI μ' 10 k (-1)) (by omega) (hs.i _ _ _ (by decide)) (cSq_next_mark hc hm') (by
          rw [e1, e2]
          exact (ho.skip (by decide)).sub (by omega))
        rw [e1] at e3
        exact gWp_up e3 (by (repeat (first | exact gUp.nil | refine gUp.cs ?_ | refine gUp.cn ?_)))
      · have h6 : T.c k ≠ 125 := fun q => by rw [q] at hm; cases hm
        rw [if_neg h6, if_neg (by rw [hm]; decide)] at e1 e2
        simp (disch := first | omega | decide) only [h4, nE_l, nE_r, nE_n, nLe_l, nLe_r, nLe_n, nLt_l, nLt_r, nLt_n, nA_l, nA_r, nI_add, nS_l, nS_n, nIn, nI_clamp, gI_I, gI_J, gI_D, gJ_J, gJ_I, gJ_D, true_and, and_true, false_and, and_false, if_true, if_false, false_implies, true_implies, not_true_eq_false, not_false_eq_true, bI_0, bI_1, Nat.reduceEqDiff, eq_self, nMax, nMin]
        refine s_60 (m := tM T.c k) (by simp (disch := first | omega | decide) only [hc.1, nE_l, nE_r, nE_n, nLe_l, nLe_r, nLe_n, nLt_l, nLt_r, nLt_n, nA_l, nA_r, nI_add, nS_l, nS_n, nIn, nI_clamp, gI_I, gI_J, gI_D, gJ_J, gJ_I, gJ_D, true_and, and_true, false_and, and_false, if_true, if_false, false_implies, true_implies, not_true_eq_false, not_false_eq_true, bI_0, bI_1, Nat.reduceEqDiff, eq_self, nMax, nMin]) (by omega) (by omega) hck ⟨rfl, ?_⟩
        have e3 := e _ (by omega) ((((((((hs.i 10 k (-1) (by decide)).i 10 k (nI (tM T.c k)) (by decide)).i 11 (tM T.c k) (nI k) (by decide)).i 12 (tM T.c k) (nI (T.c k)) (by decide)).i 13 (tM T.c k) (nI (tSt T.c T.b k (tD T.c k))) (by decide)).i 9 5 (nI (tM T.c k + 1)) (by decide)))) (cSq_next_char hc hm) (by
          rw [e1, e2]
          exact (((((ho.skip (by decide)).skip (by decide)).skip (by decide)).skip (by decide)).skip (by decide)).skip (by decide))
        rw [e1] at e3
        exact gWp_up e3 (by (repeat (first | exact gUp.nil | refine gUp.cs ?_ | refine gUp.cn ?_)))
  refine vc_61 ⟨vp_in_nI (n := 0) (by decide) (by decide), ?_⟩
  have h9 : gAr (gsI (gsI μ 14 ((0 : Int32).toNatClampNeg) (nI T.b)) 9 5 0) 14 1 (tSt T.c T.b 0) := by
    intro j hj
    have : j = 0 := by omega
    subst this
    rfl
  exact loop T.n 0 _ (by omega) (((gSm.rf _ μ).i 14 _ _ (by decide)).i 9 _ _ (by decide)) ⟨rfl, fun i hi => absurd hi (Nat.not_lt_zero i), gAr.nil _ _ _, gAr.nil _ _ _, gAr.nil _ _ _⟩ h9
