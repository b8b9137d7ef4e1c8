/-! THE MODEL: ranks, places, widths and means -/
section
theorem s_221 {T : gS} {x : Int32} {μ : gMu} {P : gMu → gRes → Prop} (hk : gOk T) (hT : mTx T μ) (h1 : ∀ μ' e, plcA T x = .inl e → gSm mAll μ μ' → mTx T μ' → gI μ' 1 9 = nI (cdF [2, 3, 1, 4] e) → P μ' (.inl (some (.int (-1))))) (h2 : ∀ μ' g r, plcA T x = .inr g → gilA T x = .inr g → lnOf T g < tCn T → r < lnE (tXx T) (tLs T) (lnOf T g) - lnS (tXx T) (tLs T) (lnOf T g) → pG T g = lnS (tXx T) (tLs T) (lnOf T g) + r → gSm mAll μ μ' → mTx T μ' → mLay T μ' → mLn T μ' → mRow T (lnOf T g) μ' → gI μ' 1 9 = 0 → P μ' (.inl (some (.int (nI r))))) : gCl' 221 [.ref 1, .int x] μ P := by
  have hX := tXx_ok hk
  have g4 := hX.P
  have g5 := hX.G
  have hM := tMn_le hk
  have hC := (tLs_ok (T := T)).1
  have eA : plcA T x = bA (gilA T x) fun g => if lnE (tXx T) (tLs T) (lnOf T g) ≤ g then .inl 4 else .inr g := rfl
  refine vc_221 (s_211 hk hT (fun μ1 e he f t c => ⟨_, rfl, fun z => absurd rfl z, fun _ => ?_⟩) (fun μ1 n j hs he hlt hx hj hm hnj hac f t L n1 c => ⟨_, rfl, fun _ => ?_, fun z => absurd z (nI_nm1 (by have := (lnOf_ok hk hac (tOw_lt hlt)).1; omega))⟩))
  · rw [he] at eA
    exact h1 μ1 e eA (f.all (by decide)) t c
  · rw [he] at eA
    have eA : plcA T x = if lnE (tXx T) (tLs T) (lnOf T (tOw T n)) ≤ tOw T n then .inl 4 else .inr (tOw T n) := eA
    have lo := lnOf_ok hk hac (tOw_lt hlt)
    have gg := tOw_lt hlt
    generalize hl : lnOf T (tOw T n) = l at eA lo ⊢
    have hSE := lnSE hX (tLs_ok (T := T)) lo.1
    have hG' : (tXx T).G = tGT T := rfl
    have fin : ∀ y, gWp none 221 (15, [some (.ref 1), some (.int x), some (.int (nI l)), some (.int (nI n)), y], [], μ1) 0 P := by
      intro y
      have g1 := L.ix n hlt
      rw [hnj, tIx_at T.c T.n j hj hm, ← hnj] at g1
      refine gWp_up (vc_221_15 ?_) (by (repeat (first | exact gUp.nil | refine gUp.cs ?_ | refine gUp.cn ?_)))
      simp (disch := first | omega | decide) only [g1, hx, show n < 50 by omega, nE_l, nE_r, nE_n, nLe_l, nLe_r, nLe_n, nLt_l, nLt_r, nLt_n, nA_l, nA_r, nI_add, nS_l, nS_n, nIn, nI_clamp, gI_I, gI_J, gI_D, gJ_J, gJ_I, gJ_D, true_and, and_true, false_and, and_false, if_true, if_false, false_implies, true_implies, not_true_eq_false, not_false_eq_true, bI_0, bI_1, Nat.reduceEqDiff, eq_self, nMax, nMin]
      refine s_208 hk n1 (by omega) hac ⟨_, rfl, s_218 hk L n1 lo.1 (fun μ3 s3 q29 qrow => ⟨rfl, ?_⟩)⟩
      have f3 := (f.all (show ∀ a ∈ mA, a ∈ mAll by decide)).tr (s3.all (by decide))
      have t3 := t.r s3
      have L3 := L.gf s3 (by decide) (by decide) (by decide) (by decide) (by decide)
      have n3 := n1.gf s3 (by decide) (by decide) (by decide)
      have c3 : gI μ3 1 9 = 0 := by rw [s3.F (by decide), c]
      have gs := L3.gs n hlt
      dsimp only at gs
      have gsb := gsT_ok gg
      have loop : ∀ r k, k + r = lnE (tXx T) (tLs T) l - lnS (tXx T) (tLs T) l → (∀ i, i < k → oG T l (lnS (tXx T) (tLs T) l + i) ≠ tOw T n) → gWp none 221 (43, [some (.ref 1), some (.int (nI j)), some (.int (nI l)), some (.int (nI n)), some (.int (nI k))], [], μ3) 0 P := by
        intro r
        induction r with
        | zero =>
          intro k hr hno
          have hge : lnE (tXx T) (tLs T) l ≤ tOw T n := by
            rcases Nat.lt_or_ge (tOw T n) (lnE (tXx T) (tLs T) l) with z | z
            · exfalso
              have p := pF_in (lv := tGl T) (s := lnS (tXx T) (tLs T) l) (e := lnE (tXx T) (tLs T) l) (t := tpL (tGl T) (lnS (tXx T) (tLs T) l) (lnE (tXx T) (tLs T) l)) (tpL (tGl T) (lnS (tXx T) (tLs T) l) (lnE (tXx T) (tLs T) l)) (tOw T n) lo.2.1 z
              have o := oF_pF (lv := tGl T) (s := lnS (tXx T) (tLs T) l) (e := lnE (tXx T) (tLs T) l) (t := tpL (tGl T) (lnS (tXx T) (tLs T) l) (lnE (tXx T) (tLs T) l)) (tpL (tGl T) (lnS (tXx T) (tLs T) l) (lnE (tXx T) (tLs T) l)) (tOw T n) lo.2.1 z
              generalize pF (tGl T) (lnS (tXx T) (tLs T) l) (lnE (tXx T) (tLs T) l) (tpL (tGl T) (lnS (tXx T) (tLs T) l) (lnE (tXx T) (tLs T) l)) (tpL (tGl T) (lnS (tXx T) (tLs T) l) (lnE (tXx T) (tLs T) l)) (tOw T n) = q at p o
              refine hno (q - lnS (tXx T) (tLs T) l) (by omega) ?_
              rw [show lnS (tXx T) (tLs T) l + (q - lnS (tXx T) (tLs T) l) = q by omega]
              exact o
            · exact z
          rw [if_pos hge] at eA
          refine vc_221_43 ?_
          rw [q29]
          simp (disch := first | omega | decide) only [show lnE (tXx T) (tLs T) l - lnS (tXx T) (tLs T) l ≤ k by omega, nE_l, nE_r, nE_n, nLe_l, nLe_r, nLe_n, nLt_l, nLt_r, nLt_n, nA_l, nA_r, nI_add, nS_l, nS_n, nIn, nI_clamp, gI_I, gI_J, gI_D, gJ_J, gJ_I, gJ_D, true_and, and_true, false_and, and_false, if_true, if_false, false_implies, true_implies, not_true_eq_false, not_false_eq_true, bI_0, bI_1, Nat.reduceEqDiff, eq_self, nMax, nMin]
          exact h1 _ 4 eA (f3.m (by decide)) (t3.f9 4) (by simp (disch := first | omega | decide) only [nE_l, nE_r, nE_n, nLe_l, nLe_r, nLe_n, nLt_l, nLt_r, nLt_n, nA_l, nA_r, nI_add, nS_l, nS_n, nIn, nI_clamp, gI_I, gI_J, gI_D, gJ_J, gJ_I, gJ_D, true_and, and_true, false_and, and_false, if_true, if_false, false_implies, true_implies, not_true_eq_false, not_false_eq_true, bI_0, bI_1, Nat.reduceEqDiff, eq_self, nMax, nMin]; rfl)
        | succ r ih =>
          intro k hr hno
          have hk2 : k < lnE (tXx T) (tLs T) l - lnS (tXx T) (tLs T) l := by omega
          have oi := oG_in hk2
          have b := gsT_ok (T := T) (g := oG T l (lnS (tXx T) (tLs T) l + k)) (by omega)
          have g2 := qrow k hk2
          have b1 := b.1
          have b2 := gsb.1
          refine vc_221_43 ?_
          rw [q29]
          simp (disch := first | omega | decide) only [g2, gs, show ¬ lnE (tXx T) (tLs T) l - lnS (tXx T) (tLs T) l ≤ k by omega, show k < 50 by omega, show n < 50 by omega, nE_l, nE_r, nE_n, nLe_l, nLe_r, nLe_n, nLt_l, nLt_r, nLt_n, nA_l, nA_r, nI_add, nS_l, nS_n, nIn, nI_clamp, gI_I, gI_J, gI_D, gJ_J, gJ_I, gJ_D, true_and, and_true, false_and, and_false, if_true, if_false, false_implies, true_implies, not_true_eq_false, not_false_eq_true, bI_0, bI_1, Nat.reduceEqDiff, eq_self, nMax, nMin]
          refine ⟨fun q => ih (k + 1) (by omega) (fun i hi => ?_), fun q => ?_⟩
          · by_cases ci : i = k
            · rw [ci]
              exact fun z => q (by rw [z])
            · exact hno i (by omega)
          · have e : oG T l (lnS (tXx T) (tLs T) l + k) = tOw T n := by
              rw [← b.2.2, ← gsb.2.2, q]
            rw [if_neg (by omega)] at eA
            refine h2 μ3 (tOw T n) k eA he (by rw [hl]; exact lo.1) (by rw [hl]; exact hk2) ?_ f3 t3 L3 n3 (by rw [hl]; exact ⟨q29, qrow⟩) c3
            have p := pF_oF (lv := tGl T) (s := lnS (tXx T) (tLs T) l) (e := lnE (tXx T) (tLs T) l) (t := tpL (tGl T) (lnS (tXx T) (tLs T) l) (lnE (tXx T) (tLs T) l)) (tpL (tGl T) (lnS (tXx T) (tLs T) l) (lnE (tXx T) (tLs T) l)) (lnS (tXx T) (tLs T) l + k) (by omega) (by omega)
            have e' : oF (tGl T) (lnS (tXx T) (tLs T) l) (lnE (tXx T) (tLs T) l) (tpL (tGl T) (lnS (tXx T) (tLs T) l) (lnE (tXx T) (tLs T) l)) (tpL (tGl T) (lnS (tXx T) (tLs T) l) (lnE (tXx T) (tLs T) l)) (lnS (tXx T) (tLs T) l + k) = tOw T n := e
            rw [e'] at p
            unfold pG
            rw [hl]
            exact p
      exact loop (lnE (tXx T) (tLs T) l - lnS (tXx T) (tLs T) l) 0 (by omega) (fun i hi => absurd hi (Nat.not_lt_zero i))
    have find : ∀ r k, k + r = n → ∀ y, gWp none 221 (15, [some (.ref 1), some (.int x), some (.int (nI l)), some (.int (nI k)), y], [], μ1) 0 P := by
      intro r
      induction r with
      | zero =>
        intro k hr y
        rw [show k = n by omega]
        exact fin y
      | succ r ih =>
        intro k hr y
        have g1 := L.ix k (by omega)
        have g2 := tIx_ne hj hm (show k < tM T.c j by omega)
        have g3 := (tIx_ok T.c T.n k (by show k < tMn T; omega)).1
        have hn := hk.n
        refine gWp_up (vc_221_15 ?_) (by (repeat (first | exact gUp.nil | refine gUp.cs ?_ | refine gUp.cn ?_)))
        rw [hx]
        simp (disch := first | omega | decide) only [g1, g2, show k < 50 by omega, nE_l, nE_r, nE_n, nLe_l, nLe_r, nLe_n, nLt_l, nLt_r, nLt_n, nA_l, nA_r, nI_add, nS_l, nS_n, nIn, nI_clamp, gI_I, gI_J, gI_D, gJ_J, gJ_I, gJ_D, true_and, and_true, false_and, and_false, if_true, if_false, false_implies, true_implies, not_true_eq_false, not_false_eq_true, bI_0, bI_1, Nat.reduceEqDiff, eq_self, nMax, nMin]
        rw [← hx]
        exact ih (k + 1) (by omega) _
    exact find n 0 (by omega) _
theorem m_222 {T : gS} {x : Int32} {μ : gMu} {P : gMu → gRes → Prop} (hk : gOk T) (hT : mTx T μ) (h : ∀ μ' w, gSm mAll μ μ' → mTx T μ' → gI μ' 1 9 = nI (cdA [2, 3, 1, 4] (rnkA T x)) → (∀ v, rnkA T x = .inr v → w = v) → P μ' (.inl (some (.int w)))) : gCl' 222 [.ref 1, .int x] μ P := by
  refine vc_222 (s_221 hk hT (fun μ' e he f t c => ⟨_, rfl, fun z => absurd rfl z, fun _ => h _ _ f t (by unfold rnkA; rw [he]; exact c) (fun v hv => by unfold rnkA at hv; rw [he] at hv; cases hv)⟩) (fun μ' g r he hg hl hr hp f t L n row c => ⟨_, rfl, fun _ => h _ _ f t (by unfold rnkA; rw [he, c]; rfl) (fun v hv => ?_), fun z => absurd z (nI_nm1 ?_)⟩))
  · unfold rnkA at hv
    rw [he] at hv
    have hv : Sum.inr (nI (pG T g - lnS (tXx T) (tLs T) (lnOf T g))) = (Sum.inr v : Nat ⊕ Int32) := hv
    rw [hp, Nat.add_sub_cancel_left] at hv
    cases hv
    rfl
  · have hX := tXx_ok hk
    have g5 := hX.G
    have hSE := lnSE hX (tLs_ok (T := T)) hl
    omega
theorem m_223 {T : gS} {x : Int32} {μ : gMu} {P : gMu → gRes → Prop} (hk : gOk T) (hT : mTx T μ) (h : ∀ μ' w, gSm mAll μ μ' → mTx T μ' → gI μ' 1 9 = nI (cdA [2, 3, 1, 4] (rnkA T x)) → (∀ v, rnkA T x = .inr v → w = v) → P μ' (.inl (some (.int w)))) : gCl' 223 [.ref 1, .int x] μ P := vc_223 (m_222 hk hT (fun μ' w f t c q => ⟨_, rfl, h μ' w f t c q⟩))
theorem s_224 {T : gS} {l : Nat} {μ : gMu} {P : gMu → gRes → Prop} (hk : gOk T) (hT : mTx T μ) (hL : mLay T μ) (hn : mLn T μ) (hl : l < tCn T) (h : P μ (.inl (some (.int (bI (lnJ (tXx T) (tLs T l) (tLs T (l + 1)))))))) : gCl' 224 [.ref 1, .int (nI (tLs T l))] μ P := by
  have hX := tXx_ok hk
  have g4 := hX.P
  have g5 := hX.G
  have g3 := hk.W
  have nx := hn.nx hl
  have xn := xN_le hX nx.2.1 nx.2.2
  have xk := xK_le hX nx.2.1 nx.2.2
  have hW : (tXx T).W = T.W := rfl
  unfold lnJ at h
  rw [hW] at h
  refine vc_224 ?_
  rw [nI_clamp (show tLs T l < 2 ^ 31 by omega), nx.1]
  refine ⟨vp_in_nI (by omega) (by decide), s_195 hk hL nx.2.1 nx.2.2 ⟨_, rfl, ?_⟩⟩
  simp (disch := first | omega | decide) only [nE_l, nE_r, nE_n, nLe_l, nLe_r, nLe_n, nLt_l, nLt_r, nLt_n, nA_l, nA_r, nI_add, nS_l, nS_n, nIn, nI_clamp, gI_I, gI_J, gI_D, gJ_J, gJ_I, gJ_D, true_and, and_true, false_and, and_false, if_true, if_false, false_implies, true_implies, not_true_eq_false, not_false_eq_true, bI_0, bI_1, Nat.reduceEqDiff, eq_self, nMax, nMin]
  refine ⟨fun q => ?_, fun q => ?_⟩
  · rw [decide_eq_false (by omega)] at h
    exact h
  · simp (disch := first | omega | decide) only [nx.1, show tLs T l < 51 by omega, nE_l, nE_r, nE_n, nLe_l, nLe_r, nLe_n, nLt_l, nLt_r, nLt_n, nA_l, nA_r, nI_add, nS_l, nS_n, nIn, nI_clamp, gI_I, gI_J, gI_D, gJ_J, gJ_I, gJ_D, true_and, and_true, false_and, and_false, if_true, if_false, false_implies, true_implies, not_true_eq_false, not_false_eq_true, bI_0, bI_1, Nat.reduceEqDiff, eq_self, nMax, nMin]
    refine s_194 hk hT hL nx.2.1 nx.2.2 ⟨_, rfl, ?_⟩
    rw [hT.2.2.1, hL.P]
    simp (disch := first | omega | decide) only [nx.1, nE_l, nE_r, nE_n, nLe_l, nLe_r, nLe_n, nLt_l, nLt_r, nLt_n, nA_l, nA_r, nI_add, nS_l, nS_n, nIn, nI_clamp, gI_I, gI_J, gI_D, gJ_J, gJ_I, gJ_D, true_and, and_true, false_and, and_false, if_true, if_false, false_implies, true_implies, not_true_eq_false, not_false_eq_true, bI_0, bI_1, Nat.reduceEqDiff, eq_self, nMax, nMin]
    refine ⟨fun q2 => ?_, fun q2 => ⟨fun q3 => ?_, fun q3 => ?_⟩⟩
    · rw [decide_eq_true (by omega)] at h
      exact h
    · rw [decide_eq_false (by omega)] at h
      exact h
    · rw [decide_eq_true (by omega)] at h
      exact h
theorem s_225 {T : gS} {l r : Nat} {μ : gMu} {P : gMu → gRes → Prop} (hk : gOk T) (hT : mTx T μ) (hL : mLay T μ) (hn : mLn T μ) (hR : mRow T l μ) (hl : l < tCn T) (hr : r < lnE (tXx T) (tLs T) l - lnS (tXx T) (tLs T) l) (h : P μ (.inl (some (.int (nI (fwG T l (lnS (tXx T) (tLs T) l + r))))))) : gCl' 225 [.ref 1, .int (nI (tLs T l)), .int (nI r)] μ P := by
  have hX := tXx_ok hk
  have g4 := hX.P
  have g5 := hX.G
  have g3 := hk.W
  have hM := tMn_le hk
  have nx := hn.nx hl
  have hSE := lnSE hX (tLs_ok (T := T)) hl
  have hG' : (tXx T).G = tGT T := rfl
  have hW : (tXx T).W = T.W := rfl
  have xn := xN_le hX nx.2.1 nx.2.2
  have xk := xK_le hX nx.2.1 nx.2.2
  have xq := ls_q hl
  unfold xQ at xq
  rw [hW, decide_eq_true_eq] at xq
  have slot : ∀ i, i < lnE (tXx T) (tLs T) l - lnS (tXx T) (tLs T) l → gI μ 63 i = nI (tGsT T (oG T l (lnS (tXx T) (tLs T) l + i))) ∧ tGsT T (oG T l (lnS (tXx T) (tLs T) l + i)) < 50 ∧ tGsT T (oG T l (lnS (tXx T) (tLs T) l + i)) < tMn T ∧ tOw T (tGsT T (oG T l (lnS (tXx T) (tLs T) l + i))) = oG T l (lnS (tXx T) (tLs T) l + i) ∧ gI μ 50 (tGsT T (oG T l (lnS (tXx T) (tLs T) l + i))) = nI (tSg T (tGsT T (oG T l (lnS (tXx T) (tLs T) l + i)))) ∧ tSg T (tGsT T (oG T l (lnS (tXx T) (tLs T) l + i))) < 128 ∧ ((tNu T (oG T l (lnS (tXx T) (tLs T) l + i)) = 32) ↔ (tSg T (tGsT T (oG T l (lnS (tXx T) (tLs T) l + i))) = 32)) := by
    intro i hi
    have oi := oG_in hi
    have b := gsT_ok (T := T) (g := oG T l (lnS (tXx T) (tLs T) l + i)) (by omega)
    have o := ow_gs (T := T) (g := oG T l (lnS (tXx T) (tLs T) l + i)) (by omega)
    have u := nu_32 hk b.1
    rw [o] at u
    have b1 := b.1
    exact ⟨hR.2 i hi, by omega, b1, o, hL.sg _ b1, tSg_lt hk b1, u⟩
  obtain ⟨r1, r2, r3, r4, r5, r6, r7⟩ := slot r hr
  have oir := oG_in hr
  have w1 := tGw_ge hk (g := oG T l (lnS (tXx T) (tLs T) l + r)) (by omega)
  have eF : fwG T l (lnS (tXx T) (tLs T) l + r) = if lnJ (tXx T) (tLs T l) (tLs T (l + 1)) = true then (if tNu T (oG T l (lnS (tXx T) (tLs T) l + r)) = 32 then wdN T.W (xN (tXx T) (tLs T l) (tLs T (l + 1))) (tGw T (oG T l (lnS (tXx T) (tLs T) l + r))) (byN (dfN T.W (xN (tXx T) (tLs T l) (tLs T (l + 1)))) (xK (tXx T) (tLs T l) (tLs T (l + 1))) (cnt (spB (tNu T) (oG T l)) (lnS (tXx T) (tLs T) l) (lnS (tXx T) (tLs T) l + r - lnS (tXx T) (tLs T) l))) else tGw T (oG T l (lnS (tXx T) (tLs T) l + r))) else tGw T (oG T l (lnS (tXx T) (tLs T) l + r)) := rfl
  rw [eF, Nat.add_sub_cancel_left] at h
  refine vc_225 ?_
  rw [nI_clamp (show r < 2 ^ 31 by omega), r1]
  refine ⟨vp_in_nI (by omega) (by decide), s_193 hk hT hL r3 ⟨_, rfl, ?_⟩⟩
  rw [r4]
  simp (disch := first | omega | decide) only [r1, r5, show r < 50 by omega, r2, nE_l, nE_r, nE_n, nLe_l, nLe_r, nLe_n, nLt_l, nLt_r, nLt_n, nA_l, nA_r, nI_add, nS_l, nS_n, nIn, nI_clamp, gI_I, gI_J, gI_D, gJ_J, gJ_I, gJ_D, true_and, and_true, false_and, and_false, if_true, if_false, false_implies, true_implies, not_true_eq_false, not_false_eq_true, bI_0, bI_1, Nat.reduceEqDiff, eq_self, nMax, nMin]
  refine ⟨fun q => ?_, fun q => s_224 hk hT hL hn hl ⟨_, rfl, ?_⟩⟩
  · rw [if_neg (fun z => q (r7.mp z)), ite_self] at h
    exact h
  · rw [if_pos (r7.mpr q)] at h
    simp (disch := first | omega | decide) only [nx.1, show tLs T l < 51 by omega, nE_l, nE_r, nE_n, nLe_l, nLe_r, nLe_n, nLt_l, nLt_r, nLt_n, nA_l, nA_r, nI_add, nS_l, nS_n, nIn, nI_clamp, gI_I, gI_J, gI_D, gJ_J, gJ_I, gJ_D, true_and, and_true, false_and, and_false, if_true, if_false, false_implies, true_implies, not_true_eq_false, not_false_eq_true, bI_0, bI_1, Nat.reduceEqDiff, eq_self, nMax, nMin]
    refine ⟨fun j => ?_, fun j => ?_⟩
    · have j : lnJ (tXx T) (tLs T l) (tLs T (l + 1)) = true := by simpa using j
      rw [if_pos j] at h
      unfold lnJ at j
      rw [decide_eq_true_eq, hW] at j
      have k0 := j.1
      refine s_194 hk hT hL nx.2.1 nx.2.2 ⟨_, rfl, ?_⟩
      simp (disch := first | omega | decide) only [nx.1, show tLs T l < 51 by omega, nE_l, nE_r, nE_n, nLe_l, nLe_r, nLe_n, nLt_l, nLt_r, nLt_n, nA_l, nA_r, nI_add, nS_l, nS_n, nIn, nI_clamp, gI_I, gI_J, gI_D, gJ_J, gJ_I, gJ_D, true_and, and_true, false_and, and_false, if_true, if_false, false_implies, true_implies, not_true_eq_false, not_false_eq_true, bI_0, bI_1, Nat.reduceEqDiff, eq_self, nMax, nMin]
      refine s_195 hk hL nx.2.1 nx.2.2 ⟨_, rfl, ?_⟩
      rw [hT.2.2.1]
      generalize xN (tXx T) (tLs T l) (tLs T (l + 1)) = N at h xn xq j ⊢
      generalize xK (tXx T) (tLs T l) (tLs T (l + 1)) = K at h xk xq k0 ⊢
      have cle : ∀ n, cnt (spB (tNu T) (oG T l)) (lnS (tXx T) (tLs T) l) n ≤ n := by
        intro n
        induction n with
        | zero => exact Nat.le_refl 0
        | succ n ih =>
          show cnt (spB (tNu T) (oG T l)) (lnS (tXx T) (tLs T) l) n + _ ≤ n + 1
          split <;> omega
      have loop : ∀ m i, i + m = r → gWp none 225 (74, [some (.ref 1), some (.int (nI (tLs T l))), some (.int (nI r)), some (.int (nI (tGw T (oG T l (lnS (tXx T) (tLs T) l + r))))), some (.int (nI T.W - nI N)), some (.int (nI K)), some (.int (nI (cnt (spB (tNu T) (oG T l)) (lnS (tXx T) (tLs T) l) i))), some (.int (nI i))], [], μ) 0 P := by
        intro m
        induction m with
        | zero =>
          intro i hi
          have hir : i = r := by omega
          have hc := cle r
          refine vc_225_74 ?_
          rw [hir]
          generalize cnt (spB (tNu T) (oG T l)) (lnS (tXx T) (tLs T) l) r = c at h hc ⊢
          generalize tGw T (oG T l (lnS (tXx T) (tLs T) l + r)) = w at h w1 ⊢
          unfold wdN byN at h
          rcases Nat.lt_or_ge T.W N with z | z
          · have eD : dfN T.W N = N - T.W := if_pos z
            rw [eD, if_pos z] at h
            have hd0 : 0 < N - T.W := by omega
            have hdK : N - T.W ≤ K := by omega
            rw [dZ_neg (by omega) (by omega) (Nat.le_of_lt z)]
            generalize N - T.W = D at h hd0 hdK ⊢
            have pn : ¬ (0 : Int32) ≤ -nI D := by
              rw [nZ_ge hd0 (by omega)]
              exact not_false
            rw [if_neg pn, nZ_nn, iDiv (by omega) k0 (by omega), iRem, eq_false pn]
            have hR1 := Nat.mod_lt D k0
            have hR2 := Nat.mod_le D K
            have hq : D / K * K + D % K = D := Nat.div_add_mod' D K
            have hqle : D / K ≤ 1 := Nat.div_le_of_le_mul (by omega)
            have hq1 : D / K = 1 → D % K = 0 := fun e => by
              rw [e] at hq
              omega
            simp (disch := first | omega | decide) only [Nat.le_refl, show ¬ K = 0 by omega, nE_l, nE_r, nE_n, nLe_l, nLe_r, nLe_n, nLt_l, nLt_r, nLt_n, nA_l, nA_r, nI_add, nS_l, nS_n, nIn, nI_clamp, gI_I, gI_J, gI_D, gJ_J, gJ_I, gJ_D, true_and, and_true, false_and, and_false, if_true, if_false, false_implies, true_implies, not_true_eq_false, not_false_eq_true, bI_0, bI_1, Nat.reduceEqDiff, eq_self, nMax, nMin]
            refine ⟨fun q => ?_, fun q => ?_⟩
            · rw [if_neg (by omega)] at h
              exact h
            · rw [if_pos (by omega)] at h
              have : ¬ D / K = 1 := fun e => by have := hq1 e; omega
              rw [nS_n (show D / K + 1 ≤ w by omega)]
              exact h
          · have eD : dfN T.W N = T.W - N := if_neg (by omega)
            rw [eD, if_neg (by omega)] at h
            rw [nS_n z]
            have hd2 : T.W - N ≤ 200 := by omega
            generalize T.W - N = D at h hd2 ⊢
            have hR2 := Nat.mod_le D K
            have hR1 := Nat.mod_lt D k0
            have p0 : (0 : Int32) ≤ nI D := nI_pos' (by omega)
            rw [if_pos p0, iDiv (by omega) k0 (by omega), iRem, eq_true p0]
            simp (disch := first | omega | decide) only [Nat.le_refl, show ¬ K = 0 by omega, nE_l, nE_r, nE_n, nLe_l, nLe_r, nLe_n, nLt_l, nLt_r, nLt_n, nA_l, nA_r, nI_add, nS_l, nS_n, nIn, nI_clamp, gI_I, gI_J, gI_D, gJ_J, gJ_I, gJ_D, true_and, and_true, false_and, and_false, if_true, if_false, false_implies, true_implies, not_true_eq_false, not_false_eq_true, bI_0, bI_1, Nat.reduceEqDiff, eq_self, nMax, nMin]
            refine ⟨fun q => ?_, fun q => ?_⟩
            · rw [if_neg (by omega)] at h
              exact h
            · rw [if_pos (by omega)] at h
              exact h
        | succ m ih =>
          intro i hi
          obtain ⟨i1, i2, i3, i4, i5, i6, i7⟩ := slot i (by omega)
          have z := ih (i + 1) (by omega)
          have e : cnt (spB (tNu T) (oG T l)) (lnS (tXx T) (tLs T) l) (i + 1) = cnt (spB (tNu T) (oG T l)) (lnS (tXx T) (tLs T) l) i + (if spB (tNu T) (oG T l) (lnS (tXx T) (tLs T) l + i) = true then 1 else 0) := rfl
          have e2 : spB (tNu T) (oG T l) (lnS (tXx T) (tLs T) l + i) = (tNu T (oG T l (lnS (tXx T) (tLs T) l + i)) == 32) := rfl
          rw [e, e2] at z
          refine vc_225_74 ?_
          generalize nI T.W - nI N = dd at z ⊢
          simp (disch := first | omega | decide) only [i1, i5, i2, show ¬ r ≤ i by omega, show i < 50 by omega, nE_l, nE_r, nE_n, nLe_l, nLe_r, nLe_n, nLt_l, nLt_r, nLt_n, nA_l, nA_r, nI_add, nS_l, nS_n, nIn, nI_clamp, gI_I, gI_J, gI_D, gJ_J, gJ_I, gJ_D, true_and, and_true, false_and, and_false, if_true, if_false, false_implies, true_implies, not_true_eq_false, not_false_eq_true, bI_0, bI_1, Nat.reduceEqDiff, eq_self, nMax, nMin]
          refine ⟨fun q => ?_, fun q => ?_⟩
          · rw [if_neg (by rw [beq_iff_eq]; exact fun c => q (i7.mp c))] at z
            rw [Nat.add_zero]
            exact z
          · rw [if_pos (by rw [beq_iff_eq]; exact i7.mpr q)] at z
            exact z
      exact loop r 0 (by omega)
    · have j : lnJ (tXx T) (tLs T l) (tLs T (l + 1)) = false := by simpa using j
      rw [if_neg (by rw [j]; decide)] at h
      exact h
theorem gil_plc {T : gS} {x : Int32} {e g : Nat} (h : gilA T x = .inl e) (h' : plcA T x = .inr g) : False := by
  unfold plcA at h'
  rw [h] at h'
  cases h'
theorem m_227 {T : gS} {x : Int32} {μ : gMu} {P : gMu → gRes → Prop} (hk : gOk T) (hT : mTx T μ) (h : ∀ μ' w, gSm mAll μ μ' → mTx T μ' → gI μ' 1 9 = nI (cdA [2, 3, 1, 4] (jwdA T x)) → (∀ v, jwdA T x = .inr v → w = v) → P μ' (.inl (some (.int w)))) : gCl' 227 [.ref 1, .int x] μ P := by
  have hX := tXx_ok hk
  have g4 := hX.P
  have g5 := hX.G
  refine vc_227 (s_221 hk hT (fun μ' e he f t c => ⟨_, rfl, fun z => absurd rfl z, fun _ => h _ _ f t (by unfold jwdA; rw [he]; exact c) (fun v hv => by unfold jwdA at hv; rw [he] at hv; cases hv)⟩) (fun μ1 g r he hg hl hr hp f t L n row c => ⟨_, rfl, fun _ => ?_, fun z => absurd z (nI_nm1 ?_)⟩))
  · refine s_211 hk t (fun μ3 e he3 => (gil_plc he3 he).elim) (fun μ3 n3 j hs he3 hlt hx hj hm hnj hac f3 t3 L3 ln3 c3 => ⟨_, rfl, ?_⟩)
    have eg : tOw T n3 = g := by
      rw [hg] at he3
      cases he3
      rfl
    rw [eg]
    refine s_208 hk ln3 (by omega) hac ⟨_, rfl, s_225 hk t3 L3 ln3 (row.gf f3 (by decide) (by decide)) hl hr ⟨_, rfl, h _ _ (f.tr (f3.all (by decide))) t3 (by unfold jwdA; rw [he, c3]; rfl) (fun v hv => ?_)⟩⟩
    unfold jwdA at hv
    rw [he] at hv
    have hv : Sum.inr (nI (fwG T (lnOf T g) (pG T g))) = (Sum.inr v : Nat ⊕ Int32) := hv
    rw [hp] at hv
    cases hv
    rfl
  · have hSE := lnSE hX (tLs_ok (T := T)) hl
    omega
theorem m_226 {T : gS} {x : Int32} {μ : gMu} {P : gMu → gRes → Prop} (hk : gOk T) (hT : mTx T μ) (h : ∀ μ' w, gSm mAll μ μ' → mTx T μ' → gI μ' 1 9 = nI (cdA [2, 3, 1, 4] (plaA T x)) → (∀ v, plaA T x = .inr v → w = v) → P μ' (.inl (some (.int w)))) : gCl' 226 [.ref 1, .int x] μ P := by
  have hX := tXx_ok hk
  have g4 := hX.P
  have g5 := hX.G
  have g3 := hk.W
  have hW : (tXx T).W = T.W := rfl
  refine vc_226 (s_221 hk hT (fun μ' e he f t c => ⟨_, rfl, fun z => absurd rfl z, fun _ => h _ _ f t (by unfold plaA; rw [he]; exact c) (fun v hv => by unfold plaA at hv; rw [he] at hv; cases hv)⟩) (fun μ1 g r he hg hl hr hp f t L n row c => ⟨_, rfl, fun _ => ?_, fun z => absurd z (nI_nm1 ?_)⟩))
  · refine s_211 hk t (fun μ3 e he3 => (gil_plc he3 he).elim) (fun μ3 n3 j hs he3 hlt hx hj hm hnj hac f3 t3 L3 ln3 c3 => ⟨_, rfl, ?_⟩)
    have eg : tOw T n3 = g := by
      rw [hg] at he3
      cases he3
      rfl
    rw [eg]
    have row3 := row.gf f3 (by decide) (by decide)
    have nx := ln3.nx hl
    have hSE := lnSE hX (tLs_ok (T := T)) hl
    have xn := xN_le hX nx.2.1 nx.2.2
    have xk := xK_le hX nx.2.1 nx.2.2
    have xq := ls_q hl
    unfold xQ at xq
    rw [hW, decide_eq_true_eq] at xq
    have fin : P μ3 (.inl (some (.int (nI (p0N (tXx T) T.b (tLs T (lnOf T g)) (tLs T (lnOf T g + 1)) + smF (fwG T (lnOf T g)) (lnS (tXx T) (tLs T) (lnOf T g)) r))))) := by
      refine h _ _ (f.tr (f3.all (by decide))) t3 (by unfold plaA; rw [he, c3]; rfl) (fun v hv => ?_)
      unfold plaA at hv
      rw [he] at hv
      have hv : Sum.inr (nI (p0N (tXx T) T.b (tLs T (lnOf T g)) (tLs T (lnOf T g + 1)) + smF (fwG T (lnOf T g)) (lnS (tXx T) (tLs T) (lnOf T g)) (pG T g - lnS (tXx T) (tLs T) (lnOf T g)))) = (Sum.inr v : Nat ⊕ Int32) := hv
      rw [hp, Nat.add_sub_cancel_left] at hv
      cases hv
      rfl
    have loop : ∀ m i, i + m = r → gWp none 226 (63, [some (.ref 1), some (.int x), some (.int (nI r)), some (.int (nI (tLs T (lnOf T g)))), some (.int (nI (p0N (tXx T) T.b (tLs T (lnOf T g)) (tLs T (lnOf T g + 1)) + smF (fwG T (lnOf T g)) (lnS (tXx T) (tLs T) (lnOf T g)) i))), some (.int (nI i))], [], μ3) 0 P := by
      intro m
      induction m with
      | zero =>
        intro i hi
        have e : i = r := by omega
        refine vc_226_63 ?_
        rw [e]
        simp (disch := first | omega | decide) only [Nat.le_refl, nE_l, nE_r, nE_n, nLe_l, nLe_r, nLe_n, nLt_l, nLt_r, nLt_n, nA_l, nA_r, nI_add, nS_l, nS_n, nIn, nI_clamp, gI_I, gI_J, gI_D, gJ_J, gJ_I, gJ_D, true_and, and_true, false_and, and_false, if_true, if_false, false_implies, true_implies, not_true_eq_false, not_false_eq_true, bI_0, bI_1, Nat.reduceEqDiff, eq_self, nMax, nMin]
        exact fin
      | succ m ih =>
        intro i hi
        have z := ih (i + 1) (by omega)
        have e : smF (fwG T (lnOf T g)) (lnS (tXx T) (tLs T) (lnOf T g)) (i + 1) = smF (fwG T (lnOf T g)) (lnS (tXx T) (tLs T) (lnOf T g)) i + fwG T (lnOf T g) (lnS (tXx T) (tLs T) (lnOf T g) + i) := rfl
        rw [e, ← Nat.add_assoc] at z
        refine vc_226_63 ?_
        simp (disch := first | omega | decide) only [show ¬ r ≤ i by omega, nE_l, nE_r, nE_n, nLe_l, nLe_r, nLe_n, nLt_l, nLt_r, nLt_n, nA_l, nA_r, nI_add, nS_l, nS_n, nIn, nI_clamp, gI_I, gI_J, gI_D, gJ_J, gJ_I, gJ_D, true_and, and_true, false_and, and_false, if_true, if_false, false_implies, true_implies, not_true_eq_false, not_false_eq_true, bI_0, bI_1, Nat.reduceEqDiff, eq_self, nMax, nMin]
        refine s_225 hk t3 L3 ln3 row3 hl (by omega) ⟨_, rfl, ?_⟩
        rw [nI_add]
        exact z
    have z := loop r 0 (by omega)
    have e0 : smF (fwG T (lnOf T g)) (lnS (tXx T) (tLs T) (lnOf T g)) 0 = 0 := rfl
    rw [e0, Nat.add_zero] at z
    refine s_208 hk ln3 (by omega) hac ⟨_, rfl, s_224 hk t3 L3 ln3 hl ⟨_, rfl, ?_⟩⟩
    have hb := hk.b
    have h4 := t3.2.2.2.1
    unfold p0N at z
    rw [hW] at z
    simp (disch := first | omega | decide) only [h4, nx.1, show tLs T (lnOf T g) < 51 by omega, nE_l, nE_r, nE_n, nLe_l, nLe_r, nLe_n, nLt_l, nLt_r, nLt_n, nA_l, nA_r, nI_add, nS_l, nS_n, nIn, nI_clamp, gI_I, gI_J, gI_D, gJ_J, gJ_I, gJ_D, true_and, and_true, false_and, and_false, if_true, if_false, false_implies, true_implies, not_true_eq_false, not_false_eq_true, bI_0, bI_1, Nat.reduceEqDiff, eq_self, nMax, nMin]
    refine ⟨fun j => ?_, fun j => ⟨fun q => ?_, fun q => ?_⟩⟩
    · have j : lnJ (tXx T) (tLs T (lnOf T g)) (tLs T (lnOf T g + 1)) = true := by simpa using j
      rw [if_pos j] at z
      exact z
    · have j : lnJ (tXx T) (tLs T (lnOf T g)) (tLs T (lnOf T g + 1)) = false := by simpa using j
      rw [if_neg (by rw [j]; decide), if_neg q] at z
      unfold lnJ at j
      rw [decide_eq_false_iff_not, hW] at j
      refine s_194 hk t3 L3 nx.2.1 nx.2.2 ⟨_, rfl, ?_⟩
      rw [t3.2.2.1, nS_n (by omega)]
      exact z
    · have j : lnJ (tXx T) (tLs T (lnOf T g)) (tLs T (lnOf T g + 1)) = false := by simpa using j
      rw [if_neg (by rw [j]; decide), if_pos q] at z
      exact z
  · have hSE := lnSE hX (tLs_ok (T := T)) hl
    omega
theorem m_228 {T : gS} {μ : gMu} {P : gMu → gRes → Prop} (hk : gOk T) (hT : mTx T μ) (h : ∀ μ' w, gSm mAll μ μ' → mTx T μ' → gI μ' 1 9 = nI (cdA [1, 5] (hypA T)) → (∀ v, hypA T = .inr v → w = v) → P μ' (.inl (some (.float w)))) : gCl' 228 [.ref 1] μ P := by
  have hX := tXx_ok hk
  have g4 := hX.P
  have g5 := hX.G
  have hC := (tLs_ok (T := T)).1
  have eA : hypA T = if tTwT T = 0 then (if tCn T = 0 then .inl 5 else .inr (FP.fdiv (FP.i2f (nI (hyN T (tCn T)))) (FP.i2f (nI (tCn T))))) else .inl 1 := rfl
  refine vc_228 (s_204 (e := 1) hk hT (by decide) (fun μ' hz f t L n c => ⟨_, rfl, fun _ => s_191 hk L ⟨_, rfl, ?_⟩, fun z => absurd rfl z⟩) (fun μ' hz f t c => ⟨_, rfl, fun z => absurd z (by decide), fun _ => ?_⟩))
  · rw [if_pos hz] at eA
    rw [bI_0]
    refine ⟨fun q => ?_, fun q => s_161 ⟨_, rfl, ?_⟩⟩
    · have hb : tBlT T = false := by simpa using q
      have hac : tAc T = true := by unfold tAc; rw [hz, hb]; rfl
      have hM0 : 0 < tMn T := by
        rcases Nat.eq_zero_or_pos (tMn T) with e | e
        · exfalso
          have := (bl_slot hk).mpr (fun n hn => by omega)
          rw [hb] at this
          cases this
        · exact e
      have c0 := tCn_pos hk hM0 hac
      rw [if_neg c0] at eA
      have loop : ∀ r l, l + r = tCn T → gWp none 228 (29, [some (.ref 1), some (.int (nI (hyN T l))), some (.int (nI (tLs T l)))], [], μ') 0 P := by
        intro r
        induction r with
        | zero =>
          intro l hr
          have e : l = tCn T := by omega
          have hle := hyN_le T (tCn T)
          refine vc_228_29 ?_
          rw [e, L.P, (tLs_0 hac).2]
          simp (disch := first | omega | decide) only [Nat.le_refl, nE_l, nE_r, nE_n, nLe_l, nLe_r, nLe_n, nLt_l, nLt_r, nLt_n, nA_l, nA_r, nI_add, nS_l, nS_n, nIn, nI_clamp, gI_I, gI_J, gI_D, gJ_J, gJ_I, gJ_D, true_and, and_true, false_and, and_false, if_true, if_false, false_implies, true_implies, not_true_eq_false, not_false_eq_true, bI_0, bI_1, Nat.reduceEqDiff, eq_self, nMax, nMin]
          exact s_205 hk L n hz ⟨_, rfl, (share_ok (by omega) (by omega) (by omega)).1, h _ _ (f.all (by decide)) t (by rw [eA, c]; rfl) (fun v hv => by rw [eA] at hv; cases hv; rfl)⟩
        | succ r ih =>
          intro l hr
          have nx := n.nx (l := l) (by omega)
          have z := ih (l + 1) (by omega)
          have e : hyN T (l + 1) = hyN T l + (if xH (tXx T) (tLs T (l + 1)) = true then 1 else 0) := rfl
          rw [e] at z
          refine vc_228_29 ?_
          rw [L.P]
          simp (disch := first | omega | decide) only [nx.1, show ¬ (tXx T).P ≤ tLs T l by omega, show tLs T l < 51 by omega, nE_l, nE_r, nE_n, nLe_l, nLe_r, nLe_n, nLt_l, nLt_r, nLt_n, nA_l, nA_r, nI_add, nS_l, nS_n, nIn, nI_clamp, gI_I, gI_J, gI_D, gJ_J, gJ_I, gJ_D, true_and, and_true, false_and, and_false, if_true, if_false, false_implies, true_implies, not_true_eq_false, not_false_eq_true, bI_0, bI_1, Nat.reduceEqDiff, eq_self, nMax, nMin]
          refine s_201 hk L nx.2.2 ⟨_, rfl, ?_⟩
          simp (disch := first | omega | decide) only [nx.1, show tLs T l < 51 by omega, nE_l, nE_r, nE_n, nLe_l, nLe_r, nLe_n, nLt_l, nLt_r, nLt_n, nA_l, nA_r, nI_add, nS_l, nS_n, nIn, nI_clamp, gI_I, gI_J, gI_D, gJ_J, gJ_I, gJ_D, true_and, and_true, false_and, and_false, if_true, if_false, false_implies, true_implies, not_true_eq_false, not_false_eq_true, bI_0, bI_1, Nat.reduceEqDiff, eq_self, nMax, nMin]
          refine ⟨fun q => ?_, fun q => ?_⟩
          · rw [if_neg (by rw [q]; decide)] at z
            rw [Nat.add_zero]
            exact z
          · rw [if_pos (by simpa using q)] at z
            exact z
      have z := loop (tCn T) 0 (by omega)
      rw [(tLs_0 hac).1] at z
      exact z
    · rw [if_pos (tCn_b (by simpa using q))] at eA
      exact h _ _ ((f.all (by decide)).m (by decide)) (t.f9 2) (by rw [eA]; simp (disch := first | omega | decide) only [nE_l, nE_r, nE_n, nLe_l, nLe_r, nLe_n, nLt_l, nLt_r, nLt_n, nA_l, nA_r, nI_add, nS_l, nS_n, nIn, nI_clamp, gI_I, gI_J, gI_D, gJ_J, gJ_I, gJ_D, true_and, and_true, false_and, and_false, if_true, if_false, false_implies, true_implies, not_true_eq_false, not_false_eq_true, bI_0, bI_1, Nat.reduceEqDiff, eq_self, nMax, nMin]; rfl) (fun v hv => by rw [eA] at hv; cases hv)
  · rw [if_neg hz] at eA
    exact h _ _ (f.all (by decide)) t (by rw [eA, c]; rfl) (fun v hv => by rw [eA] at hv; cases hv)
theorem nI_l64 {b : Nat} (h : b ≤ 10000) : (nI b).toInt64 = lN b := nI_l (by omega)
theorem m_229 {T : gS} {μ : gMu} {P : gMu → gRes → Prop} (hk : gOk T) (hT : mTx T μ) (h : ∀ μ' w, gSm mAll μ μ' → mTx T μ' → gI μ' 1 9 = nI (cdA [1, 5] (meaA T)) → (∀ v, meaA T = .inr v → w = v) → P μ' (.inl (some (.double w)))) : gCl' 229 [.ref 1] μ P := by
  have hX := tXx_ok hk
  have g4 := hX.P
  have g5 := hX.G
  have hC := (tLs_ok (T := T)).1
  have eA : meaA T = if tTwT T = 0 then (if tCn T = 0 then .inl 5 else .inr (FP.ddiv (FP.i2d (nI (bdS T (tCn T)))) (FP.i2d (nI (tCn T))))) else .inl 1 := rfl
  refine vc_229 (s_204 (e := 1) hk hT (by decide) (fun μ' hz f t L n c => ⟨_, rfl, fun _ => s_191 hk L ⟨_, rfl, ?_⟩, fun z => absurd rfl z⟩) (fun μ' hz f t c => ⟨_, rfl, fun z => absurd z (by decide), fun _ => ?_⟩))
  · rw [if_pos hz] at eA
    rw [bI_0]
    refine ⟨fun q => ?_, fun q => s_161 ⟨_, rfl, ?_⟩⟩
    · have hb : tBlT T = false := by simpa using q
      have hac : tAc T = true := by unfold tAc; rw [hz, hb]; rfl
      have hM0 : 0 < tMn T := by
        rcases Nat.eq_zero_or_pos (tMn T) with e | e
        · exfalso
          have := (bl_slot hk).mpr (fun n hn => by omega)
          rw [hb] at this
          cases this
        · exact e
      have c0 := tCn_pos hk hM0 hac
      rw [if_neg c0] at eA
      have loop : ∀ r l, l + r = tCn T → gWp none 229 (29, [some (.ref 1), some (.long (lN (bdS T l))), none, some (.int (nI (tLs T l)))], [], μ') 0 P := by
        intro r
        induction r with
        | zero =>
          intro l hr
          have e : l = tCn T := by omega
          have hle := bdS_le T (tCn T)
          refine vc_229_29 ?_
          rw [e, L.P, (tLs_0 hac).2]
          simp (disch := first | omega | decide) only [Nat.le_refl, nE_l, nE_r, nE_n, nLe_l, nLe_r, nLe_n, nLt_l, nLt_r, nLt_n, nA_l, nA_r, nI_add, nS_l, nS_n, nIn, nI_clamp, gI_I, gI_J, gI_D, gJ_J, gJ_I, gJ_D, true_and, and_true, false_and, and_false, if_true, if_false, false_implies, true_implies, not_true_eq_false, not_false_eq_true, bI_0, bI_1, Nat.reduceEqDiff, eq_self, nMax, nMin]
          refine s_205 hk L n hz ⟨_, rfl, ?_⟩
          rw [l2d_i (by omega)]
          exact ⟨mean_ok (by omega) (by omega) (by omega), h _ _ (f.all (by decide)) t (by rw [eA, c]; rfl) (fun v hv => by rw [eA] at hv; cases hv; rfl)⟩
        | succ r ih =>
          intro l hr
          have nx := n.nx (l := l) (by omega)
          have z := ih (l + 1) (by omega)
          have e : bdS T (l + 1) = bdS T l + xB (tXx T) (tLs T l) (tLs T (l + 1)) := rfl
          rw [e, ← lN_add] at z
          refine vc_229_29 ?_
          rw [L.P]
          simp (disch := first | omega | decide) only [nx.1, show ¬ (tXx T).P ≤ tLs T l by omega, show tLs T l < 51 by omega, nE_l, nE_r, nE_n, nLe_l, nLe_r, nLe_n, nLt_l, nLt_r, nLt_n, nA_l, nA_r, nI_add, nS_l, nS_n, nIn, nI_clamp, gI_I, gI_J, gI_D, gJ_J, gJ_I, gJ_D, true_and, and_true, false_and, and_false, if_true, if_false, false_implies, true_implies, not_true_eq_false, not_false_eq_true, bI_0, bI_1, Nat.reduceEqDiff, eq_self, nMax, nMin]
          refine s_200 hk t L nx.2.1 nx.2.2 (ls_q (by omega)) ⟨_, rfl, ?_⟩
          rw [nI_l64 (xB_le _ _ _)]
          simp (disch := first | omega | decide) only [nx.1, show tLs T l < 51 by omega, nE_l, nE_r, nE_n, nLe_l, nLe_r, nLe_n, nLt_l, nLt_r, nLt_n, nA_l, nA_r, nI_add, nS_l, nS_n, nIn, nI_clamp, gI_I, gI_J, gI_D, gJ_J, gJ_I, gJ_D, true_and, and_true, false_and, and_false, if_true, if_false, false_implies, true_implies, not_true_eq_false, not_false_eq_true, bI_0, bI_1, Nat.reduceEqDiff, eq_self, nMax, nMin]
          exact z
      have z := loop (tCn T) 0 (by omega)
      rw [(tLs_0 hac).1] at z
      exact z
    · rw [if_pos (tCn_b (by simpa using q))] at eA
      exact h _ _ ((f.all (by decide)).m (by decide)) (t.f9 2) (by rw [eA]; simp (disch := first | omega | decide) only [nE_l, nE_r, nE_n, nLe_l, nLe_r, nLe_n, nLt_l, nLt_r, nLt_n, nA_l, nA_r, nI_add, nS_l, nS_n, nIn, nI_clamp, gI_I, gI_J, gI_D, gJ_J, gJ_I, gJ_D, true_and, and_true, false_and, and_false, if_true, if_false, false_implies, true_implies, not_true_eq_false, not_false_eq_true, bI_0, bI_1, Nat.reduceEqDiff, eq_self, nMax, nMin]; rfl) (fun v hv => by rw [eA] at hv; cases hv)
  · rw [if_neg hz] at eA
    exact h _ _ (f.all (by decide)) t (by rw [eA, c]; rfl) (fun v hv => by rw [eA] at hv; cases hv)
end
