/-! THE MODEL'S LEVELS -/
theorem c76 : vp_nar .char (76 : Int32) = nI 76 := nNc (by decide)
theorem c82 : vp_nar .char (82 : Int32) = nI 82 := nNc (by decide)
theorem c78 : vp_nar .char (78 : Int32) = nI 78 := nNc (by decide)
theorem c32 : vp_nar .char (32 : Int32) = nI 32 := nNc (by decide)
theorem kc0 : kc 0 = 76 := rfl
theorem kc1 : kc 1 = 82 := rfl
theorem kc2 : kc 2 = 78 := rfl
theorem kc3 : kc 3 = 32 := rfl
theorem isLt_of_lf {a : Nat} (h : isLf a = true) : isLt a = true := by unfold isLt; rw [h]; rfl
theorem isSh_cases {a : Nat} (h : isSh a = true) (hl : isLt a = false) : (isDg a = true ∧ isNe a = false) ∨ (isDg a = false ∧ isNe a = true) := by
  unfold isSh at h
  rw [hl, Bool.false_or, Bool.or_eq_true] at h
  cases hd : isDg a with
  | true =>
    refine Or.inl ⟨rfl, ?_⟩
    unfold isDg at hd
    have hd := of_decide_eq_true hd
    unfold isNe
    cases hn : (a == 32 || a == 45 || a == 44 || a == 46) with
    | false => rfl
    | true =>
      simp only [Bool.or_eq_true, beq_iff_eq] at hn
      omega
  | false =>
    rw [hd] at h
    exact Or.inr ⟨rfl, by simpa using h⟩
theorem tKd_le3 {f : Nat → Nat} {s e first last d k : Nat} (hf : first ≤ 1) (hd : d ≤ 1) (h3 : f k ≤ 3) : tKd f s e first last d k ≤ 2 := tKd_le hf hd h3
theorem s_175 {sg : Nat → Nat} {M s e first last E p : Nat} {L : Nat → Nat} {μ : gMu} {P : gMu → gRes → Prop} (hM : M ≤ 50) (hsg : gAr μ 50 M sg) (hb : ∀ k, k < M → sg k < 128) (hsh : ∀ k, k < M → isSh (sg k) = true) (hse : s < e) (he : e ≤ M) (hf1 : first ≤ 1) (hl1 : last ≤ 1) (hE : gI μ 51 s = nI E) (hE2 : E < 1000) (hL : gAs μ 52 p s L) (hps : p ≤ s) (hLf : ∀ k, s ≤ k → k < e → L k = tLvK E (tKd (tK0 sg s first) s e first last (odN E) k)) (h : ∀ μ', mF [52, 57] [] μ μ' → gAs μ' 52 p e L → P μ' (.inl none)) : gCl' 175 [.ref 1, .int (nI s), .int (nI e), .int (nI (kc first)), .int (nI (kc last))] μ P := by
  have hE3 := odN_le E
  have hK := tK0_le sg s first
  -- the levels
  have lev : ∀ (y5 : Int32) r k μ', k + r = e → s ≤ k → mF [52, 57] [] μ μ' → gAs μ' 57 s e (fun k => kc (tKd (tK0 sg s first) s e first last (odN E) k)) → gAs μ' 52 p k L → gWp none 175 (276, [some (.ref 1), some (.int (nI s)), some (.int (nI e)), some (.int (nI (kc first))), some (.int (nI (kc last))), some (.int y5), some (.int (nI E)), some (.int (nI k)), none, none, none, none], [], μ') 0 P := by
    intro y5 r
    induction r with
    | zero =>
      intro k μ' hr hk hs hkd hc
      have hke : k = e := by omega
      subst hke
      refine vc_175_276 ?_
      simp (disch := first | omega | decide) only [Nat.le_refl, nE_l, nE_r, nE_n, nLe_l, nLe_r, nLe_n, nLt_l, nLt_r, nLt_n, nA_l, nA_r, nI_add, nS_l, nS_n, nIn, nI_clamp, gI_I, gI_J, gI_D, gJ_J, gJ_I, gJ_D, true_and, and_true, false_and, and_false, if_true, if_false, false_implies, true_implies, not_true_eq_false, not_false_eq_true, bI_0, bI_1, Nat.reduceEqDiff, eq_self, nMax, nMin]
      exact h μ' hs hc
    | succ r ih =>
      intro k μ' hr hk hs hkd hc
      have g1 := hkd k hk (by omega)
      have g2 := tKd_le3 (f := tK0 sg s first) (s := s) (e := e) (last := last) (k := k) hf1 hE3 (hK k)
      have g3 := hLf k hk (by omega)
      have g4 := kc_lt (tKd (tK0 sg s first) s e first last (odN E) k)
      have i20 : ((2 : Int32) = 0) = False := eq_false (by decide)
      have r2 := iR2 (e := E) (by omega)
      have go : ∀ v, v = L k → gWp none 175 (276, [some (.ref 1), some (.int (nI s)), some (.int (nI e)), some (.int (nI (kc first))), some (.int (nI (kc last))), some (.int y5), some (.int (nI E)), some (.int (nI (k + 1))), none, none, none, none], [], gsI μ' 52 k (nI v)) 0 P := fun v hv => ih (k + 1) _ (by omega) (by omega) (hs.i 52 _ _ (by decide) (by decide)) (hkd.skip (by decide)) (hc.push hv)
      unfold tLvK isOd at g3
      refine vc_175_276 ?_
      simp (disch := first | omega | decide) only [show ¬ e ≤ k by omega, show k < 50 by omega, g1, i20, r2, kc_76, kc_82, nE_l, nE_r, nE_n, nLe_l, nLe_r, nLe_n, nLt_l, nLt_r, nLt_n, nA_l, nA_r, nI_add, nS_l, nS_n, nIn, nI_clamp, gI_I, gI_J, gI_D, gJ_J, gJ_I, gJ_D, true_and, and_true, false_and, and_false, if_true, if_false, false_implies, true_implies, not_true_eq_false, not_false_eq_true, bI_0, bI_1, Nat.reduceEqDiff, eq_self, nMax, nMin]
      generalize tKd (tK0 sg s first) s e first last (odN E) k = x at g2 g3 ⊢
      refine ⟨fun q1 => ⟨fun q2 => ?_, fun q2 => ?_⟩, fun q1 => ⟨fun q2 => ⟨fun q3 => ?_, fun q3 => ?_⟩, fun q2 => ?_⟩⟩
      · rw [if_pos (by simp; omega), if_neg q2] at g3
        exact go _ g3.symm
      · rw [if_pos (by simp; omega), if_pos q2] at g3
        exact go _ g3.symm
      · rw [if_neg (by simp; omega), if_neg q2, if_neg q3] at g3
        exact go _ g3.symm
      · rw [if_neg (by simp; omega), if_neg q2, if_pos q3] at g3
        exact go _ g3.symm
      · rw [if_neg (by simp; omega), if_pos q2] at g3
        exact go _ g3.symm
  -- the neutrals
  have neu : ∀ (y5 : Int32) r i q μ' z1 z2 z3 z4, i + r = e → s ≤ i → i ≤ q → q ≤ e → mF [57] [] μ μ' → gAs μ' 57 s q (fun k => kc (tKd (tK0 sg s first) s e first last (odN E) k)) → gAs μ' 57 q e (fun k => kc (tK0 sg s first k)) → (q = s ∨ q = e ∨ tK0 sg s first q ≠ 3 ∨ (s < q ∧ tK0 sg s first (q - 1) ≠ 3)) → gWp none 175 (115, [some (.ref 1), some (.int (nI s)), some (.int (nI e)), some (.int (nI (kc first))), some (.int (nI (kc last))), some (.int y5), some (.int (nI E)), some (.int (nI i)), z1, z2, z3, z4], [], μ') 0 P := by
    intro y5 r
    induction r with
    | zero =>
      intro i q μ' z1 z2 z3 z4 hr h1 h2 h4 hs hd hu hp
      have hie : i = e := by omega
      have hqe : q = e := by omega
      subst hqe
      refine gWp_up (vc_175_115 ?_) (by (repeat (first | exact gUp.nil | refine gUp.cs ?_ | refine gUp.cn ?_)))
      simp (disch := first | omega | decide) only [show q ≤ i by omega, nE_l, nE_r, nE_n, nLe_l, nLe_r, nLe_n, nLt_l, nLt_r, nLt_n, nA_l, nA_r, nI_add, nS_l, nS_n, nIn, nI_clamp, gI_I, gI_J, gI_D, gJ_J, gJ_I, gJ_D, true_and, and_true, false_and, and_false, if_true, if_false, false_implies, true_implies, not_true_eq_false, not_false_eq_true, bI_0, bI_1, Nat.reduceEqDiff, eq_self, nMax, nMin]
      exact lev y5 (q - s) s μ' (by omega) (Nat.le_refl s) (hs.up (by decide) (by decide)) hd (hL.gf hs (by decide) (by decide))
    | succ r ih =>
      intro i q μ' z1 z2 z3 z4 hr h1 h2 h4 hs hd hu hp
      by_cases hiq : i < q
      · have hv := hd i h1 hiq
        have hle := tKd_le3 (f := tK0 sg s first) (s := s) (e := e) (last := last) (k := i) hf1 hE3 (hK i)
        have hne : ¬ kc (tKd (tK0 sg s first) s e first last (odN E) i) = 32 := by rw [kc_32 (by omega)]; omega
        have hkl := kc_lt (tKd (tK0 sg s first) s e first last (odN E) i)
        refine gWp_up (vc_175_115 ?_) (by (repeat (first | exact gUp.nil | refine gUp.cs ?_ | refine gUp.cn ?_)))
        simp (disch := first | omega | decide) only [hv, show ¬ e ≤ i by omega, show i < 50 by omega, hne, nE_l, nE_r, nE_n, nLe_l, nLe_r, nLe_n, nLt_l, nLt_r, nLt_n, nA_l, nA_r, nI_add, nS_l, nS_n, nIn, nI_clamp, gI_I, gI_J, gI_D, gJ_J, gJ_I, gJ_D, true_and, and_true, false_and, and_false, if_true, if_false, false_implies, true_implies, not_true_eq_false, not_false_eq_true, bI_0, bI_1, Nat.reduceEqDiff, eq_self, nMax, nMin]
        exact ih (i + 1) q μ' _ _ _ _ (by omega) (by omega) (by omega) h4 hs hd hu hp
      · have hqi : q = i := by omega
        subst hqi
        have hv := hu q (Nat.le_refl q) (by omega)
        have hkl := kc_lt (tK0 sg s first q)
        refine gWp_up (vc_175_115 ?_) (by (repeat (first | exact gUp.nil | refine gUp.cs ?_ | refine gUp.cn ?_)))
        simp (disch := first | omega | decide) only [hv, show ¬ e ≤ q by omega, show q < 50 by omega, kc_32 (hK q), nE_l, nE_r, nE_n, nLe_l, nLe_r, nLe_n, nLt_l, nLt_r, nLt_n, nA_l, nA_r, nI_add, nS_l, nS_n, nIn, nI_clamp, gI_I, gI_J, gI_D, gJ_J, gJ_I, gJ_D, true_and, and_true, false_and, and_false, if_true, if_false, false_implies, true_implies, not_true_eq_false, not_false_eq_true, bI_0, bI_1, Nat.reduceEqDiff, eq_self, nMax, nMin]
        refine ⟨fun hn => ?_, fun hn => ?_⟩
        · refine ih (q + 1) (q + 1) μ' _ _ _ _ (by omega) (by omega) (Nat.le_refl _) (by omega) hs (fun j h5 h6 => ?_) (hu.sub (by omega) (Nat.le_refl e)) (Or.inr (Or.inr (Or.inr ⟨by omega, by rw [Nat.add_sub_cancel]; exact hn⟩)))
          by_cases hj : j = q
          · have e9 : tKd (tK0 sg s first) s e first last (odN E) q = tK0 sg s first q := if_neg hn
            rw [hj, hv]
            show nI (kc (tK0 sg s first q)) = nI (kc (tKd (tK0 sg s first) s e first last (odN E) q))
            rw [e9]
          · exact hd j h5 (by omega)
        · have hbk : q = s ∨ (s < q ∧ tK0 sg s first (q - 1) ≠ 3) := by
            rcases hp with h5 | h5 | h5 | h5
            · exact Or.inl h5
            · omega
            · exact absurd hn h5
            · exact Or.inr h5
          -- the end of the neutrals
          have fnd : ∀ r2 t, t + r2 = e → q ≤ t → (∀ j, q ≤ j → j < t → tK0 sg s first j = 3) → gWp none 175 (137, [some (.ref 1), some (.int (nI s)), some (.int (nI e)), some (.int (nI (kc first))), some (.int (nI (kc last))), some (.int y5), some (.int (nI E)), some (.int (nI q)), some (.int (nI t)), none, none, none], [], μ') 0 P := by
            intro r2
            -- the filling
            have fill : ∀ t, q < t → t ≤ e → (∀ j, q ≤ j → j < t → tK0 sg s first j = 3) → (t < e → tK0 sg s first t ≠ 3) → ∀ (A B : Nat), A ≤ 1 → B ≤ 1 → A = (if q = s then first else sdK (tK0 sg s first (q - 1))) → B = (if t = e then last else sdK (tK0 sg s first t)) → gWp none 175 (230, [some (.ref 1), some (.int (nI s)), some (.int (nI e)), some (.int (nI (kc first))), some (.int (nI (kc last))), some (.int y5), some (.int (nI E)), some (.int (nI q)), some (.int (nI t)), some (.int (nI (kc A))), some (.int (nI (kc B))), some (.int (nI q))], [], μ') 0 P := by
              intro t ht hte hall hft A B hA1 hB1 hA hB
              have hv9 := tKd_run (d := odN E) h1 ht hte hall hbk hft hA hB
              have hkA := kc_lt A
              have hkB := kc_lt B
              have hkE := kc_lt (odN E)
              have inner : ∀ r3 j μ2, j + r3 = t → q ≤ j → mF [57] [] μ μ2 → gAs μ2 57 s j (fun k => kc (tKd (tK0 sg s first) s e first last (odN E) k)) → gAs μ2 57 t e (fun k => kc (tK0 sg s first k)) → gWp none 175 (230, [some (.ref 1), some (.int (nI s)), some (.int (nI e)), some (.int (nI (kc first))), some (.int (nI (kc last))), some (.int y5), some (.int (nI E)), some (.int (nI q)), some (.int (nI t)), some (.int (nI (kc A))), some (.int (nI (kc B))), some (.int (nI j))], [], μ2) 0 P := by
                intro r3
                induction r3 with
                | zero =>
                  intro j μ2 hj hqj hs2 hd2 hu2
                  have hjt : j = t := by omega
                  subst hjt
                  refine vc_175_230 ?_
                  simp (disch := first | omega | decide) only [Nat.le_refl, nE_l, nE_r, nE_n, nLe_l, nLe_r, nLe_n, nLt_l, nLt_r, nLt_n, nA_l, nA_r, nI_add, nS_l, nS_n, nIn, nI_clamp, gI_I, gI_J, gI_D, gJ_J, gJ_I, gJ_D, true_and, and_true, false_and, and_false, if_true, if_false, false_implies, true_implies, not_true_eq_false, not_false_eq_true, bI_0, bI_1, Nat.reduceEqDiff, eq_self, nMax, nMin]
                  refine ih (q + 1) j μ2 _ _ _ _ (by omega) (by omega) (by omega) hte hs2 hd2 hu2 ?_
                  by_cases c : j = e
                  · exact Or.inr (Or.inl c)
                  · exact Or.inr (Or.inr (Or.inl (hft (by omega))))
                | succ r3 ih3 =>
                  intro j μ2 hj hqj hs2 hd2 hu2
                  have v9 := hv9 j hqj (by omega)
                  have next : ∀ v, v = tKd (tK0 sg s first) s e first last (odN E) j → gWp none 175 (230, [some (.ref 1), some (.int (nI s)), some (.int (nI e)), some (.int (nI (kc first))), some (.int (nI (kc last))), some (.int y5), some (.int (nI E)), some (.int (nI q)), some (.int (nI t)), some (.int (nI (kc A))), some (.int (nI (kc B))), some (.int (nI (j + 1)))], [], gsI μ2 57 j (nI (kc v))) 0 P := fun v hv => ih3 (j + 1) _ (by omega) (by omega) (hs2.i 57 _ _ (by decide) (by decide)) (hd2.push (by rw [hv])) (hu2.pop (by omega))
                  refine vc_175_230 ?_
                  simp (disch := first | omega | decide) only [show ¬ t ≤ j by omega, show j < 50 by omega, nNc (show kc A < 65536 by omega), kc_inj (show A ≤ 3 by omega) (show B ≤ 3 by omega), nE_l, nE_r, nE_n, nLe_l, nLe_r, nLe_n, nLt_l, nLt_r, nLt_n, nA_l, nA_r, nI_add, nS_l, nS_n, nIn, nI_clamp, gI_I, gI_J, gI_D, gJ_J, gJ_I, gJ_D, true_and, and_true, false_and, and_false, if_true, if_false, false_implies, true_implies, not_true_eq_false, not_false_eq_true, bI_0, bI_1, Nat.reduceEqDiff, eq_self, nMax, nMin]
                  refine ⟨fun c => s_174 (by omega) ⟨_, rfl, ?_⟩, fun c => ?_⟩
                  · rw [if_neg c] at v9
                    simp (disch := first | omega | decide) only [nNc (show kc (odN E) < 65536 by omega), show j < 50 by omega, nE_l, nE_r, nE_n, nLe_l, nLe_r, nLe_n, nLt_l, nLt_r, nLt_n, nA_l, nA_r, nI_add, nS_l, nS_n, nIn, nI_clamp, gI_I, gI_J, gI_D, gJ_J, gJ_I, gJ_D, true_and, and_true, false_and, and_false, if_true, if_false, false_implies, true_implies, not_true_eq_false, not_false_eq_true, bI_0, bI_1, Nat.reduceEqDiff, eq_self, nMax, nMin]
                    exact next _ v9.symm
                  · rw [if_pos c] at v9
                    exact next _ v9.symm
              exact inner (t - q) q μ' (by omega) (Nat.le_refl q) hs hd (hu.sub (by omega) (Nat.le_refl e))
            induction r2 with
            | zero =>
              intro t ht hqt hall
              have hte : t = e := by omega
              refine vc_175_137 ?_
              rw [show (nI e ≤ nI t) = True from eq_true (nI_le (by omega) (by omega))]
              refine ⟨fun _ => ?_, fun z => absurd trivial z⟩
              by_cases hqs : q = s
              · have iqs : (q = s) = True := eq_true hqs
                by_cases hte2 : t = e
                · have ite2 : (t = e) = True := eq_true hte2
                  simp (disch := first | omega | decide) only [iqs, ite2, nE_l, nE_r, nE_n, nLe_l, nLe_r, nLe_n, nLt_l, nLt_r, nLt_n, nA_l, nA_r, nI_add, nS_l, nS_n, nIn, nI_clamp, gI_I, gI_J, gI_D, gJ_J, gJ_I, gJ_D, true_and, and_true, false_and, and_false, if_true, if_false, false_implies, true_implies, not_true_eq_false, not_false_eq_true, bI_0, bI_1, Nat.reduceEqDiff, eq_self, nMax, nMin]
                  exact fill t (by omega) (by omega) hall (fun z => by omega) first last hf1 hl1 (by rw [if_pos hqs]) (by rw [if_pos hte2])
                · have ite2 : (t = e) = False := eq_false hte2
                  have htv := hu t (by omega) (by omega)
                  have hkt := kc_lt (tK0 sg s first t)
                  simp (disch := first | omega | decide) only [iqs, ite2, htv, show t < 50 by omega, kc_76, nE_l, nE_r, nE_n, nLe_l, nLe_r, nLe_n, nLt_l, nLt_r, nLt_n, nA_l, nA_r, nI_add, nS_l, nS_n, nIn, nI_clamp, gI_I, gI_J, gI_D, gJ_J, gJ_I, gJ_D, true_and, and_true, false_and, and_false, if_true, if_false, false_implies, true_implies, not_true_eq_false, not_false_eq_true, bI_0, bI_1, Nat.reduceEqDiff, eq_self, nMax, nMin]
                  refine ⟨fun c => ?_, fun c => ?_⟩
                  · exact fill t (by omega) (by omega) hall (fun _ => by first | exact hft3 | omega) first 1 hf1 (Nat.le_refl 1) (by rw [if_pos hqs]) (by rw [if_neg hte2]; unfold sdK; rw [if_neg c])
                  · exact fill t (by omega) (by omega) hall (fun _ => by first | exact hft3 | omega) first 0 hf1 (by omega) (by rw [if_pos hqs]) (by rw [if_neg hte2]; unfold sdK; rw [if_pos c])
              · have iqs : (q = s) = False := eq_false hqs
                have hp1 : s < q ∧ tK0 sg s first (q - 1) ≠ 3 := by
                  rcases hbk with h5 | h5
                  · exact absurd h5 hqs
                  · exact h5
                have hpv : gI μ' 57 (q - 1) = nI (kc (tK0 sg s first (q - 1))) := by
                  rw [hd (q - 1) (by omega) (by omega)]
                  have e9 : tKd (tK0 sg s first) s e first last (odN E) (q - 1) = tK0 sg s first (q - 1) := if_neg hp1.2
                  show nI (kc (tKd (tK0 sg s first) s e first last (odN E) (q - 1))) = _
                  rw [e9]
                have hkp := kc_lt (tK0 sg s first (q - 1))
                by_cases hte2 : t = e
                · have ite2 : (t = e) = True := eq_true hte2
                  simp (disch := first | omega | decide) only [iqs, ite2, hpv, show q - 1 < 50 by omega, kc_76, nE_l, nE_r, nE_n, nLe_l, nLe_r, nLe_n, nLt_l, nLt_r, nLt_n, nA_l, nA_r, nI_add, nS_l, nS_n, nIn, nI_clamp, gI_I, gI_J, gI_D, gJ_J, gJ_I, gJ_D, true_and, and_true, false_and, and_false, if_true, if_false, false_implies, true_implies, not_true_eq_false, not_false_eq_true, bI_0, bI_1, Nat.reduceEqDiff, eq_self, nMax, nMin]
                  refine ⟨fun c => ?_, fun c => ?_⟩
                  · exact fill t (by omega) (by omega) hall (fun z => by omega) 1 last (Nat.le_refl 1) hl1 (by rw [if_neg hqs]; unfold sdK; rw [if_neg c]) (by rw [if_pos hte2])
                  · exact fill t (by omega) (by omega) hall (fun z => by omega) 0 last (by omega) hl1 (by rw [if_neg hqs]; unfold sdK; rw [if_pos c]) (by rw [if_pos hte2])
                · have ite2 : (t = e) = False := eq_false hte2
                  have htv := hu t (by omega) (by omega)
                  have hkt := kc_lt (tK0 sg s first t)
                  simp (disch := first | omega | decide) only [iqs, ite2, hpv, htv, show q - 1 < 50 by omega, show t < 50 by omega, kc_76, nE_l, nE_r, nE_n, nLe_l, nLe_r, nLe_n, nLt_l, nLt_r, nLt_n, nA_l, nA_r, nI_add, nS_l, nS_n, nIn, nI_clamp, gI_I, gI_J, gI_D, gJ_J, gJ_I, gJ_D, true_and, and_true, false_and, and_false, if_true, if_false, false_implies, true_implies, not_true_eq_false, not_false_eq_true, bI_0, bI_1, Nat.reduceEqDiff, eq_self, nMax, nMin]
                  refine ⟨fun c => ⟨fun c2 => ?_, fun c2 => ?_⟩, fun c => ⟨fun c2 => ?_, fun c2 => ?_⟩⟩
                  · exact fill t (by omega) (by omega) hall (fun _ => by first | exact hft3 | omega) 1 1 (Nat.le_refl 1) (Nat.le_refl 1) (by rw [if_neg hqs]; unfold sdK; rw [if_neg c]) (by rw [if_neg hte2]; unfold sdK; rw [if_neg c2])
                  · exact fill t (by omega) (by omega) hall (fun _ => by first | exact hft3 | omega) 1 0 (Nat.le_refl 1) (by omega) (by rw [if_neg hqs]; unfold sdK; rw [if_neg c]) (by rw [if_neg hte2]; unfold sdK; rw [if_pos c2])
                  · exact fill t (by omega) (by omega) hall (fun _ => by first | exact hft3 | omega) 0 1 (by omega) (Nat.le_refl 1) (by rw [if_neg hqs]; unfold sdK; rw [if_pos c]) (by rw [if_neg hte2]; unfold sdK; rw [if_neg c2])
                  · exact fill t (by omega) (by omega) hall (fun _ => by first | exact hft3 | omega) 0 0 (by omega) (by omega) (by rw [if_neg hqs]; unfold sdK; rw [if_pos c]) (by rw [if_neg hte2]; unfold sdK; rw [if_pos c2])
            | succ r2 ih2 =>
              intro t ht hqt hall
              have htv := hu t (by omega) (by omega)
              have hkt := kc_lt (tK0 sg s first t)
              refine vc_175_137 ?_
              rw [show (nI e ≤ nI t) = False from eq_false (nI_ge (by omega) (by omega))]
              refine ⟨fun z => z.elim, fun _ => ⟨vp_in_nI (by omega) (by decide), ?_⟩⟩
              rw [nI_clamp (show t < 2 ^ 31 by omega), htv, show (nI (kc (tK0 sg s first t)) = 32) = (tK0 sg s first t = 3) from (nE_l (n := 32) (by omega) (by decide)).trans (kc_32 (hK t))]
              refine ⟨fun hft3 => ?_, fun hft3 => ?_⟩
              · have htq : q < t := by
                  rcases Nat.lt_or_ge q t with c | c
                  · exact c
                  · have : t = q := by omega
                    rw [this] at hft3
                    exact absurd hn hft3
                rw [← htv]
                by_cases hqs : q = s
                · have iqs : (q = s) = True := eq_true hqs
                  by_cases hte2 : t = e
                  · have ite2 : (t = e) = True := eq_true hte2
                    simp (disch := first | omega | decide) only [iqs, ite2, nE_l, nE_r, nE_n, nLe_l, nLe_r, nLe_n, nLt_l, nLt_r, nLt_n, nA_l, nA_r, nI_add, nS_l, nS_n, nIn, nI_clamp, gI_I, gI_J, gI_D, gJ_J, gJ_I, gJ_D, true_and, and_true, false_and, and_false, if_true, if_false, false_implies, true_implies, not_true_eq_false, not_false_eq_true, bI_0, bI_1, Nat.reduceEqDiff, eq_self, nMax, nMin]
                    exact fill t (by omega) (by omega) hall (fun z => by omega) first last hf1 hl1 (by rw [if_pos hqs]) (by rw [if_pos hte2])
                  · have ite2 : (t = e) = False := eq_false hte2
                    have htv := hu t (by omega) (by omega)
                    have hkt := kc_lt (tK0 sg s first t)
                    simp (disch := first | omega | decide) only [iqs, ite2, htv, show t < 50 by omega, kc_76, nE_l, nE_r, nE_n, nLe_l, nLe_r, nLe_n, nLt_l, nLt_r, nLt_n, nA_l, nA_r, nI_add, nS_l, nS_n, nIn, nI_clamp, gI_I, gI_J, gI_D, gJ_J, gJ_I, gJ_D, true_and, and_true, false_and, and_false, if_true, if_false, false_implies, true_implies, not_true_eq_false, not_false_eq_true, bI_0, bI_1, Nat.reduceEqDiff, eq_self, nMax, nMin]
                    refine ⟨fun c => ?_, fun c => ?_⟩
                    · exact fill t (by omega) (by omega) hall (fun _ => by first | exact hft3 | omega) first 1 hf1 (Nat.le_refl 1) (by rw [if_pos hqs]) (by rw [if_neg hte2]; unfold sdK; rw [if_neg c])
                    · exact fill t (by omega) (by omega) hall (fun _ => by first | exact hft3 | omega) first 0 hf1 (by omega) (by rw [if_pos hqs]) (by rw [if_neg hte2]; unfold sdK; rw [if_pos c])
                · have iqs : (q = s) = False := eq_false hqs
                  have hp1 : s < q ∧ tK0 sg s first (q - 1) ≠ 3 := by
                    rcases hbk with h5 | h5
                    · exact absurd h5 hqs
                    · exact h5
                  have hpv : gI μ' 57 (q - 1) = nI (kc (tK0 sg s first (q - 1))) := by
                    rw [hd (q - 1) (by omega) (by omega)]
                    have e9 : tKd (tK0 sg s first) s e first last (odN E) (q - 1) = tK0 sg s first (q - 1) := if_neg hp1.2
                    show nI (kc (tKd (tK0 sg s first) s e first last (odN E) (q - 1))) = _
                    rw [e9]
                  have hkp := kc_lt (tK0 sg s first (q - 1))
                  by_cases hte2 : t = e
                  · have ite2 : (t = e) = True := eq_true hte2
                    simp (disch := first | omega | decide) only [iqs, ite2, hpv, show q - 1 < 50 by omega, kc_76, nE_l, nE_r, nE_n, nLe_l, nLe_r, nLe_n, nLt_l, nLt_r, nLt_n, nA_l, nA_r, nI_add, nS_l, nS_n, nIn, nI_clamp, gI_I, gI_J, gI_D, gJ_J, gJ_I, gJ_D, true_and, and_true, false_and, and_false, if_true, if_false, false_implies, true_implies, not_true_eq_false, not_false_eq_true, bI_0, bI_1, Nat.reduceEqDiff, eq_self, nMax, nMin]
                    refine ⟨fun c => ?_, fun c => ?_⟩
                    · exact fill t (by omega) (by omega) hall (fun z => by omega) 1 last (Nat.le_refl 1) hl1 (by rw [if_neg hqs]; unfold sdK; rw [if_neg c]) (by rw [if_pos hte2])
                    · exact fill t (by omega) (by omega) hall (fun z => by omega) 0 last (by omega) hl1 (by rw [if_neg hqs]; unfold sdK; rw [if_pos c]) (by rw [if_pos hte2])
                  · have ite2 : (t = e) = False := eq_false hte2
                    have htv := hu t (by omega) (by omega)
                    have hkt := kc_lt (tK0 sg s first t)
                    simp (disch := first | omega | decide) only [iqs, ite2, hpv, htv, show q - 1 < 50 by omega, show t < 50 by omega, kc_76, nE_l, nE_r, nE_n, nLe_l, nLe_r, nLe_n, nLt_l, nLt_r, nLt_n, nA_l, nA_r, nI_add, nS_l, nS_n, nIn, nI_clamp, gI_I, gI_J, gI_D, gJ_J, gJ_I, gJ_D, true_and, and_true, false_and, and_false, if_true, if_false, false_implies, true_implies, not_true_eq_false, not_false_eq_true, bI_0, bI_1, Nat.reduceEqDiff, eq_self, nMax, nMin]
                    refine ⟨fun c => ⟨fun c2 => ?_, fun c2 => ?_⟩, fun c => ⟨fun c2 => ?_, fun c2 => ?_⟩⟩
                    · exact fill t (by omega) (by omega) hall (fun _ => by first | exact hft3 | omega) 1 1 (Nat.le_refl 1) (Nat.le_refl 1) (by rw [if_neg hqs]; unfold sdK; rw [if_neg c]) (by rw [if_neg hte2]; unfold sdK; rw [if_neg c2])
                    · exact fill t (by omega) (by omega) hall (fun _ => by first | exact hft3 | omega) 1 0 (Nat.le_refl 1) (by omega) (by rw [if_neg hqs]; unfold sdK; rw [if_neg c]) (by rw [if_neg hte2]; unfold sdK; rw [if_pos c2])
                    · exact fill t (by omega) (by omega) hall (fun _ => by first | exact hft3 | omega) 0 1 (by omega) (Nat.le_refl 1) (by rw [if_neg hqs]; unfold sdK; rw [if_pos c]) (by rw [if_neg hte2]; unfold sdK; rw [if_neg c2])
                    · exact fill t (by omega) (by omega) hall (fun _ => by first | exact hft3 | omega) 0 0 (by omega) (by omega) (by rw [if_neg hqs]; unfold sdK; rw [if_pos c]) (by rw [if_neg hte2]; unfold sdK; rw [if_pos c2])
              · rw [nI_1]
                refine ih2 (t + 1) (by omega) (by omega) (fun j j1 j2 => ?_)
                by_cases c : j = t
                · rw [c]; exact hft3
                · exact hall j j1 (by omega)
          exact fnd (e - q) q (by omega) (Nat.le_refl q) (fun j h5 h6 => by omega)
  -- the kinds
  have knd : ∀ r k μ' z, k + r = e → s ≤ k → mF [57] [] μ μ' → gAs μ' 57 s k (fun k => kc (tK0 sg s first k)) → gWp none 175 (6, [some (.ref 1), some (.int (nI s)), some (.int (nI e)), some (.int (nI (kc first))), some (.int (nI (kc last))), some (.int (nI (kc (tLast sg s first (k - s))))), some (.int (nI k)), z, none, none, none, none], [], μ') 0 P := by
    intro r
    induction r with
    | zero =>
      intro k μ' z hr hk hs hc
      have hke : k = e := by omega
      subst hke
      have hE' : gI μ' 51 s = nI E := by rw [hs.I (by decide) (by decide), hE]
      refine gWp_up (vc_175_6 ?_) (by (repeat (first | exact gUp.nil | refine gUp.cs ?_ | refine gUp.cn ?_)))
      simp (disch := first | omega | decide) only [Nat.le_refl, show s < 50 by omega, hE', nE_l, nE_r, nE_n, nLe_l, nLe_r, nLe_n, nLt_l, nLt_r, nLt_n, nA_l, nA_r, nI_add, nS_l, nS_n, nIn, nI_clamp, gI_I, gI_J, gI_D, gJ_J, gJ_I, gJ_D, true_and, and_true, false_and, and_false, if_true, if_false, false_implies, true_implies, not_true_eq_false, not_false_eq_true, bI_0, bI_1, Nat.reduceEqDiff, eq_self, nMax, nMin]
      exact neu _ (k - s) s s μ' _ _ _ _ (by omega) (Nat.le_refl s) (Nat.le_refl s) hk hs (fun j j1 j2 => by omega) hc (Or.inl rfl)
    | succ r ih =>
      intro k μ' z hr hk hs hc
      have hlt : k < M := by omega
      have hbk := hb k hlt
      have hsk := hsh k hlt
      have hla := tLast_le (sg := sg) (s := s) hf1 (k - s)
      have hkl := kc_lt (tLast sg s first (k - s))
      have h3 : gI μ' 50 k = nI (sg k) := by rw [hs.I (by decide) (by decide), hsg k hlt]
      have e1 := tLast_succ (sg := sg) (first := first) hk
      have e2 : tK0 sg s first k = if isLt (sg k) = true then dirL (sg k) else if isDg (sg k) = true then (if tLast sg s first (k - s) = 0 then 0 else 2) else 3 := rfl
      have go : ∀ v, v = tK0 sg s first k → ∀ z, gWp none 175 (6, [some (.ref 1), some (.int (nI s)), some (.int (nI e)), some (.int (nI (kc first))), some (.int (nI (kc last))), some (.int (nI (kc (tLast sg s first (k + 1 - s))))), some (.int (nI (k + 1))), z, none, none, none, none], [], gsI μ' 57 k (nI (kc v))) 0 P := fun v hv z => ih (k + 1) _ _ (by omega) (by omega) (hs.i 57 _ _ (by decide) (by decide)) (hc.push (by rw [hv]))
      have d1 : ((82 : Int32) = 76) = False := eq_false (by decide)
      refine gWp_up (vc_175_6 ?_) (by (repeat (first | exact gUp.nil | refine gUp.cs ?_ | refine gUp.cn ?_)))
      simp (disch := first | omega | decide) only [h3, show ¬ e ≤ k by omega, show k < 50 by omega, nE_l, nE_r, nE_n, nLe_l, nLe_r, nLe_n, nLt_l, nLt_r, nLt_n, nA_l, nA_r, nI_add, nS_l, nS_n, nIn, nI_clamp, gI_I, gI_J, gI_D, gJ_J, gJ_I, gJ_D, true_and, and_true, false_and, and_false, if_true, if_false, false_implies, true_implies, not_true_eq_false, not_false_eq_true, bI_0, bI_1, Nat.reduceEqDiff, eq_self, nMax, nMin]
      refine s_154 (by omega) ⟨_, rfl, ?_⟩
      cases hf : isLf (sg k) with
      | true =>
        have hl := isLt_of_lf hf
        have e3 : dirL (sg k) = 0 := by unfold dirL; rw [if_pos hf]
        rw [if_pos hl, e3] at e1 e2
        rw [e1] at go
        simp (disch := first | omega | decide) only [Bool.true_eq_false, h3, nE_l, nE_r, nE_n, nLe_l, nLe_r, nLe_n, nLt_l, nLt_r, nLt_n, nA_l, nA_r, nI_add, nS_l, nS_n, nIn, nI_clamp, gI_I, gI_J, gI_D, gJ_J, gJ_I, gJ_D, true_and, and_true, false_and, and_false, if_true, if_false, false_implies, true_implies, not_true_eq_false, not_false_eq_true, bI_0, bI_1, Nat.reduceEqDiff, eq_self, nMax, nMin]
        refine s_155 (by omega) ⟨_, rfl, ?_⟩
        simp (disch := first | omega | decide) only [hl, Bool.true_eq_false, show k < 50 by omega, c76, nE_l, nE_r, nE_n, nLe_l, nLe_r, nLe_n, nLt_l, nLt_r, nLt_n, nA_l, nA_r, nI_add, nS_l, nS_n, nIn, nI_clamp, gI_I, gI_J, gI_D, gJ_J, gJ_I, gJ_D, true_and, and_true, false_and, and_false, if_true, if_false, false_implies, true_implies, not_true_eq_false, not_false_eq_true, bI_0, bI_1, Nat.reduceEqDiff, eq_self, nMax, nMin]
        exact go 0 e2.symm _
      | false =>
        simp (disch := first | omega | decide) only [h3, nE_l, nE_r, nE_n, nLe_l, nLe_r, nLe_n, nLt_l, nLt_r, nLt_n, nA_l, nA_r, nI_add, nS_l, nS_n, nIn, nI_clamp, gI_I, gI_J, gI_D, gJ_J, gJ_I, gJ_D, true_and, and_true, false_and, and_false, if_true, if_false, false_implies, true_implies, not_true_eq_false, not_false_eq_true, bI_0, bI_1, Nat.reduceEqDiff, eq_self, nMax, nMin]
        refine s_155 (by omega) ⟨_, rfl, ?_⟩
        cases hl : isLt (sg k) with
        | true =>
          have e3 : dirL (sg k) = 1 := by unfold dirL; rw [if_neg (by rw [hf]; decide)]
          rw [if_pos hl, e3] at e1 e2
          rw [e1] at go
          simp (disch := first | omega | decide) only [Bool.true_eq_false, h3, nE_l, nE_r, nE_n, nLe_l, nLe_r, nLe_n, nLt_l, nLt_r, nLt_n, nA_l, nA_r, nI_add, nS_l, nS_n, nIn, nI_clamp, gI_I, gI_J, gI_D, gJ_J, gJ_I, gJ_D, true_and, and_true, false_and, and_false, if_true, if_false, false_implies, true_implies, not_true_eq_false, not_false_eq_true, bI_0, bI_1, Nat.reduceEqDiff, eq_self, nMax, nMin]
          refine s_155 (by omega) ⟨_, rfl, ?_⟩
          simp (disch := first | omega | decide) only [hl, Bool.true_eq_false, show k < 50 by omega, c82, nE_l, nE_r, nE_n, nLe_l, nLe_r, nLe_n, nLt_l, nLt_r, nLt_n, nA_l, nA_r, nI_add, nS_l, nS_n, nIn, nI_clamp, gI_I, gI_J, gI_D, gJ_J, gJ_I, gJ_D, true_and, and_true, false_and, and_false, if_true, if_false, false_implies, true_implies, not_true_eq_false, not_false_eq_true, bI_0, bI_1, Nat.reduceEqDiff, eq_self, nMax, nMin]
          exact go 1 e2.symm _
        | false =>
          have hl' : ¬ isLt (sg k) = true := by rw [hl]; decide
          rw [if_neg hl'] at e1 e2
          rw [e1] at go
          simp (disch := first | omega | decide) only [h3, nE_l, nE_r, nE_n, nLe_l, nLe_r, nLe_n, nLt_l, nLt_r, nLt_n, nA_l, nA_r, nI_add, nS_l, nS_n, nIn, nI_clamp, gI_I, gI_J, gI_D, gJ_J, gJ_I, gJ_D, true_and, and_true, false_and, and_false, if_true, if_false, false_implies, true_implies, not_true_eq_false, not_false_eq_true, bI_0, bI_1, Nat.reduceEqDiff, eq_self, nMax, nMin]
          refine s_155 (by omega) ⟨_, rfl, ?_⟩
          simp (disch := first | omega | decide) only [hl, h3, nE_l, nE_r, nE_n, nLe_l, nLe_r, nLe_n, nLt_l, nLt_r, nLt_n, nA_l, nA_r, nI_add, nS_l, nS_n, nIn, nI_clamp, gI_I, gI_J, gI_D, gJ_J, gJ_I, gJ_D, true_and, and_true, false_and, and_false, if_true, if_false, false_implies, true_implies, not_true_eq_false, not_false_eq_true, bI_0, bI_1, Nat.reduceEqDiff, eq_self, nMax, nMin]
          refine s_156 (by omega) ⟨_, rfl, ?_⟩
          rcases isSh_cases hsk hl with ⟨q1, q2⟩ | ⟨q1, q2⟩
          · rw [if_pos q1] at e2
            simp (disch := first | omega | decide) only [q2, show k < 50 by omega, c78, c76, kc_76, nE_l, nE_r, nE_n, nLe_l, nLe_r, nLe_n, nLt_l, nLt_r, nLt_n, nA_l, nA_r, nI_add, nS_l, nS_n, nIn, nI_clamp, gI_I, gI_J, gI_D, gJ_J, gJ_I, gJ_D, true_and, and_true, false_and, and_false, if_true, if_false, false_implies, true_implies, not_true_eq_false, not_false_eq_true, bI_0, bI_1, Nat.reduceEqDiff, eq_self, nMax, nMin]
            refine ⟨fun c => ?_, fun c => ?_⟩
            · rw [if_neg c] at e2
              exact go 2 e2.symm _
            · rw [if_pos c] at e2
              exact go 0 e2.symm _
          · rw [if_neg (by rw [q1]; decide)] at e2
            simp (disch := first | omega | decide) only [q2, Bool.true_eq_false, show k < 50 by omega, c32, nE_l, nE_r, nE_n, nLe_l, nLe_r, nLe_n, nLt_l, nLt_r, nLt_n, nA_l, nA_r, nI_add, nS_l, nS_n, nIn, nI_clamp, gI_I, gI_J, gI_D, gJ_J, gJ_I, gJ_D, true_and, and_true, false_and, and_false, if_true, if_false, false_implies, true_implies, not_true_eq_false, not_false_eq_true, bI_0, bI_1, Nat.reduceEqDiff, eq_self, nMax, nMin]
            exact go 3 e2.symm _
  refine vc_175 ?_
  have e0 := knd (e - s) s μ none (by omega) (Nat.le_refl s) (mF.rf _ _ _) (fun j j1 j2 => by omega)
  rw [Nat.sub_self] at e0
  exact e0
