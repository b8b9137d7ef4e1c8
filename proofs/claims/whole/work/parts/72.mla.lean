/-! THE MODEL LAYS ALL -/
theorem s_176 {em sg : Nat → Nat} {M b : Nat} {μ : gMu} {P : gMu → gRes → Prop} (hM : M ≤ 50) (h9 : gI μ 1 19 = nI M) (hem : gAr μ 51 M em) (hsg : gAr μ 50 M sg) (hb : ∀ k, k < M → em k < 100) (hb2 : ∀ k, k < M → sg k < 128) (hsh : ∀ k, k < M → isSh (sg k) = true) (hbb : b ≤ 1) (h4 : gI μ 1 4 = nI b) (h : ∀ μ', mF [52, 57] [] μ μ' → gAr μ' 52 M (tLev em sg M b) → P μ' (.inl none)) : gCl' 176 [.ref 1] μ P := by
  have loop : ∀ n p μ', M - p ≤ n → (0 < n ∨ p = M) → p ≤ M → mF [52, 57] [] μ μ' → gAs μ' 52 0 p (tLev em sg M b) → (p = 0 ∨ p = M ∨ em p ≠ em (p - 1)) → gWp none 176 (2, [some (.ref 1), some (.int (nI p)), none, none, none], [], μ') 0 P := by
    intro n
    induction n with
    | zero =>
      intro p μ' hn _ hpM hs hl hp
      have hpm : p = M := by omega
      refine vc_176_2 ?_
      rw [hs.F (by decide), h9]
      simp (disch := first | omega | decide) only [show M ≤ p by omega, nE_l, nE_r, nE_n, nLe_l, nLe_r, nLe_n, nLt_l, nLt_r, nLt_n, nA_l, nA_r, nI_add, nS_l, nS_n, nIn, nI_clamp, gI_I, gI_J, gI_D, gJ_J, gJ_I, gJ_D, true_and, and_true, false_and, and_false, if_true, if_false, false_implies, true_implies, not_true_eq_false, not_false_eq_true, bI_0, bI_1, Nat.reduceEqDiff, eq_self, nMax, nMin]
      exact h μ' hs (fun k hk => hl k (Nat.zero_le k) (by omega))
    | succ n ih0 =>
      intro p μ' hn _ hpM hs hl hp
      by_cases hpm : p = M
      · refine vc_176_2 ?_
        rw [hs.F (by decide), h9]
        simp (disch := first | omega | decide) only [show M ≤ p by omega, nE_l, nE_r, nE_n, nLe_l, nLe_r, nLe_n, nLt_l, nLt_r, nLt_n, nA_l, nA_r, nI_add, nS_l, nS_n, nIn, nI_clamp, gI_I, gI_J, gI_D, gJ_J, gJ_I, gJ_D, true_and, and_true, false_and, and_false, if_true, if_false, false_implies, true_implies, not_true_eq_false, not_false_eq_true, bI_0, bI_1, Nat.reduceEqDiff, eq_self, nMax, nMin]
        exact h μ' hs (fun k hk => hl k (Nat.zero_le k) (by omega))
      · have ih : ∀ p2 μ', p < p2 → M - p2 ≤ n → p2 ≤ M → mF [52, 57] [] μ μ' → gAs μ' 52 0 p2 (tLev em sg M b) → (p2 = 0 ∨ p2 = M ∨ em p2 ≠ em (p2 - 1)) → gWp none 176 (2, [some (.ref 1), some (.int (nI p2)), none, none, none], [], μ') 0 P := fun p2 μ2 a1 a2 a3 a4 a5 a6 => ih0 p2 μ2 a2 (by omega) a3 a4 a5 a6
        have hbi := hb p (by omega)
        have h9' : gI μ' 1 19 = nI M := by rw [hs.F (by decide), h9]
        have h4' : gI μ' 1 4 = nI b := by rw [hs.F (by decide), h4]
        have hem' : gAr μ' 51 M em := hem.gf hs (by decide) (by decide)
        have hsg' : gAr μ' 50 M sg := hsg.gf hs (by decide) (by decide)
        have hi := hem' p (by omega)
        have hs0 : 0 < p → em p ≠ em (p - 1) := by
          intro h0
          rcases hp with h1 | h1 | h1
          · omega
          · omega
          · exact h1
        have inner : ∀ r t, t + r = M → p ≤ t → (∀ j, p ≤ j → j < t → em j = em p) → gWp none 176 (12, [some (.ref 1), some (.int (nI p)), some (.int (nI t)), none, none], [], μ') 0 P := by
          intro r
          induction r with
          | zero =>
            intro t ht hpt hall
            have htM0 : t = M := by omega
            have htM : t ≤ M := by omega
            have htp : p < t := by omega
            have hne : t < M → em t ≠ em p := fun z => by omega
            refine vc_176_12 ?_
            rw [h9']
            refine ⟨fun _ => ?_, fun z => absurd (nI_le (by omega) (by omega)) z⟩
            have hst : tStr em M p t := ⟨htp, htM, hall, hne, hs0⟩
            have next : ∀ μ8, mF [52, 57] [] μ' μ8 → gAs μ8 52 0 t (tLev em sg M b) → gWp none 176 (2, [some (.ref 1), some (.int (nI t)), none, none, none], [], μ8) 0 P := by
              intro μ8 hs8 hk8
              refine ih t μ8 (by omega) (by omega) htM (hs.tr hs8) hk8 ?_
              by_cases h1 : t = M
              · exact Or.inr (Or.inl h1)
              · exact Or.inr (Or.inr (by rw [hall (t - 1) (by omega) (by omega)]; exact hne (by omega)))
            by_cases hp0 : p = 0
            · have ip0 : (p = 0) = True := eq_true hp0
              have mb := mxN_le (a := em p) (b := b) (c := 100) (by omega) (by omega)
              by_cases htM2 : t = M
              · have itM : (t = M) = True := eq_true htM2
                have hi1 := hi
                have hit := hi
                simp (disch := first | omega | decide) only [ip0, hi, h9', show p < 50 by omega, nE_l, nE_r, nE_n, nLe_l, nLe_r, nLe_n, nLt_l, nLt_r, nLt_n, nA_l, nA_r, nI_add, nS_l, nS_n, nIn, nI_clamp, gI_I, gI_J, gI_D, gJ_J, gJ_I, gJ_D, true_and, and_true, false_and, and_false, if_true, if_false, false_implies, true_implies, not_true_eq_false, not_false_eq_true, bI_0, bI_1, Nat.reduceEqDiff, eq_self, nMax, nMin]
                refine s_159 hbb h4' ⟨_, rfl, ?_⟩
                simp (disch := first | omega | decide) only [itM, hi, h9', show p < 50 by omega, nE_l, nE_r, nE_n, nLe_l, nLe_r, nLe_n, nLt_l, nLt_r, nLt_n, nA_l, nA_r, nI_add, nS_l, nS_n, nIn, nI_clamp, gI_I, gI_J, gI_D, gJ_J, gJ_I, gJ_D, true_and, and_true, false_and, and_false, if_true, if_false, false_implies, true_implies, not_true_eq_false, not_false_eq_true, bI_0, bI_1, Nat.reduceEqDiff, eq_self, nMax, nMin]
                refine s_159 hbb h4' ⟨_, rfl, ?_⟩
                simp (disch := first | omega | decide) only [hi, show p < 50 by omega, nE_l, nE_r, nE_n, nLe_l, nLe_r, nLe_n, nLt_l, nLt_r, nLt_n, nA_l, nA_r, nI_add, nS_l, nS_n, nIn, nI_clamp, gI_I, gI_J, gI_D, gJ_J, gJ_I, gJ_D, true_and, and_true, false_and, and_false, if_true, if_false, false_implies, true_implies, not_true_eq_false, not_false_eq_true, bI_0, bI_1, Nat.reduceEqDiff, eq_self, nMax, nMin]
                refine s_174 (by omega) ⟨_, rfl, ?_⟩
                try simp (disch := first | omega | decide) only [hi, hi1, hit, h9', show p < 50 by omega, nE_l, nE_r, nE_n, nLe_l, nLe_r, nLe_n, nLt_l, nLt_r, nLt_n, nA_l, nA_r, nI_add, nS_l, nS_n, nIn, nI_clamp, gI_I, gI_J, gI_D, gJ_J, gJ_I, gJ_D, true_and, and_true, false_and, and_false, if_true, if_false, false_implies, true_implies, not_true_eq_false, not_false_eq_true, bI_0, bI_1, Nat.reduceEqDiff, eq_self, nMax, nMin]
                try simp (disch := first | omega | decide) only [hi, hit, show t < 50 by omega, nE_l, nE_r, nE_n, nLe_l, nLe_r, nLe_n, nLt_l, nLt_r, nLt_n, nA_l, nA_r, nI_add, nS_l, nS_n, nIn, nI_clamp, gI_I, gI_J, gI_D, gJ_J, gJ_I, gJ_D, true_and, and_true, false_and, and_false, if_true, if_false, false_implies, true_implies, not_true_eq_false, not_false_eq_true, bI_0, bI_1, Nat.reduceEqDiff, eq_self, nMax, nMin]
                refine s_174 (by omega) ⟨_, rfl, ?_⟩
                refine s_175 (p := 0) (L := tLev em sg M b) (E := em p) hM hsg' hb2 hsh hst.1 hst.2.1 (odN_le _) (odN_le _) hi (by omega) hl (Nat.zero_le _) (fun k h1 h2 => by rw [tLev_str hst h1 h2]; unfold tLvS; rw [if_pos hp0, if_pos htM2]) (fun μ8 hs8 hk8 => ⟨rfl, ?_⟩)
                exact gWp_up (next μ8 hs8 hk8) (by (repeat (first | exact gUp.nil | refine gUp.cs ?_ | refine gUp.cn ?_)))
              · have itM : (t = M) = False := eq_false htM2
                have hi1 := hi
                have hit := hem' t (by omega)
                have hbt := hb t (by omega)
                have mt := mxN_le (a := em p) (b := em t) (c := 100) (by omega) (by omega)
                simp (disch := first | omega | decide) only [ip0, hi, h9', show p < 50 by omega, nE_l, nE_r, nE_n, nLe_l, nLe_r, nLe_n, nLt_l, nLt_r, nLt_n, nA_l, nA_r, nI_add, nS_l, nS_n, nIn, nI_clamp, gI_I, gI_J, gI_D, gJ_J, gJ_I, gJ_D, true_and, and_true, false_and, and_false, if_true, if_false, false_implies, true_implies, not_true_eq_false, not_false_eq_true, bI_0, bI_1, Nat.reduceEqDiff, eq_self, nMax, nMin]
                refine s_159 hbb h4' ⟨_, rfl, ?_⟩
                simp (disch := first | omega | decide) only [itM, hi, hit, h9', show p < 50 by omega, show t < 50 by omega, nE_l, nE_r, nE_n, nLe_l, nLe_r, nLe_n, nLt_l, nLt_r, nLt_n, nA_l, nA_r, nI_add, nS_l, nS_n, nIn, nI_clamp, gI_I, gI_J, gI_D, gJ_J, gJ_I, gJ_D, true_and, and_true, false_and, and_false, if_true, if_false, false_implies, true_implies, not_true_eq_false, not_false_eq_true, bI_0, bI_1, Nat.reduceEqDiff, eq_self, nMax, nMin]
                refine s_174 (by omega) ⟨_, rfl, ?_⟩
                try simp (disch := first | omega | decide) only [hi, hi1, hit, h9', show p < 50 by omega, nE_l, nE_r, nE_n, nLe_l, nLe_r, nLe_n, nLt_l, nLt_r, nLt_n, nA_l, nA_r, nI_add, nS_l, nS_n, nIn, nI_clamp, gI_I, gI_J, gI_D, gJ_J, gJ_I, gJ_D, true_and, and_true, false_and, and_false, if_true, if_false, false_implies, true_implies, not_true_eq_false, not_false_eq_true, bI_0, bI_1, Nat.reduceEqDiff, eq_self, nMax, nMin]
                try simp (disch := first | omega | decide) only [hi, hit, show t < 50 by omega, nE_l, nE_r, nE_n, nLe_l, nLe_r, nLe_n, nLt_l, nLt_r, nLt_n, nA_l, nA_r, nI_add, nS_l, nS_n, nIn, nI_clamp, gI_I, gI_J, gI_D, gJ_J, gJ_I, gJ_D, true_and, and_true, false_and, and_false, if_true, if_false, false_implies, true_implies, not_true_eq_false, not_false_eq_true, bI_0, bI_1, Nat.reduceEqDiff, eq_self, nMax, nMin]
                refine s_174 (by omega) ⟨_, rfl, ?_⟩
                refine s_175 (p := 0) (L := tLev em sg M b) (E := em p) hM hsg' hb2 hsh hst.1 hst.2.1 (odN_le _) (odN_le _) hi (by omega) hl (Nat.zero_le _) (fun k h1 h2 => by rw [tLev_str hst h1 h2]; unfold tLvS; rw [if_pos hp0, if_neg htM2]) (fun μ8 hs8 hk8 => ⟨rfl, ?_⟩)
                exact gWp_up (next μ8 hs8 hk8) (by (repeat (first | exact gUp.nil | refine gUp.cs ?_ | refine gUp.cn ?_)))
            · have ip0 : (p = 0) = False := eq_false hp0
              have hi1 := hem' (p - 1) (by omega)
              have hbp1 := hb (p - 1) (by omega)
              have m1 := mxN_le (a := em p) (b := em (p - 1)) (c := 100) (by omega) (by omega)
              have mb := mxN_le (a := em p) (b := b) (c := 100) (by omega) (by omega)
              by_cases htM2 : t = M
              · have itM : (t = M) = True := eq_true htM2
                have hit := hi
                simp (disch := first | omega | decide) only [ip0, itM, hi, hi1, h9', show p < 50 by omega, show p - 1 < 50 by omega, nE_l, nE_r, nE_n, nLe_l, nLe_r, nLe_n, nLt_l, nLt_r, nLt_n, nA_l, nA_r, nI_add, nS_l, nS_n, nIn, nI_clamp, gI_I, gI_J, gI_D, gJ_J, gJ_I, gJ_D, true_and, and_true, false_and, and_false, if_true, if_false, false_implies, true_implies, not_true_eq_false, not_false_eq_true, bI_0, bI_1, Nat.reduceEqDiff, eq_self, nMax, nMin]
                refine s_159 hbb h4' ⟨_, rfl, ?_⟩
                simp (disch := first | omega | decide) only [hi, hi1, show p < 50 by omega, nE_l, nE_r, nE_n, nLe_l, nLe_r, nLe_n, nLt_l, nLt_r, nLt_n, nA_l, nA_r, nI_add, nS_l, nS_n, nIn, nI_clamp, gI_I, gI_J, gI_D, gJ_J, gJ_I, gJ_D, true_and, and_true, false_and, and_false, if_true, if_false, false_implies, true_implies, not_true_eq_false, not_false_eq_true, bI_0, bI_1, Nat.reduceEqDiff, eq_self, nMax, nMin]
                refine s_174 (by omega) ⟨_, rfl, ?_⟩
                try simp (disch := first | omega | decide) only [hi, hi1, hit, h9', show p < 50 by omega, nE_l, nE_r, nE_n, nLe_l, nLe_r, nLe_n, nLt_l, nLt_r, nLt_n, nA_l, nA_r, nI_add, nS_l, nS_n, nIn, nI_clamp, gI_I, gI_J, gI_D, gJ_J, gJ_I, gJ_D, true_and, and_true, false_and, and_false, if_true, if_false, false_implies, true_implies, not_true_eq_false, not_false_eq_true, bI_0, bI_1, Nat.reduceEqDiff, eq_self, nMax, nMin]
                try simp (disch := first | omega | decide) only [hi, hit, show t < 50 by omega, nE_l, nE_r, nE_n, nLe_l, nLe_r, nLe_n, nLt_l, nLt_r, nLt_n, nA_l, nA_r, nI_add, nS_l, nS_n, nIn, nI_clamp, gI_I, gI_J, gI_D, gJ_J, gJ_I, gJ_D, true_and, and_true, false_and, and_false, if_true, if_false, false_implies, true_implies, not_true_eq_false, not_false_eq_true, bI_0, bI_1, Nat.reduceEqDiff, eq_self, nMax, nMin]
                refine s_174 (by omega) ⟨_, rfl, ?_⟩
                refine s_175 (p := 0) (L := tLev em sg M b) (E := em p) hM hsg' hb2 hsh hst.1 hst.2.1 (odN_le _) (odN_le _) hi (by omega) hl (Nat.zero_le _) (fun k h1 h2 => by rw [tLev_str hst h1 h2]; unfold tLvS; rw [if_neg hp0, if_pos htM2]) (fun μ8 hs8 hk8 => ⟨rfl, ?_⟩)
                exact gWp_up (next μ8 hs8 hk8) (by (repeat (first | exact gUp.nil | refine gUp.cs ?_ | refine gUp.cn ?_)))
              · have itM : (t = M) = False := eq_false htM2
                have hit := hem' t (by omega)
                have hbt := hb t (by omega)
                have mt := mxN_le (a := em p) (b := em t) (c := 100) (by omega) (by omega)
                simp (disch := first | omega | decide) only [ip0, itM, hi, hi1, hit, h9', show p < 50 by omega, show p - 1 < 50 by omega, show t < 50 by omega, nE_l, nE_r, nE_n, nLe_l, nLe_r, nLe_n, nLt_l, nLt_r, nLt_n, nA_l, nA_r, nI_add, nS_l, nS_n, nIn, nI_clamp, gI_I, gI_J, gI_D, gJ_J, gJ_I, gJ_D, true_and, and_true, false_and, and_false, if_true, if_false, false_implies, true_implies, not_true_eq_false, not_false_eq_true, bI_0, bI_1, Nat.reduceEqDiff, eq_self, nMax, nMin]
                refine s_174 (by omega) ⟨_, rfl, ?_⟩
                try simp (disch := first | omega | decide) only [hi, hi1, hit, h9', show p < 50 by omega, nE_l, nE_r, nE_n, nLe_l, nLe_r, nLe_n, nLt_l, nLt_r, nLt_n, nA_l, nA_r, nI_add, nS_l, nS_n, nIn, nI_clamp, gI_I, gI_J, gI_D, gJ_J, gJ_I, gJ_D, true_and, and_true, false_and, and_false, if_true, if_false, false_implies, true_implies, not_true_eq_false, not_false_eq_true, bI_0, bI_1, Nat.reduceEqDiff, eq_self, nMax, nMin]
                try simp (disch := first | omega | decide) only [hi, hit, show t < 50 by omega, nE_l, nE_r, nE_n, nLe_l, nLe_r, nLe_n, nLt_l, nLt_r, nLt_n, nA_l, nA_r, nI_add, nS_l, nS_n, nIn, nI_clamp, gI_I, gI_J, gI_D, gJ_J, gJ_I, gJ_D, true_and, and_true, false_and, and_false, if_true, if_false, false_implies, true_implies, not_true_eq_false, not_false_eq_true, bI_0, bI_1, Nat.reduceEqDiff, eq_self, nMax, nMin]
                refine s_174 (by omega) ⟨_, rfl, ?_⟩
                refine s_175 (p := 0) (L := tLev em sg M b) (E := em p) hM hsg' hb2 hsh hst.1 hst.2.1 (odN_le _) (odN_le _) hi (by omega) hl (Nat.zero_le _) (fun k h1 h2 => by rw [tLev_str hst h1 h2]; unfold tLvS; rw [if_neg hp0, if_neg htM2]) (fun μ8 hs8 hk8 => ⟨rfl, ?_⟩)
                exact gWp_up (next μ8 hs8 hk8) (by (repeat (first | exact gUp.nil | refine gUp.cs ?_ | refine gUp.cn ?_)))
          | succ r ihr =>
            intro t ht hpt hall
            have htM : t ≤ M := by omega
            have hbt0 := hb t (by omega)
            have hit0 := hem' t (by omega)
            refine vc_176_12 ?_
            rw [h9']
            refine ⟨fun z => absurd z (nI_ge (by omega) (by omega)), fun _ => ⟨vp_in_nI (by omega) (by decide), vp_in_nI (by omega) (by decide), ?_⟩⟩
            rw [nI_clamp (show t < 2 ^ 31 by omega), nI_clamp (show p < 2 ^ 31 by omega), hit0, hi, nE_n (show em t < 2 ^ 31 by omega) (show em p < 2 ^ 31 by omega)]
            refine ⟨fun hne0 => ?_, fun heq => ?_⟩
            · have hne : t < M → em t ≠ em p := fun _ => hne0
              have htp : p < t := by
                rcases Nat.lt_or_ge p t with c | c
                · exact c
                · have : t = p := by omega
                  rw [this] at hne0
                  exact absurd rfl hne0
              have hst : tStr em M p t := ⟨htp, htM, hall, hne, hs0⟩
              have next : ∀ μ8, mF [52, 57] [] μ' μ8 → gAs μ8 52 0 t (tLev em sg M b) → gWp none 176 (2, [some (.ref 1), some (.int (nI t)), none, none, none], [], μ8) 0 P := by
                intro μ8 hs8 hk8
                refine ih t μ8 (by omega) (by omega) htM (hs.tr hs8) hk8 ?_
                by_cases h1 : t = M
                · exact Or.inr (Or.inl h1)
                · exact Or.inr (Or.inr (by rw [hall (t - 1) (by omega) (by omega)]; exact hne (by omega)))
              by_cases hp0 : p = 0
              · have ip0 : (p = 0) = True := eq_true hp0
                have mb := mxN_le (a := em p) (b := b) (c := 100) (by omega) (by omega)
                by_cases htM2 : t = M
                · have itM : (t = M) = True := eq_true htM2
                  have hi1 := hi
                  have hit := hi
                  simp (disch := first | omega | decide) only [ip0, hi, h9', show p < 50 by omega, nE_l, nE_r, nE_n, nLe_l, nLe_r, nLe_n, nLt_l, nLt_r, nLt_n, nA_l, nA_r, nI_add, nS_l, nS_n, nIn, nI_clamp, gI_I, gI_J, gI_D, gJ_J, gJ_I, gJ_D, true_and, and_true, false_and, and_false, if_true, if_false, false_implies, true_implies, not_true_eq_false, not_false_eq_true, bI_0, bI_1, Nat.reduceEqDiff, eq_self, nMax, nMin]
                  refine s_159 hbb h4' ⟨_, rfl, ?_⟩
                  simp (disch := first | omega | decide) only [itM, hi, h9', show p < 50 by omega, nE_l, nE_r, nE_n, nLe_l, nLe_r, nLe_n, nLt_l, nLt_r, nLt_n, nA_l, nA_r, nI_add, nS_l, nS_n, nIn, nI_clamp, gI_I, gI_J, gI_D, gJ_J, gJ_I, gJ_D, true_and, and_true, false_and, and_false, if_true, if_false, false_implies, true_implies, not_true_eq_false, not_false_eq_true, bI_0, bI_1, Nat.reduceEqDiff, eq_self, nMax, nMin]
                  refine s_159 hbb h4' ⟨_, rfl, ?_⟩
                  simp (disch := first | omega | decide) only [hi, show p < 50 by omega, nE_l, nE_r, nE_n, nLe_l, nLe_r, nLe_n, nLt_l, nLt_r, nLt_n, nA_l, nA_r, nI_add, nS_l, nS_n, nIn, nI_clamp, gI_I, gI_J, gI_D, gJ_J, gJ_I, gJ_D, true_and, and_true, false_and, and_false, if_true, if_false, false_implies, true_implies, not_true_eq_false, not_false_eq_true, bI_0, bI_1, Nat.reduceEqDiff, eq_self, nMax, nMin]
                  refine s_174 (by omega) ⟨_, rfl, ?_⟩
                  try simp (disch := first | omega | decide) only [hi, hi1, hit, h9', show p < 50 by omega, nE_l, nE_r, nE_n, nLe_l, nLe_r, nLe_n, nLt_l, nLt_r, nLt_n, nA_l, nA_r, nI_add, nS_l, nS_n, nIn, nI_clamp, gI_I, gI_J, gI_D, gJ_J, gJ_I, gJ_D, true_and, and_true, false_and, and_false, if_true, if_false, false_implies, true_implies, not_true_eq_false, not_false_eq_true, bI_0, bI_1, Nat.reduceEqDiff, eq_self, nMax, nMin]
                  try simp (disch := first | omega | decide) only [hi, hit, show t < 50 by omega, nE_l, nE_r, nE_n, nLe_l, nLe_r, nLe_n, nLt_l, nLt_r, nLt_n, nA_l, nA_r, nI_add, nS_l, nS_n, nIn, nI_clamp, gI_I, gI_J, gI_D, gJ_J, gJ_I, gJ_D, true_and, and_true, false_and, and_false, if_true, if_false, false_implies, true_implies, not_true_eq_false, not_false_eq_true, bI_0, bI_1, Nat.reduceEqDiff, eq_self, nMax, nMin]
                  refine s_174 (by omega) ⟨_, rfl, ?_⟩
                  refine s_175 (p := 0) (L := tLev em sg M b) (E := em p) hM hsg' hb2 hsh hst.1 hst.2.1 (odN_le _) (odN_le _) hi (by omega) hl (Nat.zero_le _) (fun k h1 h2 => by rw [tLev_str hst h1 h2]; unfold tLvS; rw [if_pos hp0, if_pos htM2]) (fun μ8 hs8 hk8 => ⟨rfl, ?_⟩)
                  exact gWp_up (next μ8 hs8 hk8) (by (repeat (first | exact gUp.nil | refine gUp.cs ?_ | refine gUp.cn ?_)))
                · have itM : (t = M) = False := eq_false htM2
                  have hi1 := hi
                  have hit := hem' t (by omega)
                  have hbt := hb t (by omega)
                  have mt := mxN_le (a := em p) (b := em t) (c := 100) (by omega) (by omega)
                  simp (disch := first | omega | decide) only [ip0, hi, h9', show p < 50 by omega, nE_l, nE_r, nE_n, nLe_l, nLe_r, nLe_n, nLt_l, nLt_r, nLt_n, nA_l, nA_r, nI_add, nS_l, nS_n, nIn, nI_clamp, gI_I, gI_J, gI_D, gJ_J, gJ_I, gJ_D, true_and, and_true, false_and, and_false, if_true, if_false, false_implies, true_implies, not_true_eq_false, not_false_eq_true, bI_0, bI_1, Nat.reduceEqDiff, eq_self, nMax, nMin]
                  refine s_159 hbb h4' ⟨_, rfl, ?_⟩
                  simp (disch := first | omega | decide) only [itM, hi, hit, h9', show p < 50 by omega, show t < 50 by omega, nE_l, nE_r, nE_n, nLe_l, nLe_r, nLe_n, nLt_l, nLt_r, nLt_n, nA_l, nA_r, nI_add, nS_l, nS_n, nIn, nI_clamp, gI_I, gI_J, gI_D, gJ_J, gJ_I, gJ_D, true_and, and_true, false_and, and_false, if_true, if_false, false_implies, true_implies, not_true_eq_false, not_false_eq_true, bI_0, bI_1, Nat.reduceEqDiff, eq_self, nMax, nMin]
                  refine s_174 (by omega) ⟨_, rfl, ?_⟩
                  try simp (disch := first | omega | decide) only [hi, hi1, hit, h9', show p < 50 by omega, nE_l, nE_r, nE_n, nLe_l, nLe_r, nLe_n, nLt_l, nLt_r, nLt_n, nA_l, nA_r, nI_add, nS_l, nS_n, nIn, nI_clamp, gI_I, gI_J, gI_D, gJ_J, gJ_I, gJ_D, true_and, and_true, false_and, and_false, if_true, if_false, false_implies, true_implies, not_true_eq_false, not_false_eq_true, bI_0, bI_1, Nat.reduceEqDiff, eq_self, nMax, nMin]
                  try simp (disch := first | omega | decide) only [hi, hit, show t < 50 by omega, nE_l, nE_r, nE_n, nLe_l, nLe_r, nLe_n, nLt_l, nLt_r, nLt_n, nA_l, nA_r, nI_add, nS_l, nS_n, nIn, nI_clamp, gI_I, gI_J, gI_D, gJ_J, gJ_I, gJ_D, true_and, and_true, false_and, and_false, if_true, if_false, false_implies, true_implies, not_true_eq_false, not_false_eq_true, bI_0, bI_1, Nat.reduceEqDiff, eq_self, nMax, nMin]
                  refine s_174 (by omega) ⟨_, rfl, ?_⟩
                  refine s_175 (p := 0) (L := tLev em sg M b) (E := em p) hM hsg' hb2 hsh hst.1 hst.2.1 (odN_le _) (odN_le _) hi (by omega) hl (Nat.zero_le _) (fun k h1 h2 => by rw [tLev_str hst h1 h2]; unfold tLvS; rw [if_pos hp0, if_neg htM2]) (fun μ8 hs8 hk8 => ⟨rfl, ?_⟩)
                  exact gWp_up (next μ8 hs8 hk8) (by (repeat (first | exact gUp.nil | refine gUp.cs ?_ | refine gUp.cn ?_)))
              · have ip0 : (p = 0) = False := eq_false hp0
                have hi1 := hem' (p - 1) (by omega)
                have hbp1 := hb (p - 1) (by omega)
                have m1 := mxN_le (a := em p) (b := em (p - 1)) (c := 100) (by omega) (by omega)
                have mb := mxN_le (a := em p) (b := b) (c := 100) (by omega) (by omega)
                by_cases htM2 : t = M
                · have itM : (t = M) = True := eq_true htM2
                  have hit := hi
                  simp (disch := first | omega | decide) only [ip0, itM, hi, hi1, h9', show p < 50 by omega, show p - 1 < 50 by omega, nE_l, nE_r, nE_n, nLe_l, nLe_r, nLe_n, nLt_l, nLt_r, nLt_n, nA_l, nA_r, nI_add, nS_l, nS_n, nIn, nI_clamp, gI_I, gI_J, gI_D, gJ_J, gJ_I, gJ_D, true_and, and_true, false_and, and_false, if_true, if_false, false_implies, true_implies, not_true_eq_false, not_false_eq_true, bI_0, bI_1, Nat.reduceEqDiff, eq_self, nMax, nMin]
                  refine s_159 hbb h4' ⟨_, rfl, ?_⟩
                  simp (disch := first | omega | decide) only [hi, hi1, show p < 50 by omega, nE_l, nE_r, nE_n, nLe_l, nLe_r, nLe_n, nLt_l, nLt_r, nLt_n, nA_l, nA_r, nI_add, nS_l, nS_n, nIn, nI_clamp, gI_I, gI_J, gI_D, gJ_J, gJ_I, gJ_D, true_and, and_true, false_and, and_false, if_true, if_false, false_implies, true_implies, not_true_eq_false, not_false_eq_true, bI_0, bI_1, Nat.reduceEqDiff, eq_self, nMax, nMin]
                  refine s_174 (by omega) ⟨_, rfl, ?_⟩
                  try simp (disch := first | omega | decide) only [hi, hi1, hit, h9', show p < 50 by omega, nE_l, nE_r, nE_n, nLe_l, nLe_r, nLe_n, nLt_l, nLt_r, nLt_n, nA_l, nA_r, nI_add, nS_l, nS_n, nIn, nI_clamp, gI_I, gI_J, gI_D, gJ_J, gJ_I, gJ_D, true_and, and_true, false_and, and_false, if_true, if_false, false_implies, true_implies, not_true_eq_false, not_false_eq_true, bI_0, bI_1, Nat.reduceEqDiff, eq_self, nMax, nMin]
                  try simp (disch := first | omega | decide) only [hi, hit, show t < 50 by omega, nE_l, nE_r, nE_n, nLe_l, nLe_r, nLe_n, nLt_l, nLt_r, nLt_n, nA_l, nA_r, nI_add, nS_l, nS_n, nIn, nI_clamp, gI_I, gI_J, gI_D, gJ_J, gJ_I, gJ_D, true_and, and_true, false_and, and_false, if_true, if_false, false_implies, true_implies, not_true_eq_false, not_false_eq_true, bI_0, bI_1, Nat.reduceEqDiff, eq_self, nMax, nMin]
                  refine s_174 (by omega) ⟨_, rfl, ?_⟩
                  refine s_175 (p := 0) (L := tLev em sg M b) (E := em p) hM hsg' hb2 hsh hst.1 hst.2.1 (odN_le _) (odN_le _) hi (by omega) hl (Nat.zero_le _) (fun k h1 h2 => by rw [tLev_str hst h1 h2]; unfold tLvS; rw [if_neg hp0, if_pos htM2]) (fun μ8 hs8 hk8 => ⟨rfl, ?_⟩)
                  exact gWp_up (next μ8 hs8 hk8) (by (repeat (first | exact gUp.nil | refine gUp.cs ?_ | refine gUp.cn ?_)))
                · have itM : (t = M) = False := eq_false htM2
                  have hit := hem' t (by omega)
                  have hbt := hb t (by omega)
                  have mt := mxN_le (a := em p) (b := em t) (c := 100) (by omega) (by omega)
                  simp (disch := first | omega | decide) only [ip0, itM, hi, hi1, hit, h9', show p < 50 by omega, show p - 1 < 50 by omega, show t < 50 by omega, nE_l, nE_r, nE_n, nLe_l, nLe_r, nLe_n, nLt_l, nLt_r, nLt_n, nA_l, nA_r, nI_add, nS_l, nS_n, nIn, nI_clamp, gI_I, gI_J, gI_D, gJ_J, gJ_I, gJ_D, true_and, and_true, false_and, and_false, if_true, if_false, false_implies, true_implies, not_true_eq_false, not_false_eq_true, bI_0, bI_1, Nat.reduceEqDiff, eq_self, nMax, nMin]
                  refine s_174 (by omega) ⟨_, rfl, ?_⟩
                  try simp (disch := first | omega | decide) only [hi, hi1, hit, h9', show p < 50 by omega, nE_l, nE_r, nE_n, nLe_l, nLe_r, nLe_n, nLt_l, nLt_r, nLt_n, nA_l, nA_r, nI_add, nS_l, nS_n, nIn, nI_clamp, gI_I, gI_J, gI_D, gJ_J, gJ_I, gJ_D, true_and, and_true, false_and, and_false, if_true, if_false, false_implies, true_implies, not_true_eq_false, not_false_eq_true, bI_0, bI_1, Nat.reduceEqDiff, eq_self, nMax, nMin]
                  try simp (disch := first | omega | decide) only [hi, hit, show t < 50 by omega, nE_l, nE_r, nE_n, nLe_l, nLe_r, nLe_n, nLt_l, nLt_r, nLt_n, nA_l, nA_r, nI_add, nS_l, nS_n, nIn, nI_clamp, gI_I, gI_J, gI_D, gJ_J, gJ_I, gJ_D, true_and, and_true, false_and, and_false, if_true, if_false, false_implies, true_implies, not_true_eq_false, not_false_eq_true, bI_0, bI_1, Nat.reduceEqDiff, eq_self, nMax, nMin]
                  refine s_174 (by omega) ⟨_, rfl, ?_⟩
                  refine s_175 (p := 0) (L := tLev em sg M b) (E := em p) hM hsg' hb2 hsh hst.1 hst.2.1 (odN_le _) (odN_le _) hi (by omega) hl (Nat.zero_le _) (fun k h1 h2 => by rw [tLev_str hst h1 h2]; unfold tLvS; rw [if_neg hp0, if_neg htM2]) (fun μ8 hs8 hk8 => ⟨rfl, ?_⟩)
                  exact gWp_up (next μ8 hs8 hk8) (by (repeat (first | exact gUp.nil | refine gUp.cs ?_ | refine gUp.cn ?_)))
            · rw [nI_1]
              refine ihr (t + 1) (by omega) (by omega) (fun j j1 j2 => ?_)
              by_cases c : j = t
              · rw [c]; exact heq
              · exact hall j j1 (by omega)
        refine vc_176_2 ?_
        rw [h9']
        simp (disch := first | omega | decide) only [show ¬ M ≤ p by omega, nE_l, nE_r, nE_n, nLe_l, nLe_r, nLe_n, nLt_l, nLt_r, nLt_n, nA_l, nA_r, nI_add, nS_l, nS_n, nIn, nI_clamp, gI_I, gI_J, gI_D, gJ_J, gJ_I, gJ_D, true_and, and_true, false_and, and_false, if_true, if_false, false_implies, true_implies, not_true_eq_false, not_false_eq_true, bI_0, bI_1, Nat.reduceEqDiff, eq_self, nMax, nMin]
        exact inner (M - p) p (by omega) (Nat.le_refl p) (fun j j1 j2 => by omega)
  exact vc_176 (loop (M + 1) 0 μ (by omega) (by omega) (Nat.zero_le M) (mF.rf _ _ _) (fun k h1 h2 => by omega) (Or.inl rfl))
/-! scripts and runs -/
theorem s_177 {a : Nat} {μ : gMu} {P : gMu → gRes → Prop} (ha : a < 2 ^ 31) (hl : isLt a = true) (h : P μ (.inl (some (.int (nI (scOf a)))))) : gCl' 177 [.int (nI a)] μ P := by
  have hb := isLt_b hl
  unfold scOf at h
  refine vc_177 ?_
  simp (disch := first | omega | decide) only [nE_l, nE_r, nE_n, nLe_l, nLe_r, nLe_n, nLt_l, nLt_r, nLt_n, nA_l, nA_r, nI_add, nS_l, nS_n, nIn, nI_clamp, gI_I, gI_J, gI_D, gJ_J, gJ_I, gJ_D, true_and, and_true, false_and, and_false, if_true, if_false, false_implies, true_implies, not_true_eq_false, not_false_eq_true, bI_0, bI_1, Nat.reduceEqDiff, eq_self, nMax, nMin]
  refine ⟨fun q => s_154 ha ⟨_, rfl, ?_⟩, fun q => ⟨fun q2 => s_154 ha ⟨_, rfl, ?_⟩, fun q2 => ?_⟩⟩
  · have hf : isLf a = false := by unfold isLf; exact decide_eq_false (by omega)
    have hr : isRt a = true := by unfold isLt at hl; rw [hf, Bool.false_or] at hl; exact hl
    rw [if_pos hr] at h
    rw [hf]
    exact ⟨fun _ => h, fun z => absurd rfl z⟩
  · have hr : isRt a = false := by unfold isRt; exact decide_eq_false (by omega)
    have hf : isLf a = true := by unfold isLt at hl; rw [hr, Bool.or_false] at hl; exact hl
    rw [if_neg (by rw [hr]; decide), if_neg (by omega)] at h
    rw [hf]
    exact ⟨fun z => (by cases z), fun _ => h⟩
  · have hr : isRt a = false := by unfold isRt; exact decide_eq_false (by omega)
    rw [if_neg (by rw [hr]; decide), if_pos (by omega)] at h
    exact h
theorem s_178 {sg lv : Nat → Nat} {M : Nat} {μ : gMu} {P : gMu → gRes → Prop} (hM : M ≤ 50) (h9 : gI μ 1 19 = nI M) (hsg : gAr μ 50 M sg) (hb : ∀ k, k < M → sg k < 128) (hlv : gAr μ 52 M lv) (hb2 : ∀ k, k < M → lv k < 1000) (h : ∀ μ', mF [53, 54] [21] μ μ' → gI μ' 1 21 = nI (tRn (tSc sg M) lv M) → gAr μ' 53 M (tSc sg M) → gAr μ' 54 M (fun k => tRn (tSc sg M) lv (k + 1) - 1) → P μ' (.inl none)) : gCl' 178 [.ref 1] μ P := by
  have i10 : ((1 : Int32) = 0) = False := eq_false (by decide)
  -- the runs
  have runs : ∀ (y : Int32) r k μ' z, k + r = M → mF [53, 54] [21] μ μ' → gI μ' 1 21 = nI (tRn (tSc sg M) lv k) → gAr μ' 53 M (tSc sg M) → gAr μ' 54 k (fun k => tRn (tSc sg M) lv (k + 1) - 1) → gWp none 178 (101, [some (.ref 1), some (.int y), some (.int (nI k)), z], [], μ') 0 P := by
    intro y r
    induction r with
    | zero =>
      intro k μ' z hr hs h21 hsc hrn
      have hk : k = M := by omega
      subst hk
      refine gWp_up (vc_178_101 ?_) (by (repeat (first | exact gUp.nil | refine gUp.cs ?_ | refine gUp.cn ?_)))
      rw [hs.F (by decide), h9]
      simp (disch := first | omega | decide) only [Nat.le_refl, nE_l, nE_r, nE_n, nLe_l, nLe_r, nLe_n, nLt_l, nLt_r, nLt_n, nA_l, nA_r, nI_add, nS_l, nS_n, nIn, nI_clamp, gI_I, gI_J, gI_D, gJ_J, gJ_I, gJ_D, true_and, and_true, false_and, and_false, if_true, if_false, false_implies, true_implies, not_true_eq_false, not_false_eq_true, bI_0, bI_1, Nat.reduceEqDiff, eq_self, nMax, nMin]
      exact h μ' hs h21 hsc hrn
    | succ r ih =>
      intro k μ' z hr hs h21 hsc hrn
      have hlk := hb2 k (by omega)
      have hle := tRn_le (tSc sg M) lv k
      have l1 : gI μ' 52 k = nI (lv k) := by rw [hs.I (by decide) (by decide), hlv k (by omega)]
      have s1 := hsc k (by omega)
      have s3 := tSc_le sg M k
      have new : tRs (tSc sg M) lv k = true → ∀ z, gWp none 178 (101, [some (.ref 1), some (.int y), some (.int (nI (k + 1))), z], [], gsI (gsI μ' 1 21 (nI (tRn (tSc sg M) lv k + 1))) 54 k (nI (tRn (tSc sg M) lv k + 1 - 1))) 0 P := by
        intro ht z
        have e1 : tRn (tSc sg M) lv (k + 1) = tRn (tSc sg M) lv k + 1 := if_pos ht
        exact ih (k + 1) _ z (by omega) ((hs.f 21 _ (by decide)).i 54 _ _ (by decide) (by decide)) (by simp (disch := first | omega | decide) only [e1, nE_l, nE_r, nE_n, nLe_l, nLe_r, nLe_n, nLt_l, nLt_r, nLt_n, nA_l, nA_r, nI_add, nS_l, nS_n, nIn, nI_clamp, gI_I, gI_J, gI_D, gJ_J, gJ_I, gJ_D, true_and, and_true, false_and, and_false, if_true, if_false, false_implies, true_implies, not_true_eq_false, not_false_eq_true, bI_0, bI_1, Nat.reduceEqDiff, eq_self, nMax, nMin]) ((hsc.skip (by decide)).skip (by decide)) ((hrn.skip (by decide)).pushE (by rw [e1]))
      refine gWp_up (vc_178_101 ?_) (by (repeat (first | exact gUp.nil | refine gUp.cs ?_ | refine gUp.cn ?_)))
      rw [hs.F (by decide), h9]
      by_cases hk0 : k = 0
      · simp (disch := first | omega | decide) only [h21, show ¬ M ≤ k by omega, show k ≤ 0 by omega, show k < 50 by omega, nE_l, nE_r, nE_n, nLe_l, nLe_r, nLe_n, nLt_l, nLt_r, nLt_n, nA_l, nA_r, nI_add, nS_l, nS_n, nIn, nI_clamp, gI_I, gI_J, gI_D, gJ_J, gJ_I, gJ_D, true_and, and_true, false_and, and_false, if_true, if_false, false_implies, true_implies, not_true_eq_false, not_false_eq_true, bI_0, bI_1, Nat.reduceEqDiff, eq_self, nMax, nMin]
        exact new (by simp [tRs, hk0]) _
      · have l2 : gI μ' 52 (k - 1) = nI (lv (k - 1)) := by rw [hs.I (by decide) (by decide), hlv (k - 1) (by omega)]
        have hlk2 := hb2 (k - 1) (by omega)
        have s2 := hsc (k - 1) (by omega)
        have s4 := tSc_le sg M (k - 1)
        simp (disch := first | omega | decide) only [h21, l1, l2, s1, s2, i10, show ¬ M ≤ k by omega, show ¬ k ≤ 0 by omega, show k < 50 by omega, show k - 1 < 50 by omega, nE_l, nE_r, nE_n, nLe_l, nLe_r, nLe_n, nLt_l, nLt_r, nLt_n, nA_l, nA_r, nI_add, nS_l, nS_n, nIn, nI_clamp, gI_I, gI_J, gI_D, gJ_J, gJ_I, gJ_D, true_and, and_true, false_and, and_false, if_true, if_false, false_implies, true_implies, not_true_eq_false, not_false_eq_true, bI_0, bI_1, Nat.reduceEqDiff, eq_self, nMax, nMin]
        refine ⟨fun q => new (by simp [tRs, q]) _, fun q => ⟨fun q2 => new (by simp [tRs, q2]) _, fun q2 => ?_⟩⟩
        have ht : tRs (tSc sg M) lv k = false := by simp [tRs, hk0, q, q2]
        have e1 : tRn (tSc sg M) lv (k + 1) = tRn (tSc sg M) lv k := if_neg (by rw [ht]; decide)
        have hp := tRn_pos (tSc sg M) lv (k - 1)
        rw [show k - 1 + 1 = k by omega] at hp
        try simp (disch := first | omega | decide) only [Nat.add_zero, nE_l, nE_r, nE_n, nLe_l, nLe_r, nLe_n, nLt_l, nLt_r, nLt_n, nA_l, nA_r, nI_add, nS_l, nS_n, nIn, nI_clamp, gI_I, gI_J, gI_D, gJ_J, gJ_I, gJ_D, true_and, and_true, false_and, and_false, if_true, if_false, false_implies, true_implies, not_true_eq_false, not_false_eq_true, bI_0, bI_1, Nat.reduceEqDiff, eq_self, nMax, nMin]
        exact ih (k + 1) _ _ (by omega) ((hs.f 21 _ (by decide)).i 54 _ _ (by decide) (by decide)) (by simp (disch := first | omega | decide) only [e1, nE_l, nE_r, nE_n, nLe_l, nLe_r, nLe_n, nLt_l, nLt_r, nLt_n, nA_l, nA_r, nI_add, nS_l, nS_n, nIn, nI_clamp, gI_I, gI_J, gI_D, gJ_J, gJ_I, gJ_D, true_and, and_true, false_and, and_false, if_true, if_false, false_implies, true_implies, not_true_eq_false, not_false_eq_true, bI_0, bI_1, Nat.reduceEqDiff, eq_self, nMax, nMin]) ((hsc.skip (by decide)).skip (by decide)) ((hrn.skip (by decide)).pushE (by rw [e1]))
  -- the scripts
  have scr : ∀ r k μ', k + r = M → mF [53, 54] [21] μ μ' → gAr μ' 53 k (tSc sg M) → gWp none 178 (47, [some (.ref 1), some (.int (nI (tSb sg (tFs sg M 0) k))), some (.int (nI k)), none], [], μ') 0 P := by
    intro r
    induction r with
    | zero =>
      intro k μ' hr hs hsc
      have hk : k = M := by omega
      subst hk
      refine vc_178_47 ?_
      rw [hs.F (by decide), h9]
      simp (disch := first | omega | decide) only [Nat.le_refl, nE_l, nE_r, nE_n, nLe_l, nLe_r, nLe_n, nLt_l, nLt_r, nLt_n, nA_l, nA_r, nI_add, nS_l, nS_n, nIn, nI_clamp, gI_I, gI_J, gI_D, gJ_J, gJ_I, gJ_D, true_and, and_true, false_and, and_false, if_true, if_false, false_implies, true_implies, not_true_eq_false, not_false_eq_true, bI_0, bI_1, Nat.reduceEqDiff, eq_self, nMax, nMin]
      exact runs _ k 0 _ _ (by omega) (hs.f 21 0 (by decide)) (by simp (disch := first | omega | decide) only [nE_l, nE_r, nE_n, nLe_l, nLe_r, nLe_n, nLt_l, nLt_r, nLt_n, nA_l, nA_r, nI_add, nS_l, nS_n, nIn, nI_clamp, gI_I, gI_J, gI_D, gJ_J, gJ_I, gJ_D, true_and, and_true, false_and, and_false, if_true, if_false, false_implies, true_implies, not_true_eq_false, not_false_eq_true, bI_0, bI_1, Nat.reduceEqDiff, eq_self, nMax, nMin]; rfl) (hsc.skip (by decide)) (gAr.nil _ _ _)
    | succ r ih =>
      intro k μ' hr hs hsc
      have hbk := hb k (by omega)
      have g1 : gI μ' 50 k = nI (sg k) := by rw [hs.I (by decide) (by decide), hsg k (by omega)]
      have hvv : (if isLt (sg k) = true then scOf (sg k) else tSb sg (tFs sg M 0) k) = tSc sg M k := rfl
      have go := ih (k + 1) (gsI μ' 53 k (nI (tSc sg M k))) (by omega) (hs.i 53 _ _ (by decide) (by decide)) (hsc.pushE rfl)
      have e1 : tSb sg (tFs sg M 0) (k + 1) = tSc sg M k := rfl
      rw [e1] at go
      refine vc_178_47 ?_
      rw [hs.F (by decide), h9]
      simp (disch := first | omega | decide) only [g1, show ¬ M ≤ k by omega, show k < 50 by omega, nE_l, nE_r, nE_n, nLe_l, nLe_r, nLe_n, nLt_l, nLt_r, nLt_n, nA_l, nA_r, nI_add, nS_l, nS_n, nIn, nI_clamp, gI_I, gI_J, gI_D, gJ_J, gJ_I, gJ_D, true_and, and_true, false_and, and_false, if_true, if_false, false_implies, true_implies, not_true_eq_false, not_false_eq_true, bI_0, bI_1, Nat.reduceEqDiff, eq_self, nMax, nMin]
      refine s_155 (by omega) ⟨_, rfl, ?_⟩
      cases hl : isLt (sg k) with
      | false =>
        rw [if_neg (by rw [hl]; decide)] at hvv
        simp (disch := first | omega | decide) only [hvv, show k < 50 by omega, nE_l, nE_r, nE_n, nLe_l, nLe_r, nLe_n, nLt_l, nLt_r, nLt_n, nA_l, nA_r, nI_add, nS_l, nS_n, nIn, nI_clamp, gI_I, gI_J, gI_D, gJ_J, gJ_I, gJ_D, true_and, and_true, false_and, and_false, if_true, if_false, false_implies, true_implies, not_true_eq_false, not_false_eq_true, bI_0, bI_1, Nat.reduceEqDiff, eq_self, nMax, nMin]
        exact go
      | true =>
        rw [if_pos hl] at hvv
        simp (disch := first | omega | decide) only [g1, Bool.true_eq_false, show k < 50 by omega, nE_l, nE_r, nE_n, nLe_l, nLe_r, nLe_n, nLt_l, nLt_r, nLt_n, nA_l, nA_r, nI_add, nS_l, nS_n, nIn, nI_clamp, gI_I, gI_J, gI_D, gJ_J, gJ_I, gJ_D, true_and, and_true, false_and, and_false, if_true, if_false, false_implies, true_implies, not_true_eq_false, not_false_eq_true, bI_0, bI_1, Nat.reduceEqDiff, eq_self, nMax, nMin]
        refine s_177 (by omega) hl ⟨_, rfl, ?_⟩
        simp (disch := first | omega | decide) only [hvv, show k < 50 by omega, nE_l, nE_r, nE_n, nLe_l, nLe_r, nLe_n, nLt_l, nLt_r, nLt_n, nA_l, nA_r, nI_add, nS_l, nS_n, nIn, nI_clamp, gI_I, gI_J, gI_D, gJ_J, gJ_I, gJ_D, true_and, and_true, false_and, and_false, if_true, if_false, false_implies, true_implies, not_true_eq_false, not_false_eq_true, bI_0, bI_1, Nat.reduceEqDiff, eq_self, nMax, nMin]
        exact go
  -- the first letter
  have fst : ∀ r d, d + r = M → gWp none 178 (9, [some (.ref 1), some (.int (nI (tFs sg d (M - d)))), some (.int (nI (M - d) - 1)), none], [], μ) 0 P := by
    intro r
    induction r with
    | zero =>
      intro d hd
      have hdM : d = M := by omega
      subst hdM
      refine vc_178_9 ?_
      rw [Nat.sub_self, nI_01]
      refine ⟨fun _ => ?_, fun z => absurd (show (-1 : Int32) < 0 by decide) z⟩
      exact scr d 0 μ (by omega) (mF.rf _ _ _) (gAr.nil _ _ _)
    | succ r ih =>
      intro d hd
      have g1 := hsg (M - d - 1) (by omega)
      have hbk := hb (M - d - 1) (by omega)
      have e1 : tFs sg (d + 1) (M - (d + 1)) = if isLt (sg (M - (d + 1))) = true then scOf (sg (M - (d + 1))) else tFs sg d (M - (d + 1) + 1) := rfl
      rw [show M - (d + 1) = M - d - 1 by omega, show M - d - 1 + 1 = M - d by omega] at e1
      have go := ih (d + 1) (by omega)
      rw [show M - (d + 1) = M - d - 1 by omega, e1] at go
      refine vc_178_9 ?_
      rw [nS_1 (show 1 ≤ M - d by omega)]
      refine ⟨fun z => absurd z (nI_pos (by omega)), fun _ => ⟨vp_in_nI (by omega) (by decide), ?_⟩⟩
      rw [nI_clamp (show M - d - 1 < 2 ^ 31 by omega), g1]
      refine s_155 (by omega) ⟨_, rfl, ?_⟩
      rw [bI_0, addm1, g1]
      refine ⟨fun q => ?_, fun q => ⟨vp_in_nI (by omega) (by decide), ?_⟩⟩
      · rw [if_neg (by rw [q]; decide)] at go
        exact go
      · have q : isLt (sg (M - d - 1)) = true := by simpa using q
        rw [if_pos q] at go
        exact s_177 (by omega) q ⟨_, rfl, go⟩
  refine vc_178 ?_
  rw [h9]
  have e0 := fst M 0 (by omega)
  rw [Nat.sub_zero] at e0
  exact e0
/-! glyphs -/
/-- what a glyph from k to e is -/
theorem gly_run {rl : Nat → Nat → Nat} {rn sg : Nat → Nat} {k e M : Nat} (hke : k < e) (heM : e ≤ M) (h0 : tLg rl rn sg k = 0) (hall : ∀ j, k < j → j < e → tLg rl rn sg j ≠ 0) (hend : e < M → tLg rl rn sg e = 0) : (∀ n, k ≤ n → n < e → tGc rl rn sg (n + 1) - 1 = tGc rl rn sg k) ∧ tGs rl rn sg M (tGc rl rn sg k) = k ∧ tGn rl rn sg M (tGc rl rn sg k) = tCu rl rn sg (e - 1) := by
  have c1 : tGc rl rn sg (k + 1) = tGc rl rn sg k + 1 := if_pos h0
  have c2 : ∀ d, k + 1 + d ≤ e → tGc rl rn sg (k + 1 + d) = tGc rl rn sg k + 1 := by
    intro d
    induction d with
    | zero => intro _; exact c1
    | succ d ih =>
      intro hd
      have e1 : tGc rl rn sg (k + 1 + d + 1) = tGc rl rn sg (k + 1 + d) := if_neg (hall (k + 1 + d) (by omega) (by omega))
      rw [show k + 1 + (d + 1) = k + 1 + d + 1 by omega, e1, ih (by omega)]
  have s2 : ∀ d, tGs rl rn sg (k + 1 + d) (tGc rl rn sg k) = k := by
    intro d
    induction d with
    | zero =>
      have e1 : tGs rl rn sg (k + 1) = upN (tGs rl rn sg k) (tGc rl rn sg k) k := if_pos h0
      show tGs rl rn sg (k + 1) _ = k
      rw [e1, upN_eq]
    | succ d ih =>
      have e1 : tGs rl rn sg (k + 1 + d + 1) = if tLg rl rn sg (k + 1 + d) = 0 then upN (tGs rl rn sg (k + 1 + d)) (tGc rl rn sg (k + 1 + d)) (k + 1 + d) else tGs rl rn sg (k + 1 + d) := rfl
      have hm := tGc_mono rl rn sg (show k + 1 ≤ k + 1 + d by omega)
      rw [show k + 1 + (d + 1) = k + 1 + d + 1 by omega, e1]
      split
      · rw [upN_ne (by omega), ih]
      · exact ih
  have n2 : ∀ d, k + 1 + d ≤ e → tGn rl rn sg (k + 1 + d) (tGc rl rn sg k) = tCu rl rn sg (k + d) := by
    intro d hd
    have e2 := tGn_last rl rn sg (k + d)
    rw [show k + 1 + d = k + d + 1 by omega]
    have e3 := c2 d hd
    rw [show k + 1 + d = k + d + 1 by omega] at e3
    rw [e3, Nat.add_sub_cancel] at e2
    exact e2
  have n3 : ∀ d, e + d ≤ M → tGn rl rn sg (e + d) (tGc rl rn sg k) = tCu rl rn sg (e - 1) := by
    intro d
    induction d with
    | zero =>
      intro _
      have := n2 (e - (k + 1)) (by omega)
      rw [show k + 1 + (e - (k + 1)) = e by omega, show k + (e - (k + 1)) = e - 1 by omega] at this
      exact this
    | succ d ih =>
      intro hd
      have ih := ih (by omega)
      have e1 : tGn rl rn sg (e + d + 1) = if tLg rl rn sg (e + d) = 0 then upN (tGn rl rn sg (e + d)) (tGc rl rn sg (e + d)) (sg (e + d)) else upN (tGn rl rn sg (e + d)) (tGc rl rn sg (e + d) - 1) (tLg rl rn sg (e + d)) := rfl
      have hce := c2 (e - (k + 1)) (by omega)
      rw [show k + 1 + (e - (k + 1)) = e by omega] at hce
      have hm := tGc_mono rl rn sg (show e ≤ e + d by omega)
      rw [show e + (d + 1) = e + d + 1 by omega, e1]
      split
      · rw [upN_ne (by omega), ih]
      · rename_i hne
        have hd0 : d ≠ 0 := fun z => by
          rw [z, Nat.add_zero] at hne
          exact hne (hend (by omega))
        have c3 : tGc rl rn sg (e + 1) = tGc rl rn sg e + 1 := if_pos (hend (by omega))
        have hm2 := tGc_mono rl rn sg (show e + 1 ≤ e + d by omega)
        rw [upN_ne (by omega), ih]
  refine ⟨fun n hn1 hn2 => ?_, ?_, ?_⟩
  · have := c2 (n - k) (by omega)
    rw [show k + 1 + (n - k) = n + 1 by omega] at this
    omega
  · have := s2 (M - (k + 1))
    rw [show k + 1 + (M - (k + 1)) = M by omega] at this
    exact this
  · have := n3 (M - e) (by omega)
    rw [show e + (M - e) = M by omega] at this
    exact this
theorem s_173 {w lf ls lw rn sg : Nat → Nat} {ln M : Nat} {μ : gMu} {P : gMu → gRes → Prop} (hn : ln ≤ 20) (h8 : gI μ 1 8 = nI ln) (h46 : gAr μ 46 ln lf) (h47 : gAr μ 47 ln ls) (hb6 : ∀ j, j < ln → lf j < 1000) (hb7 : ∀ j, j < ln → ls j < 1000) (hM : M ≤ 50) (h9 : gI μ 1 19 = nI M) (hsg : gAr μ 50 M sg) (hb : ∀ k, k < M → sg k < 128) (hrn : gAr μ 54 M rn) (hbr : ∀ k, k < M → rn k < 1000)
    (h : ∀ μ', mF [55, 56] [] μ μ' → gAr μ' 55 M (fun n => tGn (tRl lf ls ln) rn sg M (tGc (tRl lf ls ln) rn sg (n + 1) - 1)) → gAr μ' 56 M (fun n => tGs (tRl lf ls ln) rn sg M (tGc (tRl lf ls ln) rn sg (n + 1) - 1)) → P μ' (.inl none)) : gCl' 173 [.ref 1] μ P := by
  have loop : ∀ n k μ' z1 z2 z3, M - k ≤ n → k ≤ M → mF [55, 56] [] μ μ' → gAr μ' 55 k (fun n => tGn (tRl lf ls ln) rn sg M (tGc (tRl lf ls ln) rn sg (n + 1) - 1)) → gAr μ' 56 k (fun n => tGs (tRl lf ls ln) rn sg M (tGc (tRl lf ls ln) rn sg (n + 1) - 1)) → (k < M → tLg (tRl lf ls ln) rn sg k = 0) → gWp none 173 (2, [some (.ref 1), some (.int (nI k)), z1, z2, z3], [], μ') 0 P := by
    intro n
    have stop : ∀ k μ' z1 z2 z3, k = M → mF [55, 56] [] μ μ' → gAr μ' 55 k (fun n => tGn (tRl lf ls ln) rn sg M (tGc (tRl lf ls ln) rn sg (n + 1) - 1)) → gAr μ' 56 k (fun n => tGs (tRl lf ls ln) rn sg M (tGc (tRl lf ls ln) rn sg (n + 1) - 1)) → gWp none 173 (2, [some (.ref 1), some (.int (nI k)), z1, z2, z3], [], μ') 0 P := by
      intro k μ' z1 z2 z3 hk hs h1 h2
      subst hk
      refine gWp_up (vc_173_2 ?_) (by (repeat (first | exact gUp.nil | refine gUp.cs ?_ | refine gUp.cn ?_)))
      rw [hs.F (by decide), h9]
      simp (disch := first | omega | decide) only [Nat.le_refl, nE_l, nE_r, nE_n, nLe_l, nLe_r, nLe_n, nLt_l, nLt_r, nLt_n, nA_l, nA_r, nI_add, nS_l, nS_n, nIn, nI_clamp, gI_I, gI_J, gI_D, gJ_J, gJ_I, gJ_D, true_and, and_true, false_and, and_false, if_true, if_false, false_implies, true_implies, not_true_eq_false, not_false_eq_true, bI_0, bI_1, Nat.reduceEqDiff, eq_self, nMax, nMin]
      exact h μ' hs h1 h2
    induction n with
    | zero =>
      intro k μ' z1 z2 z3 hn2 hk hs h1 h2 h0
      exact stop k μ' z1 z2 z3 (by omega) hs h1 h2
    | succ n ih =>
      intro k μ' z1 z2 z3 hn2 hk hs h1 h2 h0
      by_cases hkM : k = M
      · exact stop k μ' z1 z2 z3 hkM hs h1 h2
      · have h0 := h0 (by omega)
        have h9' : gI μ' 1 19 = nI M := by rw [hs.F (by decide), h9]
        have rl' : ∀ a b (Q : gMu → gRes → Prop), a < 2 ^ 31 → b < 2 ^ 31 → Q μ' (.inl (some (.int (nZ (tRl lf ls ln a b))))) → gCl' 167 [.ref 1, .int (nI a), .int (nI b)] μ' Q := fun a b Q ha hb9 hq => s_167 hn (by rw [hs.F (by decide), h8]) (h46.gf hs (by decide) (by decide)) (h47.gf hs (by decide) (by decide)) hb6 hb7 ha hb9 hq
        -- the filling of a glyph
        have fill : ∀ e, k < e → e ≤ M → (∀ j, k < j → j < e → tLg (tRl lf ls ln) rn sg j ≠ 0) → (e < M → tLg (tRl lf ls ln) rn sg e = 0) → gWp none 173 (80, [some (.ref 1), some (.int (nI k)), some (.int (nI (tCu (tRl lf ls ln) rn sg (e - 1)))), some (.int (nI e)), some (.int (nI k))], [], μ') 0 P := by
          intro e hke heM hall hend
          obtain ⟨r1, r2, r3⟩ := gly_run hke heM h0 hall hend
          have inner : ∀ r j μ2, j + r = e → k ≤ j → mF [55, 56] [] μ μ2 → gAr μ2 55 j (fun n => tGn (tRl lf ls ln) rn sg M (tGc (tRl lf ls ln) rn sg (n + 1) - 1)) → gAr μ2 56 j (fun n => tGs (tRl lf ls ln) rn sg M (tGc (tRl lf ls ln) rn sg (n + 1) - 1)) → gWp none 173 (80, [some (.ref 1), some (.int (nI k)), some (.int (nI (tCu (tRl lf ls ln) rn sg (e - 1)))), some (.int (nI e)), some (.int (nI j))], [], μ2) 0 P := by
            intro r
            induction r with
            | zero =>
              intro j μ2 hr hj hs2 g1 g2
              have hje : j = e := by omega
              subst hje
              refine vc_173_80 ?_
              simp (disch := first | omega | decide) only [Nat.le_refl, nE_l, nE_r, nE_n, nLe_l, nLe_r, nLe_n, nLt_l, nLt_r, nLt_n, nA_l, nA_r, nI_add, nS_l, nS_n, nIn, nI_clamp, gI_I, gI_J, gI_D, gJ_J, gJ_I, gJ_D, true_and, and_true, false_and, and_false, if_true, if_false, false_implies, true_implies, not_true_eq_false, not_false_eq_true, bI_0, bI_1, Nat.reduceEqDiff, eq_self, nMax, nMin]
              exact ih j μ2 _ _ _ (by omega) heM hs2 g1 g2 hend
            | succ r ihr =>
              intro j μ2 hr hj hs2 g1 g2
              have rj := r1 j hj (by omega)
              refine vc_173_80 ?_
              simp (disch := first | omega | decide) only [show ¬ e ≤ j by omega, show j < 50 by omega, nE_l, nE_r, nE_n, nLe_l, nLe_r, nLe_n, nLt_l, nLt_r, nLt_n, nA_l, nA_r, nI_add, nS_l, nS_n, nIn, nI_clamp, gI_I, gI_J, gI_D, gJ_J, gJ_I, gJ_D, true_and, and_true, false_and, and_false, if_true, if_false, false_implies, true_implies, not_true_eq_false, not_false_eq_true, bI_0, bI_1, Nat.reduceEqDiff, eq_self, nMax, nMin]
              exact ihr (j + 1) _ (by omega) (by omega) ((hs2.i 55 _ _ (by decide) (by decide)).i 56 _ _ (by decide) (by decide)) ((g1.pushE (by rw [rj, r3])).skip (by decide)) ((g2.skip (by decide)).pushE (by rw [rj, r2]))
          exact inner (e - k) k μ' (by omega) (Nat.le_refl k) hs h1 h2
        -- growing
        have grow : ∀ r e, e + r = M → k < e → (∀ j, k < j → j < e → tLg (tRl lf ls ln) rn sg j ≠ 0 ∧ rn j = rn k) → gWp none 173 (21, [some (.ref 1), some (.int (nI k)), some (.int (nI (tCu (tRl lf ls ln) rn sg (e - 1)))), some (.int (nI e)), none], [], μ') 0 P := by
          intro r
          induction r with
          | zero =>
            intro e hr hke hall
            refine vc_173_21 ?_
            rw [h9']
            simp (disch := first | omega | decide) only [show M ≤ e by omega, nE_l, nE_r, nE_n, nLe_l, nLe_r, nLe_n, nLt_l, nLt_r, nLt_n, nA_l, nA_r, nI_add, nS_l, nS_n, nIn, nI_clamp, gI_I, gI_J, gI_D, gJ_J, gJ_I, gJ_D, true_and, and_true, false_and, and_false, if_true, if_false, false_implies, true_implies, not_true_eq_false, not_false_eq_true, bI_0, bI_1, Nat.reduceEqDiff, eq_self, nMax, nMin]
            exact gWp_up (fill e hke (by omega) (fun j j1 j2 => (hall j j1 j2).1) (fun z => by omega)) (by (repeat (first | exact gUp.nil | refine gUp.cs ?_ | refine gUp.cn ?_)))
          | succ r ihr =>
            intro e hr hke hall
            have a1 : gI μ' 54 e = nI (rn e) := by rw [hs.I (by decide) (by decide), hrn e (by omega)]
            have a2 : gI μ' 54 k = nI (rn k) := by rw [hs.I (by decide) (by decide), hrn k (by omega)]
            have a3 : gI μ' 50 e = nI (sg e) := by rw [hs.I (by decide) (by decide), hsg e (by omega)]
            have b1 := hbr e (by omega)
            have b2 := hbr k (by omega)
            have b3 := hb e (by omega)
            have hcu : tCu (tRl lf ls ln) rn sg (e - 1) < 220 := isGn_lt hn (tCu_gn (hb (e - 1) (by omega)))
            have hre : rn (e - 1) = rn k := by
              by_cases c : e - 1 = k
              · rw [c]
              · exact (hall (e - 1) (by omega) (by omega)).2
            obtain ⟨e1, he1⟩ : ∃ e1, e = e1 + 1 := ⟨e - 1, by omega⟩
            have elg : tLg (tRl lf ls ln) rn sg e = if rn e = rn k then tRl lf ls ln (tCu (tRl lf ls ln) rn sg (e - 1)) (sg e) else 0 := by
              rw [he1] at hre ⊢
              rw [Nat.add_sub_cancel] at hre ⊢
              rw [← hre]
              rfl
            have ecu := tCu_lg (tRl lf ls ln) rn sg e
            have halt : tLg (tRl lf ls ln) rn sg e = 0 → gWp none 173 (80, [some (.ref 1), some (.int (nI k)), some (.int (nI (tCu (tRl lf ls ln) rn sg (e - 1)))), some (.int (nI e)), some (.int (nI k))], [], μ') 0 P := fun z => fill e hke (by omega) (fun j j1 j2 => (hall j j1 j2).1) (fun _ => z)
            refine vc_173_21 ?_
            rw [h9']
            simp (disch := first | omega | decide) only [a1, a2, a3, show ¬ M ≤ e by omega, show e < 50 by omega, show k < 50 by omega, nE_l, nE_r, nE_n, nLe_l, nLe_r, nLe_n, nLt_l, nLt_r, nLt_n, nA_l, nA_r, nI_add, nS_l, nS_n, nIn, nI_clamp, gI_I, gI_J, gI_D, gJ_J, gJ_I, gJ_D, true_and, and_true, false_and, and_false, if_true, if_false, false_implies, true_implies, not_true_eq_false, not_false_eq_true, bI_0, bI_1, Nat.reduceEqDiff, eq_self, nMax, nMin]
            refine ⟨fun q => ?_, fun q => rl' _ _ _ (by omega) (by omega) ⟨_, rfl, ?_⟩⟩
            · rw [if_neg q] at elg
              exact halt elg
            · rw [if_pos q] at elg
              rw [← elg]
              have hlg : tLg (tRl lf ls ln) rn sg e < 220 := by
                rw [elg]; exact tRl_lt hn _ _
              by_cases c : tLg (tRl lf ls ln) rn sg e = 0
              · refine ⟨fun _ => halt c, fun z => absurd (by unfold nZ; rw [if_pos c]) z⟩
              · have hz : nZ (tLg (tRl lf ls ln) rn sg e) = nI (tLg (tRl lf ls ln) rn sg e) := if_neg c
                refine ⟨fun z => absurd z (by rw [hz]; exact nI_nm1 (by omega)), fun _ => ?_⟩
                rw [a3]
                refine rl' _ _ _ (by omega) (by omega) ⟨_, rfl, ?_⟩
                rw [← elg, hz]
                rw [if_neg c] at ecu
                have z := ihr (e + 1) (by omega) (by omega) (fun j j1 j2 => by
                  by_cases cj : j = e
                  · rw [cj]; exact ⟨c, q⟩
                  · exact hall j j1 (by omega))
                rw [Nat.add_sub_cancel, ecu] at z
                exact z
        have a3 : gI μ' 50 k = nI (sg k) := by rw [hs.I (by decide) (by decide), hsg k (by omega)]
        have ecu := tCu_lg (tRl lf ls ln) rn sg k
        rw [if_pos h0] at ecu
        refine gWp_up (vc_173_2 ?_) (by (repeat (first | exact gUp.nil | refine gUp.cs ?_ | refine gUp.cn ?_)))
        rw [h9']
        simp (disch := first | omega | decide) only [a3, show ¬ M ≤ k by omega, show k < 50 by omega, nE_l, nE_r, nE_n, nLe_l, nLe_r, nLe_n, nLt_l, nLt_r, nLt_n, nA_l, nA_r, nI_add, nS_l, nS_n, nIn, nI_clamp, gI_I, gI_J, gI_D, gJ_J, gJ_I, gJ_D, true_and, and_true, false_and, and_false, if_true, if_false, false_implies, true_implies, not_true_eq_false, not_false_eq_true, bI_0, bI_1, Nat.reduceEqDiff, eq_self, nMax, nMin]
        have z := grow (M - (k + 1)) (k + 1) (by omega) (by omega) (fun j j1 j2 => by omega)
        rw [Nat.add_sub_cancel, ecu] at z
        exact z
  exact vc_173 (loop M 0 μ _ _ _ (by omega) (Nat.zero_le M) (mF.rf _ _ _) (gAr.nil _ _ _) (gAr.nil _ _ _) (fun _ => rfl))
/-! parts -/
def mBk (sg : Nat → Nat) (k : Nat) : Bool := decide (0 < k) && (sg k != 32 && (sg (k - 1) == 32 || sg (k - 1) == 45))
def mPc (sg : Nat → Nat) : Nat → Nat
  | 0 => 0
  | k + 1 => if mBk sg k = true then mPc sg k + 1 else mPc sg k
def mPp (sg : Nat → Nat) : Nat → Nat → Nat
  | 0 => fun _ => 0
  | k + 1 => if mBk sg k = true then upN (mPp sg k) (mPc sg k + 1) k else mPp sg k
theorem s_172 {sg : Nat → Nat} {M k : Nat} {μ : gMu} {P : gMu → gRes → Prop} (hM : M ≤ 50) (hsg : gAr μ 50 M sg) (hb : ∀ k, k < M → sg k < 128) (hk : k < M) (h : P μ (.inl (some (.int (bI (mBk sg k)))))) : gCl' 172 [.ref 1, .int (nI k)] μ P := by
  have b1 := hb k hk
  have g1 := hsg k hk
  unfold mBk at h
  refine vc_172 ?_
  by_cases h0 : k = 0
  · rw [decide_eq_false (by omega), Bool.false_and] at h
    simp (disch := first | omega | decide) only [show k ≤ 0 by omega, nE_l, nE_r, nE_n, nLe_l, nLe_r, nLe_n, nLt_l, nLt_r, nLt_n, nA_l, nA_r, nI_add, nS_l, nS_n, nIn, nI_clamp, gI_I, gI_J, gI_D, gJ_J, gJ_I, gJ_D, true_and, and_true, false_and, and_false, if_true, if_false, false_implies, true_implies, not_true_eq_false, not_false_eq_true, bI_0, bI_1, Nat.reduceEqDiff, eq_self, nMax, nMin]
    exact h
  · have b2 := hb (k - 1) (by omega)
    have g2 := hsg (k - 1) (by omega)
    rw [decide_eq_true (by omega), Bool.true_and] at h
    simp (disch := first | omega | decide) only [g1, g2, show ¬ k ≤ 0 by omega, show k < 50 by omega, show k - 1 < 50 by omega, nE_l, nE_r, nE_n, nLe_l, nLe_r, nLe_n, nLt_l, nLt_r, nLt_n, nA_l, nA_r, nI_add, nS_l, nS_n, nIn, nI_clamp, gI_I, gI_J, gI_D, gJ_J, gJ_I, gJ_D, true_and, and_true, false_and, and_false, if_true, if_false, false_implies, true_implies, not_true_eq_false, not_false_eq_true, bI_0, bI_1, Nat.reduceEqDiff, eq_self, nMax, nMin]
    refine ⟨fun q => ?_, fun q => ⟨fun q2 => ?_, fun q2 => ⟨fun q3 => ?_, fun q3 => ?_⟩⟩⟩
    · rw [show (sg k != 32) = false by simpa using q] at h; exact h
    · rw [show (sg k != 32) = true by simpa using q, show (sg (k - 1) == 32) = true by simpa using q2] at h; exact h
    · rw [show (sg k != 32) = true by simpa using q, show (sg (k - 1) == 32) = false by simpa using q2, show (sg (k - 1) == 45) = false by simpa using q3] at h; exact h
    · rw [show (sg k != 32) = true by simpa using q, show (sg (k - 1) == 32) = false by simpa using q2, show (sg (k - 1) == 45) = true by simpa using q3] at h; exact h
theorem mPc_le (sg : Nat → Nat) : ∀ k, mPc sg k ≤ k ∧ (0 < k → mPc sg k < k)
  | 0 => ⟨Nat.le_refl 0, fun h => absurd h (Nat.lt_irrefl 0)⟩
  | k + 1 => by
    have h := mPc_le sg k
    have e : mPc sg (k + 1) = if mBk sg k = true then mPc sg k + 1 else mPc sg k := rfl
    rw [e]
    by_cases q : k = 0
    · subst q
      rw [if_neg (by simp [mBk])]
      exact ⟨by omega, fun _ => by omega⟩
    · have := h.2 (by omega)
      split
      · exact ⟨by omega, fun _ => by omega⟩
      · exact ⟨by omega, fun _ => by omega⟩
/-- how many parts the model counts -/
def mPn (sg : Nat → Nat) (M : Nat) : Nat := if M = 0 then 0 else mPc sg M + 1
def mPt (sg : Nat → Nat) (M : Nat) : Nat → Nat := upN (mPp sg M) (mPn sg M) M
theorem mPart_loop {sg : Nat → Nat} {M : Nat} {μ : gMu} {P : gMu → gRes → Prop} (hM : M ≤ 50) (h9 : gI μ 1 19 = nI M) (hsg : gAr μ 50 M sg) (hb : ∀ k, k < M → sg k < 128) (h23 : gI μ 1 23 = nI (if M = 0 then 0 else 1)) (h58 : gI μ 58 0 = 0) (h : ∀ μ', mF [58] [23] μ μ' → gI μ' 1 23 = nI (mPn sg M) → gAr μ' 58 (mPn sg M + 1) (mPt sg M) → P μ' (.inl none)) : gWp none 179 (41, [some (.ref 1), some (.int (nI 0))], [], μ) 0 P := by
  have loop : ∀ r k μ', k + r = M → 0 < M → mF [58] [23] μ μ' → gI μ' 1 23 = nI (mPc sg k + 1) → gAr μ' 58 (mPc sg k + 1) (mPp sg k) → gWp none 179 (41, [some (.ref 1), some (.int (nI k))], [], μ') 0 P := by
    intro r
    induction r with
    | zero =>
      intro k μ' hr h0 hs h23' h58'
      have hk : k = M := by omega
      subst hk
      have hle := mPc_le sg k
      have e1 : mPn sg k = mPc sg k + 1 := if_neg (by omega)
      refine vc_179_41 ?_
      rw [hs.F (by decide), h9]
      have hlt : mPc sg k + 1 < 51 := by have := hle.2 h0; omega
      simp (disch := first | omega | decide) only [Nat.le_refl, h23', hlt, nE_l, nE_r, nE_n, nLe_l, nLe_r, nLe_n, nLt_l, nLt_r, nLt_n, nA_l, nA_r, nI_add, nS_l, nS_n, nIn, nI_clamp, gI_I, gI_J, gI_D, gJ_J, gJ_I, gJ_D, true_and, and_true, false_and, and_false, if_true, if_false, false_implies, true_implies, not_true_eq_false, not_false_eq_true, bI_0, bI_1, Nat.reduceEqDiff, eq_self, nMax, nMin]
      refine h _ (hs.i 58 _ _ (by decide) (by decide)) (by simp (disch := first | omega | decide) only [h23', e1, nE_l, nE_r, nE_n, nLe_l, nLe_r, nLe_n, nLt_l, nLt_r, nLt_n, nA_l, nA_r, nI_add, nS_l, nS_n, nIn, nI_clamp, gI_I, gI_J, gI_D, gJ_J, gJ_I, gJ_D, true_and, and_true, false_and, and_false, if_true, if_false, false_implies, true_implies, not_true_eq_false, not_false_eq_true, bI_0, bI_1, Nat.reduceEqDiff, eq_self, nMax, nMin]) ?_
      unfold mPt
      rw [e1]
      exact h58'.push
    | succ r ih =>
      intro k μ' hr h0 hs h23' h58'
      have hle := mPc_le sg k
      have e1 : mPc sg (k + 1) = if mBk sg k = true then mPc sg k + 1 else mPc sg k := rfl
      have e2 : mPp sg (k + 1) = if mBk sg k = true then upN (mPp sg k) (mPc sg k + 1) k else mPp sg k := rfl
      refine vc_179_41 ?_
      rw [hs.F (by decide), h9]
      simp (disch := first | omega | decide) only [show ¬ M ≤ k by omega, nE_l, nE_r, nE_n, nLe_l, nLe_r, nLe_n, nLt_l, nLt_r, nLt_n, nA_l, nA_r, nI_add, nS_l, nS_n, nIn, nI_clamp, gI_I, gI_J, gI_D, gJ_J, gJ_I, gJ_D, true_and, and_true, false_and, and_false, if_true, if_false, false_implies, true_implies, not_true_eq_false, not_false_eq_true, bI_0, bI_1, Nat.reduceEqDiff, eq_self, nMax, nMin]
      refine s_172 hM (hsg.gf hs (by decide) (by decide)) hb (by omega) ⟨_, rfl, ?_⟩
      cases hbk : mBk sg k with
      | false =>
        rw [if_neg (by rw [hbk]; decide)] at e1 e2
        simp (disch := first | omega | decide) only [nE_l, nE_r, nE_n, nLe_l, nLe_r, nLe_n, nLt_l, nLt_r, nLt_n, nA_l, nA_r, nI_add, nS_l, nS_n, nIn, nI_clamp, gI_I, gI_J, gI_D, gJ_J, gJ_I, gJ_D, true_and, and_true, false_and, and_false, if_true, if_false, false_implies, true_implies, not_true_eq_false, not_false_eq_true, bI_0, bI_1, Nat.reduceEqDiff, eq_self, nMax, nMin]
        exact ih (k + 1) μ' (by omega) h0 hs (by rw [e1]; exact h23') (by rw [e1, e2]; exact h58')
      | true =>
        rw [if_pos hbk] at e1 e2
        simp (disch := first | omega | decide) only [Bool.true_eq_false, h23', show mPc sg k + 1 < 51 by omega, nE_l, nE_r, nE_n, nLe_l, nLe_r, nLe_n, nLt_l, nLt_r, nLt_n, nA_l, nA_r, nI_add, nS_l, nS_n, nIn, nI_clamp, gI_I, gI_J, gI_D, gJ_J, gJ_I, gJ_D, true_and, and_true, false_and, and_false, if_true, if_false, false_implies, true_implies, not_true_eq_false, not_false_eq_true, bI_0, bI_1, Nat.reduceEqDiff, eq_self, nMax, nMin]
        exact ih (k + 1) _ (by omega) h0 ((hs.i 58 _ _ (by decide) (by decide)).f 23 _ (by decide)) (by simp (disch := first | omega | decide) only [e1, nE_l, nE_r, nE_n, nLe_l, nLe_r, nLe_n, nLt_l, nLt_r, nLt_n, nA_l, nA_r, nI_add, nS_l, nS_n, nIn, nI_clamp, gI_I, gI_J, gI_D, gJ_J, gJ_I, gJ_D, true_and, and_true, false_and, and_false, if_true, if_false, false_implies, true_implies, not_true_eq_false, not_false_eq_true, bI_0, bI_1, Nat.reduceEqDiff, eq_self, nMax, nMin]) (by rw [e1, e2]; exact h58'.push.skip (by decide))
  by_cases h0 : M = 0
  · have e1 : mPn sg M = 0 := if_pos h0
    rw [if_pos h0] at h23
    refine vc_179_41 ?_
    rw [h9]
    simp (disch := first | omega | decide) only [show M ≤ 0 by omega, h23, nE_l, nE_r, nE_n, nLe_l, nLe_r, nLe_n, nLt_l, nLt_r, nLt_n, nA_l, nA_r, nI_add, nS_l, nS_n, nIn, nI_clamp, gI_I, gI_J, gI_D, gJ_J, gJ_I, gJ_D, true_and, and_true, false_and, and_false, if_true, if_false, false_implies, true_implies, not_true_eq_false, not_false_eq_true, bI_0, bI_1, Nat.reduceEqDiff, eq_self, nMax, nMin]
    refine h _ ((mF.rf _ _ μ).i 58 _ _ (by decide) (by decide)) (by simp (disch := first | omega | decide) only [h23, e1, nE_l, nE_r, nE_n, nLe_l, nLe_r, nLe_n, nLt_l, nLt_r, nLt_n, nA_l, nA_r, nI_add, nS_l, nS_n, nIn, nI_clamp, gI_I, gI_J, gI_D, gJ_J, gJ_I, gJ_D, true_and, and_true, false_and, and_false, if_true, if_false, false_implies, true_implies, not_true_eq_false, not_false_eq_true, bI_0, bI_1, Nat.reduceEqDiff, eq_self, nMax, nMin]) ?_
    unfold mPt
    rw [e1]
    exact (gAr.nil μ 58 (mPp sg M)).push
  · rw [if_neg h0] at h23
    exact loop M 0 μ (by omega) (by omega) (mF.rf _ _ _) h23 (fun j hj => by
      have hj : j < 0 + 1 := hj
      have : j = 0 := by omega
      subst this
      exact h58)
