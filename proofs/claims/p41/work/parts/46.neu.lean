/-! the class's neutrals and levels of a stretch -/
theorem bI_nI (b : Bool) : bI b = nI (if b = true then 1 else 0) := by cases b <;> rfl
def odN (e : Nat) : Nat := if isOd e = true then 1 else 0
theorem odN_le (e : Nat) : odN e ≤ 1 := by unfold odN; split <;> omega
theorem s_14n {a : Nat} {μ : gMu} {P : gMu → gRes → Prop} (ha : a < 2 ^ 31) (h : P μ (.inl (some (.int (nI (odN a)))))) : gCl' 14 [.int (nI a)] μ P := s_14 ha (by rw [bI_nI]; exact h)
theorem s_16n {a : Nat} {μ : gMu} {P : gMu → gRes → Prop} (ha : a < 2 ^ 31) (h : P μ (.inl (some (.int (nI (sdK a)))))) : gCl' 16 [.int (nI a)] μ P := s_16 ha (by
  rw [bI_nI]
  have e : (if (a != 0) = true then 1 else 0) = sdK a := by
    unfold sdK
    by_cases h0 : a = 0
    · subst h0; rfl
    · rw [if_neg h0, if_pos (by simpa using h0)]
  rw [e]
  exact h)
theorem tAh_succ {f : Nat → Nat} {s first k : Nat} (h : s ≤ k) : tAh f s first (k + 1 - s) = if f k = 3 then tAh f s first (k - s) else sdK (f k) := by
  have e : k + 1 - s = (k - s) + 1 := by omega
  rw [e]
  show (if f (s + (k - s)) = 3 then _ else sdK (f (s + (k - s)))) = _
  rw [show s + (k - s) = k by omega]
theorem tBh_step {f : Nat → Nat} {e last k : Nat} (h : k < e) : tBh f e last (e - k) = if f k = 3 then tBh f e last (e - (k + 1)) else sdK (f k) := by
  have e1 : e - k = (e - (k + 1)) + 1 := by omega
  rw [e1]
  show (if f (e - ((e - (k + 1)) + 1)) = 3 then _ else sdK (f (e - ((e - (k + 1)) + 1)))) = _
  rw [show e - ((e - (k + 1)) + 1) = k by omega]
theorem tAh_run {f : Nat → Nat} {s first k : Nat} (h : s ≤ k) : ∀ d, (∀ j, k ≤ j → j < k + d → f j = 3) → tAh f s first (k + d - s) = tAh f s first (k - s)
  | 0, _ => rfl
  | d + 1, hall => by
    rw [show k + (d + 1) - s = (k + d) + 1 - s by omega, tAh_succ (by omega), if_pos (hall (k + d) (by omega) (by omega))]
    exact tAh_run h d (fun j h1 h2 => hall j h1 (by omega))
theorem tBh_run {f : Nat → Nat} {e last t : Nat} (ht : t ≤ e) : ∀ d, d ≤ t → (∀ j, t - d ≤ j → j < t → f j = 3) → tBh f e last (e - (t - d)) = tBh f e last (e - t)
  | 0, _, _ => rfl
  | d + 1, hd, hall => by
    rw [tBh_step (by omega), if_pos (hall (t - (d + 1)) (by omega) (by omega)), show t - (d + 1) + 1 = t - d by omega]
    exact tBh_run ht d (by omega) (fun j h1 h2 => hall j (by omega) h2)
/-- what a run of neutrals from k to t becomes -/
theorem tKd_run {f : Nat → Nat} {s e first last d k t : Nat} (hs : s ≤ k) (hkt : k < t) (hte : t ≤ e) (hall : ∀ j, k ≤ j → j < t → f j = 3) (hbk : k = s ∨ (s < k ∧ f (k - 1) ≠ 3)) (hft : t < e → f t ≠ 3) {A B : Nat} (hA : A = if k = s then first else sdK (f (k - 1))) (hB : B = if t = e then last else sdK (f t)) : ∀ j, k ≤ j → j < t → tKd f s e first last d j = if A = B then A else d := by
  intro j h1 h2
  unfold tKd
  rw [if_pos (hall j h1 h2)]
  have e1 : tAh f s first (j - s) = A := by
    have := tAh_run (first := first) hs (j - k) (fun i h3 h4 => hall i h3 (by omega))
    rw [show k + (j - k) - s = j - s by omega] at this
    rw [this, hA]
    rcases hbk with rfl | ⟨h5, h6⟩
    · rw [if_pos rfl, Nat.sub_self]; rfl
    · rw [if_neg (by omega), show k - s = (k - 1) + 1 - s by omega, tAh_succ (by omega), if_neg h6]
  have e2 : tBh f e last (e - j) = B := by
    have := tBh_run (last := last) hte (t - j) (by omega) (fun i h3 h4 => hall i (by omega) h4)
    rw [show t - (t - j) = j by omega] at this
    rw [this, hB]
    by_cases h5 : t = e
    · rw [if_pos h5, h5, Nat.sub_self]; rfl
    · rw [if_neg h5, tBh_step (by omega), if_neg (hft (by omega))]
  rw [e1, e2]
theorem s_17 {f : Nat → Nat} {s e first last E : Nat} {μ : gMu} {P : gMu → gRes → Prop} (hse : s ≤ e) (he : e ≤ 50) (hf : gAs μ 16 s e f) (h3 : ∀ j, f j ≤ 3) (hE : ∀ k, s ≤ k → k < e → gI μ 13 k = nI E) (hE2 : E < 1000) (hf1 : first ≤ 1) (hl1 : last ≤ 1) (h : ∀ μ', gSm [16] μ μ' → gAs μ' 16 s e (tKd f s e first last (odN E)) → P μ' (.inl none)) : gCl' 17 [.ref 15, .int (nI s), .int (nI e), .int (nI first), .int (nI last)] μ P := by
  have loop : ∀ r i p μ', i + r = e → s ≤ i → i ≤ p → p ≤ e → gSm [16] μ μ' → gAs μ' 16 s p (tKd f s e first last (odN E)) → gAs μ' 16 p e f → (p = s ∨ p = e ∨ f p ≠ 3 ∨ (s < p ∧ f (p - 1) ≠ 3)) → gWp none 17 (3, [some (.ref 15), some (.int (nI s)), some (.int (nI e)), some (.int (nI first)), some (.int (nI last)), some (.int (nI i)), none, none, none, none, none], [], μ') 0 P := by
    intro r
    induction r with
    | zero =>
      intro i p μ' hr h1 h2 h4 hs hd hu hp
      have : i = e := by omega
      subst this
      refine vc_17_3 ?_
      simp (disch := first | omega | decide) only [Nat.le_refl, nE_l, nE_r, nE_n, nLe_l, nLe_r, nLe_n, nLt_l, nLt_r, nLt_n, nA_l, nA_r, nI_add, nS_l, nS_n, nIn, nI_clamp, gI_I, gI_J, gI_D, gJ_J, gJ_I, gJ_D, true_and, and_true, false_and, and_false, if_true, if_false, false_implies, true_implies, not_true_eq_false, not_false_eq_true, bI_0, bI_1, Nat.reduceEqDiff, eq_self, nMax, nMin]
      exact h μ' hs (hd.sub (Nat.le_refl s) (by omega))
    | succ r ih =>
      intro i p μ' hr h1 h2 h4 hs hd hu hp
      have hfi := h3 i
      by_cases hip : i < p
      · have hv := hd i h1 hip
        have hle := tKd_le (f := f) (s := s) (e := e) (last := last) (k := i) hf1 (odN_le E) hfi
        refine vc_17_3 ?_
        simp (disch := first | omega | decide) only [hv, show ¬ e ≤ i by omega, show i < 50 by omega, show ¬ tKd f s e first last (odN E) i = 3 by omega, nE_l, nE_r, nE_n, nLe_l, nLe_r, nLe_n, nLt_l, nLt_r, nLt_n, nA_l, nA_r, nI_add, nS_l, nS_n, nIn, nI_clamp, gI_I, gI_J, gI_D, gJ_J, gJ_I, gJ_D, true_and, and_true, false_and, and_false, if_true, if_false, false_implies, true_implies, not_true_eq_false, not_false_eq_true, bI_0, bI_1, Nat.reduceEqDiff, eq_self, nMax, nMin]
        exact ih (i + 1) p μ' (by omega) (by omega) (by omega) h4 hs hd hu hp
      · have hpi : p = i := by omega
        subst hpi
        have hv := hu p (Nat.le_refl p) (by omega)
        refine vc_17_3 ?_
        simp (disch := first | omega | decide) only [hv, show ¬ e ≤ p by omega, show p < 50 by omega, nE_l, nE_r, nE_n, nLe_l, nLe_r, nLe_n, nLt_l, nLt_r, nLt_n, nA_l, nA_r, nI_add, nS_l, nS_n, nIn, nI_clamp, gI_I, gI_J, gI_D, gJ_J, gJ_I, gJ_D, true_and, and_true, false_and, and_false, if_true, if_false, false_implies, true_implies, not_true_eq_false, not_false_eq_true, bI_0, bI_1, Nat.reduceEqDiff, eq_self, nMax, nMin]
        refine ⟨fun hn => ?_, fun hn => ?_⟩
        · refine ih (p + 1) (p + 1) μ' (by omega) (by omega) (Nat.le_refl _) (by omega) hs (fun j h5 h6 => ?_) (hu.sub (by omega) (Nat.le_refl e)) (Or.inr (Or.inr (Or.inr ⟨by omega, by rw [Nat.add_sub_cancel]; exact hn⟩)))
          by_cases hj : j = p
          · rw [hj, hv]
            unfold tKd
            rw [if_neg hn]
          · exact hd j h5 (by omega)
        · have hbk : p = s ∨ (s < p ∧ f (p - 1) ≠ 3) := by
            rcases hp with h5 | h5 | h5 | h5
            · exact Or.inl h5
            · omega
            · exact absurd hn h5
            · exact Or.inr h5
          refine s_15 (f := f) (by omega) he hu h3 hn (fun t ht hte hall hft => ⟨_, rfl, ?_⟩)
          -- the filling
          have fill : ∀ (A B v : Nat), (∀ j, p ≤ j → j < t → tKd f s e first last (odN E) j = v) → gWp none 17 (107, [some (.ref 15), some (.int (nI s)), some (.int (nI e)), some (.int (nI first)), some (.int (nI last)), some (.int (nI p)), some (.int (nI t)), some (.int (nI A)), some (.int (nI B)), some (.int (nI v)), some (.int (nI p))], [], μ') 0 P := by
            intro A B v hv9
            have inner : ∀ r2 j μ2, j + r2 = t → p ≤ j → gSm [16] μ μ2 → gAs μ2 16 s j (tKd f s e first last (odN E)) → gAs μ2 16 t e f → gWp none 17 (107, [some (.ref 15), some (.int (nI s)), some (.int (nI e)), some (.int (nI first)), some (.int (nI last)), some (.int (nI p)), some (.int (nI t)), some (.int (nI A)), some (.int (nI B)), some (.int (nI v)), some (.int (nI j))], [], μ2) 0 P := by
              intro r2
              induction r2 with
              | zero =>
                intro j μ2 hj hpj hs2 hd2 hu2
                have : j = t := by omega
                subst this
                refine vc_17_107 ?_
                simp (disch := first | omega | decide) only [Nat.le_refl, nE_l, nE_r, nE_n, nLe_l, nLe_r, nLe_n, nLt_l, nLt_r, nLt_n, nA_l, nA_r, nI_add, nS_l, nS_n, nIn, nI_clamp, gI_I, gI_J, gI_D, gJ_J, gJ_I, gJ_D, true_and, and_true, false_and, and_false, if_true, if_false, false_implies, true_implies, not_true_eq_false, not_false_eq_true, bI_0, bI_1, Nat.reduceEqDiff, eq_self, nMax, nMin]
                refine gWp_up (ih (p + 1) j μ2 (by omega) (by omega) (by omega) hte hs2 hd2 hu2 ?_) (by (repeat (first | exact gUp.nil | refine gUp.cs ?_ | refine gUp.cn ?_)))
                by_cases h5 : j = e
                · exact Or.inr (Or.inl h5)
                · exact Or.inr (Or.inr (Or.inl (hft (by omega))))
              | succ r2 ih2 =>
                intro j μ2 hj hpj hs2 hd2 hu2
                refine vc_17_107 ?_
                simp (disch := first | omega | decide) only [show ¬ t ≤ j by omega, show j < 50 by omega, nE_l, nE_r, nE_n, nLe_l, nLe_r, nLe_n, nLt_l, nLt_r, nLt_n, nA_l, nA_r, nI_add, nS_l, nS_n, nIn, nI_clamp, gI_I, gI_J, gI_D, gJ_J, gJ_I, gJ_D, true_and, and_true, false_and, and_false, if_true, if_false, false_implies, true_implies, not_true_eq_false, not_false_eq_true, bI_0, bI_1, Nat.reduceEqDiff, eq_self, nMax, nMin]
                exact ih2 (j + 1) _ (by omega) (by omega) (hs2.i _ _ _ (by decide)) (hd2.push (hv9 j hpj (by omega)).symm) (hu2.pop (by omega))
            exact inner (t - p) p μ' (by omega) (Nat.le_refl p) hs hd (hu.sub (by omega) (Nat.le_refl e))
          have hE3 : gI μ' 13 p = nI E := by rw [hs.I (by decide)]; exact hE p h1 (by omega)
          have hft9 := h3 t
          have run := fun (A B : Nat) hA hB => tKd_run (first := first) (last := last) (d := odN E) (A := A) (B := B) h1 ht hte hall hbk hft hA hB
          simp (disch := first | omega | decide) only [nE_l, nE_r, nE_n, nLe_l, nLe_r, nLe_n, nLt_l, nLt_r, nLt_n, nA_l, nA_r, nI_add, nS_l, nS_n, nIn, nI_clamp, gI_I, gI_J, gI_D, gJ_J, gJ_I, gJ_D, true_and, and_true, false_and, and_false, if_true, if_false, false_implies, true_implies, not_true_eq_false, not_false_eq_true, bI_0, bI_1, Nat.reduceEqDiff, eq_self, nMax, nMin]
          refine ⟨fun hps => ?_, fun hps => ?_⟩
          · have hp1 : s < p ∧ f (p - 1) ≠ 3 := by
              rcases hbk with h5 | h5
              · exact absurd h5 hps
              · exact h5
            have hpv : gI μ' 16 (p - 1) = nI (f (p - 1)) := by
              rw [hd (p - 1) (by omega) (by omega)]
              unfold tKd
              rw [if_neg hp1.2]
            have hfp := h3 (p - 1)
            have hsd := sdK_le (f (p - 1))
            simp (disch := first | omega | decide) only [hpv, show p - 1 < 50 by omega, nE_l, nE_r, nE_n, nLe_l, nLe_r, nLe_n, nLt_l, nLt_r, nLt_n, nA_l, nA_r, nI_add, nS_l, nS_n, nIn, nI_clamp, gI_I, gI_J, gI_D, gJ_J, gJ_I, gJ_D, true_and, and_true, false_and, and_false, if_true, if_false, false_implies, true_implies, not_true_eq_false, not_false_eq_true, bI_0, bI_1, Nat.reduceEqDiff, eq_self, nMax, nMin]
            refine s_16n (by omega) ⟨_, rfl, ?_⟩
            simp (disch := first | omega | decide) only [nE_l, nE_r, nE_n, nLe_l, nLe_r, nLe_n, nLt_l, nLt_r, nLt_n, nA_l, nA_r, nI_add, nS_l, nS_n, nIn, nI_clamp, gI_I, gI_J, gI_D, gJ_J, gJ_I, gJ_D, true_and, and_true, false_and, and_false, if_true, if_false, false_implies, true_implies, not_true_eq_false, not_false_eq_true, bI_0, bI_1, Nat.reduceEqDiff, eq_self, nMax, nMin]
            refine ⟨fun hte2 => ?_, fun hte2 => ?_⟩
            · have htv := hu t (by omega) (by omega)
              have hsd2 := sdK_le (f t)
              simp (disch := first | omega | decide) only [htv, show t < 50 by omega, nE_l, nE_r, nE_n, nLe_l, nLe_r, nLe_n, nLt_l, nLt_r, nLt_n, nA_l, nA_r, nI_add, nS_l, nS_n, nIn, nI_clamp, gI_I, gI_J, gI_D, gJ_J, gJ_I, gJ_D, true_and, and_true, false_and, and_false, if_true, if_false, false_implies, true_implies, not_true_eq_false, not_false_eq_true, bI_0, bI_1, Nat.reduceEqDiff, eq_self, nMax, nMin]
              refine s_16n (by omega) ⟨_, rfl, ?_⟩
              have r9 := run (sdK (f (p - 1))) (sdK (f t)) (by rw [if_neg hps]) (by rw [if_neg hte2])
              simp (disch := first | omega | decide) only [hE3, nE_l, nE_r, nE_n, nLe_l, nLe_r, nLe_n, nLt_l, nLt_r, nLt_n, nA_l, nA_r, nI_add, nS_l, nS_n, nIn, nI_clamp, gI_I, gI_J, gI_D, gJ_J, gJ_I, gJ_D, true_and, and_true, false_and, and_false, if_true, if_false, false_implies, true_implies, not_true_eq_false, not_false_eq_true, bI_0, bI_1, Nat.reduceEqDiff, eq_self, nMax, nMin]
              refine ⟨fun hab => s_14n (by omega) ⟨_, rfl, ?_⟩, fun hab => ?_⟩
              · rw [if_neg hab] at r9
                exact fill _ _ _ r9
              · rw [if_pos hab] at r9
                exact fill _ _ _ r9
            · have r9 := run (sdK (f (p - 1))) last (by rw [if_neg hps]) (by rw [if_pos hte2])
              simp (disch := first | omega | decide) only [hE3, nE_l, nE_r, nE_n, nLe_l, nLe_r, nLe_n, nLt_l, nLt_r, nLt_n, nA_l, nA_r, nI_add, nS_l, nS_n, nIn, nI_clamp, gI_I, gI_J, gI_D, gJ_J, gJ_I, gJ_D, true_and, and_true, false_and, and_false, if_true, if_false, false_implies, true_implies, not_true_eq_false, not_false_eq_true, bI_0, bI_1, Nat.reduceEqDiff, eq_self, nMax, nMin]
              refine ⟨fun hab => s_14n (by omega) ⟨_, rfl, ?_⟩, fun hab => ?_⟩
              · rw [if_neg hab] at r9
                exact fill _ _ _ r9
              · rw [if_pos hab] at r9
                exact fill _ _ _ r9
          · refine ⟨fun hte2 => ?_, fun hte2 => ?_⟩
            · have htv := hu t (by omega) (by omega)
              have hsd2 := sdK_le (f t)
              simp (disch := first | omega | decide) only [htv, show t < 50 by omega, nE_l, nE_r, nE_n, nLe_l, nLe_r, nLe_n, nLt_l, nLt_r, nLt_n, nA_l, nA_r, nI_add, nS_l, nS_n, nIn, nI_clamp, gI_I, gI_J, gI_D, gJ_J, gJ_I, gJ_D, true_and, and_true, false_and, and_false, if_true, if_false, false_implies, true_implies, not_true_eq_false, not_false_eq_true, bI_0, bI_1, Nat.reduceEqDiff, eq_self, nMax, nMin]
              refine s_16n (by omega) ⟨_, rfl, ?_⟩
              have r9 := run first (sdK (f t)) (by rw [if_pos hps]) (by rw [if_neg hte2])
              simp (disch := first | omega | decide) only [hE3, nE_l, nE_r, nE_n, nLe_l, nLe_r, nLe_n, nLt_l, nLt_r, nLt_n, nA_l, nA_r, nI_add, nS_l, nS_n, nIn, nI_clamp, gI_I, gI_J, gI_D, gJ_J, gJ_I, gJ_D, true_and, and_true, false_and, and_false, if_true, if_false, false_implies, true_implies, not_true_eq_false, not_false_eq_true, bI_0, bI_1, Nat.reduceEqDiff, eq_self, nMax, nMin]
              refine ⟨fun hab => s_14n (by omega) ⟨_, rfl, ?_⟩, fun hab => ?_⟩
              · rw [if_neg hab] at r9
                exact fill _ _ _ r9
              · rw [if_pos hab] at r9
                exact fill _ _ _ r9
            · have r9 := run first last (by rw [if_pos hps]) (by rw [if_pos hte2])
              simp (disch := first | omega | decide) only [hE3, nE_l, nE_r, nE_n, nLe_l, nLe_r, nLe_n, nLt_l, nLt_r, nLt_n, nA_l, nA_r, nI_add, nS_l, nS_n, nIn, nI_clamp, gI_I, gI_J, gI_D, gJ_J, gJ_I, gJ_D, true_and, and_true, false_and, and_false, if_true, if_false, false_implies, true_implies, not_true_eq_false, not_false_eq_true, bI_0, bI_1, Nat.reduceEqDiff, eq_self, nMax, nMin]
              refine ⟨fun hab => s_14n (by omega) ⟨_, rfl, ?_⟩, fun hab => ?_⟩
              · rw [if_neg hab] at r9
                exact fill _ _ _ r9
              · rw [if_pos hab] at r9
                exact fill _ _ _ r9
  exact vc_17 (loop (e - s) s s μ (by omega) (Nat.le_refl s) (Nat.le_refl s) hse (gSm.rf _ _) (fun k h1 h2 => by omega) hf (Or.inl rfl))
theorem s_18 {f : Nat → Nat} {s e E : Nat} {L : Nat → Nat} {p : Nat} {μ : gMu} {P : gMu → gRes → Prop} (hse : s ≤ e) (he : e ≤ 50) (hf : gAs μ 16 s e f) (h3 : ∀ j, s ≤ j → j < e → f j ≤ 3) (hE : ∀ k, s ≤ k → k < e → gI μ 13 k = nI E) (hE2 : E < 1000) (hL : gAs μ 17 p s L) (hps : p ≤ s) (hLf : ∀ k, s ≤ k → k < e → L k = tLvK E (f k)) (h : ∀ μ', gSm [17] μ μ' → gAs μ' 17 p e L → P μ' (.inl none)) : gCl' 18 [.ref 15, .int (nI s), .int (nI e)] μ P := by
  have loop : ∀ r k μ', k + r = e → s ≤ k → gSm [17] μ μ' → gAs μ' 17 p k L → gWp none 18 (2, [some (.ref 15), some (.int (nI s)), some (.int (nI e)), some (.int (nI k)), none], [], μ') 0 P := by
    intro r
    induction r with
    | zero =>
      intro k μ' hr hk hs hc
      have : k = e := by omega
      subst this
      refine vc_18_2 ?_
      simp (disch := first | omega | decide) only [Nat.le_refl, nE_l, nE_r, nE_n, nLe_l, nLe_r, nLe_n, nLt_l, nLt_r, nLt_n, nA_l, nA_r, nI_add, nS_l, nS_n, nIn, nI_clamp, gI_I, gI_J, gI_D, gJ_J, gJ_I, gJ_D, true_and, and_true, false_and, and_false, if_true, if_false, false_implies, true_implies, not_true_eq_false, not_false_eq_true, bI_0, bI_1, Nat.reduceEqDiff, eq_self, nMax, nMin]
      exact h μ' hs hc
    | succ r ih =>
      intro k μ' hr hk hs hc
      have h4 : gI μ' 13 k = nI E := by rw [hs.I (by decide)]; exact hE k hk (by omega)
      have h5 : gI μ' 16 k = nI (f k) := by rw [hs.I (by decide)]; exact hf k hk (by omega)
      have h6 := h3 k hk (by omega)
      have h7 := hLf k hk (by omega)
      unfold tLvK at h7
      have go : ∀ v, v = L k → gWp none 18 (2, [some (.ref 15), some (.int (nI s)), some (.int (nI e)), some (.int (nI (k + 1))), none], [], gsI μ' 17 k (nI v)) 0 P := fun v hv => ih (k + 1) _ (by omega) (by omega) (hs.i _ _ _ (by decide)) (hc.push hv)
      refine vc_18_2 ?_
      simp (disch := first | omega | decide) only [h4, show ¬ e ≤ k by omega, show k < 50 by omega, nE_l, nE_r, nE_n, nLe_l, nLe_r, nLe_n, nLt_l, nLt_r, nLt_n, nA_l, nA_r, nI_add, nS_l, nS_n, nIn, nI_clamp, gI_I, gI_J, gI_D, gJ_J, gJ_I, gJ_D, true_and, and_true, false_and, and_false, if_true, if_false, false_implies, true_implies, not_true_eq_false, not_false_eq_true, bI_0, bI_1, Nat.reduceEqDiff, eq_self, nMax, nMin]
      refine s_13 (by omega) ⟨_, rfl, ?_⟩
      simp (disch := first | omega | decide) only [h5, Bool.not_eq_false, nE_l, nE_r, nE_n, nLe_l, nLe_r, nLe_n, nLt_l, nLt_r, nLt_n, nA_l, nA_r, nI_add, nS_l, nS_n, nIn, nI_clamp, gI_I, gI_J, gI_D, gJ_J, gJ_I, gJ_D, true_and, and_true, false_and, and_false, if_true, if_false, false_implies, true_implies, not_true_eq_false, not_false_eq_true, bI_0, bI_1, Nat.reduceEqDiff, eq_self, nMax, nMin]
      refine ⟨fun ho => ⟨fun h8 => ⟨fun h9 => ?_, fun h9 => ?_⟩, fun h8 => ?_⟩, fun ho => ⟨fun h8 => ?_, fun h8 => ?_⟩⟩
      · rw [if_neg (by rw [ho]; decide), if_neg h8, if_neg h9] at h7
        exact gWp_up (go _ h7.symm) (by (repeat (first | exact gUp.nil | refine gUp.cs ?_ | refine gUp.cn ?_)))
      · rw [if_neg (by rw [ho]; decide), if_neg h8, if_pos h9] at h7
        exact gWp_up (go _ h7.symm) (by (repeat (first | exact gUp.nil | refine gUp.cs ?_ | refine gUp.cn ?_)))
      · rw [if_neg (by rw [ho]; decide), if_pos h8] at h7
        exact gWp_up (go _ h7.symm) (by (repeat (first | exact gUp.nil | refine gUp.cs ?_ | refine gUp.cn ?_)))
      · rw [if_pos ho, if_neg h8] at h7
        exact gWp_up (go _ h7.symm) (by (repeat (first | exact gUp.nil | refine gUp.cs ?_ | refine gUp.cn ?_)))
      · rw [if_pos ho, if_pos h8] at h7
        exact gWp_up (go _ h7.symm) (by (repeat (first | exact gUp.nil | refine gUp.cs ?_ | refine gUp.cn ?_)))
  exact vc_18 (loop (e - s) s μ (by omega) (Nat.le_refl s) (gSm.rf _ _) hL)
