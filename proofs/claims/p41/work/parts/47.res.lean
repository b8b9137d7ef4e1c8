/-! the class's stretches, and all levels -/
def tSs (em : Nat → Nat) : Nat → Nat
  | 0 => 0
  | k + 1 => if em (k + 1) = em k then tSs em k else k + 1
def tSeF (em : Nat → Nat) (M : Nat) : Nat → Nat → Nat
  | 0, k => k
  | r + 1, k => if k + 1 < M ∧ em (k + 1) = em k then tSeF em M r (k + 1) else k + 1
def tLvS (em sg : Nat → Nat) (M b s e k : Nat) : Nat :=
  tLvK (em s) (tKd (tK0 sg s (odN (mxN (em s) (if s = 0 then b else em (s - 1))))) s e (odN (mxN (em s) (if s = 0 then b else em (s - 1)))) (odN (mxN (em s) (if e = M then b else em e))) (odN (em s)) k)
/-- the level of the k-th character that is no mark -/
def tLev (em sg : Nat → Nat) (M b k : Nat) : Nat := tLvS em sg M b (tSs em k) (tSeF em M (M - k) k) k
/-- [s, e) is a stretch -/
def tStr (em : Nat → Nat) (M s e : Nat) : Prop := s < e ∧ e ≤ M ∧ (∀ j, s ≤ j → j < e → em j = em s) ∧ (e < M → em e ≠ em s) ∧ (0 < s → em s ≠ em (s - 1))
theorem tSs_str {em : Nat → Nat} {M s e : Nat} (h : tStr em M s e) : ∀ d, s + d < e → tSs em (s + d) = s
  | 0, _ => by
    obtain ⟨-, -, -, -, h5⟩ := h
    cases s with
    | zero => rfl
    | succ s =>
      show (if em (s + 1) = em s then tSs em s else s + 1) = s + 1
      exact if_neg (h5 (by omega))
  | d + 1, hd => by
    have ih := tSs_str h d (by omega)
    show (if em (s + d + 1) = em (s + d) then tSs em (s + d) else s + d + 1) = s
    rw [if_pos (by rw [show s + d + 1 = s + (d + 1) by omega, h.2.2.1 (s + (d + 1)) (by omega) hd, h.2.2.1 (s + d) (by omega) (by omega)]), ih]
theorem tSe_str {em : Nat → Nat} {M s e : Nat} (h : tStr em M s e) : ∀ r k, s ≤ k → k < e → e ≤ k + r → tSeF em M r k = e
  | 0, k, h1, h2, h3 => by omega
  | r + 1, k, h1, h2, h3 => by
    unfold tSeF
    by_cases hke : k + 1 = e
    · rw [if_neg]
      · exact hke
      · rintro ⟨h4, h5⟩
        have h6 := h.2.2.2.1 (by omega)
        rw [← hke, h5, h.2.2.1 k h1 h2] at h6
        exact h6 rfl
    · rw [if_pos ⟨by have := h.2.1; omega, by rw [h.2.2.1 (k + 1) (by omega) (by omega), h.2.2.1 k h1 h2]⟩]
      exact tSe_str h r (k + 1) (by omega) (by omega) (by omega)
theorem tLev_str {em sg : Nat → Nat} {M b s e k : Nat} (h : tStr em M s e) (h1 : s ≤ k) (h2 : k < e) : tLev em sg M b k = tLvS em sg M b s e k := by
  unfold tLev
  have e1 := tSs_str h (k - s) (by omega)
  rw [show s + (k - s) = k by omega] at e1
  rw [e1, tSe_str h (M - k) k h1 h2 (by have := h.2.1; omega)]
theorem s_24 {em : Nat → Nat} {M s : Nat} {μ : gMu} {P : gMu → gRes → Prop} (hM : M ≤ 50) (h9 : gI μ 9 5 = nI M) (hem : gAr μ 13 M em) (hb : ∀ k, k < M → em k < 1000) (hs : s < M) (hs0 : 0 < s → em s ≠ em (s - 1)) (h : ∀ e, tStr em M s e → P μ (.inl (some (.int (nI e))))) : gCl' 24 [.ref 15, .int (nI s)] μ P := by
  have loop : ∀ r t, t + r = M → s < t → (∀ j, s ≤ j → j < t → em j = em s) → gWp none 24 (4, [some (.ref 15), some (.int (nI s)), some (.int (nI t))], [], μ) 0 P := by
    intro r
    induction r with
    | zero =>
      intro t hr ht hall
      have : t = M := by omega
      subst this
      refine vc_24_4 ?_
      rw [h9]
      simp (disch := first | omega | decide) only [Nat.le_refl, nE_l, nE_r, nE_n, nLe_l, nLe_r, nLe_n, nLt_l, nLt_r, nLt_n, nA_l, nA_r, nI_add, nS_l, nS_n, nIn, nI_clamp, gI_I, gI_J, gI_D, gJ_J, gJ_I, gJ_D, true_and, and_true, false_and, and_false, if_true, if_false, false_implies, true_implies, not_true_eq_false, not_false_eq_true, bI_0, bI_1, Nat.reduceEqDiff, eq_self, nMax, nMin]
      exact h t ⟨ht, Nat.le_refl t, hall, fun x => absurd x (Nat.lt_irrefl t), hs0⟩
    | succ r ih =>
      intro t hr ht hall
      have h1 := hem t (by omega)
      have h2 := hem s hs
      have h3 := hb t (by omega)
      have h4 := hb s hs
      refine vc_24_4 ?_
      simp (disch := first | omega | decide) only [h9, h1, h2, show ¬ M ≤ t by omega, show t < 50 by omega, show s < 50 by omega, nE_l, nE_r, nE_n, nLe_l, nLe_r, nLe_n, nLt_l, nLt_r, nLt_n, nA_l, nA_r, nI_add, nS_l, nS_n, nIn, nI_clamp, gI_I, gI_J, gI_D, gJ_J, gJ_I, gJ_D, true_and, and_true, false_and, and_false, if_true, if_false, false_implies, true_implies, not_true_eq_false, not_false_eq_true, bI_0, bI_1, Nat.reduceEqDiff, eq_self, nMax, nMin]
      refine ⟨fun hn => h t ⟨ht, by omega, hall, fun _ => hn, hs0⟩, fun hn => ih (t + 1) (by omega) (by omega) (fun j h5 h6 => ?_)⟩
      by_cases hj : j = t
      · rw [hj]; exact hn
      · exact hall j h5 (by omega)
  refine vc_24 ?_
  simp (disch := first | omega | decide) only [nE_l, nE_r, nE_n, nLe_l, nLe_r, nLe_n, nLt_l, nLt_r, nLt_n, nA_l, nA_r, nI_add, nS_l, nS_n, nIn, nI_clamp, gI_I, gI_J, gI_D, gJ_J, gJ_I, gJ_D, true_and, and_true, false_and, and_false, if_true, if_false, false_implies, true_implies, not_true_eq_false, not_false_eq_true, bI_0, bI_1, Nat.reduceEqDiff, eq_self, nMax, nMin]
  exact loop (M - (s + 1)) (s + 1) (by omega) (by omega) (fun j h1 h2 => by
    have : j = s := by omega
    rw [this])
theorem mxN_le {a b c : Nat} (ha : a ≤ c) (hb : b ≤ c) : mxN a b ≤ c := by unfold mxN; split <;> assumption
theorem s_25 {em sg : Nat → Nat} {M b : Nat} {μ : gMu} {P : gMu → gRes → Prop} (hM : M ≤ 50) (h9 : gI μ 9 5 = nI M) (hem : gAr μ 13 M em) (hsg : gAr μ 12 M sg) (hb : ∀ k, k < M → em k < 100) (hb2 : ∀ k, k < M → sg k < 128) (hbb : b ≤ 1) (h : ∀ μ', gSm [16, 17] μ μ' → gAs μ' 17 0 M (tLev em sg M b) → P μ' (.inl none)) : gCl' 25 [.ref 15, .int (nI b)] μ P := by
  have loop : ∀ r i p μ', i + r = M → i ≤ p → p ≤ M → gSm [16, 17] μ μ' → gAs μ' 17 0 p (tLev em sg M b) → (p = 0 ∨ p = M ∨ em p ≠ em (p - 1)) → (∀ j, i ≤ j → j < p → 0 < j ∧ em j = em (j - 1)) → gWp none 25 (10, [some (.ref 15), some (.int (nI b)), some (.ref 13), some (.int (nI i)), none, none, none, none, none], [], μ') 0 P := by
    intro r
    induction r with
    | zero =>
      intro i p μ' hr hip hpM hs hl hp hall
      have : i = M := by omega
      subst this
      refine vc_25_10 ?_
      rw [hs.I (by decide), h9]
      simp (disch := first | omega | decide) only [Nat.le_refl, nE_l, nE_r, nE_n, nLe_l, nLe_r, nLe_n, nLt_l, nLt_r, nLt_n, nA_l, nA_r, nI_add, nS_l, nS_n, nIn, nI_clamp, gI_I, gI_J, gI_D, gJ_J, gJ_I, gJ_D, true_and, and_true, false_and, and_false, if_true, if_false, false_implies, true_implies, not_true_eq_false, not_false_eq_true, bI_0, bI_1, Nat.reduceEqDiff, eq_self, nMax, nMin]
      exact h μ' hs (fun k h1 h2 => hl k h1 (by omega))
    | succ r ih =>
      intro i p μ' hr hip hpM hs hl hp hall
      have hiM : i < M := by omega
      have hbi := hb i hiM
      have h9' : gI μ' 9 5 = nI M := by rw [hs.I (by decide), h9]
      have hem' : gAr μ' 13 M em := hem.sm hs (by decide)
      have hsg' : gAr μ' 12 M sg := hsg.sm hs (by decide)
      have hi := hem' i hiM
      by_cases hlt : i < p
      · obtain ⟨h0, he⟩ := hall i (Nat.le_refl i) hlt
        have hi1 := hem' (i - 1) (by omega)
        have hbi1 := hb (i - 1) (by omega)
        refine vc_25_10 ?_
        simp (disch := first | omega | decide) only [h9', hi, hi1, show ¬ M ≤ i by omega, show ¬ i = 0 by omega, show i < 50 by omega, show i - 1 < 50 by omega, he, nE_l, nE_r, nE_n, nLe_l, nLe_r, nLe_n, nLt_l, nLt_r, nLt_n, nA_l, nA_r, nI_add, nS_l, nS_n, nIn, nI_clamp, gI_I, gI_J, gI_D, gJ_J, gJ_I, gJ_D, true_and, and_true, false_and, and_false, if_true, if_false, false_implies, true_implies, not_true_eq_false, not_false_eq_true, bI_0, bI_1, Nat.reduceEqDiff, eq_self, nMax, nMin]
        exact ih (i + 1) p μ' (by omega) (by omega) hpM hs hl hp (fun j h1 h2 => hall j (by omega) h2)
      · have hpi : p = i := by omega
        subst hpi
        have hs0 : 0 < p → em p ≠ em (p - 1) := by
          intro h0
          rcases hp with h1 | h1 | h1
          · omega
          · omega
          · exact h1
        have chain : ∀ (e A B : Nat), tStr em M p e → A = (if p = 0 then b else em (p - 1)) → B = (if e = M then b else em e) → A < 100 → B < 100 → gCl' 14 [.int (nI (mxN (em p) A))] μ' (fun μ3 r => (∃ v4, r = .inl (some (.int v4)) ∧ (gCl' 23 [.ref 15, .int (nI p), .int (nI e), .int v4] μ3 (fun μ5 r => (r = .inl none ∧ (gCl' 14 [.int (nI (mxN (em p) B))] μ5 (fun μ6 r => (∃ v7, r = .inl (some (.int v7)) ∧ (gCl' 17 [.ref 15, .int (nI p), .int (nI e), .int v4, .int v7] μ6 (fun μ8 r => (r = .inl none ∧ (gCl' 18 [.ref 15, .int (nI p), .int (nI e)] μ8 (fun μ9 r => (r = .inl none ∧ (gWp none 25 (10, [some (.ref 15), some (.int (nI b)), some (.ref 13), some (.int (nI (p + 1))), some (.int (nI e)), some (.int (nI A)), some (.int (nI B)), some (.int (nI (em p))), some (.int v4)], [], μ9) 0 P))))))))))))))) := by
          intro e A B hst hA hB hA1 hB1
          obtain ⟨q1, q2, q3, q4, q5⟩ := id hst
          have m1 := mxN_le (a := em p) (b := A) (c := 100) (by omega) (by omega)
          have m2 := mxN_le (a := em p) (b := B) (c := 100) (by omega) (by omega)
          refine s_14n (by omega) ⟨_, rfl, ?_⟩
          refine s_23 hM hsg' hb2 (by omega) q2 (odN_le _) (fun μ5 hs5 hk5 => ⟨rfl, ?_⟩)
          refine s_14n (by omega) ⟨_, rfl, ?_⟩
          refine s_17 (E := em p) (by omega) (by omega) hk5 (tK0_le _ _ _) (fun k h1 h2 => by rw [hs5.I (by decide), hem' k (by omega), q3 k h1 h2]) (by omega) (odN_le _) (odN_le _) (fun μ8 hs8 hk8 => ⟨rfl, ?_⟩)
          have hs58 : gSm [16] μ' μ8 := hs5.tr hs8
          refine s_18 (L := tLev em sg M b) (p := 0) (E := em p) (by omega) (by omega) hk8 (fun j h1 h2 => Nat.le_succ_of_le (tKd_le (odN_le _) (odN_le _) (tK0_le _ _ _ _))) (fun k h1 h2 => by rw [hs58.I (by decide), hem' k (by omega), q3 k h1 h2]) (by omega) (hl.sm hs58 (by decide)) (Nat.zero_le _) (fun k h1 h2 => by rw [tLev_str hst h1 h2]; unfold tLvS; rw [← hA, ← hB]) (fun μ9 hs9 hk9 => ⟨rfl, ?_⟩)
          refine gWp_up (ih (p + 1) e μ9 (by omega) (by omega) q2 (hs.tr ((hs58.up (by decide)).tr (hs9.up (by decide)))) hk9 ?_ (fun j h1 h2 => ⟨by omega, by rw [q3 j (by omega) h2, q3 (j - 1) (by omega) (by omega)]⟩)) (by (repeat (first | exact gUp.nil | refine gUp.cs ?_ | refine gUp.cn ?_)))
          by_cases h1 : e = M
          · exact Or.inr (Or.inl h1)
          · exact Or.inr (Or.inr (by rw [q3 (e - 1) (by omega) (by omega)]; exact q4 (by omega)))
        refine vc_25_10 ?_
        by_cases hp0 : p = 0
        · subst hp0
          simp (disch := first | omega | decide) only [h9', hi, show ¬ M ≤ 0 by omega, nE_l, nE_r, nE_n, nLe_l, nLe_r, nLe_n, nLt_l, nLt_r, nLt_n, nA_l, nA_r, nI_add, nS_l, nS_n, nIn, nI_clamp, gI_I, gI_J, gI_D, gJ_J, gJ_I, gJ_D, true_and, and_true, false_and, and_false, if_true, if_false, false_implies, true_implies, not_true_eq_false, not_false_eq_true, bI_0, bI_1, Nat.reduceEqDiff, eq_self, nMax, nMin]
          refine s_24 hM h9' hem' (fun k hk => by have := hb k hk; omega) hiM hs0 (fun e hst => ⟨_, rfl, ?_⟩)
          obtain ⟨q1, q2, q3, q4, q5⟩ := id hst
          simp (disch := first | omega | decide) only [h9', hi, nE_l, nE_r, nE_n, nLe_l, nLe_r, nLe_n, nLt_l, nLt_r, nLt_n, nA_l, nA_r, nI_add, nS_l, nS_n, nIn, nI_clamp, gI_I, gI_J, gI_D, gJ_J, gJ_I, gJ_D, true_and, and_true, false_and, and_false, if_true, if_false, false_implies, true_implies, not_true_eq_false, not_false_eq_true, bI_0, bI_1, Nat.reduceEqDiff, eq_self, nMax, nMin]
          refine ⟨fun heM => ?_, fun heM => ?_⟩
          · have he' := hem' e (by omega)
            have hbe := hb e (by omega)
            simp (disch := first | omega | decide) only [he', show e < 50 by omega, nE_l, nE_r, nE_n, nLe_l, nLe_r, nLe_n, nLt_l, nLt_r, nLt_n, nA_l, nA_r, nI_add, nS_l, nS_n, nIn, nI_clamp, gI_I, gI_J, gI_D, gJ_J, gJ_I, gJ_D, true_and, and_true, false_and, and_false, if_true, if_false, false_implies, true_implies, not_true_eq_false, not_false_eq_true, bI_0, bI_1, Nat.reduceEqDiff, eq_self, nMax, nMin]
            exact chain e b (em e) hst rfl (by rw [if_neg heM]) (by omega) hbe
          · exact chain e b b hst rfl (by rw [if_pos heM]) (by omega) (by omega)
        · have hi1 := hem' (p - 1) (by omega)
          have hbi1 := hb (p - 1) (by omega)
          simp (disch := first | omega | decide) only [h9', hi, hi1, show ¬ M ≤ p by omega, hp0, show p < 50 by omega, show p - 1 < 50 by omega, hs0 (by omega), nE_l, nE_r, nE_n, nLe_l, nLe_r, nLe_n, nLt_l, nLt_r, nLt_n, nA_l, nA_r, nI_add, nS_l, nS_n, nIn, nI_clamp, gI_I, gI_J, gI_D, gJ_J, gJ_I, gJ_D, true_and, and_true, false_and, and_false, if_true, if_false, false_implies, true_implies, not_true_eq_false, not_false_eq_true, bI_0, bI_1, Nat.reduceEqDiff, eq_self, nMax, nMin]
          refine s_24 hM h9' hem' (fun k hk => by have := hb k hk; omega) hiM hs0 (fun e hst => ⟨_, rfl, ?_⟩)
          obtain ⟨q1, q2, q3, q4, q5⟩ := id hst
          simp (disch := first | omega | decide) only [h9', hi, hi1, nE_l, nE_r, nE_n, nLe_l, nLe_r, nLe_n, nLt_l, nLt_r, nLt_n, nA_l, nA_r, nI_add, nS_l, nS_n, nIn, nI_clamp, gI_I, gI_J, gI_D, gJ_J, gJ_I, gJ_D, true_and, and_true, false_and, and_false, if_true, if_false, false_implies, true_implies, not_true_eq_false, not_false_eq_true, bI_0, bI_1, Nat.reduceEqDiff, eq_self, nMax, nMin]
          refine ⟨fun heM => ?_, fun heM => ?_⟩
          · have he' := hem' e (by omega)
            have hbe := hb e (by omega)
            simp (disch := first | omega | decide) only [he', show e < 50 by omega, nE_l, nE_r, nE_n, nLe_l, nLe_r, nLe_n, nLt_l, nLt_r, nLt_n, nA_l, nA_r, nI_add, nS_l, nS_n, nIn, nI_clamp, gI_I, gI_J, gI_D, gJ_J, gJ_I, gJ_D, true_and, and_true, false_and, and_false, if_true, if_false, false_implies, true_implies, not_true_eq_false, not_false_eq_true, bI_0, bI_1, Nat.reduceEqDiff, eq_self, nMax, nMin]
            exact chain e (em (p - 1)) (em e) hst (by rw [if_neg hp0]) (by rw [if_neg heM]) hbi1 hbe
          · exact chain e (em (p - 1)) b hst (by rw [if_neg hp0]) (by rw [if_pos heM]) hbi1 (by omega)
  exact vc_25 (loop M 0 0 μ (by omega) (Nat.le_refl 0) (Nat.zero_le M) (gSm.rf _ _) (fun k h1 h2 => by omega) (Or.inl rfl) (fun j h1 h2 => by omega))
