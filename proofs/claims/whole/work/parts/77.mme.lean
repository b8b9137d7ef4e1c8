/-! THE MODEL: its refusals and its changes -/
section
def mAll : List Nat := [1, 44, 45, 46, 47, 48, 49, 50, 51, 52, 53, 54, 55, 56, 57, 58, 59, 60, 61, 62, 63]
theorem mF.all {A F : List Nat} {μ μ' : gMu} (h : mF A F μ μ') (hA : ∀ a ∈ A, a ∈ mAll) : gSm mAll μ μ' := h.1.up (fun a ha => by
  rcases List.mem_cons.mp ha with e | e
  · rw [e]; decide
  · exact hA a e)
theorem mTx.f9 {T : gS} {μ : gMu} (h : mTx T μ) (v : Int32) : mTx T (gsI μ 1 9 v) := h.m ((mF.rf [] [9] μ).f 9 v (by decide)) (by decide) (by decide)
theorem gSm.m {μ μ' : gMu} {q j : Nat} {v : Int32} (h : gSm mAll μ μ') (hq : q ∈ mAll) : gSm mAll μ (gsI μ' q j v) := h.i q j v hq
theorem s_153c {x : Int32} {lo hi : Nat} {μ : gMu} {P : gMu → gRes → Prop} (hl : lo < 2 ^ 31) (hh : hi + 1 < 2 ^ 31) (h1 : (∀ j, inx x (hi + 1) = some j → j < lo) → P μ (.inl (some (.int 0)))) (h2 : ∀ j, lo ≤ j → j ≤ hi → x = nI j → inx x (hi + 1) = some j → P μ (.inl (some (.int 1)))) : gCl' 153 [.int x, .int (nI lo), .int (nI hi)] μ P := by
  by_cases h0 : x < 0
  · exact s_153m h0 hl (h1 (fun j hj => by unfold inx at hj; rw [if_pos h0] at hj; cases hj))
  · obtain ⟨j, hj, rfl⟩ := nI_of h0
    refine s_153 hj hl (by omega) ?_
    by_cases c : lo ≤ j ∧ j ≤ hi
    · rw [decide_eq_true c]
      exact h2 j c.1 c.2 rfl (by rw [inx_nI hj, if_neg (by omega)])
    · rw [decide_eq_false c]
      refine h1 (fun k hk => ?_)
      rw [inx_nI hj] at hk
      by_cases z : hi + 1 ≤ j
      · rw [if_pos z] at hk; cases hk
      · rw [if_neg z] at hk
        cases hk
        omega
theorem s_153i {x y : Int32} {n : Nat} {μ : gMu} {P : gMu → gRes → Prop} (hn : n < 2 ^ 31) (hy : y = nI n - 1) (h1 : inx x n = none → P μ (.inl (some (.int 0)))) (h2 : ∀ j, j < n → x = nI j → inx x n = some j → P μ (.inl (some (.int 1)))) : gCl' 153 [.int x, .int 0, .int y] μ P := by
  subst hy
  rcases inx_cases x hn with ⟨e, q | ⟨q, q2⟩⟩ | ⟨j, hj, rfl, e⟩
  · exact s_153m (lo := 0) q (by decide) (h1 e)
  · obtain ⟨j, hj, rfl⟩ := nI_of q
    rw [nLt_n hj hn] at q2
    refine vc_153 ⟨fun _ => h1 e, fun _ => ⟨fun _ => h1 e, fun z => ?_⟩⟩
    exfalso
    apply z
    by_cases c : n = 0
    · subst c
      exact lt_n (by decide) hj
    · rw [nS_1 (show 1 ≤ n by omega), nLt_n (by omega) hj]
      omega
  · rw [nS_1 (show 1 ≤ n by omega)]
    refine s_153 (lo := 0) (by omega) (by decide) (by omega) ?_
    rw [decide_eq_true (by omega)]
    exact h2 j hj rfl e
theorem s_155x {x : Int32} {μ : gMu} {P : gMu → gRes → Prop} (h0 : (∀ j, j < 2 ^ 31 → x = nI j → isLt j = false) → P μ (.inl (some (.int 0)))) (h1 : ∀ j, x = nI j → isLt j = true → P μ (.inl (some (.int 1)))) : gCl' 155 [.int x] μ P := by
  by_cases hx : x < 0
  · refine s_155m hx (h0 (fun j hj e => ?_))
    subst e
    have : (0 : Int32) < 0 ∨ True := Or.inr trivial
    exact absurd (show nI j < 0 from hx) (by
      rw [show (nI j < 0) = (j < 0) from nLt_l (n := 0) hj (by decide)]
      exact Nat.not_lt_zero j)
  · obtain ⟨j, hj, rfl⟩ := nI_of hx
    refine s_155 hj ?_
    cases c : isLt j with
    | true => exact h1 j rfl c
    | false =>
      refine h0 (fun k hk e => ?_)
      rw [nE_n hj hk] at e
      rw [← e]
      exact c
theorem s_161 {x : Int32} {μ : gMu} {P : gMu → gRes → Prop} (h : P (gsI μ 1 9 x) (.inl (some (.int 0)))) : gCl' 161 [.ref 1, .int x] μ P := vc_161 h
theorem s_152 {c : Nat} {μ : gMu} {P : gMu → gRes → Prop} (h9 : gI μ 1 9 = nI c) (h : P μ (.inl (some (.int (nI c))))) : gCl' 152 [.ref 1] μ P := vc_152 (by rw [h9]; exact h)
theorem mTx.put {T : gS} {a : Nat} {μ : gMu} (h : mTx T μ) (v : Int32) : mTx (putT T a) (gsI (gsI (gsI μ 1 9 v) 44 T.n (nI a)) 1 1 (nI (T.n + 1))) := by
  obtain ⟨h1, h2, h3, h4, h5, h6, h7, h8, h9⟩ := h
  exact ⟨by simp (disch := first | omega | decide) only [nE_l, nE_r, nE_n, nLe_l, nLe_r, nLe_n, nLt_l, nLt_r, nLt_n, nA_l, nA_r, nI_add, nS_l, nS_n, nIn, nI_clamp, gI_I, gI_J, gI_D, gJ_J, gJ_I, gJ_D, true_and, and_true, false_and, and_false, if_true, if_false, false_implies, true_implies, not_true_eq_false, not_false_eq_true, bI_0, bI_1, Nat.reduceEqDiff, eq_self, nMax, nMin]; rfl, ((h2.skip (by decide)).push).skip (by decide), by simp (disch := first | omega | decide) only [h3, nE_l, nE_r, nE_n, nLe_l, nLe_r, nLe_n, nLt_l, nLt_r, nLt_n, nA_l, nA_r, nI_add, nS_l, nS_n, nIn, nI_clamp, gI_I, gI_J, gI_D, gJ_J, gJ_I, gJ_D, true_and, and_true, false_and, and_false, if_true, if_false, false_implies, true_implies, not_true_eq_false, not_false_eq_true, bI_0, bI_1, Nat.reduceEqDiff, eq_self, nMax, nMin]; rfl, by simp (disch := first | omega | decide) only [h4, nE_l, nE_r, nE_n, nLe_l, nLe_r, nLe_n, nLt_l, nLt_r, nLt_n, nA_l, nA_r, nI_add, nS_l, nS_n, nIn, nI_clamp, gI_I, gI_J, gI_D, gJ_J, gJ_I, gJ_D, true_and, and_true, false_and, and_false, if_true, if_false, false_implies, true_implies, not_true_eq_false, not_false_eq_true, bI_0, bI_1, Nat.reduceEqDiff, eq_self, nMax, nMin]; rfl, by simp (disch := first | omega | decide) only [h5, nE_l, nE_r, nE_n, nLe_l, nLe_r, nLe_n, nLt_l, nLt_r, nLt_n, nA_l, nA_r, nI_add, nS_l, nS_n, nIn, nI_clamp, gI_I, gI_J, gI_D, gJ_J, gJ_I, gJ_D, true_and, and_true, false_and, and_false, if_true, if_false, false_implies, true_implies, not_true_eq_false, not_false_eq_true, bI_0, bI_1, Nat.reduceEqDiff, eq_self, nMax, nMin]; rfl, ((h6.skip (by decide)).skip (by decide)).skip (by decide), ((h7.skip (by decide)).skip (by decide)).skip (by decide), ((h8.skip (by decide)).skip (by decide)).skip (by decide), ((h9.skip (by decide)).skip (by decide)).skip (by decide)⟩
theorem m_162 {T : gS} {a : Nat} {μ : gMu} {P : gMu → gRes → Prop} (hk : gOk T) (hT : mTx T μ) (ha : a < 65536) (h : ∀ μ' w, gSm mAll μ μ' → mTx (addT T a) μ' → gI μ' 1 9 = nI (cdA [0, 1] (addA T a)) → (∀ v, addA T a = .inr v → w = v) → P μ' (.inl (some (.int w)))) : gCl' 162 [.ref 1, .int (nI a)] μ P := by
  have hn := hk.n
  have hd := hk.d T.n (Nat.le_refl _)
  have eT : addT T a = if (isSh a = true ∨ isMk a = true) ∧ addOk T a = true then putT T a else T := rfl
  have eA : addA T a = if isSh a = true ∨ isMk a = true then (if addOk T a = true then .inr (nI (T.n + 1)) else .inl 1) else .inl 0 := rfl
  have eO : addOk T a = (decide (T.n < 50) && (!isMk a || (if a = 125 then decide (0 < tD T.c T.n) else decide (tD T.c T.n < 5)))) := rfl
  have main : isSh a = true ∨ isMk a = true → ∀ μ3, mF [49, 50, 51, 62] [19, 20] μ μ3 → (addOk T a = true → P (gsI (gsI (gsI μ3 1 9 0) 44 T.n (nI a)) 1 1 (nI (T.n + 1))) (.inl (some (.int (nI (T.n + 1)))))) ∧ (addOk T a = false → P (gsI μ3 1 9 2) (.inl (some (.int 0)))) := by
    intro hs μ3 s3
    have t3 := hT.m s3 (by decide) (by decide)
    have g3 : gSm mAll μ μ3 := s3.all (by decide)
    refine ⟨fun q => ?_, fun q => ?_⟩
    · rw [if_pos ⟨hs, q⟩] at eT
      rw [if_pos hs, if_pos q] at eA
      refine h _ _ ((((g3.m (by decide)).m (by decide)).m (by decide))) (by rw [eT]; exact t3.put 0) (by rw [eA]; simp (disch := first | omega | decide) only [nE_l, nE_r, nE_n, nLe_l, nLe_r, nLe_n, nLt_l, nLt_r, nLt_n, nA_l, nA_r, nI_add, nS_l, nS_n, nIn, nI_clamp, gI_I, gI_J, gI_D, gJ_J, gJ_I, gJ_D, true_and, and_true, false_and, and_false, if_true, if_false, false_implies, true_implies, not_true_eq_false, not_false_eq_true, bI_0, bI_1, Nat.reduceEqDiff, eq_self, nMax, nMin]; rfl) (fun v hv => by rw [eA] at hv; cases hv; rfl)
    · rw [if_neg (fun z => by rw [q] at z; cases z.2)] at eT
      rw [if_pos hs, if_neg (by rw [q]; decide)] at eA
      exact h _ _ (g3.m (by decide)) (by rw [eT]; exact t3.f9 2) (by rw [eA]; simp (disch := first | omega | decide) only [nE_l, nE_r, nE_n, nLe_l, nLe_r, nLe_n, nLt_l, nLt_r, nLt_n, nA_l, nA_r, nI_add, nS_l, nS_n, nIn, nI_clamp, gI_I, gI_J, gI_D, gJ_J, gJ_I, gJ_D, true_and, and_true, false_and, and_false, if_true, if_false, false_implies, true_implies, not_true_eq_false, not_false_eq_true, bI_0, bI_1, Nat.reduceEqDiff, eq_self, nMax, nMin]; rfl) (fun v hv => by rw [eA] at hv; cases hv)
  refine vc_162 (s_157 (by omega) ⟨_, rfl, ?_⟩)
  rw [bI_0]
  refine ⟨fun c1 => ?_, fun c1 => s_158 (by omega) ⟨_, rfl, ?_⟩⟩
  · rw [Bool.not_eq_false] at c1
    refine s_160 hT hk (fun μ3 s3 q3 => ⟨rfl, ?_⟩)
    have t3 := hT.m s3 (by decide) (by decide)
    obtain ⟨m1, m2⟩ := main (Or.inl c1) μ3 s3
    have q20 := q3.2.1
    have q1 := t3.1
    by_cases h50 : T.n = 50
    · have ok : addOk T a = false := by rw [eO, decide_eq_false (by omega), Bool.false_and]
      simp (disch := first | omega | decide) only [q1, h50, Nat.reduceEqDiff, nE_l, nE_r, nE_n, nLe_l, nLe_r, nLe_n, nLt_l, nLt_r, nLt_n, nA_l, nA_r, nI_add, nS_l, nS_n, nIn, nI_clamp, gI_I, gI_J, gI_D, gJ_J, gJ_I, gJ_D, true_and, and_true, false_and, and_false, if_true, if_false, false_implies, true_implies, not_true_eq_false, not_false_eq_true, bI_0, bI_1, Nat.reduceEqDiff, eq_self, nMax, nMin]
      exact s_161 ⟨_, rfl, m2 ok⟩
    · rw [decide_eq_true (by omega), Bool.true_and] at eO
      simp (disch := first | omega | decide) only [q1, q20, h50, nNc ha, show T.n < 50 by omega, nE_l, nE_r, nE_n, nLe_l, nLe_r, nLe_n, nLt_l, nLt_r, nLt_n, nA_l, nA_r, nI_add, nS_l, nS_n, nIn, nI_clamp, gI_I, gI_J, gI_D, gJ_J, gJ_I, gJ_D, true_and, and_true, false_and, and_false, if_true, if_false, false_implies, true_implies, not_true_eq_false, not_false_eq_true, bI_0, bI_1, Nat.reduceEqDiff, eq_self, nMax, nMin]
      by_cases h125 : a = 125
      · have hm : isMk a = true := by rw [h125]; rfl
        rw [hm, if_pos h125] at eO
        subst h125
        simp (disch := first | omega | decide) only [nE_l, nE_r, nE_n, nLe_l, nLe_r, nLe_n, nLt_l, nLt_r, nLt_n, nA_l, nA_r, nI_add, nS_l, nS_n, nIn, nI_clamp, gI_I, gI_J, gI_D, gJ_J, gJ_I, gJ_D, true_and, and_true, false_and, and_false, if_true, if_false, false_implies, true_implies, not_true_eq_false, not_false_eq_true, bI_0, bI_1, Nat.reduceEqDiff, eq_self, nMax, nMin]
        refine ⟨fun z => s_161 ⟨_, rfl, m2 (by rw [eO, decide_eq_false (by omega)]; rfl)⟩, fun z => m1 (by rw [eO, decide_eq_true (by omega)]; rfl)⟩
      · rw [if_neg h125] at eO
        simp (disch := first | omega | decide) only [h125, nE_l, nE_r, nE_n, nLe_l, nLe_r, nLe_n, nLt_l, nLt_r, nLt_n, nA_l, nA_r, nI_add, nS_l, nS_n, nIn, nI_clamp, gI_I, gI_J, gI_D, gJ_J, gJ_I, gJ_D, true_and, and_true, false_and, and_false, if_true, if_false, false_implies, true_implies, not_true_eq_false, not_false_eq_true, bI_0, bI_1, Nat.reduceEqDiff, eq_self, nMax, nMin]
        refine s_158 (by omega) ⟨_, rfl, ?_⟩
        simp (disch := first | omega | decide) only [q1, q20, nNc ha, show T.n < 50 by omega, nE_l, nE_r, nE_n, nLe_l, nLe_r, nLe_n, nLt_l, nLt_r, nLt_n, nA_l, nA_r, nI_add, nS_l, nS_n, nIn, nI_clamp, gI_I, gI_J, gI_D, gJ_J, gJ_I, gJ_D, true_and, and_true, false_and, and_false, if_true, if_false, false_implies, true_implies, not_true_eq_false, not_false_eq_true, bI_0, bI_1, Nat.reduceEqDiff, eq_self, nMax, nMin]
        refine ⟨fun z => ?_, fun z => ⟨fun z2 => ?_, fun z2 => ?_⟩⟩
        · rw [z] at eO
          exact m1 (by rw [eO]; rfl)
        · rw [Bool.not_eq_false] at z
          rw [z, decide_eq_true (by omega)] at eO
          exact m1 (by rw [eO]; rfl)
        · rw [Bool.not_eq_false] at z
          rw [z, decide_eq_false (by omega)] at eO
          exact s_161 ⟨_, rfl, m2 (by rw [eO]; rfl)⟩
  · rw [bI_0]
    refine ⟨fun c2 => ?_, fun c2 => ?_⟩
    · rw [Bool.not_eq_false] at c2
      refine s_160 hT hk (fun μ3 s3 q3 => ⟨rfl, ?_⟩)
      have t3 := hT.m s3 (by decide) (by decide)
      obtain ⟨m1, m2⟩ := main (Or.inr c2) μ3 s3
      have q20 := q3.2.1
      have q1 := t3.1
      by_cases h50 : T.n = 50
      · have ok : addOk T a = false := by rw [eO, decide_eq_false (by omega), Bool.false_and]
        simp (disch := first | omega | decide) only [q1, h50, Nat.reduceEqDiff, nE_l, nE_r, nE_n, nLe_l, nLe_r, nLe_n, nLt_l, nLt_r, nLt_n, nA_l, nA_r, nI_add, nS_l, nS_n, nIn, nI_clamp, gI_I, gI_J, gI_D, gJ_J, gJ_I, gJ_D, true_and, and_true, false_and, and_false, if_true, if_false, false_implies, true_implies, not_true_eq_false, not_false_eq_true, bI_0, bI_1, Nat.reduceEqDiff, eq_self, nMax, nMin]
        exact s_161 ⟨_, rfl, m2 ok⟩
      · rw [decide_eq_true (by omega), Bool.true_and] at eO
        simp (disch := first | omega | decide) only [q1, q20, h50, nNc ha, show T.n < 50 by omega, nE_l, nE_r, nE_n, nLe_l, nLe_r, nLe_n, nLt_l, nLt_r, nLt_n, nA_l, nA_r, nI_add, nS_l, nS_n, nIn, nI_clamp, gI_I, gI_J, gI_D, gJ_J, gJ_I, gJ_D, true_and, and_true, false_and, and_false, if_true, if_false, false_implies, true_implies, not_true_eq_false, not_false_eq_true, bI_0, bI_1, Nat.reduceEqDiff, eq_self, nMax, nMin]
        by_cases h125 : a = 125
        · have hm : isMk a = true := by rw [h125]; rfl
          rw [hm, if_pos h125] at eO
          subst h125
          simp (disch := first | omega | decide) only [nE_l, nE_r, nE_n, nLe_l, nLe_r, nLe_n, nLt_l, nLt_r, nLt_n, nA_l, nA_r, nI_add, nS_l, nS_n, nIn, nI_clamp, gI_I, gI_J, gI_D, gJ_J, gJ_I, gJ_D, true_and, and_true, false_and, and_false, if_true, if_false, false_implies, true_implies, not_true_eq_false, not_false_eq_true, bI_0, bI_1, Nat.reduceEqDiff, eq_self, nMax, nMin]
          refine ⟨fun z => s_161 ⟨_, rfl, m2 (by rw [eO, decide_eq_false (by omega)]; rfl)⟩, fun z => m1 (by rw [eO, decide_eq_true (by omega)]; rfl)⟩
        · rw [if_neg h125] at eO
          simp (disch := first | omega | decide) only [h125, nE_l, nE_r, nE_n, nLe_l, nLe_r, nLe_n, nLt_l, nLt_r, nLt_n, nA_l, nA_r, nI_add, nS_l, nS_n, nIn, nI_clamp, gI_I, gI_J, gI_D, gJ_J, gJ_I, gJ_D, true_and, and_true, false_and, and_false, if_true, if_false, false_implies, true_implies, not_true_eq_false, not_false_eq_true, bI_0, bI_1, Nat.reduceEqDiff, eq_self, nMax, nMin]
          refine s_158 (by omega) ⟨_, rfl, ?_⟩
          simp (disch := first | omega | decide) only [q1, q20, nNc ha, show T.n < 50 by omega, nE_l, nE_r, nE_n, nLe_l, nLe_r, nLe_n, nLt_l, nLt_r, nLt_n, nA_l, nA_r, nI_add, nS_l, nS_n, nIn, nI_clamp, gI_I, gI_J, gI_D, gJ_J, gJ_I, gJ_D, true_and, and_true, false_and, and_false, if_true, if_false, false_implies, true_implies, not_true_eq_false, not_false_eq_true, bI_0, bI_1, Nat.reduceEqDiff, eq_self, nMax, nMin]
          refine ⟨fun z => ?_, fun z => ⟨fun z2 => ?_, fun z2 => ?_⟩⟩
          · rw [z] at eO
            exact m1 (by rw [eO]; rfl)
          · rw [Bool.not_eq_false] at z
            rw [z, decide_eq_true (by omega)] at eO
            exact m1 (by rw [eO]; rfl)
          · rw [Bool.not_eq_false] at z
            rw [z, decide_eq_false (by omega)] at eO
            exact s_161 ⟨_, rfl, m2 (by rw [eO]; rfl)⟩
    · have no : ¬ (isSh a = true ∨ isMk a = true) := by
        rw [c1, c2]
        simp
      rw [if_neg (fun z => no z.1)] at eT
      rw [if_neg no] at eA
      refine s_161 ⟨_, rfl, ?_⟩
      exact h _ _ ((gSm.rf _ _).m (by decide)) (by rw [eT]; exact hT.f9 1) (by rw [eA]; simp (disch := first | omega | decide) only [nE_l, nE_r, nE_n, nLe_l, nLe_r, nLe_n, nLt_l, nLt_r, nLt_n, nA_l, nA_r, nI_add, nS_l, nS_n, nIn, nI_clamp, gI_I, gI_J, gI_D, gJ_J, gJ_I, gJ_D, true_and, and_true, false_and, and_false, if_true, if_false, false_implies, true_implies, not_true_eq_false, not_false_eq_true, bI_0, bI_1, Nat.reduceEqDiff, eq_self, nMax, nMin]; rfl) (fun v hv => by rw [eA] at hv; cases hv)
theorem m_163 {T : gS} {μ : gMu} {P : gMu → gRes → Prop} (hk : gOk T) (hT : mTx T μ) (h : ∀ μ' w, gSm mAll μ μ' → mTx (remT T) μ' → gI μ' 1 9 = nI (cdA [4] (remA T)) → (∀ v, remA T = .inr v → w = v) → P μ' (.inl (some (.int w)))) : gCl' 163 [.ref 1] μ P := by
  have hn := hk.n
  have eT : remT T = if T.n = 0 then T else cutT T := rfl
  have eA : remA T = if T.n = 0 then .inl 4 else .inr (nI (T.c (T.n - 1))) := rfl
  have h1 := hT.1
  refine vc_163 ?_
  by_cases h0 : T.n = 0
  · rw [if_pos h0] at eT eA
    simp (disch := first | omega | decide) only [h1, h0, nE_l, nE_r, nE_n, nLe_l, nLe_r, nLe_n, nLt_l, nLt_r, nLt_n, nA_l, nA_r, nI_add, nS_l, nS_n, nIn, nI_clamp, gI_I, gI_J, gI_D, gJ_J, gJ_I, gJ_D, true_and, and_true, false_and, and_false, if_true, if_false, false_implies, true_implies, not_true_eq_false, not_false_eq_true, bI_0, bI_1, Nat.reduceEqDiff, eq_self, nMax, nMin]
    exact ⟨nCc (a := 32) (by decide), h _ _ ((gSm.rf _ _).m (by decide)) (by rw [eT]; exact hT.f9 1) (by rw [eA]; simp (disch := first | omega | decide) only [nE_l, nE_r, nE_n, nLe_l, nLe_r, nLe_n, nLt_l, nLt_r, nLt_n, nA_l, nA_r, nI_add, nS_l, nS_n, nIn, nI_clamp, gI_I, gI_J, gI_D, gJ_J, gJ_I, gJ_D, true_and, and_true, false_and, and_false, if_true, if_false, false_implies, true_implies, not_true_eq_false, not_false_eq_true, bI_0, bI_1, Nat.reduceEqDiff, eq_self, nMax, nMin]; rfl) (fun v hv => by rw [eA] at hv; cases hv)⟩
  · rw [if_neg h0] at eT eA
    have g2 := hT.2.1 (T.n - 1) (by omega)
    have hc := hk.c_lt (show T.n - 1 < T.n by omega)
    simp (disch := first | omega | decide) only [h1, h0, g2, show T.n - 1 < 50 by omega, nE_l, nE_r, nE_n, nLe_l, nLe_r, nLe_n, nLt_l, nLt_r, nLt_n, nA_l, nA_r, nI_add, nS_l, nS_n, nIn, nI_clamp, gI_I, gI_J, gI_D, gJ_J, gJ_I, gJ_D, true_and, and_true, false_and, and_false, if_true, if_false, false_implies, true_implies, not_true_eq_false, not_false_eq_true, bI_0, bI_1, Nat.reduceEqDiff, eq_self, nMax, nMin]
    refine ⟨nCc (by omega), h _ _ (((gSm.rf _ _).m (by decide)).m (by decide)) ?_ (by rw [eA]; simp (disch := first | omega | decide) only [nE_l, nE_r, nE_n, nLe_l, nLe_r, nLe_n, nLt_l, nLt_r, nLt_n, nA_l, nA_r, nI_add, nS_l, nS_n, nIn, nI_clamp, gI_I, gI_J, gI_D, gJ_J, gJ_I, gJ_D, true_and, and_true, false_and, and_false, if_true, if_false, false_implies, true_implies, not_true_eq_false, not_false_eq_true, bI_0, bI_1, Nat.reduceEqDiff, eq_self, nMax, nMin]; rfl) (fun v hv => by rw [eA] at hv; cases hv; rfl)⟩
    rw [eT]
    obtain ⟨a1, a2, a3, a4, a5, a6, a7, a8, a9⟩ := hT
    exact ⟨by simp (disch := first | omega | decide) only [nE_l, nE_r, nE_n, nLe_l, nLe_r, nLe_n, nLt_l, nLt_r, nLt_n, nA_l, nA_r, nI_add, nS_l, nS_n, nIn, nI_clamp, gI_I, gI_J, gI_D, gJ_J, gJ_I, gJ_D, true_and, and_true, false_and, and_false, if_true, if_false, false_implies, true_implies, not_true_eq_false, not_false_eq_true, bI_0, bI_1, Nat.reduceEqDiff, eq_self, nMax, nMin]; rfl, ((a2.sub (show T.n - 1 ≤ T.n by omega)).skip (by decide)).skip (by decide), by simp (disch := first | omega | decide) only [a3, nE_l, nE_r, nE_n, nLe_l, nLe_r, nLe_n, nLt_l, nLt_r, nLt_n, nA_l, nA_r, nI_add, nS_l, nS_n, nIn, nI_clamp, gI_I, gI_J, gI_D, gJ_J, gJ_I, gJ_D, true_and, and_true, false_and, and_false, if_true, if_false, false_implies, true_implies, not_true_eq_false, not_false_eq_true, bI_0, bI_1, Nat.reduceEqDiff, eq_self, nMax, nMin]; rfl, by simp (disch := first | omega | decide) only [a4, nE_l, nE_r, nE_n, nLe_l, nLe_r, nLe_n, nLt_l, nLt_r, nLt_n, nA_l, nA_r, nI_add, nS_l, nS_n, nIn, nI_clamp, gI_I, gI_J, gI_D, gJ_J, gJ_I, gJ_D, true_and, and_true, false_and, and_false, if_true, if_false, false_implies, true_implies, not_true_eq_false, not_false_eq_true, bI_0, bI_1, Nat.reduceEqDiff, eq_self, nMax, nMin]; rfl, by simp (disch := first | omega | decide) only [a5, nE_l, nE_r, nE_n, nLe_l, nLe_r, nLe_n, nLt_l, nLt_r, nLt_n, nA_l, nA_r, nI_add, nS_l, nS_n, nIn, nI_clamp, gI_I, gI_J, gI_D, gJ_J, gJ_I, gJ_D, true_and, and_true, false_and, and_false, if_true, if_false, false_implies, true_implies, not_true_eq_false, not_false_eq_true, bI_0, bI_1, Nat.reduceEqDiff, eq_self, nMax, nMin]; rfl, (a6.skip (by decide)).skip (by decide), (a7.skip (by decide)).skip (by decide), (a8.skip (by decide)).skip (by decide), (a9.skip (by decide)).skip (by decide)⟩
theorem m_164 {T : gS} {a : Nat} {x : Int32} {μ : gMu} {P : gMu → gRes → Prop} (hk : gOk T) (hT : mTx T μ) (ha : a < 65536) (h : ∀ μ' w, gSm mAll μ μ' → mTx (swdT T a x) μ' → gI μ' 1 9 = nI (cdA [0] (swdA T a x)) → (∀ v, swdA T a x = .inr v → w = v) → P μ' (.inl (some (.int w)))) : gCl' 164 [.ref 1, .int (nI a), .int x] μ P := by
  have no : swdO a x = none → P (gsI μ 1 9 1) (.inl (some (.int 0))) := by
    intro e
    refine h _ _ ((gSm.rf _ _).m (by decide)) (by unfold swdT; rw [e]; exact hT.f9 1) (by unfold swdA; rw [e]; simp (disch := first | omega | decide) only [nE_l, nE_r, nE_n, nLe_l, nLe_r, nLe_n, nLt_l, nLt_r, nLt_n, nA_l, nA_r, nI_add, nS_l, nS_n, nIn, nI_clamp, gI_I, gI_J, gI_D, gJ_J, gJ_I, gJ_D, true_and, and_true, false_and, and_false, if_true, if_false, false_implies, true_implies, not_true_eq_false, not_false_eq_true, bI_0, bI_1, Nat.reduceEqDiff, eq_self, nMax, nMin]; rfl) (fun v hv => by unfold swdA at hv; rw [e] at hv; cases hv)
  have l10 : ¬ (1 : Int32) ≤ 0 := by decide
  refine vc_164 (s_157 (by omega) ⟨_, rfl, ?_⟩)
  rw [bI_0]
  refine ⟨fun q => ⟨fun z => absurd z l10, fun _ => no (by unfold swdO; rw [if_neg (by rw [q]; decide)])⟩, fun q => ?_⟩
  rw [Bool.not_eq_false] at q
  have ha2 := isSh_b q
  have e1 : swdO a x = (match inx x 21 with | none => none | some w => if w = 0 then none else some w) := if_pos q
  refine s_153c (lo := 1) (hi := 20) (by decide) (by decide) (fun z => ⟨_, rfl, ?_⟩) (fun j j1 j2 hx hi => ⟨_, rfl, ?_⟩)
  · refine ⟨fun _ => ⟨fun z => absurd z l10, fun _ => no ?_⟩, fun z => absurd rfl z⟩
    rw [e1]
    cases hi : inx x 21 with
    | none => rfl
    | some w =>
      have := z w hi
      exact if_pos (by omega)
  · refine ⟨fun z => absurd z (by decide), fun _ => ⟨fun _ => ?_, fun z => absurd (by decide) z⟩⟩
    have hi : inx x 21 = some j := hi
    rw [hi] at e1
    have e2 : swdO a x = some j := by rw [e1]; exact if_neg (by omega)
    have h5 := hT.2.2.2.2.2.1 a (by omega)
    subst hx
    simp (disch := first | omega | decide) only [show a < 128 by omega, h5, nE_l, nE_r, nE_n, nLe_l, nLe_r, nLe_n, nLt_l, nLt_r, nLt_n, nA_l, nA_r, nI_add, nS_l, nS_n, nIn, nI_clamp, gI_I, gI_J, gI_D, gJ_J, gJ_I, gJ_D, true_and, and_true, false_and, and_false, if_true, if_false, false_implies, true_implies, not_true_eq_false, not_false_eq_true, bI_0, bI_1, Nat.reduceEqDiff, eq_self, nMax, nMin]
    refine h _ _ (((gSm.rf _ _).m (by decide)).m (by decide)) ?_ (by unfold swdA; rw [e2]; simp (disch := first | omega | decide) only [nE_l, nE_r, nE_n, nLe_l, nLe_r, nLe_n, nLt_l, nLt_r, nLt_n, nA_l, nA_r, nI_add, nS_l, nS_n, nIn, nI_clamp, gI_I, gI_J, gI_D, gJ_J, gJ_I, gJ_D, true_and, and_true, false_and, and_false, if_true, if_false, false_implies, true_implies, not_true_eq_false, not_false_eq_true, bI_0, bI_1, Nat.reduceEqDiff, eq_self, nMax, nMin]; rfl) (fun v hv => by unfold swdA at hv; rw [e2] at hv; cases hv; rfl)
    unfold swdT
    rw [e2]
    obtain ⟨a1, a2, a3, a4, a5, a6, a7, a8, a9⟩ := hT
    exact ⟨by simp (disch := first | omega | decide) only [a1, nE_l, nE_r, nE_n, nLe_l, nLe_r, nLe_n, nLt_l, nLt_r, nLt_n, nA_l, nA_r, nI_add, nS_l, nS_n, nIn, nI_clamp, gI_I, gI_J, gI_D, gJ_J, gJ_I, gJ_D, true_and, and_true, false_and, and_false, if_true, if_false, false_implies, true_implies, not_true_eq_false, not_false_eq_true, bI_0, bI_1, Nat.reduceEqDiff, eq_self, nMax, nMin]; rfl, (a2.skip (by decide)).skip (by decide), by simp (disch := first | omega | decide) only [a3, nE_l, nE_r, nE_n, nLe_l, nLe_r, nLe_n, nLt_l, nLt_r, nLt_n, nA_l, nA_r, nI_add, nS_l, nS_n, nIn, nI_clamp, gI_I, gI_J, gI_D, gJ_J, gJ_I, gJ_D, true_and, and_true, false_and, and_false, if_true, if_false, false_implies, true_implies, not_true_eq_false, not_false_eq_true, bI_0, bI_1, Nat.reduceEqDiff, eq_self, nMax, nMin]; rfl, by simp (disch := first | omega | decide) only [a4, nE_l, nE_r, nE_n, nLe_l, nLe_r, nLe_n, nLt_l, nLt_r, nLt_n, nA_l, nA_r, nI_add, nS_l, nS_n, nIn, nI_clamp, gI_I, gI_J, gI_D, gJ_J, gJ_I, gJ_D, true_and, and_true, false_and, and_false, if_true, if_false, false_implies, true_implies, not_true_eq_false, not_false_eq_true, bI_0, bI_1, Nat.reduceEqDiff, eq_self, nMax, nMin]; rfl, by simp (disch := first | omega | decide) only [a5, nE_l, nE_r, nE_n, nLe_l, nLe_r, nLe_n, nLt_l, nLt_r, nLt_n, nA_l, nA_r, nI_add, nS_l, nS_n, nIn, nI_clamp, gI_I, gI_J, gI_D, gJ_J, gJ_I, gJ_D, true_and, and_true, false_and, and_false, if_true, if_false, false_implies, true_implies, not_true_eq_false, not_false_eq_true, bI_0, bI_1, Nat.reduceEqDiff, eq_self, nMax, nMin]; rfl, (a6.skip (by decide)).set, (a7.skip (by decide)).skip (by decide), (a8.skip (by decide)).skip (by decide), (a9.skip (by decide)).skip (by decide)⟩
theorem m_165 {T : gS} {x : Int32} {μ : gMu} {P : gMu → gRes → Prop} (hT : mTx T μ) (h : ∀ μ' w, gSm mAll μ μ' → mTx (slnT T x) μ' → gI μ' 1 9 = nI (cdA [0] (slnA T x)) → (∀ v, slnA T x = .inr v → w = v) → P μ' (.inl (some (.int w)))) : gCl' 165 [.ref 1, .int x] μ P := by
  have l10 : ¬ (1 : Int32) ≤ 0 := by decide
  have e1 : slnO x = (match inx x 201 with | none => none | some w => if w < 10 then none else some w) := rfl
  refine vc_165 ?_
  refine s_153c (lo := 10) (hi := 200) (by decide) (by decide) (fun z => ⟨_, rfl, ?_⟩) (fun j j1 j2 hx hi => ⟨_, rfl, ?_⟩)
  · have e2 : slnO x = none := by
      rw [e1]
      cases hi : inx x 201 with
      | none => rfl
      | some w =>
        have := z w hi
        exact if_pos (by omega)
    refine ⟨fun _ => ⟨fun z => absurd z l10, fun _ => ⟨fun z => absurd z l10, fun _ => ?_⟩⟩, fun z => absurd rfl z⟩
    refine h _ _ (((gSm.rf _ _).m (by decide)).m (by decide)) ?_ (by unfold slnA; rw [e2]; simp (disch := first | omega | decide) only [nE_l, nE_r, nE_n, nLe_l, nLe_r, nLe_n, nLt_l, nLt_r, nLt_n, nA_l, nA_r, nI_add, nS_l, nS_n, nIn, nI_clamp, gI_I, gI_J, gI_D, gJ_J, gJ_I, gJ_D, true_and, and_true, false_and, and_false, if_true, if_false, false_implies, true_implies, not_true_eq_false, not_false_eq_true, bI_0, bI_1, Nat.reduceEqDiff, eq_self, nMax, nMin]; rfl) (fun v hv => by unfold slnA at hv; rw [e2] at hv; cases hv)
    unfold slnT
    rw [e2]
    obtain ⟨a1, a2, a3, a4, a5, a6, a7, a8, a9⟩ := hT
    exact ⟨by simp (disch := first | omega | decide) only [a1, nE_l, nE_r, nE_n, nLe_l, nLe_r, nLe_n, nLt_l, nLt_r, nLt_n, nA_l, nA_r, nI_add, nS_l, nS_n, nIn, nI_clamp, gI_I, gI_J, gI_D, gJ_J, gJ_I, gJ_D, true_and, and_true, false_and, and_false, if_true, if_false, false_implies, true_implies, not_true_eq_false, not_false_eq_true, bI_0, bI_1, Nat.reduceEqDiff, eq_self, nMax, nMin], (a2.skip (by decide)).skip (by decide), by simp (disch := first | omega | decide) only [a3, nE_l, nE_r, nE_n, nLe_l, nLe_r, nLe_n, nLt_l, nLt_r, nLt_n, nA_l, nA_r, nI_add, nS_l, nS_n, nIn, nI_clamp, gI_I, gI_J, gI_D, gJ_J, gJ_I, gJ_D, true_and, and_true, false_and, and_false, if_true, if_false, false_implies, true_implies, not_true_eq_false, not_false_eq_true, bI_0, bI_1, Nat.reduceEqDiff, eq_self, nMax, nMin], by simp (disch := first | omega | decide) only [a4, nE_l, nE_r, nE_n, nLe_l, nLe_r, nLe_n, nLt_l, nLt_r, nLt_n, nA_l, nA_r, nI_add, nS_l, nS_n, nIn, nI_clamp, gI_I, gI_J, gI_D, gJ_J, gJ_I, gJ_D, true_and, and_true, false_and, and_false, if_true, if_false, false_implies, true_implies, not_true_eq_false, not_false_eq_true, bI_0, bI_1, Nat.reduceEqDiff, eq_self, nMax, nMin], by simp (disch := first | omega | decide) only [a5, nE_l, nE_r, nE_n, nLe_l, nLe_r, nLe_n, nLt_l, nLt_r, nLt_n, nA_l, nA_r, nI_add, nS_l, nS_n, nIn, nI_clamp, gI_I, gI_J, gI_D, gJ_J, gJ_I, gJ_D, true_and, and_true, false_and, and_false, if_true, if_false, false_implies, true_implies, not_true_eq_false, not_false_eq_true, bI_0, bI_1, Nat.reduceEqDiff, eq_self, nMax, nMin], (a6.skip (by decide)).skip (by decide), (a7.skip (by decide)).skip (by decide), (a8.skip (by decide)).skip (by decide), (a9.skip (by decide)).skip (by decide)⟩
  · have hi : inx x 201 = some j := hi
    have e2 : slnO x = some j := by rw [e1, hi]; exact if_neg (by omega)
    refine ⟨fun z => absurd z (by decide), fun _ => ⟨fun _ => ⟨fun _ => ?_, fun z => absurd (by decide) z⟩, fun z => absurd (by decide) z⟩⟩
    subst hx
    have a3 := hT.2.2.1
    refine h _ _ (((gSm.rf _ _).m (by decide)).m (by decide)) ?_ (by unfold slnA; rw [e2]; simp (disch := first | omega | decide) only [nE_l, nE_r, nE_n, nLe_l, nLe_r, nLe_n, nLt_l, nLt_r, nLt_n, nA_l, nA_r, nI_add, nS_l, nS_n, nIn, nI_clamp, gI_I, gI_J, gI_D, gJ_J, gJ_I, gJ_D, true_and, and_true, false_and, and_false, if_true, if_false, false_implies, true_implies, not_true_eq_false, not_false_eq_true, bI_0, bI_1, Nat.reduceEqDiff, eq_self, nMax, nMin]; rfl) (fun v hv => by unfold slnA at hv; rw [e2] at hv; cases hv; exact a3)
    unfold slnT
    rw [e2]
    obtain ⟨a1, a2, a3, a4, a5, a6, a7, a8, a9⟩ := hT
    exact ⟨by simp (disch := first | omega | decide) only [a1, nE_l, nE_r, nE_n, nLe_l, nLe_r, nLe_n, nLt_l, nLt_r, nLt_n, nA_l, nA_r, nI_add, nS_l, nS_n, nIn, nI_clamp, gI_I, gI_J, gI_D, gJ_J, gJ_I, gJ_D, true_and, and_true, false_and, and_false, if_true, if_false, false_implies, true_implies, not_true_eq_false, not_false_eq_true, bI_0, bI_1, Nat.reduceEqDiff, eq_self, nMax, nMin]; rfl, (a2.skip (by decide)).skip (by decide), by simp (disch := first | omega | decide) only [nE_l, nE_r, nE_n, nLe_l, nLe_r, nLe_n, nLt_l, nLt_r, nLt_n, nA_l, nA_r, nI_add, nS_l, nS_n, nIn, nI_clamp, gI_I, gI_J, gI_D, gJ_J, gJ_I, gJ_D, true_and, and_true, false_and, and_false, if_true, if_false, false_implies, true_implies, not_true_eq_false, not_false_eq_true, bI_0, bI_1, Nat.reduceEqDiff, eq_self, nMax, nMin]; rfl, by simp (disch := first | omega | decide) only [a4, nE_l, nE_r, nE_n, nLe_l, nLe_r, nLe_n, nLt_l, nLt_r, nLt_n, nA_l, nA_r, nI_add, nS_l, nS_n, nIn, nI_clamp, gI_I, gI_J, gI_D, gJ_J, gJ_I, gJ_D, true_and, and_true, false_and, and_false, if_true, if_false, false_implies, true_implies, not_true_eq_false, not_false_eq_true, bI_0, bI_1, Nat.reduceEqDiff, eq_self, nMax, nMin]; rfl, by simp (disch := first | omega | decide) only [a5, nE_l, nE_r, nE_n, nLe_l, nLe_r, nLe_n, nLt_l, nLt_r, nLt_n, nA_l, nA_r, nI_add, nS_l, nS_n, nIn, nI_clamp, gI_I, gI_J, gI_D, gJ_J, gJ_I, gJ_D, true_and, and_true, false_and, and_false, if_true, if_false, false_implies, true_implies, not_true_eq_false, not_false_eq_true, bI_0, bI_1, Nat.reduceEqDiff, eq_self, nMax, nMin]; rfl, (a6.skip (by decide)).skip (by decide), (a7.skip (by decide)).skip (by decide), (a8.skip (by decide)).skip (by decide), (a9.skip (by decide)).skip (by decide)⟩
theorem m_166 {T : gS} {r : Bool} {x : Int32} {μ : gMu} {P : gMu → gRes → Prop} (hk : gOk T) (hx : x = bI r) (hT : mTx T μ) (h : ∀ μ', gSm mAll μ μ' → mTx (sbsT T r) μ' → P μ' (.inl (some (.int (nI T.b))))) : gCl' 166 [.ref 1, .int x] μ P := by
  subst hx
  have hb := hk.b
  have h4 := hT.2.2.2.1
  have nb : ∀ b, b ≤ 1 → narrow .boolean (.int (nI b)) = .int (nI b) := fun b hb => by
    have : b = 0 ∨ b = 1 := by omega
    rcases this with e | e
    · rw [e]; exact nBb false
    · rw [e]; exact nBb true
  refine vc_166 ⟨by cases r; exact Or.inl rfl; exact Or.inr rfl, ?_⟩
  rw [h4]
  refine ⟨nb _ hb, h _ (((gSm.rf _ _).m (by decide)).m (by decide)) ?_⟩
  unfold sbsT
  obtain ⟨a1, a2, a3, a4, a5, a6, a7, a8, a9⟩ := hT
  exact ⟨by simp (disch := first | omega | decide) only [a1, nE_l, nE_r, nE_n, nLe_l, nLe_r, nLe_n, nLt_l, nLt_r, nLt_n, nA_l, nA_r, nI_add, nS_l, nS_n, nIn, nI_clamp, gI_I, gI_J, gI_D, gJ_J, gJ_I, gJ_D, true_and, and_true, false_and, and_false, if_true, if_false, false_implies, true_implies, not_true_eq_false, not_false_eq_true, bI_0, bI_1, Nat.reduceEqDiff, eq_self, nMax, nMin]; rfl, (a2.skip (by decide)).skip (by decide), by simp (disch := first | omega | decide) only [a3, nE_l, nE_r, nE_n, nLe_l, nLe_r, nLe_n, nLt_l, nLt_r, nLt_n, nA_l, nA_r, nI_add, nS_l, nS_n, nIn, nI_clamp, gI_I, gI_J, gI_D, gJ_J, gJ_I, gJ_D, true_and, and_true, false_and, and_false, if_true, if_false, false_implies, true_implies, not_true_eq_false, not_false_eq_true, bI_0, bI_1, Nat.reduceEqDiff, eq_self, nMax, nMin]; rfl, by simp (disch := first | omega | decide) only [nE_l, nE_r, nE_n, nLe_l, nLe_r, nLe_n, nLt_l, nLt_r, nLt_n, nA_l, nA_r, nI_add, nS_l, nS_n, nIn, nI_clamp, gI_I, gI_J, gI_D, gJ_J, gJ_I, gJ_D, true_and, and_true, false_and, and_false, if_true, if_false, false_implies, true_implies, not_true_eq_false, not_false_eq_true, bI_0, bI_1, Nat.reduceEqDiff, eq_self, nMax, nMin]; cases r <;> rfl, by simp (disch := first | omega | decide) only [a5, nE_l, nE_r, nE_n, nLe_l, nLe_r, nLe_n, nLt_l, nLt_r, nLt_n, nA_l, nA_r, nI_add, nS_l, nS_n, nIn, nI_clamp, gI_I, gI_J, gI_D, gJ_J, gJ_I, gJ_D, true_and, and_true, false_and, and_false, if_true, if_false, false_implies, true_implies, not_true_eq_false, not_false_eq_true, bI_0, bI_1, Nat.reduceEqDiff, eq_self, nMax, nMin]; rfl, (a6.skip (by decide)).skip (by decide), (a7.skip (by decide)).skip (by decide), (a8.skip (by decide)).skip (by decide), (a9.skip (by decide)).skip (by decide)⟩
theorem m_168 {T : gS} {a : Nat} {x y : Int32} {μ : gMu} {P : gMu → gRes → Prop} (hk : gOk T) (hT : mTx T μ) (ha : a < 65536) (h : ∀ μ' w, gSm mAll μ μ' → mTx (ligT T x a y) μ' → gI μ' 1 9 = nI (cdA [0, 1] (ligA T x a y)) → (∀ v, ligA T x a y = .inr v → w = v) → P μ' (.inl (some (.int w)))) : gCl' 168 [.ref 1, .int x, .int (nI a), .int y] μ P := by
  have hl := hk.ln
  have no : ∀ e, ligO T x a y = .inl e → P (gsI μ 1 9 (nI (cdF [0, 1] e))) (.inl (some (.int 0))) := by
    intro e he
    refine h _ _ ((gSm.rf _ _).m (by decide)) (by unfold ligT; rw [he]; exact hT.f9 _) (by unfold ligA; rw [he]; simp (disch := first | omega | decide) only [nE_l, nE_r, nE_n, nLe_l, nLe_r, nLe_n, nLt_l, nLt_r, nLt_n, nA_l, nA_r, nI_add, nS_l, nS_n, nIn, nI_clamp, gI_I, gI_J, gI_D, gJ_J, gJ_I, gJ_D, true_and, and_true, false_and, and_false, if_true, if_false, false_implies, true_implies, not_true_eq_false, not_false_eq_true, bI_0, bI_1, Nat.reduceEqDiff, eq_self, nMax, nMin]; rfl) (fun v hv => by unfold ligA at hv; rw [he] at hv; cases hv)
  have eO : ligO T x a y = (match ligF T x, inx y 41 with | some f, some w => if isLt a = true ∧ 0 < w then (if T.ln < 20 ∧ tRl T.lf T.ls T.ln f a = 0 then .inr (f, w) else .inl 1) else .inl 0 | _, _ => .inl 0) := rfl
  have h8 := hT.2.2.2.2.1
  have i10 : ¬ (1 : Int32) = 0 := by decide
  refine vc_168 (s_155x (fun z0 => ⟨_, rfl, fun z => absurd rfl z, fun _ => ?_⟩) (fun f hx hlt => ⟨_, rfl, fun _ => ⟨fun z => absurd z i10, fun _ => ?_⟩, fun z => absurd z i10⟩))
  · rw [h8, show (200 : Int32) + nI T.ln - 1 = nI (199 + T.ln) by simp (disch := first | omega | decide) only [show 200 + T.ln - 1 = 199 + T.ln by omega, nE_l, nE_r, nE_n, nLe_l, nLe_r, nLe_n, nLt_l, nLt_r, nLt_n, nA_l, nA_r, nI_add, nS_l, nS_n, nIn, nI_clamp, gI_I, gI_J, gI_D, gJ_J, gJ_I, gJ_D, true_and, and_true, false_and, and_false, if_true, if_false, false_implies, true_implies, not_true_eq_false, not_false_eq_true, bI_0, bI_1, Nat.reduceEqDiff, eq_self, nMax, nMin]]
    refine s_153c (lo := 200) (hi := 199 + T.ln) (by decide) (by omega) (fun z1 => ⟨_, rfl, fun _ => ⟨fun _ => ?_, fun z => absurd rfl z⟩, fun z => absurd rfl z⟩) (fun f f1 f2 hx hi => ⟨_, rfl, fun z => absurd z i10, fun _ => ⟨fun z => absurd z i10, fun _ => ?_⟩⟩)
    · refine s_161 ⟨_, rfl, no 0 ?_⟩
      cases hf : ligF T x with
      | none => rw [eO, hf]
      | some f =>
        obtain ⟨g1, g2, g3⟩ := ligF_some hf
        exfalso
        rcases g2 with g2 | g2
        · have := z0 f (by omega) g1
          rw [g2] at this
          cases this
        · have := z1 f (by rw [g1, inx_nI (by omega), if_neg (by omega)])
          omega
    · have hf : ligF T x = some f := by
        unfold ligF
        rw [hx, inx_nI (by omega), if_neg (by omega)]
        exact if_pos (Or.inr (by omega))
      have hfb : f < 220 := by omega
      subst hx
      rw [hf] at eO
      have no0 : (isLt a = false ∨ ∀ w, inx y 41 = some w → w = 0) → P (gsI μ 1 9 1) (.inl (some (.int 0))) := by
        intro q
        refine no 0 ?_
        rw [eO]
        cases hy : inx y 41 with
        | none => rfl
        | some w =>
          refine if_neg (fun z => ?_)
          rcases q with q | q
          · rw [q] at z; exact absurd z.1 (by decide)
          · have := q w hy
            omega
      refine s_155 (by omega) ⟨_, rfl, ?_⟩
      rw [bI_0]
      refine ⟨fun q => s_161 ⟨_, rfl, no0 (Or.inl q)⟩, fun q => ?_⟩
      rw [Bool.not_eq_false] at q
      refine s_153c (lo := 1) (hi := 40) (by decide) (by decide) (fun z => ⟨_, rfl, fun z => absurd rfl z, fun _ => s_161 ⟨_, rfl, no0 (Or.inr (fun w hw => by have := z w hw; omega))⟩⟩) (fun w w1 w2 hy hi => ⟨_, rfl, fun _ => ?_, fun z => absurd z i10⟩)
      have hi : inx y 41 = some w := hi
      rw [hi] at eO
      dsimp only at eO
      rw [if_pos ⟨q, by omega⟩] at eO
      have hrl := tRl_lt (lf := T.lf) (ls := T.ls) hl f a
      refine s_167 hl h8 hT.2.2.2.2.2.2.1 hT.2.2.2.2.2.2.2.1 (fun j hj => by
        rcases hk.lf j hj with z | z
        · have := isLt_b z; omega
        · omega) (fun j hj => by have := isLt_b (hk.ls j hj); omega) (by omega) (by omega) ⟨_, rfl, fun c => s_161 ⟨_, rfl, no 1 ?_⟩, fun c => ?_⟩
      · rw [eO]
        refine if_neg (fun z => c ?_)
        rw [z.2]
        rfl
      · have hr0 : tRl T.lf T.ls T.ln f a = 0 := by
          by_cases z : tRl T.lf T.ls T.ln f a = 0
          · exact z
          · unfold nZ at c
            rw [if_neg z] at c
            exact absurd c (nI_nm1 (by omega))
        by_cases hlt : T.ln = 20
        · rw [if_neg (fun z => by omega)] at eO
          simp (disch := first | omega | decide) only [h8, hlt, nE_l, nE_r, nE_n, nLe_l, nLe_r, nLe_n, nLt_l, nLt_r, nLt_n, nA_l, nA_r, nI_add, nS_l, nS_n, nIn, nI_clamp, gI_I, gI_J, gI_D, gJ_J, gJ_I, gJ_D, true_and, and_true, false_and, and_false, if_true, if_false, false_implies, true_implies, not_true_eq_false, not_false_eq_true, bI_0, bI_1, Nat.reduceEqDiff, eq_self, nMax, nMin]
          exact s_161 ⟨_, rfl, no 1 eO⟩
        · rw [if_pos ⟨by omega, hr0⟩] at eO
          subst hy
          simp (disch := first | omega | decide) only [h8, hlt, nNc ha, show T.ln < 20 by omega, nE_l, nE_r, nE_n, nLe_l, nLe_r, nLe_n, nLt_l, nLt_r, nLt_n, nA_l, nA_r, nI_add, nS_l, nS_n, nIn, nI_clamp, gI_I, gI_J, gI_D, gJ_J, gJ_I, gJ_D, true_and, and_true, false_and, and_false, if_true, if_false, false_implies, true_implies, not_true_eq_false, not_false_eq_true, bI_0, bI_1, Nat.reduceEqDiff, eq_self, nMax, nMin]
          refine h _ _ ((((((gSm.rf _ _).m (by decide)).m (by decide)).m (by decide)).m (by decide)).m (by decide)) ?_ (by unfold ligA; rw [eO]; simp (disch := first | omega | decide) only [nE_l, nE_r, nE_n, nLe_l, nLe_r, nLe_n, nLt_l, nLt_r, nLt_n, nA_l, nA_r, nI_add, nS_l, nS_n, nIn, nI_clamp, gI_I, gI_J, gI_D, gJ_J, gJ_I, gJ_D, true_and, and_true, false_and, and_false, if_true, if_false, false_implies, true_implies, not_true_eq_false, not_false_eq_true, bI_0, bI_1, Nat.reduceEqDiff, eq_self, nMax, nMin]; rfl) (fun v hv => by unfold ligA at hv; rw [eO] at hv; cases hv; rw [show 200 + (T.ln + 1) - 1 = 200 + T.ln by omega])
          unfold ligT
          rw [eO]
          obtain ⟨a1, a2, a3, a4, a5, a6, a7, a8, a9⟩ := hT
          exact ⟨by simp (disch := first | omega | decide) only [a1, nE_l, nE_r, nE_n, nLe_l, nLe_r, nLe_n, nLt_l, nLt_r, nLt_n, nA_l, nA_r, nI_add, nS_l, nS_n, nIn, nI_clamp, gI_I, gI_J, gI_D, gJ_J, gJ_I, gJ_D, true_and, and_true, false_and, and_false, if_true, if_false, false_implies, true_implies, not_true_eq_false, not_false_eq_true, bI_0, bI_1, Nat.reduceEqDiff, eq_self, nMax, nMin]; rfl, ((((a2.skip (by decide)).skip (by decide)).skip (by decide)).skip (by decide)).skip (by decide), by simp (disch := first | omega | decide) only [a3, nE_l, nE_r, nE_n, nLe_l, nLe_r, nLe_n, nLt_l, nLt_r, nLt_n, nA_l, nA_r, nI_add, nS_l, nS_n, nIn, nI_clamp, gI_I, gI_J, gI_D, gJ_J, gJ_I, gJ_D, true_and, and_true, false_and, and_false, if_true, if_false, false_implies, true_implies, not_true_eq_false, not_false_eq_true, bI_0, bI_1, Nat.reduceEqDiff, eq_self, nMax, nMin]; rfl, by simp (disch := first | omega | decide) only [a4, nE_l, nE_r, nE_n, nLe_l, nLe_r, nLe_n, nLt_l, nLt_r, nLt_n, nA_l, nA_r, nI_add, nS_l, nS_n, nIn, nI_clamp, gI_I, gI_J, gI_D, gJ_J, gJ_I, gJ_D, true_and, and_true, false_and, and_false, if_true, if_false, false_implies, true_implies, not_true_eq_false, not_false_eq_true, bI_0, bI_1, Nat.reduceEqDiff, eq_self, nMax, nMin]; rfl, by simp (disch := first | omega | decide) only [nE_l, nE_r, nE_n, nLe_l, nLe_r, nLe_n, nLt_l, nLt_r, nLt_n, nA_l, nA_r, nI_add, nS_l, nS_n, nIn, nI_clamp, gI_I, gI_J, gI_D, gJ_J, gJ_I, gJ_D, true_and, and_true, false_and, and_false, if_true, if_false, false_implies, true_implies, not_true_eq_false, not_false_eq_true, bI_0, bI_1, Nat.reduceEqDiff, eq_self, nMax, nMin]; rfl, ((((a6.skip (by decide)).skip (by decide)).skip (by decide)).skip (by decide)).skip (by decide), ((((a7.skip (by decide)).push).skip (by decide)).skip (by decide)).skip (by decide), ((((a8.skip (by decide)).skip (by decide)).push).skip (by decide)).skip (by decide), ((((a9.skip (by decide)).skip (by decide)).skip (by decide)).push).skip (by decide)⟩
  · have hb := isLt_b hlt
    have hf : ligF T x = some f := by
      unfold ligF
      rw [hx, inx_nI (by omega), if_neg (by omega)]
      exact if_pos (Or.inl hlt)
    subst hx
    rw [hf] at eO
    have no0 : (isLt a = false ∨ ∀ w, inx y 41 = some w → w = 0) → P (gsI μ 1 9 1) (.inl (some (.int 0))) := by
      intro q
      refine no 0 ?_
      rw [eO]
      cases hy : inx y 41 with
      | none => rfl
      | some w =>
        refine if_neg (fun z => ?_)
        rcases q with q | q
        · rw [q] at z; exact absurd z.1 (by decide)
        · have := q w hy
          omega
    refine s_155 (by omega) ⟨_, rfl, ?_⟩
    rw [bI_0]
    refine ⟨fun q => s_161 ⟨_, rfl, no0 (Or.inl q)⟩, fun q => ?_⟩
    rw [Bool.not_eq_false] at q
    refine s_153c (lo := 1) (hi := 40) (by decide) (by decide) (fun z => ⟨_, rfl, fun z => absurd rfl z, fun _ => s_161 ⟨_, rfl, no0 (Or.inr (fun w hw => by have := z w hw; omega))⟩⟩) (fun w w1 w2 hy hi => ⟨_, rfl, fun _ => ?_, fun z => absurd z i10⟩)
    have hi : inx y 41 = some w := hi
    rw [hi] at eO
    dsimp only at eO
    rw [if_pos ⟨q, by omega⟩] at eO
    have hrl := tRl_lt (lf := T.lf) (ls := T.ls) hl f a
    refine s_167 hl h8 hT.2.2.2.2.2.2.1 hT.2.2.2.2.2.2.2.1 (fun j hj => by
      rcases hk.lf j hj with z | z
      · have := isLt_b z; omega
      · omega) (fun j hj => by have := isLt_b (hk.ls j hj); omega) (by omega) (by omega) ⟨_, rfl, fun c => s_161 ⟨_, rfl, no 1 ?_⟩, fun c => ?_⟩
    · rw [eO]
      refine if_neg (fun z => c ?_)
      rw [z.2]
      rfl
    · have hr0 : tRl T.lf T.ls T.ln f a = 0 := by
        by_cases z : tRl T.lf T.ls T.ln f a = 0
        · exact z
        · unfold nZ at c
          rw [if_neg z] at c
          exact absurd c (nI_nm1 (by omega))
      by_cases hlt : T.ln = 20
      · rw [if_neg (fun z => by omega)] at eO
        simp (disch := first | omega | decide) only [h8, hlt, nE_l, nE_r, nE_n, nLe_l, nLe_r, nLe_n, nLt_l, nLt_r, nLt_n, nA_l, nA_r, nI_add, nS_l, nS_n, nIn, nI_clamp, gI_I, gI_J, gI_D, gJ_J, gJ_I, gJ_D, true_and, and_true, false_and, and_false, if_true, if_false, false_implies, true_implies, not_true_eq_false, not_false_eq_true, bI_0, bI_1, Nat.reduceEqDiff, eq_self, nMax, nMin]
        exact s_161 ⟨_, rfl, no 1 eO⟩
      · rw [if_pos ⟨by omega, hr0⟩] at eO
        subst hy
        simp (disch := first | omega | decide) only [h8, hlt, nNc ha, show T.ln < 20 by omega, nE_l, nE_r, nE_n, nLe_l, nLe_r, nLe_n, nLt_l, nLt_r, nLt_n, nA_l, nA_r, nI_add, nS_l, nS_n, nIn, nI_clamp, gI_I, gI_J, gI_D, gJ_J, gJ_I, gJ_D, true_and, and_true, false_and, and_false, if_true, if_false, false_implies, true_implies, not_true_eq_false, not_false_eq_true, bI_0, bI_1, Nat.reduceEqDiff, eq_self, nMax, nMin]
        refine h _ _ ((((((gSm.rf _ _).m (by decide)).m (by decide)).m (by decide)).m (by decide)).m (by decide)) ?_ (by unfold ligA; rw [eO]; simp (disch := first | omega | decide) only [nE_l, nE_r, nE_n, nLe_l, nLe_r, nLe_n, nLt_l, nLt_r, nLt_n, nA_l, nA_r, nI_add, nS_l, nS_n, nIn, nI_clamp, gI_I, gI_J, gI_D, gJ_J, gJ_I, gJ_D, true_and, and_true, false_and, and_false, if_true, if_false, false_implies, true_implies, not_true_eq_false, not_false_eq_true, bI_0, bI_1, Nat.reduceEqDiff, eq_self, nMax, nMin]; rfl) (fun v hv => by unfold ligA at hv; rw [eO] at hv; cases hv; rw [show 200 + (T.ln + 1) - 1 = 200 + T.ln by omega])
        unfold ligT
        rw [eO]
        obtain ⟨a1, a2, a3, a4, a5, a6, a7, a8, a9⟩ := hT
        exact ⟨by simp (disch := first | omega | decide) only [a1, nE_l, nE_r, nE_n, nLe_l, nLe_r, nLe_n, nLt_l, nLt_r, nLt_n, nA_l, nA_r, nI_add, nS_l, nS_n, nIn, nI_clamp, gI_I, gI_J, gI_D, gJ_J, gJ_I, gJ_D, true_and, and_true, false_and, and_false, if_true, if_false, false_implies, true_implies, not_true_eq_false, not_false_eq_true, bI_0, bI_1, Nat.reduceEqDiff, eq_self, nMax, nMin]; rfl, ((((a2.skip (by decide)).skip (by decide)).skip (by decide)).skip (by decide)).skip (by decide), by simp (disch := first | omega | decide) only [a3, nE_l, nE_r, nE_n, nLe_l, nLe_r, nLe_n, nLt_l, nLt_r, nLt_n, nA_l, nA_r, nI_add, nS_l, nS_n, nIn, nI_clamp, gI_I, gI_J, gI_D, gJ_J, gJ_I, gJ_D, true_and, and_true, false_and, and_false, if_true, if_false, false_implies, true_implies, not_true_eq_false, not_false_eq_true, bI_0, bI_1, Nat.reduceEqDiff, eq_self, nMax, nMin]; rfl, by simp (disch := first | omega | decide) only [a4, nE_l, nE_r, nE_n, nLe_l, nLe_r, nLe_n, nLt_l, nLt_r, nLt_n, nA_l, nA_r, nI_add, nS_l, nS_n, nIn, nI_clamp, gI_I, gI_J, gI_D, gJ_J, gJ_I, gJ_D, true_and, and_true, false_and, and_false, if_true, if_false, false_implies, true_implies, not_true_eq_false, not_false_eq_true, bI_0, bI_1, Nat.reduceEqDiff, eq_self, nMax, nMin]; rfl, by simp (disch := first | omega | decide) only [nE_l, nE_r, nE_n, nLe_l, nLe_r, nLe_n, nLt_l, nLt_r, nLt_n, nA_l, nA_r, nI_add, nS_l, nS_n, nIn, nI_clamp, gI_I, gI_J, gI_D, gJ_J, gJ_I, gJ_D, true_and, and_true, false_and, and_false, if_true, if_false, false_implies, true_implies, not_true_eq_false, not_false_eq_true, bI_0, bI_1, Nat.reduceEqDiff, eq_self, nMax, nMin]; rfl, ((((a6.skip (by decide)).skip (by decide)).skip (by decide)).skip (by decide)).skip (by decide), ((((a7.skip (by decide)).push).skip (by decide)).skip (by decide)).skip (by decide), ((((a8.skip (by decide)).skip (by decide)).push).skip (by decide)).skip (by decide), ((((a9.skip (by decide)).skip (by decide)).skip (by decide)).push).skip (by decide)⟩
theorem m_169 {T : gS} {μ : gMu} {P : gMu → gRes → Prop} (hT : mTx T μ) (h : ∀ μ', gSm mAll μ μ' → mTx T μ' → P μ' (.inl (some (.int (nI T.n))))) : gCl' 169 [.ref 1] μ P := by
  refine vc_169 ?_
  rw [hT.1]
  exact h _ ((gSm.rf _ _).m (by decide)) (hT.f9 0)
theorem m_170 {T : gS} {x : Int32} {μ : gMu} {P : gMu → gRes → Prop} (hk : gOk T) (hT : mTx T μ) (h : ∀ μ' w, gSm mAll μ μ' → mTx T μ' → gI μ' 1 9 = nI (cdA [2] (chaA T x)) → (∀ v, chaA T x = .inr v → w = v) → P μ' (.inl (some (.int w)))) : gCl' 170 [.ref 1, .int x] μ P := by
  have l10 : ¬ (1 : Int32) ≤ 0 := by decide
  have hn := hk.n
  have eA : chaA T x = (match inx x T.n with | none => .inl 2 | some j => .inr (nI (T.c j))) := rfl
  refine vc_170 (s_153i (n := T.n) (by omega) (by rw [hT.1]) (fun e => ⟨_, rfl, ?_⟩) (fun j hj hx e => ⟨_, rfl, ?_⟩))
  · rw [e] at eA
    exact ⟨fun _ => ⟨fun z => absurd z l10, fun _ => ⟨nCc (a := 32) (by decide), h _ _ ((gSm.rf _ _).m (by decide)) (hT.f9 1) (by rw [eA]; simp (disch := first | omega | decide) only [nE_l, nE_r, nE_n, nLe_l, nLe_r, nLe_n, nLt_l, nLt_r, nLt_n, nA_l, nA_r, nI_add, nS_l, nS_n, nIn, nI_clamp, gI_I, gI_J, gI_D, gJ_J, gJ_I, gJ_D, true_and, and_true, false_and, and_false, if_true, if_false, false_implies, true_implies, not_true_eq_false, not_false_eq_true, bI_0, bI_1, Nat.reduceEqDiff, eq_self, nMax, nMin]; rfl) (fun v hv => by rw [eA] at hv; cases hv)⟩⟩, fun z => absurd rfl z⟩
  · rw [e] at eA
    dsimp only at eA
    have hc := hk.c_lt hj
    have g := hT.2.1 j hj
    subst hx
    refine ⟨fun z => absurd z (by decide), fun _ => ⟨fun _ => ?_, fun z => absurd (by decide) z⟩⟩
    simp (disch := first | omega | decide) only [g, show j < 50 by omega, nE_l, nE_r, nE_n, nLe_l, nLe_r, nLe_n, nLt_l, nLt_r, nLt_n, nA_l, nA_r, nI_add, nS_l, nS_n, nIn, nI_clamp, gI_I, gI_J, gI_D, gJ_J, gJ_I, gJ_D, true_and, and_true, false_and, and_false, if_true, if_false, false_implies, true_implies, not_true_eq_false, not_false_eq_true, bI_0, bI_1, Nat.reduceEqDiff, eq_self, nMax, nMin]
    exact ⟨nCc (by omega), h _ _ ((gSm.rf _ _).m (by decide)) (hT.f9 0) (by rw [eA]; simp (disch := first | omega | decide) only [nE_l, nE_r, nE_n, nLe_l, nLe_r, nLe_n, nLt_l, nLt_r, nLt_n, nA_l, nA_r, nI_add, nS_l, nS_n, nIn, nI_clamp, gI_I, gI_J, gI_D, gJ_J, gJ_I, gJ_D, true_and, and_true, false_and, and_false, if_true, if_false, false_implies, true_implies, not_true_eq_false, not_false_eq_true, bI_0, bI_1, Nat.reduceEqDiff, eq_self, nMax, nMin]; rfl) (fun v hv => by rw [eA] at hv; cases hv; rfl)⟩
theorem m_171 {T : gS} {μ : gMu} {P : gMu → gRes → Prop} (hk : gOk T) (hT : mTx T μ) (h : ∀ μ', gSm mAll μ μ' → mTx T μ' → P μ' (.inl (some (.int (nI (tD T.c T.n)))))) : gCl' 171 [.ref 1] μ P := by
  refine vc_171 (s_160 (hT.f9 0) hk (fun μ1 s1 q1 => ⟨rfl, ?_⟩))
  rw [q1.2.1]
  exact h μ1 (((gSm.rf _ _).m (by decide)).tr (s1.all (by decide))) ((hT.f9 0).m s1 (by decide) (by decide))
end
