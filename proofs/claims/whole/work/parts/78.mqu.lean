/-! THE MODEL: its answers, up to the lines -/
section
theorem tIx_at (c : Nat → Nat) : ∀ n j, j < n → isMk (c j) = false → tIx c n (tM c j) = j
  | 0, j, h, _ => absurd h (Nat.not_lt_zero j)
  | n + 1, j, h, hm => by
    have e2 : tIx c (n + 1) = if isMk (c n) = true then tIx c n else upN (tIx c n) (tM c n) n := rfl
    rw [e2]
    by_cases q : j = n
    · subst q
      rw [if_neg (by rw [hm]; decide), upN_eq]
    · have ih := tIx_at c n j (by omega) hm
      have hlt : tM c j < tM c n := by
        have := tM_mono c (show j + 1 ≤ n by omega)
        have e : tM c (j + 1) = if isMk (c j) = true then tM c j else tM c j + 1 := rfl
        rw [if_neg (by rw [hm]; decide)] at e
        omega
      split
      · exact ih
      · rw [upN_ne (by omega)]
        exact ih
theorem tIx_ne {c : Nat → Nat} {n j k : Nat} (hj : j < n) (hm : isMk (c j) = false) (hk : k < tM c j) : tIx c n k ≠ j := by
  intro e
  have h : k < tM c n := by
    have := tM_mono c (show j ≤ n by omega)
    omega
  -- the position of the k-th lies before j
  have lo : ∀ n k, k < tM c n → k = tM c (tIx c n k) := by
    intro n
    induction n with
    | zero => intro k h; exact absurd h (Nat.not_lt_zero k)
    | succ n ih =>
      intro k h
      have e1 : tM c (n + 1) = if isMk (c n) = true then tM c n else tM c n + 1 := rfl
      have e2 : tIx c (n + 1) = if isMk (c n) = true then tIx c n else upN (tIx c n) (tM c n) n := rfl
      rw [e1] at h
      rw [e2]
      by_cases q : isMk (c n) = true
      · rw [if_pos q] at h ⊢
        exact ih k h
      · rw [if_neg q] at h ⊢
        by_cases q2 : k = tM c n
        · rw [q2, upN_eq]
        · rw [upN_ne q2]
          exact ih k (by omega)
  have := lo n k h
  rw [e] at this
  omega
theorem s_180 {T : gS} {x : Int32} {μ : gMu} {P : gMu → gRes → Prop} (hk : gOk T) (hT : mTx T μ) (h1 : ∀ μ' e, slotA T x = .inl e → mF mA mC μ μ' → mTx T μ' → gI μ' 1 9 = nI (cdF [2, 3] e) → P μ' (.inl (some (.int (-1))))) (h2 : ∀ μ' n j, slotA T x = .inr n → n < tMn T → x = nI j → j < T.n → isMk (T.c j) = false → n = tM T.c j → mF mA mC μ μ' → mTx T μ' → mLay T μ' → gI μ' 1 9 = 0 → P μ' (.inl (some (.int (nI n))))) : gCl' 180 [.ref 1, .int x] μ P := by
  have l10 : ¬ (1 : Int32) ≤ 0 := by decide
  have l20 : ¬ (2 : Int32) ≤ 0 := by decide
  have hn := hk.n
  have hM := tMn_le hk
  have eA : slotA T x = (match inx x T.n with | none => .inl 2 | some j => if isMk (T.c j) = true then .inl 3 else .inr (tM T.c j)) := rfl
  refine vc_180 (s_153i (n := T.n) (by omega) (by rw [hT.1]) (fun e => ⟨_, rfl, ?_⟩) (fun j hj hx e => ⟨_, rfl, ?_⟩))
  · rw [e] at eA
    exact ⟨fun z => absurd rfl z, fun _ => ⟨fun z => absurd z l10, fun _ => h1 _ 2 eA ((mF.rf mA mC _).f 9 _ (by decide)) (hT.f9 1) (by simp (disch := first | omega | decide) only [nE_l, nE_r, nE_n, nLe_l, nLe_r, nLe_n, nLt_l, nLt_r, nLt_n, nA_l, nA_r, nI_add, nS_l, nS_n, nIn, nI_clamp, gI_I, gI_J, gI_D, gJ_J, gJ_I, gJ_D, true_and, and_true, false_and, and_false, if_true, if_false, false_implies, true_implies, not_true_eq_false, not_false_eq_true, bI_0, bI_1, Nat.reduceEqDiff, eq_self, nMax, nMin]; rfl)⟩⟩
  · rw [e] at eA
    dsimp only at eA
    have hc := hk.c_lt hj
    have g := hT.2.1 j hj
    subst hx
    refine ⟨fun _ => ?_, fun z => absurd z (by decide)⟩
    simp (disch := first | omega | decide) only [g, show j < 50 by omega, nE_l, nE_r, nE_n, nLe_l, nLe_r, nLe_n, nLt_l, nLt_r, nLt_n, nA_l, nA_r, nI_add, nS_l, nS_n, nIn, nI_clamp, gI_I, gI_J, gI_D, gJ_J, gJ_I, gJ_D, true_and, and_true, false_and, and_false, if_true, if_false, false_implies, true_implies, not_true_eq_false, not_false_eq_true, bI_0, bI_1, Nat.reduceEqDiff, eq_self, nMax, nMin]
    refine s_158 (by omega) ⟨_, rfl, ?_⟩
    rw [bI_0]
    refine ⟨fun q => ⟨fun _ => ?_, fun z => absurd (by decide) z⟩, fun q => ⟨fun z => absurd z l20, fun _ => ?_⟩⟩
    · rw [if_neg (by rw [q]; decide)] at eA
      refine s_179 hk (hT.f9 0) (fun μ5 s5 L5 => ⟨rfl, ?_⟩)
      have hsl := tM_slot hj q
      have loop : ∀ r k, k + r = tM T.c j → gWp none 180 (54, [some (.ref 1), some (.int (nI j)), some (.int (nI k))], [], μ5) 0 P := by
        intro r
        induction r with
        | zero =>
          intro k hr
          have e : k = tM T.c j := by omega
          have g1 := L5.ix k (by omega)
          rw [e, tIx_at T.c T.n j hj q, ← e] at g1
          refine vc_180_54 ?_
          simp (disch := first | omega | decide) only [g1, show k < 50 by omega, nE_l, nE_r, nE_n, nLe_l, nLe_r, nLe_n, nLt_l, nLt_r, nLt_n, nA_l, nA_r, nI_add, nS_l, nS_n, nIn, nI_clamp, gI_I, gI_J, gI_D, gJ_J, gJ_I, gJ_D, true_and, and_true, false_and, and_false, if_true, if_false, false_implies, true_implies, not_true_eq_false, not_false_eq_true, bI_0, bI_1, Nat.reduceEqDiff, eq_self, nMax, nMin]
          rw [e]
          exact h2 _ (tM T.c j) j eA hsl rfl hj q rfl (((mF.rf mA mC _).f 9 _ (by decide)).tr (s5.up (by decide) (by decide))) ((hT.f9 0).m s5 (by decide) (by decide)) L5 (by rw [s5.F (by decide)]; simp (disch := first | omega | decide) only [nE_l, nE_r, nE_n, nLe_l, nLe_r, nLe_n, nLt_l, nLt_r, nLt_n, nA_l, nA_r, nI_add, nS_l, nS_n, nIn, nI_clamp, gI_I, gI_J, gI_D, gJ_J, gJ_I, gJ_D, true_and, and_true, false_and, and_false, if_true, if_false, false_implies, true_implies, not_true_eq_false, not_false_eq_true, bI_0, bI_1, Nat.reduceEqDiff, eq_self, nMax, nMin])
        | succ r ih =>
          intro k hr
          have g1 := L5.ix k (by omega)
          have g2 := tIx_ne hj q (show k < tM T.c j by omega)
          have g3 := (tIx_ok T.c T.n k (by show k < tMn T; omega)).1
          refine vc_180_54 ?_
          simp (disch := first | omega | decide) only [g1, g2, show k < 50 by omega, nE_l, nE_r, nE_n, nLe_l, nLe_r, nLe_n, nLt_l, nLt_r, nLt_n, nA_l, nA_r, nI_add, nS_l, nS_n, nIn, nI_clamp, gI_I, gI_J, gI_D, gJ_J, gJ_I, gJ_D, true_and, and_true, false_and, and_false, if_true, if_false, false_implies, true_implies, not_true_eq_false, not_false_eq_true, bI_0, bI_1, Nat.reduceEqDiff, eq_self, nMax, nMin]
          exact ih (k + 1) (by omega)
      exact loop (tM T.c j) 0 (by omega)
    · rw [Bool.not_eq_false] at q
      rw [if_pos q] at eA
      exact h1 _ 3 eA ((mF.rf mA mC _).f 9 _ (by decide)) (hT.f9 2) (by simp (disch := first | omega | decide) only [nE_l, nE_r, nE_n, nLe_l, nLe_r, nLe_n, nLt_l, nLt_r, nLt_n, nA_l, nA_r, nI_add, nS_l, nS_n, nIn, nI_clamp, gI_I, gI_J, gI_D, gJ_J, gJ_I, gJ_D, true_and, and_true, false_and, and_false, if_true, if_false, false_implies, true_implies, not_true_eq_false, not_false_eq_true, bI_0, bI_1, Nat.reduceEqDiff, eq_self, nMax, nMin]; rfl)
theorem ixG_slot {T : gS} {n : Nat} (hn : n < tMn T) (hl : lgT T n = 0) : ixG T (gc T n) = tIx T.c T.n n := by
  unfold ixG
  rw [gs_of hn hl]
theorem tIx_b {T : gS} {n : Nat} (hn : n < tMn T) : tIx T.c T.n n < T.n := (tIx_ok T.c T.n n hn).1
theorem m_181 {T : gS} {x : Int32} {μ : gMu} {P : gMu → gRes → Prop} (hk : gOk T) (hT : mTx T μ) (h : ∀ μ' w, gSm mAll μ μ' → mTx T μ' → gI μ' 1 9 = nI (cdA [2, 3] (embA T x)) → (∀ v, embA T x = .inr v → w = v) → P μ' (.inl (some (.int w)))) : gCl' 181 [.ref 1, .int x] μ P := by
  refine vc_181 (s_180 hk hT (fun μ' e he f t c => ⟨_, rfl, fun z => absurd rfl z, fun _ => h _ _ (f.all (by decide)) t (by unfold embA; rw [he]; exact c) (fun v hv => by unfold embA at hv; rw [he] at hv; cases hv)⟩) (fun μ' n j he hlt hx hj hm hnj f t L c => ⟨_, rfl, fun _ => ?_, fun z => absurd z (nI_nm1 (by have := tMn_le hk; omega))⟩))
  have hM := tMn_le hk
  have g : gAr μ' 51 (tMn T) (tEmT T) := L.em
  have g := g n hlt
  try dsimp only at g
  simp (disch := first | omega | decide) only [g, show n < 50 by omega, nE_l, nE_r, nE_n, nLe_l, nLe_r, nLe_n, nLt_l, nLt_r, nLt_n, nA_l, nA_r, nI_add, nS_l, nS_n, nIn, nI_clamp, gI_I, gI_J, gI_D, gJ_J, gJ_I, gJ_D, true_and, and_true, false_and, and_false, if_true, if_false, false_implies, true_implies, not_true_eq_false, not_false_eq_true, bI_0, bI_1, Nat.reduceEqDiff, eq_self, nMax, nMin]
  exact h _ _ (f.all (by decide)) t (by unfold embA; rw [he]; exact c) (fun v hv => by unfold embA at hv; rw [he] at hv; cases hv; rfl)
theorem m_182 {T : gS} {x : Int32} {μ : gMu} {P : gMu → gRes → Prop} (hk : gOk T) (hT : mTx T μ) (h : ∀ μ' w, gSm mAll μ μ' → mTx T μ' → gI μ' 1 9 = nI (cdA [2, 3] (levA T x)) → (∀ v, levA T x = .inr v → w = v) → P μ' (.inl (some (.int w)))) : gCl' 182 [.ref 1, .int x] μ P := by
  refine vc_182 (s_180 hk hT (fun μ' e he f t c => ⟨_, rfl, fun z => absurd rfl z, fun _ => h _ _ (f.all (by decide)) t (by unfold levA; rw [he]; exact c) (fun v hv => by unfold levA at hv; rw [he] at hv; cases hv)⟩) (fun μ' n j he hlt hx hj hm hnj f t L c => ⟨_, rfl, fun _ => ?_, fun z => absurd z (nI_nm1 (by have := tMn_le hk; omega))⟩))
  have hM := tMn_le hk
  have g : gAr μ' 52 (tMn T) (tLv T) := L.lv
  have g := g n hlt
  try dsimp only at g
  simp (disch := first | omega | decide) only [g, show n < 50 by omega, nE_l, nE_r, nE_n, nLe_l, nLe_r, nLe_n, nLt_l, nLt_r, nLt_n, nA_l, nA_r, nI_add, nS_l, nS_n, nIn, nI_clamp, gI_I, gI_J, gI_D, gJ_J, gJ_I, gJ_D, true_and, and_true, false_and, and_false, if_true, if_false, false_implies, true_implies, not_true_eq_false, not_false_eq_true, bI_0, bI_1, Nat.reduceEqDiff, eq_self, nMax, nMin]
  exact h _ _ (f.all (by decide)) t (by unfold levA; rw [he]; exact c) (fun v hv => by unfold levA at hv; rw [he] at hv; cases hv; rfl)
theorem m_183 {T : gS} {x : Int32} {μ : gMu} {P : gMu → gRes → Prop} (hk : gOk T) (hT : mTx T μ) (h : ∀ μ' w, gSm mAll μ μ' → mTx T μ' → gI μ' 1 9 = nI (cdA [2, 3] (scrA T x)) → (∀ v, scrA T x = .inr v → w = v) → P μ' (.inl (some (.int w)))) : gCl' 183 [.ref 1, .int x] μ P := by
  refine vc_183 (s_180 hk hT (fun μ' e he f t c => ⟨_, rfl, fun z => absurd rfl z, fun _ => h _ _ (f.all (by decide)) t (by unfold scrA; rw [he]; exact c) (fun v hv => by unfold scrA at hv; rw [he] at hv; cases hv)⟩) (fun μ' n j he hlt hx hj hm hnj f t L c => ⟨_, rfl, fun _ => ?_, fun z => absurd z (nI_nm1 (by have := tMn_le hk; omega))⟩))
  have hM := tMn_le hk
  have g : gAr μ' 53 (tMn T) (tScT T) := L.2.2.1
  have g := g n hlt
  try dsimp only at g
  simp (disch := first | omega | decide) only [g, show n < 50 by omega, nE_l, nE_r, nE_n, nLe_l, nLe_r, nLe_n, nLt_l, nLt_r, nLt_n, nA_l, nA_r, nI_add, nS_l, nS_n, nIn, nI_clamp, gI_I, gI_J, gI_D, gJ_J, gJ_I, gJ_D, true_and, and_true, false_and, and_false, if_true, if_false, false_implies, true_implies, not_true_eq_false, not_false_eq_true, bI_0, bI_1, Nat.reduceEqDiff, eq_self, nMax, nMin]
  exact h _ _ (f.all (by decide)) t (by unfold scrA; rw [he]; exact c) (fun v hv => by unfold scrA at hv; rw [he] at hv; cases hv; rfl)
theorem m_184 {T : gS} {x : Int32} {μ : gMu} {P : gMu → gRes → Prop} (hk : gOk T) (hT : mTx T μ) (h : ∀ μ' w, gSm mAll μ μ' → mTx T μ' → gI μ' 1 9 = nI (cdA [2, 3] (runA T x)) → (∀ v, runA T x = .inr v → w = v) → P μ' (.inl (some (.int w)))) : gCl' 184 [.ref 1, .int x] μ P := by
  refine vc_184 (s_180 hk hT (fun μ' e he f t c => ⟨_, rfl, fun z => absurd rfl z, fun _ => h _ _ (f.all (by decide)) t (by unfold runA; rw [he]; exact c) (fun v hv => by unfold runA at hv; rw [he] at hv; cases hv)⟩) (fun μ' n j he hlt hx hj hm hnj f t L c => ⟨_, rfl, fun _ => ?_, fun z => absurd z (nI_nm1 (by have := tMn_le hk; omega))⟩))
  have hM := tMn_le hk
  have g : gAr μ' 54 (tMn T) (tRnT T) := L.2.2.2.1
  have g := g n hlt
  try dsimp only at g
  simp (disch := first | omega | decide) only [g, show n < 50 by omega, nE_l, nE_r, nE_n, nLe_l, nLe_r, nLe_n, nLt_l, nLt_r, nLt_n, nA_l, nA_r, nI_add, nS_l, nS_n, nIn, nI_clamp, gI_I, gI_J, gI_D, gJ_J, gJ_I, gJ_D, true_and, and_true, false_and, and_false, if_true, if_false, false_implies, true_implies, not_true_eq_false, not_false_eq_true, bI_0, bI_1, Nat.reduceEqDiff, eq_self, nMax, nMin]
  exact h _ _ (f.all (by decide)) t (by unfold runA; rw [he]; exact c) (fun v hv => by unfold runA at hv; rw [he] at hv; cases hv; rfl)
theorem m_186 {T : gS} {x : Int32} {μ : gMu} {P : gMu → gRes → Prop} (hk : gOk T) (hT : mTx T μ) (h : ∀ μ' w, gSm mAll μ μ' → mTx T μ' → gI μ' 1 9 = nI (cdA [2, 3] (glyA T x)) → (∀ v, glyA T x = .inr v → w = v) → P μ' (.inl (some (.int w)))) : gCl' 186 [.ref 1, .int x] μ P := by
  refine vc_186 (s_180 hk hT (fun μ' e he f t c => ⟨_, rfl, fun z => absurd rfl z, fun _ => h _ _ (f.all (by decide)) t (by unfold glyA; rw [he]; exact c) (fun v hv => by unfold glyA at hv; rw [he] at hv; cases hv)⟩) (fun μ' n j he hlt hx hj hm hnj f t L c => ⟨_, rfl, fun _ => ?_, fun z => absurd z (nI_nm1 (by have := tMn_le hk; omega))⟩))
  have hM := tMn_le hk
  have g : gAr μ' 55 (tMn T) (fun n => tNu T (tOw T n)) := L.gl
  have g := g n hlt
  try dsimp only at g
  simp (disch := first | omega | decide) only [g, show n < 50 by omega, nE_l, nE_r, nE_n, nLe_l, nLe_r, nLe_n, nLt_l, nLt_r, nLt_n, nA_l, nA_r, nI_add, nS_l, nS_n, nIn, nI_clamp, gI_I, gI_J, gI_D, gJ_J, gJ_I, gJ_D, true_and, and_true, false_and, and_false, if_true, if_false, false_implies, true_implies, not_true_eq_false, not_false_eq_true, bI_0, bI_1, Nat.reduceEqDiff, eq_self, nMax, nMin]
  exact h _ _ (f.all (by decide)) t (by unfold glyA; rw [he]; exact c) (fun v hv => by unfold glyA at hv; rw [he] at hv; cases hv; rfl)
theorem m_187 {T : gS} {x : Int32} {μ : gMu} {P : gMu → gRes → Prop} (hk : gOk T) (hT : mTx T μ) (h : ∀ μ' w, gSm mAll μ μ' → mTx T μ' → gI μ' 1 9 = nI (cdA [2, 3] (gstA T x)) → (∀ v, gstA T x = .inr v → w = v) → P μ' (.inl (some (.int w)))) : gCl' 187 [.ref 1, .int x] μ P := by
  refine vc_187 (s_180 hk hT (fun μ' e he f t c => ⟨_, rfl, fun z => absurd rfl z, fun _ => h _ _ (f.all (by decide)) t (by unfold gstA; rw [he]; exact c) (fun v hv => by unfold gstA at hv; rw [he] at hv; cases hv)⟩) (fun μ' n j he hlt hx hj hm hnj f t L c => ⟨_, rfl, fun _ => ?_, fun z => absurd z (nI_nm1 (by have := tMn_le hk; omega))⟩))
  have hM := tMn_le hk
  have g := L.gs n hlt
  dsimp only at g
  have b := (gsT_ok (tOw_lt hlt)).1
  have g2 := L.ix _ b
  simp (disch := first | omega | decide) only [g, g2, show n < 50 by omega, show tGsT T (tOw T n) < 50 by omega, nE_l, nE_r, nE_n, nLe_l, nLe_r, nLe_n, nLt_l, nLt_r, nLt_n, nA_l, nA_r, nI_add, nS_l, nS_n, nIn, nI_clamp, gI_I, gI_J, gI_D, gJ_J, gJ_I, gJ_D, true_and, and_true, false_and, and_false, if_true, if_false, false_implies, true_implies, not_true_eq_false, not_false_eq_true, bI_0, bI_1, Nat.reduceEqDiff, eq_self, nMax, nMin]
  exact h _ _ (f.all (by decide)) t (by unfold gstA; rw [he]; exact c) (fun v hv => by unfold gstA at hv; rw [he] at hv; cases hv; rfl)
theorem m_185 {T : gS} {μ : gMu} {P : gMu → gRes → Prop} (hk : gOk T) (hT : mTx T μ) (h : ∀ μ', gSm mAll μ μ' → mTx T μ' → P μ' (.inl (some (.int (nI (tRn (tScT T) (tLv T) (tMn T))))))) : gCl' 185 [.ref 1] μ P := by
  refine vc_185 (s_179 hk (hT.f9 0) (fun μ1 s1 L1 => ⟨rfl, ?_⟩))
  rw [L1.2.2.2.2.1]
  exact h μ1 (((gSm.rf _ _).m (by decide)).tr (s1.all (by decide))) ((hT.f9 0).m s1 (by decide) (by decide))
theorem m_188 {T : gS} {μ : gMu} {P : gMu → gRes → Prop} (hk : gOk T) (hT : mTx T μ) (h : ∀ μ', gSm mAll μ μ' → mTx T μ' → P μ' (.inl (some (.int (nI (tGT T)))))) : gCl' 188 [.ref 1] μ P := by
  refine vc_188 (s_179 hk (hT.f9 0) (fun μ1 s1 L1 => ⟨rfl, ?_⟩))
  have hM := tMn_le hk
  have h1 := L1.M
  have hp := h μ1 (((gSm.rf _ _).m (by decide)).tr (s1.all (by decide))) ((hT.f9 0).m s1 (by decide) (by decide))
  have loop : ∀ r k, k + r = tMn T → gWp none 188 (13, [some (.ref 1), some (.int (nI (gc T k))), some (.int (nI k))], [], μ1) 0 P := by
    intro r
    induction r with
    | zero =>
      intro k hr
      have e : k = tMn T := by omega
      refine vc_188_13 ?_
      rw [h1, e, gc_M]
      simp (disch := first | omega | decide) only [Nat.le_refl, nE_l, nE_r, nE_n, nLe_l, nLe_r, nLe_n, nLt_l, nLt_r, nLt_n, nA_l, nA_r, nI_add, nS_l, nS_n, nIn, nI_clamp, gI_I, gI_J, gI_D, gJ_J, gJ_I, gJ_D, true_and, and_true, false_and, and_false, if_true, if_false, false_implies, true_implies, not_true_eq_false, not_false_eq_true, bI_0, bI_1, Nat.reduceEqDiff, eq_self, nMax, nMin]
      exact hp
    | succ r ih =>
      intro k hr
      have hlt : k < tMn T := by omega
      have g := L1.gs k hlt
      dsimp only at g
      have b := (gsT_ok (tOw_lt hlt)).1
      have hsl := gsT_slot hlt
      have z := ih (k + 1) (by omega)
      refine vc_188_13 ?_
      rw [h1]
      simp (disch := first | omega | decide) only [g, show ¬ tMn T ≤ k by omega, show k < 50 by omega, nE_l, nE_r, nE_n, nLe_l, nLe_r, nLe_n, nLt_l, nLt_r, nLt_n, nA_l, nA_r, nI_add, nS_l, nS_n, nIn, nI_clamp, gI_I, gI_J, gI_D, gJ_J, gJ_I, gJ_D, true_and, and_true, false_and, and_false, if_true, if_false, false_implies, true_implies, not_true_eq_false, not_false_eq_true, bI_0, bI_1, Nat.reduceEqDiff, eq_self, nMax, nMin]
      refine ⟨fun q => ?_, fun q => ?_⟩
      · rw [gc_old (fun e => q (hsl.mpr e))] at z
        rw [Nat.add_zero]
        exact z
      · rw [gc_new (hsl.mp q)] at z
        exact z
  exact loop (tMn T) 0 (by omega)
theorem m_189 {T : gS} {μ : gMu} {P : gMu → gRes → Prop} (hk : gOk T) (hT : mTx T μ) (h : ∀ μ', gSm mAll μ μ' → mTx T μ' → P μ' (.inl (some (.int (nI ((tXx T).P - 1)))))) : gCl' 189 [.ref 1] μ P := by
  refine vc_189 (s_179 hk (hT.f9 0) (fun μ1 s1 L1 => ⟨rfl, ?_⟩))
  have hX := tXx_ok hk
  have g4 := hX.P
  have g5 := hX.G
  have hp := h μ1 (((gSm.rf _ _).m (by decide)).tr (s1.all (by decide))) ((hT.f9 0).m s1 (by decide) (by decide))
  rw [L1.P]
  by_cases c : (tXx T).P = 0
  · rw [c] at hp ⊢
    exact hp
  · rw [nS_1 (show 1 ≤ (tXx T).P by omega)]
    by_cases c2 : 0 < (tXx T).P - 1
    · rw [if_pos (by rw [show ((0 : Int32) < nI ((tXx T).P - 1)) = (0 < (tXx T).P - 1) from nLt_r (n := 0) (by omega) (by decide)]; exact c2)]
      exact hp
    · rw [show (tXx T).P - 1 = 0 by omega] at hp ⊢
      exact hp
theorem m_190 {T : gS} {x : Int32} {μ : gMu} {P : gMu → gRes → Prop} (hk : gOk T) (hT : mTx T μ) (h : ∀ μ' w, gSm mAll μ μ' → mTx T μ' → gI μ' 1 9 = nI (cdA [2] (brkA T x)) → (∀ v, brkA T x = .inr v → w = v) → P μ' (.inl (some (.int w)))) : gCl' 190 [.ref 1, .int x] μ P := by
  have l10 : ¬ (1 : Int32) ≤ 0 := by decide
  have hX := tXx_ok hk
  have g4 := hX.P
  have g5 := hX.G
  have hM := tMn_le hk
  refine vc_190 (s_179 hk hT (fun μ1 s1 L1 => ⟨rfl, ?_⟩))
  have t1 := hT.m s1 (by decide) (by decide)
  have f1 := s1.all (show ∀ a ∈ mA, a ∈ mAll by decide)
  have eA : brkA T x = (match inx x ((tXx T).P - 1) with | none => .inl 2 | some r => .inr (nI (ixG T ((tXx T).pp (r + 1))))) := rfl
  have bad : inx x ((tXx T).P - 1) = none → P (gsI μ1 1 9 1) (.inl (some (.int 0))) := by
    intro e
    rw [e] at eA
    exact h _ _ (f1.m (by decide)) (t1.f9 1) (by rw [eA]; simp (disch := first | omega | decide) only [nE_l, nE_r, nE_n, nLe_l, nLe_r, nLe_n, nLt_l, nLt_r, nLt_n, nA_l, nA_r, nI_add, nS_l, nS_n, nIn, nI_clamp, gI_I, gI_J, gI_D, gJ_J, gJ_I, gJ_D, true_and, and_true, false_and, and_false, if_true, if_false, false_implies, true_implies, not_true_eq_false, not_false_eq_true, bI_0, bI_1, Nat.reduceEqDiff, eq_self, nMax, nMin]; rfl) (fun v hv => by rw [eA] at hv; cases hv)
  rw [L1.P]
  by_cases c : (tXx T).P = 0
  · have e : inx x ((tXx T).P - 1) = none := by
      rw [c]
      rcases inx_cases x (n := 0) (by decide) with ⟨e, -⟩ | ⟨j, hj, -⟩
      · exact e
      · exact absurd hj (Nat.not_lt_zero j)
    have fin : ∀ μ', μ' = μ1 → (∃ v3, (Sum.inl (some (Value.int 0)) : gRes) = .inl (some (.int v3)) ∧ True) := fun _ _ => ⟨_, rfl, trivial⟩
    rw [c]
    refine vc_153 ⟨fun _ => ⟨_, rfl, fun _ => ⟨fun z => absurd z l10, fun _ => bad e⟩, fun z => absurd rfl z⟩, fun q => ⟨fun _ => ⟨_, rfl, fun _ => ⟨fun z => absurd z l10, fun _ => bad e⟩, fun z => absurd rfl z⟩, fun z => ?_⟩⟩
    exfalso
    apply z
    obtain ⟨j, hj, rfl⟩ := nI_of q
    exact lt_n (by decide) hj
  · refine s_153i (n := (tXx T).P - 1) (by omega) ?_ (fun e => ⟨_, rfl, fun _ => ⟨fun z => absurd z l10, fun _ => bad e⟩, fun z => absurd rfl z⟩) (fun j hj hx e => ⟨_, rfl, fun z => absurd z (by decide), fun _ => ⟨fun _ => ?_, fun z => absurd (by decide) z⟩⟩)
    · by_cases c1 : (tXx T).P = 1
      · rw [c1]
        rfl
      · rw [show nI (tXx T).P - (2 : Int32) = nI ((tXx T).P - 2) from nS_l (n := 2) (by show 2 ≤ (tXx T).P; omega), nS_1 (show 1 ≤ (tXx T).P - 1 by omega), show (tXx T).P - 2 = (tXx T).P - 1 - 1 by omega]
    · rw [e] at eA
      dsimp only at eA
      subst hx
      have pm := mPt_ok hk (show j + 1 ≤ (tXx T).P by omega)
      have pm2 := pm.2.2 (by omega)
      have g1 := L1.pt (j + 1) (by omega)
      have g2 := L1.ix _ pm2.1
      simp (disch := first | omega | decide) only [g1, g2, show j + 1 < 51 by omega, show mPtT T (j + 1) < 50 by omega, nE_l, nE_r, nE_n, nLe_l, nLe_r, nLe_n, nLt_l, nLt_r, nLt_n, nA_l, nA_r, nI_add, nS_l, nS_n, nIn, nI_clamp, gI_I, gI_J, gI_D, gJ_J, gJ_I, gJ_D, true_and, and_true, false_and, and_false, if_true, if_false, false_implies, true_implies, not_true_eq_false, not_false_eq_true, bI_0, bI_1, Nat.reduceEqDiff, eq_self, nMax, nMin]
      refine h _ _ (f1.m (by decide)) (t1.f9 0) (by rw [eA]; simp (disch := first | omega | decide) only [nE_l, nE_r, nE_n, nLe_l, nLe_r, nLe_n, nLt_l, nLt_r, nLt_n, nA_l, nA_r, nI_add, nS_l, nS_n, nIn, nI_clamp, gI_I, gI_J, gI_D, gJ_J, gJ_I, gJ_D, true_and, and_true, false_and, and_false, if_true, if_false, false_implies, true_implies, not_true_eq_false, not_false_eq_true, bI_0, bI_1, Nat.reduceEqDiff, eq_self, nMax, nMin]; rfl) (fun v hv => ?_)
      rw [eA, ← pm.2.1, ixG_slot pm2.1 pm2.2] at hv
      cases hv
      rfl
theorem m_198 {T : gS} {μ : gMu} {P : gMu → gRes → Prop} (hk : gOk T) (hT : mTx T μ) (h : ∀ μ', gSm mAll μ μ' → mTx T μ' → P μ' (.inl (some (.int (twdA T))))) : gCl' 198 [.ref 1] μ P := by
  have hX := tXx_ok hk
  have g4 := hX.P
  have g5 := hX.G
  have hM := tMn_le hk
  refine vc_198 (s_179 hk (hT.f9 0) (fun μ1 s1 L1 => ⟨rfl, ?_⟩))
  have t1 := (hT.f9 0).m s1 (by decide) (by decide)
  have hp := h μ1 (((gSm.rf _ _).m (by decide)).tr (s1.all (by decide))) t1
  refine s_197 hk t1 L1 ⟨_, rfl, fun q => s_197 hk t1 L1 ⟨_, rfl, ?_⟩, fun q => ?_⟩
  · have hne : tTwT T ≠ 0 := fun e => q (by rw [e]; rfl)
    have tb := tTwT_bad hne
    have pm := mPt_ok hk (show tTwT T - 1 ≤ (tXx T).P by omega)
    have pm2 := pm.2.2 (by omega)
    have g1 := L1.pt (tTwT T - 1) (by omega)
    have g2 := L1.ix _ pm2.1
    unfold twdA at hp
    rw [if_neg hne, ← pm.2.1, ixG_slot pm2.1 pm2.2] at hp
    rw [show nO (tTwT T) = nI (tTwT T - 1) from if_neg hne]
    simp (disch := first | omega | decide) only [g1, g2, show tTwT T - 1 < 51 by omega, show mPtT T (tTwT T - 1) < 50 by omega, nE_l, nE_r, nE_n, nLe_l, nLe_r, nLe_n, nLt_l, nLt_r, nLt_n, nA_l, nA_r, nI_add, nS_l, nS_n, nIn, nI_clamp, gI_I, gI_J, gI_D, gJ_J, gJ_I, gJ_D, true_and, and_true, false_and, and_false, if_true, if_false, false_implies, true_implies, not_true_eq_false, not_false_eq_true, bI_0, bI_1, Nat.reduceEqDiff, eq_self, nMax, nMin]
    exact hp
  · have h0 : tTwT T = 0 := by
      by_cases z : tTwT T = 0
      · exact z
      · have := tTw_lt hk
        rw [show nO (tTwT T) = nI (tTwT T - 1) from if_neg z] at q
        exact absurd q (nI_nm1 (by omega))
    unfold twdA at hp
    rw [if_pos h0] at hp
    exact hp
theorem m_199 {T : gS} {μ : gMu} {P : gMu → gRes → Prop} (hk : gOk T) (hT : mTx T μ) (h : ∀ μ', gSm mAll μ μ' → mTx T μ' → P μ' (.inl (some (.int (excA T))))) : gCl' 199 [.ref 1] μ P := by
  have hX := tXx_ok hk
  have g4 := hX.P
  have g5 := hX.G
  have hM := tMn_le hk
  refine vc_199 (s_179 hk (hT.f9 0) (fun μ1 s1 L1 => ⟨rfl, ?_⟩))
  have t1 := (hT.f9 0).m s1 (by decide) (by decide)
  have hp := h μ1 (((gSm.rf _ _).m (by decide)).tr (s1.all (by decide))) t1
  refine s_197 hk t1 L1 ⟨_, rfl, fun q => s_197 hk t1 L1 ⟨_, rfl, s_197 hk t1 L1 ⟨_, rfl, ?_⟩⟩, fun q => ?_⟩
  · have hne : tTwT T ≠ 0 := fun e => q (by rw [e]; rfl)
    have tb := tTwT_bad hne
    have e1 : nO (tTwT T) = nI (tTwT T - 1) := if_neg hne
    rw [e1]
    have e2 : nI (tTwT T - 1) + 1 = nI (tTwT T) := by rw [nI_1, show tTwT T - 1 + 1 = tTwT T by omega]
    rw [e2]
    refine s_194 hk t1 L1 tb.2.1 tb.2.2 ⟨_, rfl, ?_⟩
    unfold excA at hp
    rw [if_neg hne] at hp
    have hb := tb.1
    unfold xQ at hb
    rw [decide_eq_false_iff_not] at hb
    have hW : (tXx T).W = T.W := rfl
    rw [hW] at hb
    rw [t1.2.2.1, nS_n (show T.W ≤ xN (tXx T) (tTwT T - 1) (tTwT T) by omega)]
    exact hp
  · have h0 : tTwT T = 0 := by
      by_cases z : tTwT T = 0
      · exact z
      · have := tTw_lt hk
        rw [show nO (tTwT T) = nI (tTwT T - 1) from if_neg z] at q
        exact absurd q (nI_nm1 (by omega))
    unfold excA at hp
    rw [if_pos h0] at hp
    exact hp
theorem s_204 {T : gS} {e : Nat} {μ : gMu} {P : gMu → gRes → Prop} (hk : gOk T) (hT : mTx T μ) (he : 0 < e ∧ e < 1000) (h0 : ∀ μ', tTwT T = 0 → mF mA mC μ μ' → mTx T μ' → mLay T μ' → mLn T μ' → gI μ' 1 9 = 0 → P μ' (.inl (some (.int 0)))) (h1 : ∀ μ', tTwT T ≠ 0 → mF mA mC μ μ' → mTx T μ' → gI μ' 1 9 = nI e → P μ' (.inl (some (.int 1)))) : gCl' 204 [.ref 1, .int (nI e)] μ P := by
  have hX := tXx_ok hk
  have g4 := hX.P
  have g5 := hX.G
  refine vc_204 (s_179 hk hT (fun μ1 s1 L1 => ⟨rfl, ?_⟩))
  have t1 := hT.m s1 (by decide) (by decide)
  have f1 : mF mA mC μ μ1 := s1.up (by decide) (by decide)
  refine s_197 hk t1 L1 ⟨_, rfl, fun q => ?_, fun q => ?_⟩
  · have hne : tTwT T ≠ 0 := fun e => q (by rw [e]; rfl)
    simp (disch := first | omega | decide) only [show ¬ e = 0 by omega, show ¬ e ≤ 0 by omega, nE_l, nE_r, nE_n, nLe_l, nLe_r, nLe_n, nLt_l, nLt_r, nLt_n, nA_l, nA_r, nI_add, nS_l, nS_n, nIn, nI_clamp, gI_I, gI_J, gI_D, gJ_J, gJ_I, gJ_D, true_and, and_true, false_and, and_false, if_true, if_false, false_implies, true_implies, not_true_eq_false, not_false_eq_true, bI_0, bI_1, Nat.reduceEqDiff, eq_self, nMax, nMin]
    exact h1 _ hne (f1.f 9 _ (by decide)) (t1.f9 _) (by simp (disch := first | omega | decide) only [nE_l, nE_r, nE_n, nLe_l, nLe_r, nLe_n, nLt_l, nLt_r, nLt_n, nA_l, nA_r, nI_add, nS_l, nS_n, nIn, nI_clamp, gI_I, gI_J, gI_D, gJ_J, gJ_I, gJ_D, true_and, and_true, false_and, and_false, if_true, if_false, false_implies, true_implies, not_true_eq_false, not_false_eq_true, bI_0, bI_1, Nat.reduceEqDiff, eq_self, nMax, nMin])
  · have hz : tTwT T = 0 := by
      by_cases z : tTwT T = 0
      · exact z
      · have := tTw_lt hk
        rw [show nO (tTwT T) = nI (tTwT T - 1) from if_neg z] at q
        exact absurd q (nI_nm1 (by omega))
    refine ⟨fun z => absurd rfl z, fun _ => ?_⟩
    have s9 : mF [] [9] μ1 (gsI μ1 1 9 0) := (mF.rf _ _ _).f 9 0 (by decide)
    have L9 := L1.gf s9 (by decide) (by decide) (by decide) (by decide) (by decide)
    refine s_203 hk (t1.f9 0) L9 hz (fun μ5 s5 n5 => ⟨rfl, ?_⟩)
    have h9 : gI μ5 1 9 = 0 := by
      rw [s5.F (by decide)]
      simp (disch := first | omega | decide) only [nE_l, nE_r, nE_n, nLe_l, nLe_r, nLe_n, nLt_l, nLt_r, nLt_n, nA_l, nA_r, nI_add, nS_l, nS_n, nIn, nI_clamp, gI_I, gI_J, gI_D, gJ_J, gJ_I, gJ_D, true_and, and_true, false_and, and_false, if_true, if_false, false_implies, true_implies, not_true_eq_false, not_false_eq_true, bI_0, bI_1, Nat.reduceEqDiff, eq_self, nMax, nMin]
    rw [h9]
    refine ⟨fun _ => h0 μ5 hz ((f1.f 9 _ (by decide)).tr (s5.up (by decide) (by decide))) ((t1.f9 0).m s5 (by decide) (by decide)) (L9.gf s5 (by decide) (by decide) (by decide) (by decide) (by decide)) n5 h9, fun z => absurd (by decide) z⟩
theorem tCn_b {T : gS} (h : tBlT T = true) : tCn T = 0 := by
  unfold tCn tAc
  rw [h]
  simp
theorem s_205 {T : gS} {μ : gMu} {P : gMu → gRes → Prop} (hk : gOk T) (hL : mLay T μ) (hn : mLn T μ) (h0 : tTwT T = 0) (h : P μ (.inl (some (.int (nI (tCn T)))))) : gCl' 205 [.ref 1] μ P := by
  have hX := tXx_ok hk
  have g4 := hX.P
  have g5 := hX.G
  refine vc_205 (s_191 hk hL ⟨_, rfl, ?_⟩)
  rw [bI_0]
  refine ⟨fun q => ?_, fun q => ?_⟩
  · rw [tCn_b (by simpa using q)] at h
    exact h
  · have hb : tBlT T = false := by simpa using q
    have hac : tAc T = true := by unfold tAc; rw [h0, hb]; rfl
    have g := (hn hb).2.1 0 (by omega)
    rw [sb_cl0, g]
    rw [tCn_k hac] at h
    exact ⟨vp_in_nI (n := 0) (by decide) (by decide), h⟩
theorem m_206 {T : gS} {μ : gMu} {P : gMu → gRes → Prop} (hk : gOk T) (hT : mTx T μ) (h : ∀ μ' w, gSm mAll μ μ' → mTx T μ' → gI μ' 1 9 = nI (cdA [1] (linA T)) → (∀ v, linA T = .inr v → w = v) → P μ' (.inl (some (.int w)))) : gCl' 206 [.ref 1] μ P := by
  have eA : linA T = if tTwT T = 0 then .inr (nI (tCn T)) else .inl 1 := rfl
  refine vc_206 (s_204 (e := 1) hk hT (by decide) (fun μ' hz f t L n c => ⟨_, rfl, fun _ => s_205 hk L n hz ⟨_, rfl, ?_⟩, fun z => absurd rfl z⟩) (fun μ' hz f t c => ⟨_, rfl, fun z => absurd z (by decide), fun _ => ?_⟩))
  · rw [if_pos hz] at eA
    exact h _ _ (f.all (by decide)) t (by rw [eA, c]; rfl) (fun v hv => by rw [eA] at hv; cases hv; rfl)
  · rw [if_neg hz] at eA
    exact h _ _ (f.all (by decide)) t (by rw [eA, c]; rfl) (fun v hv => by rw [eA] at hv; cases hv)
theorem m_207 {T : gS} {μ : gMu} {P : gMu → gRes → Prop} (hk : gOk T) (hT : mTx T μ) (h : ∀ μ' w, gSm mAll μ μ' → mTx T μ' → gI μ' 1 9 = nI (cdA [1] (ffiA T)) → (∀ v, ffiA T = .inr v → w = v) → P μ' (.inl (some (.int w)))) : gCl' 207 [.ref 1] μ P := by
  have hX := tXx_ok hk
  have g4 := hX.P
  have g5 := hX.G
  have eA : ffiA T = if tTwT T = 0 then .inr (nI (if tBlT T = true then 0 else (fF (tXx T) (tXx T).P).1)) else .inl 1 := rfl
  refine vc_207 (s_204 (e := 1) hk hT (by decide) (fun μ' hz f t L n c => ⟨_, rfl, fun z => absurd rfl z, fun _ => s_191 hk L ⟨_, rfl, ?_⟩⟩) (fun μ' hz f t c => ⟨_, rfl, fun _ => ?_, fun z => absurd z (by decide)⟩))
  · rw [if_pos hz] at eA
    rw [bI_0]
    refine ⟨fun q => ?_, fun q => ?_⟩
    · have hb : ¬ tBlT T = true := by simpa using q
      rw [if_neg hb] at eA
      have hp : P μ' (.inl (some (.int (nI (fF (tXx T) (tXx T).P).1)))) := h _ _ (f.all (by decide)) t (by rw [eA, c]; rfl) (fun v hv => by rw [eA] at hv; cases hv; rfl)
      have hW : (tXx T).W = T.W := rfl
      have g3 := hk.W
      have inner : ∀ r k i c0, k + r = (tXx T).P → i < k → fF (tXx T) k = (c0 + 1, i) → gWp none 207 (33, [some (.ref 1), some (.int (nI c0)), some (.int (nI i)), some (.int (nI k))], [], μ') 0 P := by
        intro r
        have last : ∀ c0 y, (fF (tXx T) (tXx T).P).1 = c0 → gWp none 207 (21, [some (.ref 1), some (.int (nI c0)), some (.int (nI (tXx T).P)), y], [], μ') 0 P := by
          intro c0 y e
          refine gWp_up (vc_207_21 ?_) (by (repeat (first | exact gUp.nil | refine gUp.cs ?_ | refine gUp.cn ?_)))
          rw [L.P]
          simp (disch := first | omega | decide) only [Nat.le_refl, nE_l, nE_r, nE_n, nLe_l, nLe_r, nLe_n, nLt_l, nLt_r, nLt_n, nA_l, nA_r, nI_add, nS_l, nS_n, nIn, nI_clamp, gI_I, gI_J, gI_D, gJ_J, gJ_I, gJ_D, true_and, and_true, false_and, and_false, if_true, if_false, false_implies, true_implies, not_true_eq_false, not_false_eq_true, bI_0, bI_1, Nat.reduceEqDiff, eq_self, nMax, nMin]
          rw [← e]
          exact hp
        induction r with
        | zero =>
          intro k i c0 hr hik hf
          have e : k = (tXx T).P := by omega
          refine vc_207_33 ?_
          rw [L.P, e]
          simp (disch := first | omega | decide) only [Nat.le_refl, nE_l, nE_r, nE_n, nLe_l, nLe_r, nLe_n, nLt_l, nLt_r, nLt_n, nA_l, nA_r, nI_add, nS_l, nS_n, nIn, nI_clamp, gI_I, gI_J, gI_D, gJ_J, gJ_I, gJ_D, true_and, and_true, false_and, and_false, if_true, if_false, false_implies, true_implies, not_true_eq_false, not_false_eq_true, bI_0, bI_1, Nat.reduceEqDiff, eq_self, nMax, nMin]
          rw [e] at hf
          exact last (c0 + 1) _ (by rw [hf])
        | succ r ih =>
          intro k i c0 hr hik hf
          have hc : (fF (tXx T) k).1 ≤ k := (fF_le (tXx T) k).1
          rw [hf] at hc
          have hc : c0 + 1 ≤ k := hc
          have e : fF (tXx T) (k + 1) = if (fF (tXx T) k).1 = 0 ∨ (tXx T).W < xN (tXx T) (fF (tXx T) k).2 (k + 1) then ((fF (tXx T) k).1 + 1, k) else fF (tXx T) k := rfl
          rw [hf] at e
          dsimp only at e
          have hxN := xN_le hX (show i < k + 1 by omega) (show k + 1 ≤ (tXx T).P by omega)
          refine vc_207_33 ?_
          rw [L.P]
          simp (disch := first | omega | decide) only [show ¬ (tXx T).P ≤ k by omega, nE_l, nE_r, nE_n, nLe_l, nLe_r, nLe_n, nLt_l, nLt_r, nLt_n, nA_l, nA_r, nI_add, nS_l, nS_n, nIn, nI_clamp, gI_I, gI_J, gI_D, gJ_J, gJ_I, gJ_D, true_and, and_true, false_and, and_false, if_true, if_false, false_implies, true_implies, not_true_eq_false, not_false_eq_true, bI_0, bI_1, Nat.reduceEqDiff, eq_self, nMax, nMin]
          refine s_194 hk t L (by omega) (by omega) ⟨_, rfl, ?_⟩
          rw [t.2.2.1]
          rw [hW] at e
          simp (disch := first | omega | decide) only [nE_l, nE_r, nE_n, nLe_l, nLe_r, nLe_n, nLt_l, nLt_r, nLt_n, nA_l, nA_r, nI_add, nS_l, nS_n, nIn, nI_clamp, gI_I, gI_J, gI_D, gJ_J, gJ_I, gJ_D, true_and, and_true, false_and, and_false, if_true, if_false, false_implies, true_implies, not_true_eq_false, not_false_eq_true, bI_0, bI_1, Nat.reduceEqDiff, eq_self, nMax, nMin]
          refine ⟨fun q => ?_, fun q => ?_⟩
          · rw [if_pos (Or.inr q)] at e
            refine gWp_up (vc_207_21 ?_) (by (repeat (first | exact gUp.nil | refine gUp.cs ?_ | refine gUp.cn ?_)))
            rw [L.P]
            simp (disch := first | omega | decide) only [show ¬ (tXx T).P ≤ k by omega, nE_l, nE_r, nE_n, nLe_l, nLe_r, nLe_n, nLt_l, nLt_r, nLt_n, nA_l, nA_r, nI_add, nS_l, nS_n, nIn, nI_clamp, gI_I, gI_J, gI_D, gJ_J, gJ_I, gJ_D, true_and, and_true, false_and, and_false, if_true, if_false, false_implies, true_implies, not_true_eq_false, not_false_eq_true, bI_0, bI_1, Nat.reduceEqDiff, eq_self, nMax, nMin]
            exact ih (k + 1) k (c0 + 1) (by omega) (by omega) e
          · rw [if_neg (fun z => by omega)] at e
            exact ih (k + 1) i c0 (by omega) (by omega) e
      by_cases hP : (tXx T).P = 0
      · refine vc_207_21 ?_
        rw [L.P, hP]
        rw [hP] at hp
        exact ⟨fun _ => hp, fun z => absurd (by decide) z⟩
      · refine vc_207_21 ?_
        rw [L.P]
        simp (disch := first | omega | decide) only [show ¬ (tXx T).P ≤ 0 by omega, nE_l, nE_r, nE_n, nLe_l, nLe_r, nLe_n, nLt_l, nLt_r, nLt_n, nA_l, nA_r, nI_add, nS_l, nS_n, nIn, nI_clamp, gI_I, gI_J, gI_D, gJ_J, gJ_I, gJ_D, true_and, and_true, false_and, and_false, if_true, if_false, false_implies, true_implies, not_true_eq_false, not_false_eq_true, bI_0, bI_1, Nat.reduceEqDiff, eq_self, nMax, nMin]
        exact inner ((tXx T).P - 1) 1 0 0 (by omega) (by omega) rfl
    · have hb : tBlT T = true := by simpa using q
      rw [if_pos hb] at eA
      exact h _ _ (f.all (by decide)) t (by rw [eA, c]; rfl) (fun v hv => by rw [eA] at hv; cases hv; rfl)
  · rw [if_neg hz] at eA
    exact h _ _ (f.all (by decide)) t (by rw [eA, c]; rfl) (fun v hv => by rw [eA] at hv; cases hv)
theorem s_209 {T : gS} {x : Int32} {μ : gMu} {P : gMu → gRes → Prop} (hk : gOk T) (hT : mTx T μ) (h1 : ∀ μ' e, lnoA T x = .inl e → mF mA mC μ μ' → mTx T μ' → gI μ' 1 9 = nI (cdF [1, 2] e) → P μ' (.inl (some (.int (-1))))) (h2 : ∀ μ' l, lnoA T x = .inr l → l < tCn T → mF mA mC μ μ' → mTx T μ' → mLay T μ' → mLn T μ' → gI μ' 1 9 = 0 → P μ' (.inl (some (.int (nI (tLs T l)))))) : gCl' 209 [.ref 1, .int x] μ P := by
  have l20 : ¬ (2 : Int32) ≤ 0 := by decide
  have hX := tXx_ok hk
  have g4 := hX.P
  have g5 := hX.G
  have hC := (tLs_ok (T := T)).1
  have eA : lnoA T x = if tTwT T = 0 then (match inx x (tCn T) with | none => .inl 2 | some l => .inr l) else .inl 1 := rfl
  refine vc_209 (s_204 (e := 1) hk hT (by decide) (fun μ' hz f t L n c => ⟨_, rfl, fun _ => s_205 hk L n hz ⟨_, rfl, ?_⟩, fun z => absurd rfl z⟩) (fun μ' hz f t c => ⟨_, rfl, fun z => absurd z (by decide), fun _ => ?_⟩))
  · rw [if_pos hz] at eA
    refine s_153i (n := tCn T) (by omega) rfl (fun e => ⟨_, rfl, fun _ => ⟨fun z => absurd z l20, fun _ => ?_⟩, fun z => absurd rfl z⟩) (fun l hl hx e => ⟨_, rfl, fun z => absurd z (by decide), fun _ => ⟨fun _ => ?_, fun z => absurd (by decide) z⟩⟩)
    · rw [e] at eA
      exact h1 _ 2 eA (f.f 9 _ (by decide)) (t.f9 2) (by simp (disch := first | omega | decide) only [nE_l, nE_r, nE_n, nLe_l, nLe_r, nLe_n, nLt_l, nLt_r, nLt_n, nA_l, nA_r, nI_add, nS_l, nS_n, nIn, nI_clamp, gI_I, gI_J, gI_D, gJ_J, gJ_I, gJ_D, true_and, and_true, false_and, and_false, if_true, if_false, false_implies, true_implies, not_true_eq_false, not_false_eq_true, bI_0, bI_1, Nat.reduceEqDiff, eq_self, nMax, nMin]; rfl)
    · rw [e] at eA
      subst hx
      have s9 : mF [] [9] μ' (gsI μ' 1 9 0) := (mF.rf _ _ _).f 9 0 (by decide)
      have n9 := n.gf s9 (by decide) (by decide) (by decide)
      exact s_208 hk n9 (by omega) (tCn_act (by omega)) ⟨_, rfl, h2 _ l eA hl (f.f 9 _ (by decide)) (t.f9 0) (L.gf s9 (by decide) (by decide) (by decide) (by decide) (by decide)) n9 (by simp (disch := first | omega | decide) only [nE_l, nE_r, nE_n, nLe_l, nLe_r, nLe_n, nLt_l, nLt_r, nLt_n, nA_l, nA_r, nI_add, nS_l, nS_n, nIn, nI_clamp, gI_I, gI_J, gI_D, gJ_J, gJ_I, gJ_D, true_and, and_true, false_and, and_false, if_true, if_false, false_implies, true_implies, not_true_eq_false, not_false_eq_true, bI_0, bI_1, Nat.reduceEqDiff, eq_self, nMax, nMin])⟩
  · rw [if_neg hz] at eA
    exact h1 _ 1 eA f t (by rw [c]; rfl)
end
