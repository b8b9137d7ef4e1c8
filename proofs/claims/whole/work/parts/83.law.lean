/-! THE LAW'S CASES (written by wip/whole/pure/gen83.py) -/
section
theorem gSm.cw {T : gS} {μ μ' : gMu} (h : mTx T μ) (hs : gSm cW μ μ') : mTx T μ' := by
  obtain ⟨h1, h2, h3, h4, h5, h6, h7, h8, h9⟩ := h
  exact ⟨by rw [hs.I (by decide), h1], h2.sm hs (by decide), by rw [hs.I (by decide), h3], by rw [hs.I (by decide), h4], by rw [hs.I (by decide), h5], h6.sm hs (by decide), h7.sm hs (by decide), h8.sm hs (by decide), h9.sm hs (by decide)⟩
theorem cI.mm {T : gS} {μ μ' : gMu} (h : cI T μ) (hs : gSm mAll μ μ') : cI T μ' := h.sm hs (by decide)
theorem gSm.CW {μ μ' : gMu} (h : gSm cC μ μ') : gSm cW μ μ' := h.up (by decide)
theorem cdF_b : ∀ (l : List Nat) (e : Nat), cdF l e ≤ l.length ∧ (l ≠ [] → cdF l e ≠ 0)
  | [], _ => ⟨Nat.le_refl 0, fun h => absurd rfl h⟩
  | a :: t, e => by
    have ih := cdF_b t e
    have e1 : cdF (a :: t) e = if e = a then 1 else 1 + cdF t e := rfl
    have e2 : (a :: t).length = t.length + 1 := rfl
    rw [e1, e2]
    split
    · exact ⟨by omega, fun _ => by omega⟩
    · exact ⟨by omega, fun _ => by omega⟩
theorem cd0 {β : Type} {l : List Nat} {A : Nat ⊕ β} (hl : l ≠ []) (hn : l.length < 1000) (z : nI (cdA l A) = 0) : ∃ v, A = .inr v := by
  cases A with
  | inr v => exact ⟨v, rfl⟩
  | inl e =>
    exfalso
    have b := cdF_b l e
    have z : nI (cdF l e) = 0 := z
    rw [show (nI (cdF l e) = 0) = (cdF l e = 0) from nE_l (n := 0) (by omega) (by decide)] at z
    exact b.2 hl z
theorem chr (x : Int32) : ∃ a, a < 65536 ∧ (x.toUInt32 % 65536).toInt32 = nI a := ⟨x.toBitVec.toNat % 65536, Nat.mod_lt _ (by decide), pk_char x⟩
def lNx (SL : Nat) (xs : Nat → Int32) (i cnt : Nat) : Prop := ∀ T μ c y6 y7 y8, gOk T → cI T μ → mTx T μ → c ≤ 5 → gWp (some (SL, xs)) 230 (2023, [some (.ref 1000), some (.ref 0), some (.ref 1), some (.ref 64), some (.ref 65), some (.int (nI i)), y6, y7, y8], [], μ) (cnt + c) (fun _ r => r = .inl (some (.int 1)))
theorem lg_self (x : Int64) : lg_cmp x x = 0 := (lg_cmp_eq x x).mpr rfl
theorem mea_n {T : gS} {v : UInt64} (hk : gOk T) (h : meaA T = .inr v) : vf_n64 v := by
  unfold meaA at h
  split at h
  · split at h
    · cases h
    · rename_i q
      cases h
      have a := (tXx_ok hk).G
      have b := (tXx_ok hk).P
      have c := (tLs_ok (T := T)).1
      have d := bdS_le T (tCn T)
      exact mean_ok (by omega) (by omega) (by omega)
  · cases h

theorem c_212 {SL i cnt : Nat} {xs : Nat → Int32} {T : gS} {μ : gMu} (hS : i + 4 ≤ SL) (hL : SL ≤ 2048) (hc : cnt + 5 ≤ 2560) (hk : gOk T) (hI : cI T μ) (hT : mTx T μ) (hn : lNx SL xs i cnt) : gWp (some (SL, xs)) 230 (212, [some (.ref 1000), some (.ref 0), some (.ref 1), some (.ref 64), some (.ref 65), some (.int (nI i)), none, none, none], [], μ) cnt (fun _ r => r = .inl (some (.int 1))) := by
  refine vl_212 hc ?_
  try simp (disch := first | omega | decide) only [show i + 1 < SL by omega, show i + 2 < SL by omega, show i + 3 < SL by omega, show SL < 2 ^ 31 by omega, show i < 2 ^ 31 by omega, nE_l, nE_r, nE_n, nLe_l, nLe_r, nLe_n, nLt_l, nLt_r, nLt_n, nA_l, nA_r, nI_add, nS_l, nS_n, nIn, nI_clamp, gI_I, gI_J, gI_D, gJ_J, gJ_I, gJ_D, true_and, and_true, false_and, and_false, if_true, if_false, false_implies, true_implies, not_true_eq_false, not_false_eq_true, bI_0, bI_1, Nat.reduceEqDiff, eq_self, nMax, nMin]
  obtain ⟨a, ha, ea⟩ := chr (xs (i + 1))
  try rw [ea]
  refine w_75 hk ha hI (fun μ1 f1 I1 v1 => Or.inl ⟨_, rfl, ?_⟩)
  try simp (disch := first | omega | decide) only [show i + 1 < SL by omega, show i + 2 < SL by omega, show i + 3 < SL by omega, show SL < 2 ^ 31 by omega, show i < 2 ^ 31 by omega, nE_l, nE_r, nE_n, nLe_l, nLe_r, nLe_n, nLt_l, nLt_r, nLt_n, nA_l, nA_r, nI_add, nS_l, nS_n, nIn, nI_clamp, gI_I, gI_J, gI_D, gJ_J, gJ_I, gJ_D, true_and, and_true, false_and, and_false, if_true, if_false, false_implies, true_implies, not_true_eq_false, not_false_eq_true, bI_0, bI_1, Nat.reduceEqDiff, eq_self, nMax, nMin]
  try rw [ea]
  refine m_162 hk (gSm.cw hT f1) ha (fun μ3 w3 f3 T3 c3 v3 => ⟨_, rfl, s_152 c3 ⟨_, rfl, ?_⟩⟩)
  have N : ∀ y6 y7 y8, gWp (some (SL, xs)) 230 (2023, [some (.ref 1000), some (.ref 0), some (.ref 1), some (.ref 64), some (.ref 65), some (.int (nI i)), y6, y7, y8], [], μ3) (cnt + 1) (fun _ r => r = .inl (some (.int 1))) := fun y6 y7 y8 => hn (addT T a) μ3 1 y6 y7 y8 (addT_ok hk) (I1.mm f3) T3 (by decide)
  refine ⟨fun _ => ⟨fun _ => N _ _ _, fun z => ⟨vp_in_nI (n := 0) (by decide) (by decide), fun _ => N _ _ _, fun z2 => ?_⟩⟩, fun z => absurd rfl z⟩
  exfalso
  obtain ⟨v, hv⟩ := cd0 (by decide) (by decide) z
  apply z2
  rw [sb_cl0, f3.J (by decide), v1 v hv, v3 v hv]
  exact lg_self _
theorem c_270 {SL i cnt : Nat} {xs : Nat → Int32} {T : gS} {μ : gMu} (hS : i + 4 ≤ SL) (hL : SL ≤ 2048) (hc : cnt + 5 ≤ 2560) (hk : gOk T) (hI : cI T μ) (hT : mTx T μ) (hn : lNx SL xs i cnt) : gWp (some (SL, xs)) 230 (270, [some (.ref 1000), some (.ref 0), some (.ref 1), some (.ref 64), some (.ref 65), some (.int (nI i)), none, none, none], [], μ) cnt (fun _ r => r = .inl (some (.int 1))) := by
  refine vl_270 hc ?_
  refine w_78 hk hI (fun μ1 f1 I1 v1 => Or.inl ⟨_, rfl, ?_⟩)
  refine m_163 hk (gSm.cw hT f1) (fun μ3 w3 f3 T3 c3 v3 => ⟨_, rfl, s_152 c3 ⟨_, rfl, ?_⟩⟩)
  have N : ∀ y6 y7 y8, gWp (some (SL, xs)) 230 (2023, [some (.ref 1000), some (.ref 0), some (.ref 1), some (.ref 64), some (.ref 65), some (.int (nI i)), y6, y7, y8], [], μ3) (cnt + 1) (fun _ r => r = .inl (some (.int 1))) := fun y6 y7 y8 => hn (remT T) μ3 1 y6 y7 y8 (remT_ok hk) (I1.mm f3) T3 (by decide)
  refine ⟨fun _ => ⟨fun _ => N _ _ _, fun z => ⟨vp_in_nI (n := 0) (by decide) (by decide), fun _ => N _ _ _, fun z2 => ?_⟩⟩, fun z => absurd rfl z⟩
  exfalso
  obtain ⟨v, hv⟩ := cd0 (by decide) (by decide) z
  apply z2
  rw [sb_cl0, f3.J (by decide), v1 v hv, v3 v hv]
  exact lg_self _
theorem c_314 {SL i cnt : Nat} {xs : Nat → Int32} {T : gS} {μ : gMu} (hS : i + 4 ≤ SL) (hL : SL ≤ 2048) (hc : cnt + 5 ≤ 2560) (hk : gOk T) (hI : cI T μ) (hT : mTx T μ) (hn : lNx SL xs i cnt) : gWp (some (SL, xs)) 230 (314, [some (.ref 1000), some (.ref 0), some (.ref 1), some (.ref 64), some (.ref 65), some (.int (nI i)), none, none, none], [], μ) cnt (fun _ r => r = .inl (some (.int 1))) := by
  refine vl_314 hc ?_
  try simp (disch := first | omega | decide) only [show i + 1 < SL by omega, show i + 2 < SL by omega, show i + 3 < SL by omega, show SL < 2 ^ 31 by omega, show i < 2 ^ 31 by omega, nE_l, nE_r, nE_n, nLe_l, nLe_r, nLe_n, nLt_l, nLt_r, nLt_n, nA_l, nA_r, nI_add, nS_l, nS_n, nIn, nI_clamp, gI_I, gI_J, gI_D, gJ_J, gJ_I, gJ_D, true_and, and_true, false_and, and_false, if_true, if_false, false_implies, true_implies, not_true_eq_false, not_false_eq_true, bI_0, bI_1, Nat.reduceEqDiff, eq_self, nMax, nMin]
  obtain ⟨a, ha, ea⟩ := chr (xs (i + 1))
  try rw [ea]
  refine w_81 hk ha hI (fun μ1 f1 I1 v1 => Or.inl ⟨_, rfl, ?_⟩)
  try simp (disch := first | omega | decide) only [show i + 1 < SL by omega, show i + 2 < SL by omega, show i + 3 < SL by omega, show SL < 2 ^ 31 by omega, show i < 2 ^ 31 by omega, nE_l, nE_r, nE_n, nLe_l, nLe_r, nLe_n, nLt_l, nLt_r, nLt_n, nA_l, nA_r, nI_add, nS_l, nS_n, nIn, nI_clamp, gI_I, gI_J, gI_D, gJ_J, gJ_I, gJ_D, true_and, and_true, false_and, and_false, if_true, if_false, false_implies, true_implies, not_true_eq_false, not_false_eq_true, bI_0, bI_1, Nat.reduceEqDiff, eq_self, nMax, nMin]
  try rw [ea]
  refine m_164 hk (gSm.cw hT f1) ha (fun μ3 w3 f3 T3 c3 v3 => ⟨_, rfl, s_152 c3 ⟨_, rfl, ?_⟩⟩)
  have N : ∀ y6 y7 y8, gWp (some (SL, xs)) 230 (2023, [some (.ref 1000), some (.ref 0), some (.ref 1), some (.ref 64), some (.ref 65), some (.int (nI i)), y6, y7, y8], [], μ3) (cnt + 1) (fun _ r => r = .inl (some (.int 1))) := fun y6 y7 y8 => hn (swdT T a (xs (i + 2))) μ3 1 y6 y7 y8 (swdT_ok hk) (I1.mm f3) T3 (by decide)
  refine ⟨fun _ => ⟨fun _ => N _ _ _, fun z => ⟨vp_in_nI (n := 0) (by decide) (by decide), fun _ => N _ _ _, fun z2 => ?_⟩⟩, fun z => absurd rfl z⟩
  exfalso
  obtain ⟨v, hv⟩ := cd0 (by decide) (by decide) z
  apply z2
  rw [sb_cl0, f3.J (by decide), v1 v hv, v3 v hv]
  exact lg_self _
theorem c_384 {SL i cnt : Nat} {xs : Nat → Int32} {T : gS} {μ : gMu} (hS : i + 4 ≤ SL) (hL : SL ≤ 2048) (hc : cnt + 5 ≤ 2560) (hk : gOk T) (hI : cI T μ) (hT : mTx T μ) (hn : lNx SL xs i cnt) : gWp (some (SL, xs)) 230 (384, [some (.ref 1000), some (.ref 0), some (.ref 1), some (.ref 64), some (.ref 65), some (.int (nI i)), none, none, none], [], μ) cnt (fun _ r => r = .inl (some (.int 1))) := by
  refine vl_384 hc ?_
  try simp (disch := first | omega | decide) only [show i + 1 < SL by omega, show i + 2 < SL by omega, show i + 3 < SL by omega, show SL < 2 ^ 31 by omega, show i < 2 ^ 31 by omega, nE_l, nE_r, nE_n, nLe_l, nLe_r, nLe_n, nLt_l, nLt_r, nLt_n, nA_l, nA_r, nI_add, nS_l, nS_n, nIn, nI_clamp, gI_I, gI_J, gI_D, gJ_J, gJ_I, gJ_D, true_and, and_true, false_and, and_false, if_true, if_false, false_implies, true_implies, not_true_eq_false, not_false_eq_true, bI_0, bI_1, Nat.reduceEqDiff, eq_self, nMax, nMin]
  refine w_83 hk hI (fun μ1 f1 I1 v1 => Or.inl ⟨_, rfl, ?_⟩)
  try simp (disch := first | omega | decide) only [show i + 1 < SL by omega, show i + 2 < SL by omega, show i + 3 < SL by omega, show SL < 2 ^ 31 by omega, show i < 2 ^ 31 by omega, nE_l, nE_r, nE_n, nLe_l, nLe_r, nLe_n, nLt_l, nLt_r, nLt_n, nA_l, nA_r, nI_add, nS_l, nS_n, nIn, nI_clamp, gI_I, gI_J, gI_D, gJ_J, gJ_I, gJ_D, true_and, and_true, false_and, and_false, if_true, if_false, false_implies, true_implies, not_true_eq_false, not_false_eq_true, bI_0, bI_1, Nat.reduceEqDiff, eq_self, nMax, nMin]
  refine m_165 (gSm.cw hT f1) (fun μ3 w3 f3 T3 c3 v3 => ⟨_, rfl, s_152 c3 ⟨_, rfl, ?_⟩⟩)
  have N : ∀ y6 y7 y8, gWp (some (SL, xs)) 230 (2023, [some (.ref 1000), some (.ref 0), some (.ref 1), some (.ref 64), some (.ref 65), some (.int (nI i)), y6, y7, y8], [], μ3) (cnt + 1) (fun _ r => r = .inl (some (.int 1))) := fun y6 y7 y8 => hn (slnT T (xs (i + 1))) μ3 1 y6 y7 y8 (slnT_ok hk) (I1.mm f3) T3 (by decide)
  refine ⟨fun _ => ⟨fun _ => N _ _ _, fun z => ⟨vp_in_nI (n := 0) (by decide) (by decide), fun _ => N _ _ _, fun z2 => ?_⟩⟩, fun z => absurd rfl z⟩
  exfalso
  obtain ⟨v, hv⟩ := cd0 (by decide) (by decide) z
  apply z2
  rw [sb_cl0, f3.J (by decide), v1 v hv, v3 v hv]
  exact lg_self _
theorem c_481 {SL i cnt : Nat} {xs : Nat → Int32} {T : gS} {μ : gMu} (hS : i + 4 ≤ SL) (hL : SL ≤ 2048) (hc : cnt + 5 ≤ 2560) (hk : gOk T) (hI : cI T μ) (hT : mTx T μ) (hn : lNx SL xs i cnt) : gWp (some (SL, xs)) 230 (481, [some (.ref 1000), some (.ref 0), some (.ref 1), some (.ref 64), some (.ref 65), some (.int (nI i)), none, none, none], [], μ) cnt (fun _ r => r = .inl (some (.int 1))) := by
  refine vl_481 hc ?_
  try simp (disch := first | omega | decide) only [show i + 1 < SL by omega, show i + 2 < SL by omega, show i + 3 < SL by omega, show SL < 2 ^ 31 by omega, show i < 2 ^ 31 by omega, nE_l, nE_r, nE_n, nLe_l, nLe_r, nLe_n, nLt_l, nLt_r, nLt_n, nA_l, nA_r, nI_add, nS_l, nS_n, nIn, nI_clamp, gI_I, gI_J, gI_D, gJ_J, gJ_I, gJ_D, true_and, and_true, false_and, and_false, if_true, if_false, false_implies, true_implies, not_true_eq_false, not_false_eq_true, bI_0, bI_1, Nat.reduceEqDiff, eq_self, nMax, nMin]
  obtain ⟨a, ha, ea⟩ := chr (xs (i + 2))
  try rw [ea]
  refine w_87 hk ha hI (fun μ1 f1 I1 v1 => Or.inl ⟨_, rfl, ?_⟩)
  try simp (disch := first | omega | decide) only [show i + 1 < SL by omega, show i + 2 < SL by omega, show i + 3 < SL by omega, show SL < 2 ^ 31 by omega, show i < 2 ^ 31 by omega, nE_l, nE_r, nE_n, nLe_l, nLe_r, nLe_n, nLt_l, nLt_r, nLt_n, nA_l, nA_r, nI_add, nS_l, nS_n, nIn, nI_clamp, gI_I, gI_J, gI_D, gJ_J, gJ_I, gJ_D, true_and, and_true, false_and, and_false, if_true, if_false, false_implies, true_implies, not_true_eq_false, not_false_eq_true, bI_0, bI_1, Nat.reduceEqDiff, eq_self, nMax, nMin]
  try rw [ea]
  refine m_168 hk (gSm.cw hT f1) ha (fun μ3 w3 f3 T3 c3 v3 => ⟨_, rfl, s_152 c3 ⟨_, rfl, ?_⟩⟩)
  have N : ∀ y6 y7 y8, gWp (some (SL, xs)) 230 (2023, [some (.ref 1000), some (.ref 0), some (.ref 1), some (.ref 64), some (.ref 65), some (.int (nI i)), y6, y7, y8], [], μ3) (cnt + 1) (fun _ r => r = .inl (some (.int 1))) := fun y6 y7 y8 => hn (ligT T (xs (i + 1)) a (xs (i + 3))) μ3 1 y6 y7 y8 (ligT_ok hk) (I1.mm f3) T3 (by decide)
  refine ⟨fun _ => ⟨fun _ => N _ _ _, fun z => ⟨vp_in_nI (n := 0) (by decide) (by decide), fun _ => N _ _ _, fun z2 => ?_⟩⟩, fun z => absurd rfl z⟩
  exfalso
  obtain ⟨v, hv⟩ := cd0 (by decide) (by decide) z
  apply z2
  rw [sb_cl0, f3.J (by decide), v1 v hv, v3 v hv]
  exact lg_self _
theorem c_576 {SL i cnt : Nat} {xs : Nat → Int32} {T : gS} {μ : gMu} (hS : i + 4 ≤ SL) (hL : SL ≤ 2048) (hc : cnt + 5 ≤ 2560) (hk : gOk T) (hI : cI T μ) (hT : mTx T μ) (hn : lNx SL xs i cnt) : gWp (some (SL, xs)) 230 (576, [some (.ref 1000), some (.ref 0), some (.ref 1), some (.ref 64), some (.ref 65), some (.int (nI i)), none, none, none], [], μ) cnt (fun _ r => r = .inl (some (.int 1))) := by
  refine vl_576 hc ?_
  try simp (disch := first | omega | decide) only [show i + 1 < SL by omega, show i + 2 < SL by omega, show i + 3 < SL by omega, show SL < 2 ^ 31 by omega, show i < 2 ^ 31 by omega, nE_l, nE_r, nE_n, nLe_l, nLe_r, nLe_n, nLt_l, nLt_r, nLt_n, nA_l, nA_r, nI_add, nS_l, nS_n, nIn, nI_clamp, gI_I, gI_J, gI_D, gJ_J, gJ_I, gJ_D, true_and, and_true, false_and, and_false, if_true, if_false, false_implies, true_implies, not_true_eq_false, not_false_eq_true, bI_0, bI_1, Nat.reduceEqDiff, eq_self, nMax, nMin]
  refine w_90 hk hI (fun μ1 f1 I1 v1 => Or.inl ⟨_, rfl, ?_⟩)
  try simp (disch := first | omega | decide) only [show i + 1 < SL by omega, show i + 2 < SL by omega, show i + 3 < SL by omega, show SL < 2 ^ 31 by omega, show i < 2 ^ 31 by omega, nE_l, nE_r, nE_n, nLe_l, nLe_r, nLe_n, nLt_l, nLt_r, nLt_n, nA_l, nA_r, nI_add, nS_l, nS_n, nIn, nI_clamp, gI_I, gI_J, gI_D, gJ_J, gJ_I, gJ_D, true_and, and_true, false_and, and_false, if_true, if_false, false_implies, true_implies, not_true_eq_false, not_false_eq_true, bI_0, bI_1, Nat.reduceEqDiff, eq_self, nMax, nMin]
  refine m_170 hk (gSm.cw hT f1) (fun μ3 w3 f3 T3 c3 v3 => ⟨_, rfl, s_152 c3 ⟨_, rfl, ?_⟩⟩)
  have N : ∀ y6 y7 y8, gWp (some (SL, xs)) 230 (2023, [some (.ref 1000), some (.ref 0), some (.ref 1), some (.ref 64), some (.ref 65), some (.int (nI i)), y6, y7, y8], [], μ3) (cnt + 1) (fun _ r => r = .inl (some (.int 1))) := fun y6 y7 y8 => hn T μ3 1 y6 y7 y8 hk (I1.mm f3) T3 (by decide)
  refine ⟨fun _ => ⟨fun _ => N _ _ _, fun z => ⟨vp_in_nI (n := 0) (by decide) (by decide), fun _ => N _ _ _, fun z2 => ?_⟩⟩, fun z => absurd rfl z⟩
  exfalso
  obtain ⟨v, hv⟩ := cd0 (by decide) (by decide) z
  apply z2
  rw [sb_cl0, f3.J (by decide), v1 v hv, v3 v hv]
  exact lg_self _
theorem c_645 {SL i cnt : Nat} {xs : Nat → Int32} {T : gS} {μ : gMu} (hS : i + 4 ≤ SL) (hL : SL ≤ 2048) (hc : cnt + 5 ≤ 2560) (hk : gOk T) (hI : cI T μ) (hT : mTx T μ) (hn : lNx SL xs i cnt) : gWp (some (SL, xs)) 230 (645, [some (.ref 1000), some (.ref 0), some (.ref 1), some (.ref 64), some (.ref 65), some (.int (nI i)), none, none, none], [], μ) cnt (fun _ r => r = .inl (some (.int 1))) := by
  refine vl_645 hc ?_
  try simp (disch := first | omega | decide) only [show i + 1 < SL by omega, show i + 2 < SL by omega, show i + 3 < SL by omega, show SL < 2 ^ 31 by omega, show i < 2 ^ 31 by omega, nE_l, nE_r, nE_n, nLe_l, nLe_r, nLe_n, nLt_l, nLt_r, nLt_n, nA_l, nA_r, nI_add, nS_l, nS_n, nIn, nI_clamp, gI_I, gI_J, gI_D, gJ_J, gJ_I, gJ_D, true_and, and_true, false_and, and_false, if_true, if_false, false_implies, true_implies, not_true_eq_false, not_false_eq_true, bI_0, bI_1, Nat.reduceEqDiff, eq_self, nMax, nMin]
  refine w_93 hk hI (fun μ1 f1 I1 v1 => Or.inl ⟨_, rfl, ?_⟩)
  try simp (disch := first | omega | decide) only [show i + 1 < SL by omega, show i + 2 < SL by omega, show i + 3 < SL by omega, show SL < 2 ^ 31 by omega, show i < 2 ^ 31 by omega, nE_l, nE_r, nE_n, nLe_l, nLe_r, nLe_n, nLt_l, nLt_r, nLt_n, nA_l, nA_r, nI_add, nS_l, nS_n, nIn, nI_clamp, gI_I, gI_J, gI_D, gJ_J, gJ_I, gJ_D, true_and, and_true, false_and, and_false, if_true, if_false, false_implies, true_implies, not_true_eq_false, not_false_eq_true, bI_0, bI_1, Nat.reduceEqDiff, eq_self, nMax, nMin]
  refine m_181 hk (gSm.cw hT f1) (fun μ3 w3 f3 T3 c3 v3 => ⟨_, rfl, s_152 c3 ⟨_, rfl, ?_⟩⟩)
  have N : ∀ y6 y7 y8, gWp (some (SL, xs)) 230 (2023, [some (.ref 1000), some (.ref 0), some (.ref 1), some (.ref 64), some (.ref 65), some (.int (nI i)), y6, y7, y8], [], μ3) (cnt + 2) (fun _ r => r = .inl (some (.int 1))) := fun y6 y7 y8 => hn T μ3 2 y6 y7 y8 hk (I1.mm f3) T3 (by decide)
  refine ⟨fun _ => ⟨fun _ => N _ _ _, fun z => ⟨vp_in_nI (n := 0) (by decide) (by decide), fun _ => N _ _ _, fun z2 => ?_⟩⟩, fun z => absurd rfl z⟩
  exfalso
  obtain ⟨v, hv⟩ := cd0 (by decide) (by decide) z
  apply z2
  rw [sb_cl0, f3.J (by decide), v1 v hv, v3 v hv]
  exact lg_self _
theorem c_701 {SL i cnt : Nat} {xs : Nat → Int32} {T : gS} {μ : gMu} (hS : i + 4 ≤ SL) (hL : SL ≤ 2048) (hc : cnt + 5 ≤ 2560) (hk : gOk T) (hI : cI T μ) (hT : mTx T μ) (hn : lNx SL xs i cnt) : gWp (some (SL, xs)) 230 (701, [some (.ref 1000), some (.ref 0), some (.ref 1), some (.ref 64), some (.ref 65), some (.int (nI i)), none, none, none], [], μ) cnt (fun _ r => r = .inl (some (.int 1))) := by
  refine vl_701 hc ?_
  try simp (disch := first | omega | decide) only [show i + 1 < SL by omega, show i + 2 < SL by omega, show i + 3 < SL by omega, show SL < 2 ^ 31 by omega, show i < 2 ^ 31 by omega, nE_l, nE_r, nE_n, nLe_l, nLe_r, nLe_n, nLt_l, nLt_r, nLt_n, nA_l, nA_r, nI_add, nS_l, nS_n, nIn, nI_clamp, gI_I, gI_J, gI_D, gJ_J, gJ_I, gJ_D, true_and, and_true, false_and, and_false, if_true, if_false, false_implies, true_implies, not_true_eq_false, not_false_eq_true, bI_0, bI_1, Nat.reduceEqDiff, eq_self, nMax, nMin]
  refine w_95 hk hI (fun μ1 f1 I1 v1 => Or.inl ⟨_, rfl, ?_⟩)
  try simp (disch := first | omega | decide) only [show i + 1 < SL by omega, show i + 2 < SL by omega, show i + 3 < SL by omega, show SL < 2 ^ 31 by omega, show i < 2 ^ 31 by omega, nE_l, nE_r, nE_n, nLe_l, nLe_r, nLe_n, nLt_l, nLt_r, nLt_n, nA_l, nA_r, nI_add, nS_l, nS_n, nIn, nI_clamp, gI_I, gI_J, gI_D, gJ_J, gJ_I, gJ_D, true_and, and_true, false_and, and_false, if_true, if_false, false_implies, true_implies, not_true_eq_false, not_false_eq_true, bI_0, bI_1, Nat.reduceEqDiff, eq_self, nMax, nMin]
  refine m_182 hk (gSm.cw hT f1) (fun μ3 w3 f3 T3 c3 v3 => ⟨_, rfl, s_152 c3 ⟨_, rfl, ?_⟩⟩)
  have N : ∀ y6 y7 y8, gWp (some (SL, xs)) 230 (2023, [some (.ref 1000), some (.ref 0), some (.ref 1), some (.ref 64), some (.ref 65), some (.int (nI i)), y6, y7, y8], [], μ3) (cnt + 2) (fun _ r => r = .inl (some (.int 1))) := fun y6 y7 y8 => hn T μ3 2 y6 y7 y8 hk (I1.mm f3) T3 (by decide)
  refine ⟨fun _ => ⟨fun _ => N _ _ _, fun z => ⟨vp_in_nI (n := 0) (by decide) (by decide), fun _ => N _ _ _, fun z2 => ?_⟩⟩, fun z => absurd rfl z⟩
  exfalso
  obtain ⟨v, hv⟩ := cd0 (by decide) (by decide) z
  apply z2
  rw [sb_cl0, f3.J (by decide), v1 v hv, v3 v hv]
  exact lg_self _
theorem c_757 {SL i cnt : Nat} {xs : Nat → Int32} {T : gS} {μ : gMu} (hS : i + 4 ≤ SL) (hL : SL ≤ 2048) (hc : cnt + 5 ≤ 2560) (hk : gOk T) (hI : cI T μ) (hT : mTx T μ) (hn : lNx SL xs i cnt) : gWp (some (SL, xs)) 230 (757, [some (.ref 1000), some (.ref 0), some (.ref 1), some (.ref 64), some (.ref 65), some (.int (nI i)), none, none, none], [], μ) cnt (fun _ r => r = .inl (some (.int 1))) := by
  refine vl_757 hc ?_
  try simp (disch := first | omega | decide) only [show i + 1 < SL by omega, show i + 2 < SL by omega, show i + 3 < SL by omega, show SL < 2 ^ 31 by omega, show i < 2 ^ 31 by omega, nE_l, nE_r, nE_n, nLe_l, nLe_r, nLe_n, nLt_l, nLt_r, nLt_n, nA_l, nA_r, nI_add, nS_l, nS_n, nIn, nI_clamp, gI_I, gI_J, gI_D, gJ_J, gJ_I, gJ_D, true_and, and_true, false_and, and_false, if_true, if_false, false_implies, true_implies, not_true_eq_false, not_false_eq_true, bI_0, bI_1, Nat.reduceEqDiff, eq_self, nMax, nMin]
  refine w_97 hk hI (fun μ1 f1 I1 v1 => Or.inl ⟨_, rfl, ?_⟩)
  try simp (disch := first | omega | decide) only [show i + 1 < SL by omega, show i + 2 < SL by omega, show i + 3 < SL by omega, show SL < 2 ^ 31 by omega, show i < 2 ^ 31 by omega, nE_l, nE_r, nE_n, nLe_l, nLe_r, nLe_n, nLt_l, nLt_r, nLt_n, nA_l, nA_r, nI_add, nS_l, nS_n, nIn, nI_clamp, gI_I, gI_J, gI_D, gJ_J, gJ_I, gJ_D, true_and, and_true, false_and, and_false, if_true, if_false, false_implies, true_implies, not_true_eq_false, not_false_eq_true, bI_0, bI_1, Nat.reduceEqDiff, eq_self, nMax, nMin]
  refine m_183 hk (gSm.cw hT f1) (fun μ3 w3 f3 T3 c3 v3 => ⟨_, rfl, s_152 c3 ⟨_, rfl, ?_⟩⟩)
  have N : ∀ y6 y7 y8, gWp (some (SL, xs)) 230 (2023, [some (.ref 1000), some (.ref 0), some (.ref 1), some (.ref 64), some (.ref 65), some (.int (nI i)), y6, y7, y8], [], μ3) (cnt + 2) (fun _ r => r = .inl (some (.int 1))) := fun y6 y7 y8 => hn T μ3 2 y6 y7 y8 hk (I1.mm f3) T3 (by decide)
  refine ⟨fun _ => ⟨fun _ => N _ _ _, fun z => ⟨vp_in_nI (n := 0) (by decide) (by decide), fun _ => N _ _ _, fun z2 => ?_⟩⟩, fun z => absurd rfl z⟩
  exfalso
  obtain ⟨v, hv⟩ := cd0 (by decide) (by decide) z
  apply z2
  rw [sb_cl0, f3.J (by decide), v1 v hv, v3 v hv]
  exact lg_self _
theorem c_813 {SL i cnt : Nat} {xs : Nat → Int32} {T : gS} {μ : gMu} (hS : i + 4 ≤ SL) (hL : SL ≤ 2048) (hc : cnt + 5 ≤ 2560) (hk : gOk T) (hI : cI T μ) (hT : mTx T μ) (hn : lNx SL xs i cnt) : gWp (some (SL, xs)) 230 (813, [some (.ref 1000), some (.ref 0), some (.ref 1), some (.ref 64), some (.ref 65), some (.int (nI i)), none, none, none], [], μ) cnt (fun _ r => r = .inl (some (.int 1))) := by
  refine vl_813 hc ?_
  try simp (disch := first | omega | decide) only [show i + 1 < SL by omega, show i + 2 < SL by omega, show i + 3 < SL by omega, show SL < 2 ^ 31 by omega, show i < 2 ^ 31 by omega, nE_l, nE_r, nE_n, nLe_l, nLe_r, nLe_n, nLt_l, nLt_r, nLt_n, nA_l, nA_r, nI_add, nS_l, nS_n, nIn, nI_clamp, gI_I, gI_J, gI_D, gJ_J, gJ_I, gJ_D, true_and, and_true, false_and, and_false, if_true, if_false, false_implies, true_implies, not_true_eq_false, not_false_eq_true, bI_0, bI_1, Nat.reduceEqDiff, eq_self, nMax, nMin]
  refine w_99 hk hI (fun μ1 f1 I1 v1 => Or.inl ⟨_, rfl, ?_⟩)
  try simp (disch := first | omega | decide) only [show i + 1 < SL by omega, show i + 2 < SL by omega, show i + 3 < SL by omega, show SL < 2 ^ 31 by omega, show i < 2 ^ 31 by omega, nE_l, nE_r, nE_n, nLe_l, nLe_r, nLe_n, nLt_l, nLt_r, nLt_n, nA_l, nA_r, nI_add, nS_l, nS_n, nIn, nI_clamp, gI_I, gI_J, gI_D, gJ_J, gJ_I, gJ_D, true_and, and_true, false_and, and_false, if_true, if_false, false_implies, true_implies, not_true_eq_false, not_false_eq_true, bI_0, bI_1, Nat.reduceEqDiff, eq_self, nMax, nMin]
  refine m_184 hk (gSm.cw hT f1) (fun μ3 w3 f3 T3 c3 v3 => ⟨_, rfl, s_152 c3 ⟨_, rfl, ?_⟩⟩)
  have N : ∀ y6 y7 y8, gWp (some (SL, xs)) 230 (2023, [some (.ref 1000), some (.ref 0), some (.ref 1), some (.ref 64), some (.ref 65), some (.int (nI i)), y6, y7, y8], [], μ3) (cnt + 2) (fun _ r => r = .inl (some (.int 1))) := fun y6 y7 y8 => hn T μ3 2 y6 y7 y8 hk (I1.mm f3) T3 (by decide)
  refine ⟨fun _ => ⟨fun _ => N _ _ _, fun z => ⟨vp_in_nI (n := 0) (by decide) (by decide), fun _ => N _ _ _, fun z2 => ?_⟩⟩, fun z => absurd rfl z⟩
  exfalso
  obtain ⟨v, hv⟩ := cd0 (by decide) (by decide) z
  apply z2
  rw [sb_cl0, f3.J (by decide), v1 v hv, v3 v hv]
  exact lg_self _
theorem c_882 {SL i cnt : Nat} {xs : Nat → Int32} {T : gS} {μ : gMu} (hS : i + 4 ≤ SL) (hL : SL ≤ 2048) (hc : cnt + 5 ≤ 2560) (hk : gOk T) (hI : cI T μ) (hT : mTx T μ) (hn : lNx SL xs i cnt) : gWp (some (SL, xs)) 230 (882, [some (.ref 1000), some (.ref 0), some (.ref 1), some (.ref 64), some (.ref 65), some (.int (nI i)), none, none, none], [], μ) cnt (fun _ r => r = .inl (some (.int 1))) := by
  refine vl_882 hc ?_
  try simp (disch := first | omega | decide) only [show i + 1 < SL by omega, show i + 2 < SL by omega, show i + 3 < SL by omega, show SL < 2 ^ 31 by omega, show i < 2 ^ 31 by omega, nE_l, nE_r, nE_n, nLe_l, nLe_r, nLe_n, nLt_l, nLt_r, nLt_n, nA_l, nA_r, nI_add, nS_l, nS_n, nIn, nI_clamp, gI_I, gI_J, gI_D, gJ_J, gJ_I, gJ_D, true_and, and_true, false_and, and_false, if_true, if_false, false_implies, true_implies, not_true_eq_false, not_false_eq_true, bI_0, bI_1, Nat.reduceEqDiff, eq_self, nMax, nMin]
  refine w_102 hk hI (fun μ1 f1 I1 v1 => Or.inl ⟨_, rfl, ?_⟩)
  try simp (disch := first | omega | decide) only [show i + 1 < SL by omega, show i + 2 < SL by omega, show i + 3 < SL by omega, show SL < 2 ^ 31 by omega, show i < 2 ^ 31 by omega, nE_l, nE_r, nE_n, nLe_l, nLe_r, nLe_n, nLt_l, nLt_r, nLt_n, nA_l, nA_r, nI_add, nS_l, nS_n, nIn, nI_clamp, gI_I, gI_J, gI_D, gJ_J, gJ_I, gJ_D, true_and, and_true, false_and, and_false, if_true, if_false, false_implies, true_implies, not_true_eq_false, not_false_eq_true, bI_0, bI_1, Nat.reduceEqDiff, eq_self, nMax, nMin]
  refine m_186 hk (gSm.cw hT f1) (fun μ3 w3 f3 T3 c3 v3 => ⟨_, rfl, s_152 c3 ⟨_, rfl, ?_⟩⟩)
  have N : ∀ y6 y7 y8, gWp (some (SL, xs)) 230 (2023, [some (.ref 1000), some (.ref 0), some (.ref 1), some (.ref 64), some (.ref 65), some (.int (nI i)), y6, y7, y8], [], μ3) (cnt + 2) (fun _ r => r = .inl (some (.int 1))) := fun y6 y7 y8 => hn T μ3 2 y6 y7 y8 hk (I1.mm f3) T3 (by decide)
  refine ⟨fun _ => ⟨fun _ => N _ _ _, fun z => ⟨vp_in_nI (n := 0) (by decide) (by decide), fun _ => N _ _ _, fun z2 => ?_⟩⟩, fun z => absurd rfl z⟩
  exfalso
  obtain ⟨v, hv⟩ := cd0 (by decide) (by decide) z
  apply z2
  rw [sb_cl0, f3.J (by decide), v1 v hv, v3 v hv]
  exact lg_self _
theorem c_938 {SL i cnt : Nat} {xs : Nat → Int32} {T : gS} {μ : gMu} (hS : i + 4 ≤ SL) (hL : SL ≤ 2048) (hc : cnt + 5 ≤ 2560) (hk : gOk T) (hI : cI T μ) (hT : mTx T μ) (hn : lNx SL xs i cnt) : gWp (some (SL, xs)) 230 (938, [some (.ref 1000), some (.ref 0), some (.ref 1), some (.ref 64), some (.ref 65), some (.int (nI i)), none, none, none], [], μ) cnt (fun _ r => r = .inl (some (.int 1))) := by
  refine vl_938 hc ?_
  try simp (disch := first | omega | decide) only [show i + 1 < SL by omega, show i + 2 < SL by omega, show i + 3 < SL by omega, show SL < 2 ^ 31 by omega, show i < 2 ^ 31 by omega, nE_l, nE_r, nE_n, nLe_l, nLe_r, nLe_n, nLt_l, nLt_r, nLt_n, nA_l, nA_r, nI_add, nS_l, nS_n, nIn, nI_clamp, gI_I, gI_J, gI_D, gJ_J, gJ_I, gJ_D, true_and, and_true, false_and, and_false, if_true, if_false, false_implies, true_implies, not_true_eq_false, not_false_eq_true, bI_0, bI_1, Nat.reduceEqDiff, eq_self, nMax, nMin]
  refine w_104 hk hI (fun μ1 f1 I1 v1 => Or.inl ⟨_, rfl, ?_⟩)
  try simp (disch := first | omega | decide) only [show i + 1 < SL by omega, show i + 2 < SL by omega, show i + 3 < SL by omega, show SL < 2 ^ 31 by omega, show i < 2 ^ 31 by omega, nE_l, nE_r, nE_n, nLe_l, nLe_r, nLe_n, nLt_l, nLt_r, nLt_n, nA_l, nA_r, nI_add, nS_l, nS_n, nIn, nI_clamp, gI_I, gI_J, gI_D, gJ_J, gJ_I, gJ_D, true_and, and_true, false_and, and_false, if_true, if_false, false_implies, true_implies, not_true_eq_false, not_false_eq_true, bI_0, bI_1, Nat.reduceEqDiff, eq_self, nMax, nMin]
  refine m_187 hk (gSm.cw hT f1) (fun μ3 w3 f3 T3 c3 v3 => ⟨_, rfl, s_152 c3 ⟨_, rfl, ?_⟩⟩)
  have N : ∀ y6 y7 y8, gWp (some (SL, xs)) 230 (2023, [some (.ref 1000), some (.ref 0), some (.ref 1), some (.ref 64), some (.ref 65), some (.int (nI i)), y6, y7, y8], [], μ3) (cnt + 2) (fun _ r => r = .inl (some (.int 1))) := fun y6 y7 y8 => hn T μ3 2 y6 y7 y8 hk (I1.mm f3) T3 (by decide)
  refine ⟨fun _ => ⟨fun _ => N _ _ _, fun z => ⟨vp_in_nI (n := 0) (by decide) (by decide), fun _ => N _ _ _, fun z2 => ?_⟩⟩, fun z => absurd rfl z⟩
  exfalso
  obtain ⟨v, hv⟩ := cd0 (by decide) (by decide) z
  apply z2
  rw [sb_cl0, f3.J (by decide), v1 v hv, v3 v hv]
  exact lg_self _
theorem c_1020 {SL i cnt : Nat} {xs : Nat → Int32} {T : gS} {μ : gMu} (hS : i + 4 ≤ SL) (hL : SL ≤ 2048) (hc : cnt + 5 ≤ 2560) (hk : gOk T) (hI : cI T μ) (hT : mTx T μ) (hn : lNx SL xs i cnt) : gWp (some (SL, xs)) 230 (1020, [some (.ref 1000), some (.ref 0), some (.ref 1), some (.ref 64), some (.ref 65), some (.int (nI i)), none, none, none], [], μ) cnt (fun _ r => r = .inl (some (.int 1))) := by
  refine vl_1020 hc ?_
  try simp (disch := first | omega | decide) only [show i + 1 < SL by omega, show i + 2 < SL by omega, show i + 3 < SL by omega, show SL < 2 ^ 31 by omega, show i < 2 ^ 31 by omega, nE_l, nE_r, nE_n, nLe_l, nLe_r, nLe_n, nLt_l, nLt_r, nLt_n, nA_l, nA_r, nI_add, nS_l, nS_n, nIn, nI_clamp, gI_I, gI_J, gI_D, gJ_J, gJ_I, gJ_D, true_and, and_true, false_and, and_false, if_true, if_false, false_implies, true_implies, not_true_eq_false, not_false_eq_true, bI_0, bI_1, Nat.reduceEqDiff, eq_self, nMax, nMin]
  refine w_106 hk hI (fun μ1 f1 I1 v1 => Or.inl ⟨_, rfl, ?_⟩)
  try simp (disch := first | omega | decide) only [show i + 1 < SL by omega, show i + 2 < SL by omega, show i + 3 < SL by omega, show SL < 2 ^ 31 by omega, show i < 2 ^ 31 by omega, nE_l, nE_r, nE_n, nLe_l, nLe_r, nLe_n, nLt_l, nLt_r, nLt_n, nA_l, nA_r, nI_add, nS_l, nS_n, nIn, nI_clamp, gI_I, gI_J, gI_D, gJ_J, gJ_I, gJ_D, true_and, and_true, false_and, and_false, if_true, if_false, false_implies, true_implies, not_true_eq_false, not_false_eq_true, bI_0, bI_1, Nat.reduceEqDiff, eq_self, nMax, nMin]
  refine m_190 hk (gSm.cw hT f1) (fun μ3 w3 f3 T3 c3 v3 => ⟨_, rfl, s_152 c3 ⟨_, rfl, ?_⟩⟩)
  have N : ∀ y6 y7 y8, gWp (some (SL, xs)) 230 (2023, [some (.ref 1000), some (.ref 0), some (.ref 1), some (.ref 64), some (.ref 65), some (.int (nI i)), y6, y7, y8], [], μ3) (cnt + 1) (fun _ r => r = .inl (some (.int 1))) := fun y6 y7 y8 => hn T μ3 1 y6 y7 y8 hk (I1.mm f3) T3 (by decide)
  refine ⟨fun _ => ⟨fun _ => N _ _ _, fun z => ⟨vp_in_nI (n := 0) (by decide) (by decide), fun _ => N _ _ _, fun z2 => ?_⟩⟩, fun z => absurd rfl z⟩
  exfalso
  obtain ⟨v, hv⟩ := cd0 (by decide) (by decide) z
  apply z2
  rw [sb_cl0, f3.J (by decide), v1 v hv, v3 v hv]
  exact lg_self _
theorem c_1102 {SL i cnt : Nat} {xs : Nat → Int32} {T : gS} {μ : gMu} (hS : i + 4 ≤ SL) (hL : SL ≤ 2048) (hc : cnt + 5 ≤ 2560) (hk : gOk T) (hI : cI T μ) (hT : mTx T μ) (hn : lNx SL xs i cnt) : gWp (some (SL, xs)) 230 (1102, [some (.ref 1000), some (.ref 0), some (.ref 1), some (.ref 64), some (.ref 65), some (.int (nI i)), none, none, none], [], μ) cnt (fun _ r => r = .inl (some (.int 1))) := by
  refine vl_1102 hc ?_
  refine w_109 hk hI (fun μ1 f1 I1 v1 => Or.inl ⟨_, rfl, ?_⟩)
  refine m_206 hk (gSm.cw hT f1) (fun μ3 w3 f3 T3 c3 v3 => ⟨_, rfl, s_152 c3 ⟨_, rfl, ?_⟩⟩)
  have N : ∀ y6 y7 y8, gWp (some (SL, xs)) 230 (2023, [some (.ref 1000), some (.ref 0), some (.ref 1), some (.ref 64), some (.ref 65), some (.int (nI i)), y6, y7, y8], [], μ3) (cnt + 1) (fun _ r => r = .inl (some (.int 1))) := fun y6 y7 y8 => hn T μ3 1 y6 y7 y8 hk (I1.mm f3) T3 (by decide)
  refine ⟨fun _ => ⟨fun _ => N _ _ _, fun z => ⟨vp_in_nI (n := 0) (by decide) (by decide), fun _ => N _ _ _, fun z2 => ?_⟩⟩, fun z => absurd rfl z⟩
  exfalso
  obtain ⟨v, hv⟩ := cd0 (by decide) (by decide) z
  apply z2
  rw [sb_cl0, f3.J (by decide), v1 v hv, v3 v hv]
  exact lg_self _
theorem c_1146 {SL i cnt : Nat} {xs : Nat → Int32} {T : gS} {μ : gMu} (hS : i + 4 ≤ SL) (hL : SL ≤ 2048) (hc : cnt + 5 ≤ 2560) (hk : gOk T) (hI : cI T μ) (hT : mTx T μ) (hn : lNx SL xs i cnt) : gWp (some (SL, xs)) 230 (1146, [some (.ref 1000), some (.ref 0), some (.ref 1), some (.ref 64), some (.ref 65), some (.int (nI i)), none, none, none], [], μ) cnt (fun _ r => r = .inl (some (.int 1))) := by
  refine vl_1146 hc ?_
  refine w_112 hk hI (fun μ1 f1 I1 v1 => Or.inl ⟨_, rfl, ?_⟩)
  refine m_207 hk (gSm.cw hT f1) (fun μ3 w3 f3 T3 c3 v3 => ⟨_, rfl, s_152 c3 ⟨_, rfl, ?_⟩⟩)
  have N : ∀ y6 y7 y8, gWp (some (SL, xs)) 230 (2023, [some (.ref 1000), some (.ref 0), some (.ref 1), some (.ref 64), some (.ref 65), some (.int (nI i)), y6, y7, y8], [], μ3) (cnt + 1) (fun _ r => r = .inl (some (.int 1))) := fun y6 y7 y8 => hn T μ3 1 y6 y7 y8 hk (I1.mm f3) T3 (by decide)
  refine ⟨fun _ => ⟨fun _ => N _ _ _, fun z => ⟨vp_in_nI (n := 0) (by decide) (by decide), fun _ => N _ _ _, fun z2 => ?_⟩⟩, fun z => absurd rfl z⟩
  exfalso
  obtain ⟨v, hv⟩ := cd0 (by decide) (by decide) z
  apply z2
  rw [sb_cl0, f3.J (by decide), v1 v hv, v3 v hv]
  exact lg_self _
theorem c_1190 {SL i cnt : Nat} {xs : Nat → Int32} {T : gS} {μ : gMu} (hS : i + 4 ≤ SL) (hL : SL ≤ 2048) (hc : cnt + 5 ≤ 2560) (hk : gOk T) (hI : cI T μ) (hT : mTx T μ) (hn : lNx SL xs i cnt) : gWp (some (SL, xs)) 230 (1190, [some (.ref 1000), some (.ref 0), some (.ref 1), some (.ref 64), some (.ref 65), some (.int (nI i)), none, none, none], [], μ) cnt (fun _ r => r = .inl (some (.int 1))) := by
  refine vl_1190 hc ?_
  try simp (disch := first | omega | decide) only [show i + 1 < SL by omega, show i + 2 < SL by omega, show i + 3 < SL by omega, show SL < 2 ^ 31 by omega, show i < 2 ^ 31 by omega, nE_l, nE_r, nE_n, nLe_l, nLe_r, nLe_n, nLt_l, nLt_r, nLt_n, nA_l, nA_r, nI_add, nS_l, nS_n, nIn, nI_clamp, gI_I, gI_J, gI_D, gJ_J, gJ_I, gJ_D, true_and, and_true, false_and, and_false, if_true, if_false, false_implies, true_implies, not_true_eq_false, not_false_eq_true, bI_0, bI_1, Nat.reduceEqDiff, eq_self, nMax, nMin]
  refine w_115 hk hI (fun μ1 f1 I1 v1 => Or.inl ⟨_, rfl, ?_⟩)
  try simp (disch := first | omega | decide) only [show i + 1 < SL by omega, show i + 2 < SL by omega, show i + 3 < SL by omega, show SL < 2 ^ 31 by omega, show i < 2 ^ 31 by omega, nE_l, nE_r, nE_n, nLe_l, nLe_r, nLe_n, nLt_l, nLt_r, nLt_n, nA_l, nA_r, nI_add, nS_l, nS_n, nIn, nI_clamp, gI_I, gI_J, gI_D, gJ_J, gJ_I, gJ_D, true_and, and_true, false_and, and_false, if_true, if_false, false_implies, true_implies, not_true_eq_false, not_false_eq_true, bI_0, bI_1, Nat.reduceEqDiff, eq_self, nMax, nMin]
  refine m_210 hk (gSm.cw hT f1) (fun μ3 w3 f3 T3 c3 v3 => ⟨_, rfl, s_152 c3 ⟨_, rfl, ?_⟩⟩)
  have N : ∀ y6 y7 y8, gWp (some (SL, xs)) 230 (2023, [some (.ref 1000), some (.ref 0), some (.ref 1), some (.ref 64), some (.ref 65), some (.int (nI i)), y6, y7, y8], [], μ3) (cnt + 2) (fun _ r => r = .inl (some (.int 1))) := fun y6 y7 y8 => hn T μ3 2 y6 y7 y8 hk (I1.mm f3) T3 (by decide)
  refine ⟨fun _ => ⟨fun _ => N _ _ _, fun z => ⟨vp_in_nI (n := 0) (by decide) (by decide), fun _ => N _ _ _, fun z2 => ?_⟩⟩, fun z => absurd rfl z⟩
  exfalso
  obtain ⟨v, hv⟩ := cd0 (by decide) (by decide) z
  apply z2
  rw [sb_cl0, f3.J (by decide), v1 v hv, v3 v hv]
  exact lg_self _
theorem c_1246 {SL i cnt : Nat} {xs : Nat → Int32} {T : gS} {μ : gMu} (hS : i + 4 ≤ SL) (hL : SL ≤ 2048) (hc : cnt + 5 ≤ 2560) (hk : gOk T) (hI : cI T μ) (hT : mTx T μ) (hn : lNx SL xs i cnt) : gWp (some (SL, xs)) 230 (1246, [some (.ref 1000), some (.ref 0), some (.ref 1), some (.ref 64), some (.ref 65), some (.int (nI i)), none, none, none], [], μ) cnt (fun _ r => r = .inl (some (.int 1))) := by
  refine vl_1246 hc ?_
  try simp (disch := first | omega | decide) only [show i + 1 < SL by omega, show i + 2 < SL by omega, show i + 3 < SL by omega, show SL < 2 ^ 31 by omega, show i < 2 ^ 31 by omega, nE_l, nE_r, nE_n, nLe_l, nLe_r, nLe_n, nLt_l, nLt_r, nLt_n, nA_l, nA_r, nI_add, nS_l, nS_n, nIn, nI_clamp, gI_I, gI_J, gI_D, gJ_J, gJ_I, gJ_D, true_and, and_true, false_and, and_false, if_true, if_false, false_implies, true_implies, not_true_eq_false, not_false_eq_true, bI_0, bI_1, Nat.reduceEqDiff, eq_self, nMax, nMin]
  refine w_118 hk hI (fun μ1 f1 I1 v1 => Or.inl ⟨_, rfl, ?_⟩)
  try simp (disch := first | omega | decide) only [show i + 1 < SL by omega, show i + 2 < SL by omega, show i + 3 < SL by omega, show SL < 2 ^ 31 by omega, show i < 2 ^ 31 by omega, nE_l, nE_r, nE_n, nLe_l, nLe_r, nLe_n, nLt_l, nLt_r, nLt_n, nA_l, nA_r, nI_add, nS_l, nS_n, nIn, nI_clamp, gI_I, gI_J, gI_D, gJ_J, gJ_I, gJ_D, true_and, and_true, false_and, and_false, if_true, if_false, false_implies, true_implies, not_true_eq_false, not_false_eq_true, bI_0, bI_1, Nat.reduceEqDiff, eq_self, nMax, nMin]
  refine m_212 hk (gSm.cw hT f1) (fun μ3 w3 f3 T3 c3 v3 => ⟨_, rfl, s_152 c3 ⟨_, rfl, ?_⟩⟩)
  have N : ∀ y6 y7 y8, gWp (some (SL, xs)) 230 (2023, [some (.ref 1000), some (.ref 0), some (.ref 1), some (.ref 64), some (.ref 65), some (.int (nI i)), y6, y7, y8], [], μ3) (cnt + 4) (fun _ r => r = .inl (some (.int 1))) := fun y6 y7 y8 => hn T μ3 4 y6 y7 y8 hk (I1.mm f3) T3 (by decide)
  refine ⟨fun _ => ⟨fun _ => N _ _ _, fun z => ⟨vp_in_nI (n := 0) (by decide) (by decide), fun _ => N _ _ _, fun z2 => ?_⟩⟩, fun z => absurd rfl z⟩
  exfalso
  obtain ⟨v, hv⟩ := cd0 (by decide) (by decide) z
  apply z2
  rw [sb_cl0, f3.J (by decide), v1 v hv, v3 v hv]
  exact lg_self _
theorem c_1302 {SL i cnt : Nat} {xs : Nat → Int32} {T : gS} {μ : gMu} (hS : i + 4 ≤ SL) (hL : SL ≤ 2048) (hc : cnt + 5 ≤ 2560) (hk : gOk T) (hI : cI T μ) (hT : mTx T μ) (hn : lNx SL xs i cnt) : gWp (some (SL, xs)) 230 (1302, [some (.ref 1000), some (.ref 0), some (.ref 1), some (.ref 64), some (.ref 65), some (.int (nI i)), none, none, none], [], μ) cnt (fun _ r => r = .inl (some (.int 1))) := by
  refine vl_1302 hc ?_
  try simp (disch := first | omega | decide) only [show i + 1 < SL by omega, show i + 2 < SL by omega, show i + 3 < SL by omega, show SL < 2 ^ 31 by omega, show i < 2 ^ 31 by omega, nE_l, nE_r, nE_n, nLe_l, nLe_r, nLe_n, nLt_l, nLt_r, nLt_n, nA_l, nA_r, nI_add, nS_l, nS_n, nIn, nI_clamp, gI_I, gI_J, gI_D, gJ_J, gJ_I, gJ_D, true_and, and_true, false_and, and_false, if_true, if_false, false_implies, true_implies, not_true_eq_false, not_false_eq_true, bI_0, bI_1, Nat.reduceEqDiff, eq_self, nMax, nMin]
  refine w_120 hk hI (fun μ1 f1 I1 v1 => Or.inl ⟨_, rfl, ?_⟩)
  try simp (disch := first | omega | decide) only [show i + 1 < SL by omega, show i + 2 < SL by omega, show i + 3 < SL by omega, show SL < 2 ^ 31 by omega, show i < 2 ^ 31 by omega, nE_l, nE_r, nE_n, nLe_l, nLe_r, nLe_n, nLt_l, nLt_r, nLt_n, nA_l, nA_r, nI_add, nS_l, nS_n, nIn, nI_clamp, gI_I, gI_J, gI_D, gJ_J, gJ_I, gJ_D, true_and, and_true, false_and, and_false, if_true, if_false, false_implies, true_implies, not_true_eq_false, not_false_eq_true, bI_0, bI_1, Nat.reduceEqDiff, eq_self, nMax, nMin]
  refine m_213 hk (gSm.cw hT f1) (fun μ3 w3 f3 T3 c3 v3 => ⟨_, rfl, s_152 c3 ⟨_, rfl, ?_⟩⟩)
  have N : ∀ y6 y7 y8, gWp (some (SL, xs)) 230 (2023, [some (.ref 1000), some (.ref 0), some (.ref 1), some (.ref 64), some (.ref 65), some (.int (nI i)), y6, y7, y8], [], μ3) (cnt + 2) (fun _ r => r = .inl (some (.int 1))) := fun y6 y7 y8 => hn T μ3 2 y6 y7 y8 hk (I1.mm f3) T3 (by decide)
  refine ⟨fun _ => ⟨fun _ => N _ _ _, fun z => ⟨vp_in_nI (n := 0) (by decide) (by decide), fun _ => N _ _ _, fun z2 => ?_⟩⟩, fun z => absurd rfl z⟩
  exfalso
  obtain ⟨v, hv⟩ := cd0 (by decide) (by decide) z
  apply z2
  rw [sb_cl0, f3.J (by decide), v1 v hv, v3 v hv]
  exact lg_self _
theorem c_1358 {SL i cnt : Nat} {xs : Nat → Int32} {T : gS} {μ : gMu} (hS : i + 4 ≤ SL) (hL : SL ≤ 2048) (hc : cnt + 5 ≤ 2560) (hk : gOk T) (hI : cI T μ) (hT : mTx T μ) (hn : lNx SL xs i cnt) : gWp (some (SL, xs)) 230 (1358, [some (.ref 1000), some (.ref 0), some (.ref 1), some (.ref 64), some (.ref 65), some (.int (nI i)), none, none, none], [], μ) cnt (fun _ r => r = .inl (some (.int 1))) := by
  refine vl_1358 hc ?_
  try simp (disch := first | omega | decide) only [show i + 1 < SL by omega, show i + 2 < SL by omega, show i + 3 < SL by omega, show SL < 2 ^ 31 by omega, show i < 2 ^ 31 by omega, nE_l, nE_r, nE_n, nLe_l, nLe_r, nLe_n, nLt_l, nLt_r, nLt_n, nA_l, nA_r, nI_add, nS_l, nS_n, nIn, nI_clamp, gI_I, gI_J, gI_D, gJ_J, gJ_I, gJ_D, true_and, and_true, false_and, and_false, if_true, if_false, false_implies, true_implies, not_true_eq_false, not_false_eq_true, bI_0, bI_1, Nat.reduceEqDiff, eq_self, nMax, nMin]
  refine w_122 hk hI (fun μ1 f1 I1 v1 => Or.inl ⟨_, rfl, ?_⟩)
  try simp (disch := first | omega | decide) only [show i + 1 < SL by omega, show i + 2 < SL by omega, show i + 3 < SL by omega, show SL < 2 ^ 31 by omega, show i < 2 ^ 31 by omega, nE_l, nE_r, nE_n, nLe_l, nLe_r, nLe_n, nLt_l, nLt_r, nLt_n, nA_l, nA_r, nI_add, nS_l, nS_n, nIn, nI_clamp, gI_I, gI_J, gI_D, gJ_J, gJ_I, gJ_D, true_and, and_true, false_and, and_false, if_true, if_false, false_implies, true_implies, not_true_eq_false, not_false_eq_true, bI_0, bI_1, Nat.reduceEqDiff, eq_self, nMax, nMin]
  refine m_214 hk (gSm.cw hT f1) (fun μ3 w3 f3 T3 c3 v3 => ⟨_, rfl, s_152 c3 ⟨_, rfl, ?_⟩⟩)
  have N : ∀ y6 y7 y8, gWp (some (SL, xs)) 230 (2023, [some (.ref 1000), some (.ref 0), some (.ref 1), some (.ref 64), some (.ref 65), some (.int (nI i)), y6, y7, y8], [], μ3) (cnt + 2) (fun _ r => r = .inl (some (.int 1))) := fun y6 y7 y8 => hn T μ3 2 y6 y7 y8 hk (I1.mm f3) T3 (by decide)
  refine ⟨fun _ => ⟨fun _ => N _ _ _, fun z => ⟨vp_in_nI (n := 0) (by decide) (by decide), fun _ => N _ _ _, fun z2 => ?_⟩⟩, fun z => absurd rfl z⟩
  exfalso
  obtain ⟨v, hv⟩ := cd0 (by decide) (by decide) z
  apply z2
  rw [sb_cl0, f3.J (by decide), v1 v hv, v3 v hv]
  exact lg_self _
theorem c_1414 {SL i cnt : Nat} {xs : Nat → Int32} {T : gS} {μ : gMu} (hS : i + 4 ≤ SL) (hL : SL ≤ 2048) (hc : cnt + 5 ≤ 2560) (hk : gOk T) (hI : cI T μ) (hT : mTx T μ) (hn : lNx SL xs i cnt) : gWp (some (SL, xs)) 230 (1414, [some (.ref 1000), some (.ref 0), some (.ref 1), some (.ref 64), some (.ref 65), some (.int (nI i)), none, none, none], [], μ) cnt (fun _ r => r = .inl (some (.int 1))) := by
  refine vl_1414 hc ?_
  refine w_124 hk hI (fun μ1 f1 I1 v1 => Or.inl ⟨_, rfl, ?_⟩)
  refine m_215 hk (gSm.cw hT f1) (fun μ3 w3 f3 T3 c3 v3 => ⟨_, rfl, s_152 c3 ⟨_, rfl, ?_⟩⟩)
  have N : ∀ y6 y7 y8, gWp (some (SL, xs)) 230 (2023, [some (.ref 1000), some (.ref 0), some (.ref 1), some (.ref 64), some (.ref 65), some (.int (nI i)), y6, y7, y8], [], μ3) (cnt + 1) (fun _ r => r = .inl (some (.int 1))) := fun y6 y7 y8 => hn T μ3 1 y6 y7 y8 hk (I1.mm f3) T3 (by decide)
  refine ⟨fun _ => ⟨fun _ => N _ _ _, fun z => ⟨vp_in_nI (n := 0) (by decide) (by decide), fun _ => N _ _ _, fun z2 => ?_⟩⟩, fun z => absurd rfl z⟩
  exfalso
  obtain ⟨v, hv⟩ := cd0 (by decide) (by decide) z
  apply z2
  rw [sb_cl0, f3.J (by decide), v1 v hv, v3 v hv]
  exact lg_self _
theorem c_1457 {SL i cnt : Nat} {xs : Nat → Int32} {T : gS} {μ : gMu} (hS : i + 4 ≤ SL) (hL : SL ≤ 2048) (hc : cnt + 5 ≤ 2560) (hk : gOk T) (hI : cI T μ) (hT : mTx T μ) (hn : lNx SL xs i cnt) : gWp (some (SL, xs)) 230 (1457, [some (.ref 1000), some (.ref 0), some (.ref 1), some (.ref 64), some (.ref 65), some (.int (nI i)), none, none, none], [], μ) cnt (fun _ r => r = .inl (some (.int 1))) := by
  refine vl_1457 hc ?_
  refine w_130 hk hI (fun μ1 f1 I1 v1 => Or.inl ⟨_, rfl, ?_⟩)
  refine m_216 hk (gSm.cw hT f1) (fun μ3 w3 f3 T3 c3 v3 => ⟨_, rfl, s_152 c3 ⟨_, rfl, ?_⟩⟩)
  have N : ∀ y6 y7 y8, gWp (some (SL, xs)) 230 (2023, [some (.ref 1000), some (.ref 0), some (.ref 1), some (.ref 64), some (.ref 65), some (.int (nI i)), y6, y7, y8], [], μ3) (cnt + 2) (fun _ r => r = .inl (some (.int 1))) := fun y6 y7 y8 => hn T μ3 2 y6 y7 y8 hk (I1.mm f3) T3 (by decide)
  refine ⟨fun _ => ⟨fun _ => N _ _ _, fun z => ⟨vp_in_nI (n := 0) (by decide) (by decide), fun _ => N _ _ _, fun z2 => ?_⟩⟩, fun z => absurd rfl z⟩
  exfalso
  obtain ⟨v, hv⟩ := cd0 (by decide) (by decide) z
  apply z2
  rw [sb_cl0, f3.J (by decide), v1 v hv, v3 v hv]
  exact lg_self _
theorem c_1500 {SL i cnt : Nat} {xs : Nat → Int32} {T : gS} {μ : gMu} (hS : i + 4 ≤ SL) (hL : SL ≤ 2048) (hc : cnt + 5 ≤ 2560) (hk : gOk T) (hI : cI T μ) (hT : mTx T μ) (hn : lNx SL xs i cnt) : gWp (some (SL, xs)) 230 (1500, [some (.ref 1000), some (.ref 0), some (.ref 1), some (.ref 64), some (.ref 65), some (.int (nI i)), none, none, none], [], μ) cnt (fun _ r => r = .inl (some (.int 1))) := by
  refine vl_1500 hc ?_
  refine w_132 hk hI (fun μ1 f1 I1 v1 => Or.inl ⟨_, rfl, ?_⟩)
  refine m_217 hk (gSm.cw hT f1) (fun μ3 w3 f3 T3 c3 v3 => ⟨_, rfl, s_152 c3 ⟨_, rfl, ?_⟩⟩)
  have N : ∀ y6 y7 y8, gWp (some (SL, xs)) 230 (2023, [some (.ref 1000), some (.ref 0), some (.ref 1), some (.ref 64), some (.ref 65), some (.int (nI i)), y6, y7, y8], [], μ3) (cnt + 2) (fun _ r => r = .inl (some (.int 1))) := fun y6 y7 y8 => hn T μ3 2 y6 y7 y8 hk (I1.mm f3) T3 (by decide)
  refine ⟨fun _ => ⟨fun _ => N _ _ _, fun z => ⟨vp_in_nI (n := 0) (by decide) (by decide), fun _ => N _ _ _, fun z2 => ?_⟩⟩, fun z => absurd rfl z⟩
  exfalso
  obtain ⟨v, hv⟩ := cd0 (by decide) (by decide) z
  apply z2
  rw [sb_cl0, f3.J (by decide), v1 v hv, v3 v hv]
  exact lg_self _
theorem c_1544 {SL i cnt : Nat} {xs : Nat → Int32} {T : gS} {μ : gMu} (hS : i + 4 ≤ SL) (hL : SL ≤ 2048) (hc : cnt + 5 ≤ 2560) (hk : gOk T) (hI : cI T μ) (hT : mTx T μ) (hn : lNx SL xs i cnt) : gWp (some (SL, xs)) 230 (1544, [some (.ref 1000), some (.ref 0), some (.ref 1), some (.ref 64), some (.ref 65), some (.int (nI i)), none, none, none], [], μ) cnt (fun _ r => r = .inl (some (.int 1))) := by
  refine vl_1544 hc ?_
  try simp (disch := first | omega | decide) only [show i + 1 < SL by omega, show i + 2 < SL by omega, show i + 3 < SL by omega, show SL < 2 ^ 31 by omega, show i < 2 ^ 31 by omega, nE_l, nE_r, nE_n, nLe_l, nLe_r, nLe_n, nLt_l, nLt_r, nLt_n, nA_l, nA_r, nI_add, nS_l, nS_n, nIn, nI_clamp, gI_I, gI_J, gI_D, gJ_J, gJ_I, gJ_D, true_and, and_true, false_and, and_false, if_true, if_false, false_implies, true_implies, not_true_eq_false, not_false_eq_true, bI_0, bI_1, Nat.reduceEqDiff, eq_self, nMax, nMin]
  refine w_134 hk hI (fun μ1 f1 I1 v1 => Or.inl ⟨_, rfl, ?_⟩)
  try simp (disch := first | omega | decide) only [show i + 1 < SL by omega, show i + 2 < SL by omega, show i + 3 < SL by omega, show SL < 2 ^ 31 by omega, show i < 2 ^ 31 by omega, nE_l, nE_r, nE_n, nLe_l, nLe_r, nLe_n, nLt_l, nLt_r, nLt_n, nA_l, nA_r, nI_add, nS_l, nS_n, nIn, nI_clamp, gI_I, gI_J, gI_D, gJ_J, gJ_I, gJ_D, true_and, and_true, false_and, and_false, if_true, if_false, false_implies, true_implies, not_true_eq_false, not_false_eq_true, bI_0, bI_1, Nat.reduceEqDiff, eq_self, nMax, nMin]
  refine m_219 hk (gSm.cw hT f1) (fun μ3 w3 f3 T3 c3 v3 => ⟨_, rfl, s_152 c3 ⟨_, rfl, ?_⟩⟩)
  have N : ∀ y6 y7 y8, gWp (some (SL, xs)) 230 (2023, [some (.ref 1000), some (.ref 0), some (.ref 1), some (.ref 64), some (.ref 65), some (.int (nI i)), y6, y7, y8], [], μ3) (cnt + 2) (fun _ r => r = .inl (some (.int 1))) := fun y6 y7 y8 => hn T μ3 2 y6 y7 y8 hk (I1.mm f3) T3 (by decide)
  refine ⟨fun _ => ⟨fun _ => N _ _ _, fun z => ⟨vp_in_nI (n := 0) (by decide) (by decide), fun _ => N _ _ _, fun z2 => ?_⟩⟩, fun z => absurd rfl z⟩
  exfalso
  obtain ⟨v, hv⟩ := cd0 (by decide) (by decide) z
  apply z2
  rw [sb_cl0, f3.J (by decide), v1 v hv, v3 v hv]
  exact lg_self _
theorem c_1600 {SL i cnt : Nat} {xs : Nat → Int32} {T : gS} {μ : gMu} (hS : i + 4 ≤ SL) (hL : SL ≤ 2048) (hc : cnt + 5 ≤ 2560) (hk : gOk T) (hI : cI T μ) (hT : mTx T μ) (hn : lNx SL xs i cnt) : gWp (some (SL, xs)) 230 (1600, [some (.ref 1000), some (.ref 0), some (.ref 1), some (.ref 64), some (.ref 65), some (.int (nI i)), none, none, none], [], μ) cnt (fun _ r => r = .inl (some (.int 1))) := by
  refine vl_1600 hc ?_
  try simp (disch := first | omega | decide) only [show i + 1 < SL by omega, show i + 2 < SL by omega, show i + 3 < SL by omega, show SL < 2 ^ 31 by omega, show i < 2 ^ 31 by omega, nE_l, nE_r, nE_n, nLe_l, nLe_r, nLe_n, nLt_l, nLt_r, nLt_n, nA_l, nA_r, nI_add, nS_l, nS_n, nIn, nI_clamp, gI_I, gI_J, gI_D, gJ_J, gJ_I, gJ_D, true_and, and_true, false_and, and_false, if_true, if_false, false_implies, true_implies, not_true_eq_false, not_false_eq_true, bI_0, bI_1, Nat.reduceEqDiff, eq_self, nMax, nMin]
  refine w_136 hk hI (fun μ1 f1 I1 v1 => Or.inl ⟨_, rfl, ?_⟩)
  try simp (disch := first | omega | decide) only [show i + 1 < SL by omega, show i + 2 < SL by omega, show i + 3 < SL by omega, show SL < 2 ^ 31 by omega, show i < 2 ^ 31 by omega, nE_l, nE_r, nE_n, nLe_l, nLe_r, nLe_n, nLt_l, nLt_r, nLt_n, nA_l, nA_r, nI_add, nS_l, nS_n, nIn, nI_clamp, gI_I, gI_J, gI_D, gJ_J, gJ_I, gJ_D, true_and, and_true, false_and, and_false, if_true, if_false, false_implies, true_implies, not_true_eq_false, not_false_eq_true, bI_0, bI_1, Nat.reduceEqDiff, eq_self, nMax, nMin]
  refine m_220 hk (gSm.cw hT f1) (fun μ3 w3 f3 T3 c3 v3 => ⟨_, rfl, s_152 c3 ⟨_, rfl, ?_⟩⟩)
  have N : ∀ y6 y7 y8, gWp (some (SL, xs)) 230 (2023, [some (.ref 1000), some (.ref 0), some (.ref 1), some (.ref 64), some (.ref 65), some (.int (nI i)), y6, y7, y8], [], μ3) (cnt + 3) (fun _ r => r = .inl (some (.int 1))) := fun y6 y7 y8 => hn T μ3 3 y6 y7 y8 hk (I1.mm f3) T3 (by decide)
  refine ⟨fun _ => ⟨fun _ => N _ _ _, fun z => ⟨vp_in_nI (n := 0) (by decide) (by decide), fun _ => N _ _ _, fun z2 => ?_⟩⟩, fun z => absurd rfl z⟩
  exfalso
  obtain ⟨v, hv⟩ := cd0 (by decide) (by decide) z
  apply z2
  rw [sb_cl0, f3.J (by decide), v1 v hv, v3 v hv]
  exact lg_self _
theorem c_1668 {SL i cnt : Nat} {xs : Nat → Int32} {T : gS} {μ : gMu} (hS : i + 4 ≤ SL) (hL : SL ≤ 2048) (hc : cnt + 5 ≤ 2560) (hk : gOk T) (hI : cI T μ) (hT : mTx T μ) (hn : lNx SL xs i cnt) : gWp (some (SL, xs)) 230 (1668, [some (.ref 1000), some (.ref 0), some (.ref 1), some (.ref 64), some (.ref 65), some (.int (nI i)), none, none, none], [], μ) cnt (fun _ r => r = .inl (some (.int 1))) := by
  refine vl_1668 hc ?_
  try simp (disch := first | omega | decide) only [show i + 1 < SL by omega, show i + 2 < SL by omega, show i + 3 < SL by omega, show SL < 2 ^ 31 by omega, show i < 2 ^ 31 by omega, nE_l, nE_r, nE_n, nLe_l, nLe_r, nLe_n, nLt_l, nLt_r, nLt_n, nA_l, nA_r, nI_add, nS_l, nS_n, nIn, nI_clamp, gI_I, gI_J, gI_D, gJ_J, gJ_I, gJ_D, true_and, and_true, false_and, and_false, if_true, if_false, false_implies, true_implies, not_true_eq_false, not_false_eq_true, bI_0, bI_1, Nat.reduceEqDiff, eq_self, nMax, nMin]
  refine w_139 hk hI (fun μ1 f1 I1 v1 => Or.inl ⟨_, rfl, ?_⟩)
  try simp (disch := first | omega | decide) only [show i + 1 < SL by omega, show i + 2 < SL by omega, show i + 3 < SL by omega, show SL < 2 ^ 31 by omega, show i < 2 ^ 31 by omega, nE_l, nE_r, nE_n, nLe_l, nLe_r, nLe_n, nLt_l, nLt_r, nLt_n, nA_l, nA_r, nI_add, nS_l, nS_n, nIn, nI_clamp, gI_I, gI_J, gI_D, gJ_J, gJ_I, gJ_D, true_and, and_true, false_and, and_false, if_true, if_false, false_implies, true_implies, not_true_eq_false, not_false_eq_true, bI_0, bI_1, Nat.reduceEqDiff, eq_self, nMax, nMin]
  refine m_222 hk (gSm.cw hT f1) (fun μ3 w3 f3 T3 c3 v3 => ⟨_, rfl, s_152 c3 ⟨_, rfl, ?_⟩⟩)
  have N : ∀ y6 y7 y8, gWp (some (SL, xs)) 230 (2023, [some (.ref 1000), some (.ref 0), some (.ref 1), some (.ref 64), some (.ref 65), some (.int (nI i)), y6, y7, y8], [], μ3) (cnt + 5) (fun _ r => r = .inl (some (.int 1))) := fun y6 y7 y8 => hn T μ3 5 y6 y7 y8 hk (I1.mm f3) T3 (by decide)
  refine ⟨fun _ => ⟨fun _ => N _ _ _, fun z => ⟨vp_in_nI (n := 0) (by decide) (by decide), fun _ => N _ _ _, fun z2 => ?_⟩⟩, fun z => absurd rfl z⟩
  exfalso
  obtain ⟨v, hv⟩ := cd0 (by decide) (by decide) z
  apply z2
  rw [sb_cl0, f3.J (by decide), v1 v hv, v3 v hv]
  exact lg_self _
theorem c_1724 {SL i cnt : Nat} {xs : Nat → Int32} {T : gS} {μ : gMu} (hS : i + 4 ≤ SL) (hL : SL ≤ 2048) (hc : cnt + 5 ≤ 2560) (hk : gOk T) (hI : cI T μ) (hT : mTx T μ) (hn : lNx SL xs i cnt) : gWp (some (SL, xs)) 230 (1724, [some (.ref 1000), some (.ref 0), some (.ref 1), some (.ref 64), some (.ref 65), some (.int (nI i)), none, none, none], [], μ) cnt (fun _ r => r = .inl (some (.int 1))) := by
  refine vl_1724 hc ?_
  try simp (disch := first | omega | decide) only [show i + 1 < SL by omega, show i + 2 < SL by omega, show i + 3 < SL by omega, show SL < 2 ^ 31 by omega, show i < 2 ^ 31 by omega, nE_l, nE_r, nE_n, nLe_l, nLe_r, nLe_n, nLt_l, nLt_r, nLt_n, nA_l, nA_r, nI_add, nS_l, nS_n, nIn, nI_clamp, gI_I, gI_J, gI_D, gJ_J, gJ_I, gJ_D, true_and, and_true, false_and, and_false, if_true, if_false, false_implies, true_implies, not_true_eq_false, not_false_eq_true, bI_0, bI_1, Nat.reduceEqDiff, eq_self, nMax, nMin]
  refine w_142 hk hI (fun μ1 f1 I1 v1 => Or.inl ⟨_, rfl, ?_⟩)
  try simp (disch := first | omega | decide) only [show i + 1 < SL by omega, show i + 2 < SL by omega, show i + 3 < SL by omega, show SL < 2 ^ 31 by omega, show i < 2 ^ 31 by omega, nE_l, nE_r, nE_n, nLe_l, nLe_r, nLe_n, nLt_l, nLt_r, nLt_n, nA_l, nA_r, nI_add, nS_l, nS_n, nIn, nI_clamp, gI_I, gI_J, gI_D, gJ_J, gJ_I, gJ_D, true_and, and_true, false_and, and_false, if_true, if_false, false_implies, true_implies, not_true_eq_false, not_false_eq_true, bI_0, bI_1, Nat.reduceEqDiff, eq_self, nMax, nMin]
  refine m_223 hk (gSm.cw hT f1) (fun μ3 w3 f3 T3 c3 v3 => ⟨_, rfl, s_152 c3 ⟨_, rfl, ?_⟩⟩)
  have N : ∀ y6 y7 y8, gWp (some (SL, xs)) 230 (2023, [some (.ref 1000), some (.ref 0), some (.ref 1), some (.ref 64), some (.ref 65), some (.int (nI i)), y6, y7, y8], [], μ3) (cnt + 5) (fun _ r => r = .inl (some (.int 1))) := fun y6 y7 y8 => hn T μ3 5 y6 y7 y8 hk (I1.mm f3) T3 (by decide)
  refine ⟨fun _ => ⟨fun _ => N _ _ _, fun z => ⟨vp_in_nI (n := 0) (by decide) (by decide), fun _ => N _ _ _, fun z2 => ?_⟩⟩, fun z => absurd rfl z⟩
  exfalso
  obtain ⟨v, hv⟩ := cd0 (by decide) (by decide) z
  apply z2
  rw [sb_cl0, f3.J (by decide), v1 v hv, v3 v hv]
  exact lg_self _
theorem c_1780 {SL i cnt : Nat} {xs : Nat → Int32} {T : gS} {μ : gMu} (hS : i + 4 ≤ SL) (hL : SL ≤ 2048) (hc : cnt + 5 ≤ 2560) (hk : gOk T) (hI : cI T μ) (hT : mTx T μ) (hn : lNx SL xs i cnt) : gWp (some (SL, xs)) 230 (1780, [some (.ref 1000), some (.ref 0), some (.ref 1), some (.ref 64), some (.ref 65), some (.int (nI i)), none, none, none], [], μ) cnt (fun _ r => r = .inl (some (.int 1))) := by
  refine vl_1780 hc ?_
  try simp (disch := first | omega | decide) only [show i + 1 < SL by omega, show i + 2 < SL by omega, show i + 3 < SL by omega, show SL < 2 ^ 31 by omega, show i < 2 ^ 31 by omega, nE_l, nE_r, nE_n, nLe_l, nLe_r, nLe_n, nLt_l, nLt_r, nLt_n, nA_l, nA_r, nI_add, nS_l, nS_n, nIn, nI_clamp, gI_I, gI_J, gI_D, gJ_J, gJ_I, gJ_D, true_and, and_true, false_and, and_false, if_true, if_false, false_implies, true_implies, not_true_eq_false, not_false_eq_true, bI_0, bI_1, Nat.reduceEqDiff, eq_self, nMax, nMin]
  refine w_144 hk hI (fun μ1 f1 I1 v1 => Or.inl ⟨_, rfl, ?_⟩)
  try simp (disch := first | omega | decide) only [show i + 1 < SL by omega, show i + 2 < SL by omega, show i + 3 < SL by omega, show SL < 2 ^ 31 by omega, show i < 2 ^ 31 by omega, nE_l, nE_r, nE_n, nLe_l, nLe_r, nLe_n, nLt_l, nLt_r, nLt_n, nA_l, nA_r, nI_add, nS_l, nS_n, nIn, nI_clamp, gI_I, gI_J, gI_D, gJ_J, gJ_I, gJ_D, true_and, and_true, false_and, and_false, if_true, if_false, false_implies, true_implies, not_true_eq_false, not_false_eq_true, bI_0, bI_1, Nat.reduceEqDiff, eq_self, nMax, nMin]
  refine m_226 hk (gSm.cw hT f1) (fun μ3 w3 f3 T3 c3 v3 => ⟨_, rfl, s_152 c3 ⟨_, rfl, ?_⟩⟩)
  have N : ∀ y6 y7 y8, gWp (some (SL, xs)) 230 (2023, [some (.ref 1000), some (.ref 0), some (.ref 1), some (.ref 64), some (.ref 65), some (.int (nI i)), y6, y7, y8], [], μ3) (cnt + 5) (fun _ r => r = .inl (some (.int 1))) := fun y6 y7 y8 => hn T μ3 5 y6 y7 y8 hk (I1.mm f3) T3 (by decide)
  refine ⟨fun _ => ⟨fun _ => N _ _ _, fun z => ⟨vp_in_nI (n := 0) (by decide) (by decide), fun _ => N _ _ _, fun z2 => ?_⟩⟩, fun z => absurd rfl z⟩
  exfalso
  obtain ⟨v, hv⟩ := cd0 (by decide) (by decide) z
  apply z2
  rw [sb_cl0, f3.J (by decide), v1 v hv, v3 v hv]
  exact lg_self _
theorem c_1836 {SL i cnt : Nat} {xs : Nat → Int32} {T : gS} {μ : gMu} (hS : i + 4 ≤ SL) (hL : SL ≤ 2048) (hc : cnt + 5 ≤ 2560) (hk : gOk T) (hI : cI T μ) (hT : mTx T μ) (hn : lNx SL xs i cnt) : gWp (some (SL, xs)) 230 (1836, [some (.ref 1000), some (.ref 0), some (.ref 1), some (.ref 64), some (.ref 65), some (.int (nI i)), none, none, none], [], μ) cnt (fun _ r => r = .inl (some (.int 1))) := by
  refine vl_1836 hc ?_
  try simp (disch := first | omega | decide) only [show i + 1 < SL by omega, show i + 2 < SL by omega, show i + 3 < SL by omega, show SL < 2 ^ 31 by omega, show i < 2 ^ 31 by omega, nE_l, nE_r, nE_n, nLe_l, nLe_r, nLe_n, nLt_l, nLt_r, nLt_n, nA_l, nA_r, nI_add, nS_l, nS_n, nIn, nI_clamp, gI_I, gI_J, gI_D, gJ_J, gJ_I, gJ_D, true_and, and_true, false_and, and_false, if_true, if_false, false_implies, true_implies, not_true_eq_false, not_false_eq_true, bI_0, bI_1, Nat.reduceEqDiff, eq_self, nMax, nMin]
  refine w_146 hk hI (fun μ1 f1 I1 v1 => Or.inl ⟨_, rfl, ?_⟩)
  try simp (disch := first | omega | decide) only [show i + 1 < SL by omega, show i + 2 < SL by omega, show i + 3 < SL by omega, show SL < 2 ^ 31 by omega, show i < 2 ^ 31 by omega, nE_l, nE_r, nE_n, nLe_l, nLe_r, nLe_n, nLt_l, nLt_r, nLt_n, nA_l, nA_r, nI_add, nS_l, nS_n, nIn, nI_clamp, gI_I, gI_J, gI_D, gJ_J, gJ_I, gJ_D, true_and, and_true, false_and, and_false, if_true, if_false, false_implies, true_implies, not_true_eq_false, not_false_eq_true, bI_0, bI_1, Nat.reduceEqDiff, eq_self, nMax, nMin]
  refine m_227 hk (gSm.cw hT f1) (fun μ3 w3 f3 T3 c3 v3 => ⟨_, rfl, s_152 c3 ⟨_, rfl, ?_⟩⟩)
  have N : ∀ y6 y7 y8, gWp (some (SL, xs)) 230 (2023, [some (.ref 1000), some (.ref 0), some (.ref 1), some (.ref 64), some (.ref 65), some (.int (nI i)), y6, y7, y8], [], μ3) (cnt + 5) (fun _ r => r = .inl (some (.int 1))) := fun y6 y7 y8 => hn T μ3 5 y6 y7 y8 hk (I1.mm f3) T3 (by decide)
  refine ⟨fun _ => ⟨fun _ => N _ _ _, fun z => ⟨vp_in_nI (n := 0) (by decide) (by decide), fun _ => N _ _ _, fun z2 => ?_⟩⟩, fun z => absurd rfl z⟩
  exfalso
  obtain ⟨v, hv⟩ := cd0 (by decide) (by decide) z
  apply z2
  rw [sb_cl0, f3.J (by decide), v1 v hv, v3 v hv]
  exact lg_self _
theorem c_563 {SL i cnt : Nat} {xs : Nat → Int32} {T : gS} {μ : gMu} (hS : i + 4 ≤ SL) (hL : SL ≤ 2048) (hc : cnt + 5 ≤ 2560) (hk : gOk T) (hI : cI T μ) (hT : mTx T μ) (hn : lNx SL xs i cnt) : gWp (some (SL, xs)) 230 (563, [some (.ref 1000), some (.ref 0), some (.ref 1), some (.ref 64), some (.ref 65), some (.int (nI i)), none, none, none], [], μ) cnt (fun _ r => r = .inl (some (.int 1))) := by
  refine vl_563 hc ?_
  refine s_2 hI.1 ⟨_, rfl, ?_⟩
  refine m_169 hT (fun μ3 f3 T3 => ⟨_, rfl, ?_⟩)
  exact ⟨fun _ => hn T μ3 0 _ _ _ hk (hI.mm f3) T3 (by decide), fun z => absurd rfl z⟩
theorem c_632 {SL i cnt : Nat} {xs : Nat → Int32} {T : gS} {μ : gMu} (hS : i + 4 ≤ SL) (hL : SL ≤ 2048) (hc : cnt + 5 ≤ 2560) (hk : gOk T) (hI : cI T μ) (hT : mTx T μ) (hn : lNx SL xs i cnt) : gWp (some (SL, xs)) 230 (632, [some (.ref 1000), some (.ref 0), some (.ref 1), some (.ref 64), some (.ref 65), some (.int (nI i)), none, none, none], [], μ) cnt (fun _ r => r = .inl (some (.int 1))) := by
  refine vl_632 hc ?_
  refine s_5 hI.1 hk ⟨_, rfl, ?_⟩
  refine m_171 hk hT (fun μ3 f3 T3 => ⟨_, rfl, ?_⟩)
  exact ⟨fun _ => hn T μ3 0 _ _ _ hk (hI.mm f3) T3 (by decide), fun z => absurd rfl z⟩
theorem c_869 {SL i cnt : Nat} {xs : Nat → Int32} {T : gS} {μ : gMu} (hS : i + 4 ≤ SL) (hL : SL ≤ 2048) (hc : cnt + 5 ≤ 2560) (hk : gOk T) (hI : cI T μ) (hT : mTx T μ) (hn : lNx SL xs i cnt) : gWp (some (SL, xs)) 230 (869, [some (.ref 1000), some (.ref 0), some (.ref 1), some (.ref 64), some (.ref 65), some (.int (nI i)), none, none, none], [], μ) cnt (fun _ r => r = .inl (some (.int 1))) := by
  refine vl_869 hc ?_
  refine s_63 hk hI (fun μ1 f1 I1 => ⟨_, rfl, ?_⟩)
  refine m_185 hk (gSm.cw hT f1.CW) (fun μ3 f3 T3 => ⟨_, rfl, ?_⟩)
  exact ⟨fun _ => hn T μ3 0 _ _ _ hk (I1.mm f3) T3 (by decide), fun z => absurd rfl z⟩
theorem c_994 {SL i cnt : Nat} {xs : Nat → Int32} {T : gS} {μ : gMu} (hS : i + 4 ≤ SL) (hL : SL ≤ 2048) (hc : cnt + 5 ≤ 2560) (hk : gOk T) (hI : cI T μ) (hT : mTx T μ) (hn : lNx SL xs i cnt) : gWp (some (SL, xs)) 230 (994, [some (.ref 1000), some (.ref 0), some (.ref 1), some (.ref 64), some (.ref 65), some (.int (nI i)), none, none, none], [], μ) cnt (fun _ r => r = .inl (some (.int 1))) := by
  refine vl_994 hc ?_
  refine s_64 hk hI (fun μ1 f1 I1 => ⟨_, rfl, ?_⟩)
  refine m_188 hk (gSm.cw hT f1.CW) (fun μ3 f3 T3 => ⟨_, rfl, ?_⟩)
  exact ⟨fun _ => hn T μ3 0 _ _ _ hk (I1.mm f3) T3 (by decide), fun z => absurd rfl z⟩
theorem c_1007 {SL i cnt : Nat} {xs : Nat → Int32} {T : gS} {μ : gMu} (hS : i + 4 ≤ SL) (hL : SL ≤ 2048) (hc : cnt + 5 ≤ 2560) (hk : gOk T) (hI : cI T μ) (hT : mTx T μ) (hn : lNx SL xs i cnt) : gWp (some (SL, xs)) 230 (1007, [some (.ref 1000), some (.ref 0), some (.ref 1), some (.ref 64), some (.ref 65), some (.int (nI i)), none, none, none], [], μ) cnt (fun _ r => r = .inl (some (.int 1))) := by
  refine vl_1007 hc ?_
  refine s_66 hk hI (fun μ1 f1 I1 => ⟨_, rfl, ?_⟩)
  refine m_189 hk (gSm.cw hT f1.CW) (fun μ3 f3 T3 => ⟨_, rfl, ?_⟩)
  exact ⟨fun _ => hn T μ3 0 _ _ _ hk (I1.mm f3) T3 (by decide), fun z => absurd rfl z⟩
theorem c_1076 {SL i cnt : Nat} {xs : Nat → Int32} {T : gS} {μ : gMu} (hS : i + 4 ≤ SL) (hL : SL ≤ 2048) (hc : cnt + 5 ≤ 2560) (hk : gOk T) (hI : cI T μ) (hT : mTx T μ) (hn : lNx SL xs i cnt) : gWp (some (SL, xs)) 230 (1076, [some (.ref 1000), some (.ref 0), some (.ref 1), some (.ref 64), some (.ref 65), some (.int (nI i)), none, none, none], [], μ) cnt (fun _ r => r = .inl (some (.int 1))) := by
  refine vl_1076 hc ?_
  refine s_68 hk hI (fun μ1 f1 I1 => ⟨_, rfl, ?_⟩)
  refine m_198 hk (gSm.cw hT f1.CW) (fun μ3 f3 T3 => ⟨_, rfl, ?_⟩)
  exact ⟨fun _ => hn T μ3 0 _ _ _ hk (I1.mm f3) T3 (by decide), fun z => absurd rfl z⟩
theorem c_1089 {SL i cnt : Nat} {xs : Nat → Int32} {T : gS} {μ : gMu} (hS : i + 4 ≤ SL) (hL : SL ≤ 2048) (hc : cnt + 5 ≤ 2560) (hk : gOk T) (hI : cI T μ) (hT : mTx T μ) (hn : lNx SL xs i cnt) : gWp (some (SL, xs)) 230 (1089, [some (.ref 1000), some (.ref 0), some (.ref 1), some (.ref 64), some (.ref 65), some (.int (nI i)), none, none, none], [], μ) cnt (fun _ r => r = .inl (some (.int 1))) := by
  refine vl_1089 hc ?_
  refine s_69 hk hI (fun μ1 f1 I1 => ⟨_, rfl, ?_⟩)
  refine m_199 hk (gSm.cw hT f1.CW) (fun μ3 f3 T3 => ⟨_, rfl, ?_⟩)
  exact ⟨fun _ => hn T μ3 0 _ _ _ hk (I1.mm f3) T3 (by decide), fun z => absurd rfl z⟩
theorem c_440 {SL i cnt : Nat} {xs : Nat → Int32} {T : gS} {μ : gMu} (hS : i + 4 ≤ SL) (hL : SL ≤ 2048) (hc : cnt + 5 ≤ 2560) (hk : gOk T) (hI : cI T μ) (hT : mTx T μ) (hn : lNx SL xs i cnt) : gWp (some (SL, xs)) 230 (440, [some (.ref 1000), some (.ref 0), some (.ref 1), some (.ref 64), some (.ref 65), some (.int (nI i)), none, none, none], [], μ) cnt (fun _ r => r = .inl (some (.int 1))) := by
  refine vl_440 hc ?_
  try simp (disch := first | omega | decide) only [show i + 1 < SL by omega, show i + 2 < SL by omega, show i + 3 < SL by omega, show SL < 2 ^ 31 by omega, show i < 2 ^ 31 by omega, nE_l, nE_r, nE_n, nLe_l, nLe_r, nLe_n, nLt_l, nLt_r, nLt_n, nA_l, nA_r, nI_add, nS_l, nS_n, nIn, nI_clamp, gI_I, gI_J, gI_D, gJ_J, gJ_I, gJ_D, true_and, and_true, false_and, and_false, if_true, if_false, false_implies, true_implies, not_true_eq_false, not_false_eq_true, bI_0, bI_1, Nat.reduceEqDiff, eq_self, nMax, nMin]
  refine ⟨fun z => ?_, fun z => ?_⟩
  · refine s_1 (r := false) hk (eq_true rfl |>.trans (eq_true rfl).symm) hI (fun μ1 f1 I1 => ⟨_, rfl, ?_⟩)
    try simp (disch := first | omega | decide) only [show i + 1 < SL by omega, show i + 2 < SL by omega, show i + 3 < SL by omega, show SL < 2 ^ 31 by omega, show i < 2 ^ 31 by omega, nE_l, nE_r, nE_n, nLe_l, nLe_r, nLe_n, nLt_l, nLt_r, nLt_n, nA_l, nA_r, nI_add, nS_l, nS_n, nIn, nI_clamp, gI_I, gI_J, gI_D, gJ_J, gJ_I, gJ_D, true_and, and_true, false_and, and_false, if_true, if_false, false_implies, true_implies, not_true_eq_false, not_false_eq_true, bI_0, bI_1, Nat.reduceEqDiff, eq_self, nMax, nMin]
    refine ⟨fun _ => ?_, fun q => absurd z q⟩
    refine m_166 (r := false) hk rfl (gSm.cw hT f1.CW) (fun μ3 f3 T3 => ⟨_, rfl, ?_⟩)
    exact ⟨fun _ => hn (sbsT T false) μ3 0 _ _ _ (sbsT_ok hk) (I1.mm f3) T3 (by decide), fun z => absurd rfl z⟩
  · refine s_1 (r := true) hk (by simp) hI (fun μ1 f1 I1 => ⟨_, rfl, ?_⟩)
    try simp (disch := first | omega | decide) only [show i + 1 < SL by omega, show i + 2 < SL by omega, show i + 3 < SL by omega, show SL < 2 ^ 31 by omega, show i < 2 ^ 31 by omega, nE_l, nE_r, nE_n, nLe_l, nLe_r, nLe_n, nLt_l, nLt_r, nLt_n, nA_l, nA_r, nI_add, nS_l, nS_n, nIn, nI_clamp, gI_I, gI_J, gI_D, gJ_J, gJ_I, gJ_D, true_and, and_true, false_and, and_false, if_true, if_false, false_implies, true_implies, not_true_eq_false, not_false_eq_true, bI_0, bI_1, Nat.reduceEqDiff, eq_self, nMax, nMin]
    refine ⟨fun q => absurd q z, fun _ => ?_⟩
    refine m_166 (r := true) hk rfl (gSm.cw hT f1.CW) (fun μ3 f3 T3 => ⟨_, rfl, ?_⟩)
    exact ⟨fun _ => hn (sbsT T true) μ3 0 _ _ _ (sbsT_ok hk) (I1.mm f3) T3 (by decide), fun z => absurd rfl z⟩
theorem c_1892 {SL i cnt : Nat} {xs : Nat → Int32} {T : gS} {μ : gMu} (hS : i + 4 ≤ SL) (hL : SL ≤ 2048) (hc : cnt + 5 ≤ 2560) (hk : gOk T) (hI : cI T μ) (hT : mTx T μ) (hn : lNx SL xs i cnt) : gWp (some (SL, xs)) 230 (1892, [some (.ref 1000), some (.ref 0), some (.ref 1), some (.ref 64), some (.ref 65), some (.int (nI i)), none, none, none], [], μ) cnt (fun _ r => r = .inl (some (.int 1))) := by
  refine vl_1892 hc ?_
  refine w_149 hk hI (fun μ1 f1 I1 v1 => Or.inl ⟨_, rfl, ?_⟩)
  refine m_228 hk (gSm.cw hT f1) (fun μ3 w3 f3 T3 c3 v3 => ⟨_, rfl, s_152 c3 ⟨_, rfl, ?_⟩⟩)
  have N : ∀ y6 y7 y8, gWp (some (SL, xs)) 230 (2023, [some (.ref 1000), some (.ref 0), some (.ref 1), some (.ref 64), some (.ref 65), some (.int (nI i)), y6, y7, y8], [], μ3) (cnt + 2) (fun _ r => r = .inl (some (.int 1))) := fun y6 y7 y8 => hn T μ3 2 y6 y7 y8 hk (I1.mm f3) T3 (by decide)
  refine ⟨fun _ => ⟨fun _ => N _ _ _, fun z => ?_⟩, fun z => absurd rfl z⟩
  obtain ⟨v, hv⟩ := cd0 (by decide) (by decide) z
  have n := hypA_n hk hv
  have e1 := v1 v hv n
  have e3 := v3 v hv
  subst e3
  refine ⟨vp_in_nI (n := 0) (by decide) (by decide), n, fun _ => N _ _ _, fun z2 => ?_⟩
  exfalso
  apply z2
  rw [sb_cl0, show gD μ3 65 0 = gD μ1 65 0 from by unfold gD; rw [(f3 65 (by decide)).2.2], e1, dcmp_self n]
  rfl
theorem c_1958 {SL i cnt : Nat} {xs : Nat → Int32} {T : gS} {μ : gMu} (hS : i + 4 ≤ SL) (hL : SL ≤ 2048) (hc : cnt + 5 ≤ 2560) (hk : gOk T) (hI : cI T μ) (hT : mTx T μ) (hn : lNx SL xs i cnt) : gWp (some (SL, xs)) 230 (1958, [some (.ref 1000), some (.ref 0), some (.ref 1), some (.ref 64), some (.ref 65), some (.int (nI i)), none, none, none], [], μ) cnt (fun _ r => r = .inl (some (.int 1))) := by
  refine vl_1958 hc ?_
  refine w_151 hk hI (fun μ1 f1 I1 v1 => Or.inl ⟨_, rfl, ?_⟩)
  refine m_229 hk (gSm.cw hT f1) (fun μ3 w3 f3 T3 c3 v3 => ⟨_, rfl, s_152 c3 ⟨_, rfl, ?_⟩⟩)
  have N : ∀ y6 y7 y8, gWp (some (SL, xs)) 230 (2023, [some (.ref 1000), some (.ref 0), some (.ref 1), some (.ref 64), some (.ref 65), some (.int (nI i)), y6, y7, y8], [], μ3) (cnt + 2) (fun _ r => r = .inl (some (.int 1))) := fun y6 y7 y8 => hn T μ3 2 y6 y7 y8 hk (I1.mm f3) T3 (by decide)
  refine ⟨fun _ => ⟨fun _ => N _ _ _, fun z => ?_⟩, fun z => absurd rfl z⟩
  obtain ⟨v, hv⟩ := cd0 (by decide) (by decide) z
  have n := mea_n hk hv
  have e1 := v1 v hv
  have e3 := v3 v hv
  subst e3
  refine ⟨vp_in_nI (n := 0) (by decide) (by decide), fun _ => N _ _ _, fun z2 => ?_⟩
  exfalso
  apply z2
  rw [sb_cl0, show gD μ3 65 0 = gD μ1 65 0 from by unfold gD; rw [(f3 65 (by decide)).2.2], e1, dcmp_self n]
  rfl
theorem c_sw {SL i cnt : Nat} {xs : Nat → Int32} {T : gS} {μ : gMu} (hS : i + 4 ≤ SL) (hL : SL ≤ 2048) (hc : cnt + 5 ≤ 2560) (hk : gOk T) (hI : cI T μ) (hT : mTx T μ) (hn : lNx SL xs i cnt) : ∀ v, v < 64 → gWp (some (SL, xs)) 230 (gTg v, [some (.ref 1000), some (.ref 0), some (.ref 1), some (.ref 64), some (.ref 65), some (.int (nI i)), none, none, none], [], μ) cnt (fun _ r => r = .inl (some (.int 1)))
  | 0, _ => c_212 hS hL hc hk hI hT hn
  | 1, _ => c_270 hS hL hc hk hI hT hn
  | 2, _ => c_314 hS hL hc hk hI hT hn
  | 3, _ => c_384 hS hL hc hk hI hT hn
  | 4, _ => c_440 hS hL hc hk hI hT hn
  | 5, _ => c_481 hS hL hc hk hI hT hn
  | 6, _ => c_563 hS hL hc hk hI hT hn
  | 7, _ => c_576 hS hL hc hk hI hT hn
  | 8, _ => c_632 hS hL hc hk hI hT hn
  | 9, _ => c_645 hS hL hc hk hI hT hn
  | 10, _ => c_701 hS hL hc hk hI hT hn
  | 11, _ => c_757 hS hL hc hk hI hT hn
  | 12, _ => c_813 hS hL hc hk hI hT hn
  | 13, _ => c_869 hS hL hc hk hI hT hn
  | 14, _ => c_882 hS hL hc hk hI hT hn
  | 15, _ => c_938 hS hL hc hk hI hT hn
  | 16, _ => c_994 hS hL hc hk hI hT hn
  | 17, _ => c_1007 hS hL hc hk hI hT hn
  | 18, _ => c_1020 hS hL hc hk hI hT hn
  | 19, _ => c_1076 hS hL hc hk hI hT hn
  | 20, _ => c_1089 hS hL hc hk hI hT hn
  | 21, _ => c_1102 hS hL hc hk hI hT hn
  | 22, _ => c_1146 hS hL hc hk hI hT hn
  | 23, _ => c_1190 hS hL hc hk hI hT hn
  | 24, _ => c_1246 hS hL hc hk hI hT hn
  | 25, _ => c_1302 hS hL hc hk hI hT hn
  | 26, _ => c_1358 hS hL hc hk hI hT hn
  | 27, _ => c_1414 hS hL hc hk hI hT hn
  | 28, _ => c_1457 hS hL hc hk hI hT hn
  | 29, _ => c_1500 hS hL hc hk hI hT hn
  | 30, _ => c_1544 hS hL hc hk hI hT hn
  | 31, _ => c_1600 hS hL hc hk hI hT hn
  | 32, _ => c_1668 hS hL hc hk hI hT hn
  | 33, _ => c_1724 hS hL hc hk hI hT hn
  | 34, _ => c_1780 hS hL hc hk hI hT hn
  | 35, _ => c_1836 hS hL hc hk hI hT hn
  | 36, _ => c_1892 hS hL hc hk hI hT hn
  | 37, _ => c_1958 hS hL hc hk hI hT hn
  | 38, _ => hn T μ 0 none none none hk hI hT (by decide)
  | 39, _ => hn T μ 0 none none none hk hI hT (by decide)
  | 40, _ => hn T μ 0 none none none hk hI hT (by decide)
  | 41, _ => hn T μ 0 none none none hk hI hT (by decide)
  | 42, _ => hn T μ 0 none none none hk hI hT (by decide)
  | 43, _ => hn T μ 0 none none none hk hI hT (by decide)
  | 44, _ => hn T μ 0 none none none hk hI hT (by decide)
  | 45, _ => hn T μ 0 none none none hk hI hT (by decide)
  | 46, _ => hn T μ 0 none none none hk hI hT (by decide)
  | 47, _ => hn T μ 0 none none none hk hI hT (by decide)
  | 48, _ => hn T μ 0 none none none hk hI hT (by decide)
  | 49, _ => hn T μ 0 none none none hk hI hT (by decide)
  | 50, _ => hn T μ 0 none none none hk hI hT (by decide)
  | 51, _ => hn T μ 0 none none none hk hI hT (by decide)
  | 52, _ => hn T μ 0 none none none hk hI hT (by decide)
  | 53, _ => hn T μ 0 none none none hk hI hT (by decide)
  | 54, _ => hn T μ 0 none none none hk hI hT (by decide)
  | 55, _ => hn T μ 0 none none none hk hI hT (by decide)
  | 56, _ => hn T μ 0 none none none hk hI hT (by decide)
  | 57, _ => hn T μ 0 none none none hk hI hT (by decide)
  | 58, _ => hn T μ 0 none none none hk hI hT (by decide)
  | 59, _ => hn T μ 0 none none none hk hI hT (by decide)
  | 60, _ => hn T μ 0 none none none hk hI hT (by decide)
  | 61, _ => hn T μ 0 none none none hk hI hT (by decide)
  | 62, _ => hn T μ 0 none none none hk hI hT (by decide)
  | 63, _ => hn T μ 0 none none none hk hI hT (by decide)
  | v + 64, h => absurd h (by omega)
theorem and63x (x : Int32) : ∃ v, v < 64 ∧ x &&& 63 = nI v := by
  refine ⟨(x.toBitVec &&& 63#32).toNat, ?_, ?_⟩
  · rw [BitVec.toNat_and]
    exact Nat.lt_of_le_of_lt Nat.and_le_right (by decide)
  · apply Int32.toBitVec_inj.mp
    show x.toBitVec &&& 63#32 = BitVec.ofNat 32 (x.toBitVec &&& 63#32).toNat
    rw [BitVec.ofNat_toNat, BitVec.setWidth_eq]
theorem c_loop {SL : Nat} {xs : Nat → Int32} (hL : SL ≤ 2048) : ∀ n t T μ cnt y6 y7 y8, SL ≤ 4 * t + n → 4 * t ≤ SL → cnt ≤ 5 * t → gOk T → cI T μ → mTx T μ → gWp (some (SL, xs)) 230 (28, [some (.ref 1000), some (.ref 0), some (.ref 1), some (.ref 64), some (.ref 65), some (.int (nI (4 * t))), y6, y7, y8], [], μ) cnt (fun _ r => r = .inl (some (.int 1))) := by
  intro n
  induction n with
  | zero =>
    intro t T μ cnt y6 y7 y8 h1 h2 h3 hk hI hT
    have e : 4 * t = SL := by omega
    refine gWp_up (vl_28 ?_) (by (repeat (first | exact gUp.nil | refine gUp.cs ?_ | refine gUp.cn ?_)))
    refine ⟨fun _ => rfl, fun z => ?_⟩
    exfalso
    apply z
    rw [e]
    show nI SL - 4 < nI SL
    by_cases c : 4 ≤ SL
    · rw [show nI SL - (4 : Int32) = nI (SL - 4) from nS_l (n := 4) c, nLt_n (by omega) (by omega)]
      omega
    · have : SL = 0 := by omega
      rw [this]
      decide
  | succ n ih =>
    intro t T μ cnt y6 y7 y8 h1 h2 h3 hk hI hT
    refine gWp_up (vl_28 ?_) (by (repeat (first | exact gUp.nil | refine gUp.cs ?_ | refine gUp.cn ?_)))
    by_cases c : 4 * t + 4 ≤ SL
    · refine ⟨fun _ => rfl, fun _ => ⟨vp_in_nI (by omega) (by omega), ?_⟩⟩
      rw [nI_clamp (show 4 * t < 2 ^ 31 by omega)]
      obtain ⟨v, hv, ev⟩ := and63x (xs (4 * t))
      rw [ev]
      refine gWp_tsw hv (c_sw c hL (by omega) hk hI hT ?_ v hv)
      intro T' μ' c' z6 z7 z8 hk' hI' hT' hc'
      refine gWp_up (vl_2023 ?_) (by (repeat (first | exact gUp.nil | refine gUp.cs ?_ | refine gUp.cn ?_)))
      rw [show nI (4 * t) + (4 : Int32) = nI (4 * (t + 1)) from nA_l (4 * t) 4]
      exact ih (t + 1) T' μ' (cnt + c') none none none (by omega) (by omega) (by omega) hk' hI' hT'
    · refine ⟨fun _ => rfl, fun z => ?_⟩
      exfalso
      apply z
      show nI SL - 4 < nI (4 * t)
      by_cases c : 4 ≤ SL
      · rw [show nI SL - (4 : Int32) = nI (SL - 4) from nS_l (n := 4) c, nLt_n (by omega) (by omega)]
        omega
      · have e0 : t = 0 := by omega
        rw [e0]
        have : SL = 0 ∨ SL = 1 ∨ SL = 2 ∨ SL = 3 := by omega
        rcases this with e | e | e | e <;> rw [e] <;> decide
def gT0 : gS := (0, fun _ => 0, 0, fun _ => 4, 0, fun _ => 0, fun _ => 0, fun _ => 0, 60)
theorem gT0_ok : gOk gT0 := by
  refine ⟨by decide, fun j h => absurd h (Nat.not_lt_zero j), fun j h => absurd h (Nat.not_lt_zero j), fun j h => ?_, by decide, fun j _ => ⟨by show (1 : Nat) ≤ 4; decide, by show (4 : Nat) ≤ 20; decide⟩, by decide, fun j h => absurd h (Nat.not_lt_zero j), fun j h => absurd h (Nat.not_lt_zero j), fun j h => absurd h (Nat.not_lt_zero j), by decide⟩
  have h : j ≤ 0 := h
  have e : j = 0 := by omega
  subst e
  decide
theorem gT0_c : cI gT0 gMu0 := ⟨⟨rfl, fun j h => absurd h (Nat.not_lt_zero j), rfl, rfl, rfl, fun j _ => rfl, fun j h => absurd h (Nat.not_lt_zero j), fun j h => absurd h (Nat.not_lt_zero j), fun j h => absurd h (Nat.not_lt_zero j)⟩, rfl, rfl, Or.inl rfl⟩
theorem gT0_m : mTx gT0 gMu0 := ⟨rfl, fun j h => absurd h (Nat.not_lt_zero j), rfl, rfl, rfl, fun j _ => rfl, fun j h => absurd h (Nat.not_lt_zero j), fun j h => absurd h (Nat.not_lt_zero j), fun j h => absurd h (Nat.not_lt_zero j)⟩
theorem g_law {L : Nat} {xs : Nat → Int32} (hL : L ≤ 2048) : gWp (some (L, xs)) 230 (28, gL0, [], gMu0) 0 (fun _ r => r = .inl (some (.int 1))) := c_loop hL L 0 gT0 gMu0 0 none none none (by omega) (Nat.zero_le _) (Nat.zero_le _) gT0_ok gT0_c gT0_m
end
