/-! THE MODEL: its answers about lines, ranks and places -/
section
theorem mPt_P {T : gS} (hk : gOk T) : mPtT T (tXx T).P = tMn T := by
  show upN (mPp (tSg T) (tMn T)) (mPn (tSg T) (tMn T)) (tMn T) (tXx T).P = tMn T
  rw [← mPn_eq hk]
  exact upN_eq _ _ _
theorem tCn_pos {T : gS} (hk : gOk T) {n : Nat} (hn : n < tMn T) (hac : tAc T = true) : tCn T ≠ 0 := by
  intro e
  have h := tLs_0 hac
  rw [e, h.1] at h
  have h2 : 0 = (tXx T).P := h.2
  have h3 := mPn_eq hk
  rw [← h2] at h3
  have h4 : mPnT T = mPc (tSg T) (tMn T) + 1 := if_neg (by omega)
  omega
theorem ow_pt {T : gS} (hk : gOk T) {n q : Nat} (hn : n < tMn T) (hq : q ≤ (tXx T).P) : ((tXx T).pp q ≤ tOw T n) = ¬ n < mPtT T q := by
  have p := mPt_ok hk hq
  rw [← p.2.1, ow_gc]
  have g1 := gc_pos T n
  apply propext
  constructor
  · intro h h2
    have := gc_mono T (show n + 1 ≤ mPtT T q by omega)
    omega
  · intro h
    by_cases hl : lgT T n = 0
    · rw [gc_new hl]
      have := gc_mono T (show mPtT T q ≤ n by omega)
      omega
    · rw [gc_old hl]
      by_cases c : q = (tXx T).P
      · rw [c, mPt_P hk] at h
        omega
      · have p2 := p.2.2 (by omega)
        have hne : mPtT T q ≠ n := fun z => hl (z ▸ p2.2)
        have := gc_mono T (show mPtT T q + 1 ≤ n by omega)
        rw [gc_new p2.2] at this
        omega
theorem s_211 {T : gS} {x : Int32} {μ : gMu} {P : gMu → gRes → Prop} (hk : gOk T) (hT : mTx T μ) (h1 : ∀ μ' e, gilA T x = .inl e → mF mA mC μ μ' → mTx T μ' → gI μ' 1 9 = nI (cdF [2, 3, 1, 4] e) → P μ' (.inl (some (.int (-1))))) (h2 : ∀ μ' n j, slotA T x = .inr n → gilA T x = .inr (tOw T n) → n < tMn T → x = nI j → j < T.n → isMk (T.c j) = false → n = tM T.c j → tAc T = true → mF mA mC μ μ' → mTx T μ' → mLay T μ' → mLn T μ' → gI μ' 1 9 = 0 → P μ' (.inl (some (.int (nI (lnOf T (tOw T n))))))) : gCl' 211 [.ref 1, .int x] μ P := by
  have l40 : ¬ (4 : Int32) ≤ 0 := by decide
  have hX := tXx_ok hk
  have g4 := hX.P
  have g5 := hX.G
  have hM := tMn_le hk
  have hC := (tLs_ok (T := T)).1
  have eA : gilA T x = bA (slotA T x) fun k => if tTwT T = 0 then (if tCn T = 0 then .inl 4 else .inr (tOw T k)) else .inl 1 := rfl
  refine vc_211 (s_180 hk hT (fun μ1 e he f t c => ⟨_, rfl, fun _ => ?_, fun z => absurd rfl z⟩) (fun μ1 n j he hlt hx hj hm hnj f t L0 c0 => ⟨_, rfl, fun z => absurd z (nI_nm1 (by omega)), fun _ => ?_⟩))
  · rw [he] at eA
    refine h1 μ1 e eA f t ?_
    rw [c]
    have : e = 2 ∨ e = 3 := by
      rcases slotA_cases hk x with ⟨z, -⟩ | ⟨j, -, -, ⟨-, z⟩ | ⟨-, z, -⟩⟩
      · rw [he] at z; cases z; exact Or.inl rfl
      · rw [he] at z; cases z; exact Or.inr rfl
      · rw [he] at z; cases z
    rcases this with e | e <;> rw [e] <;> rfl
  · rw [he] at eA
    have eA : gilA T x = if tTwT T = 0 then (if tCn T = 0 then .inl 4 else .inr (tOw T n)) else .inl 1 := eA
    refine s_204 (e := 3) hk t (by decide) (fun μ3 hz f3 t3 L3 n3 c3 => ⟨_, rfl, fun _ => s_191 hk L3 ⟨_, rfl, ?_⟩, fun z => absurd rfl z⟩) (fun μ3 hz f3 t3 c3 => ⟨_, rfl, fun z => absurd z (by decide), fun _ => ?_⟩)
    · rw [if_pos hz] at eA
      rw [bI_0]
      refine ⟨fun q => ⟨fun z => absurd z l40, fun _ => ?_⟩, fun q => ⟨fun _ => ?_, fun z => absurd (by decide) z⟩⟩
      · rw [if_pos (tCn_b (by simpa using q))] at eA
        exact h1 _ 4 eA ((f.tr f3).f 9 _ (by decide)) (t3.f9 4) (by simp (disch := first | omega | decide) only [nE_l, nE_r, nE_n, nLe_l, nLe_r, nLe_n, nLt_l, nLt_r, nLt_n, nA_l, nA_r, nI_add, nS_l, nS_n, nIn, nI_clamp, gI_I, gI_J, gI_D, gJ_J, gJ_I, gJ_D, true_and, and_true, false_and, and_false, if_true, if_false, false_implies, true_implies, not_true_eq_false, not_false_eq_true, bI_0, bI_1, Nat.reduceEqDiff, eq_self, nMax, nMin]; rfl)
      · have hb : tBlT T = false := by simpa using q
        have hac : tAc T = true := by unfold tAc; rw [hz, hb]; rfl
        rw [if_neg (tCn_pos hk hlt hac)] at eA
        have s9 : mF [] [9] μ3 (gsI μ3 1 9 0) := (mF.rf _ _ _).f 9 0 (by decide)
        have n9 := n3.gf s9 (by decide) (by decide) (by decide)
        have L9 := L3.gf s9 (by decide) (by decide) (by decide) (by decide) (by decide)
        have hp := h2 (gsI μ3 1 9 0) n j he eA hlt hx hj hm hnj hac ((f.tr f3).f 9 _ (by decide)) (t3.f9 0) L9 n9 (by simp (disch := first | omega | decide) only [nE_l, nE_r, nE_n, nLe_l, nLe_r, nLe_n, nLt_l, nLt_r, nLt_n, nA_l, nA_r, nI_add, nS_l, nS_n, nIn, nI_clamp, gI_I, gI_J, gI_D, gJ_J, gJ_I, gJ_D, true_and, and_true, false_and, and_false, if_true, if_false, false_implies, true_implies, not_true_eq_false, not_false_eq_true, bI_0, bI_1, Nat.reduceEqDiff, eq_self, nMax, nMin])
        have lo := lnOf_ok hk hac (tOw_lt hlt)
        have loop : ∀ r l, l + r = tCn T → lnF (tXx T) (tLs T) (tOw T n) r l = lnOf T (tOw T n) → gWp none 211 (51, [some (.ref 1), some (.int x), some (.int (nI n)), some (.int (nI l)), some (.int (nI (tLs T l)))], [], gsI μ3 1 9 0) 0 P := by
          intro r
          induction r with
          | zero =>
            intro l hr hf
            have hf : l = lnOf T (tOw T n) := hf
            omega
          | succ r ih =>
            intro l hr hf
            have nx := n9.nx (l := l) (by omega)
            have gp := L9.pt (tLs T (l + 1)) (by omega)
            have pb := (mPt_ok hk nx.2.2).1
            have ow : (lnS (tXx T) (tLs T) (l + 1) ≤ tOw T n) = ¬ n < mPtT T (tLs T (l + 1)) := ow_pt hk hlt nx.2.2
            have e : lnF (tXx T) (tLs T) (tOw T n) (r + 1) l = if lnS (tXx T) (tLs T) (l + 1) ≤ tOw T n then lnF (tXx T) (tLs T) (tOw T n) r (l + 1) else l := rfl
            rw [e] at hf
            refine vc_211_51 ?_
            rw [nI_clamp (show tLs T l < 2 ^ 31 by omega), nx.1]
            rw [nI_clamp (show tLs T (l + 1) < 2 ^ 31 by omega), gp]
            simp (disch := first | omega | decide) only [show tLs T l < 51 by omega, show tLs T (l + 1) < 51 by omega, nE_l, nE_r, nE_n, nLe_l, nLe_r, nLe_n, nLt_l, nLt_r, nLt_n, nA_l, nA_r, nI_add, nS_l, nS_n, nIn, nI_clamp, gI_I, gI_J, gI_D, gJ_J, gJ_I, gJ_D, true_and, and_true, false_and, and_false, if_true, if_false, false_implies, true_implies, not_true_eq_false, not_false_eq_true, bI_0, bI_1, Nat.reduceEqDiff, eq_self, nMax, nMin]
            refine ⟨fun q => ?_, fun q => ih (l + 1) (by omega) ?_⟩
            · rw [if_neg (by rw [ow]; exact fun z => z q)] at hf
              rw [hf]
              exact hp
            · rw [if_pos (by rw [ow]; exact q)] at hf
              exact hf
        have z := loop (tCn T) 0 (by omega) rfl
        rw [(tLs_0 hac).1] at z
        exact z
    · rw [if_neg hz] at eA
      exact h1 _ 1 eA (f.tr f3) t3 (by rw [c3]; rfl)
theorem m_210 {T : gS} {x : Int32} {μ : gMu} {P : gMu → gRes → Prop} (hk : gOk T) (hT : mTx T μ) (h : ∀ μ' w, gSm mAll μ μ' → mTx T μ' → gI μ' 1 9 = nI (cdA [1, 2] (firA T x)) → (∀ v, firA T x = .inr v → w = v) → P μ' (.inl (some (.int w)))) : gCl' 210 [.ref 1, .int x] μ P := by
  refine vc_210 (s_209 hk hT (fun μ' e he f t c => ⟨_, rfl, fun z => absurd rfl z, fun _ => h _ _ (f.all (by decide)) t (by unfold firA; rw [he]; exact c) (fun v hv => by unfold firA at hv; rw [he] at hv; cases hv)⟩) (fun μ' l he hl f t L n c => ⟨_, rfl, fun _ => ?_, fun z => absurd z (nI_nm1 (by have := (tXx_ok hk).G; have := (tXx_ok hk).P; have := (n.nx hl).2; omega))⟩))
  have hX := tXx_ok hk
  have g4 := hX.P
  have g5 := hX.G
  have hM := tMn_le hk
  have nx := n.nx hl
  have hac := tCn_act (T := T) (by omega)
  have pm := mPt_ok hk (show tLs T l ≤ (tXx T).P by omega)
  have pm2 := pm.2.2 (by omega)
  have g1 := L.pt (tLs T l) (by omega)
  have g2 := L.ix _ pm2.1
  simp (disch := first | omega | decide) only [g1, g2, show tLs T l < 51 by omega, show mPtT T (tLs T l) < 50 by omega, nE_l, nE_r, nE_n, nLe_l, nLe_r, nLe_n, nLt_l, nLt_r, nLt_n, nA_l, nA_r, nI_add, nS_l, nS_n, nIn, nI_clamp, gI_I, gI_J, gI_D, gJ_J, gJ_I, gJ_D, true_and, and_true, false_and, and_false, if_true, if_false, false_implies, true_implies, not_true_eq_false, not_false_eq_true, bI_0, bI_1, Nat.reduceEqDiff, eq_self, nMax, nMin]
  refine h _ _ (f.all (by decide)) t (by unfold firA; rw [he, c]; rfl) (fun v hv => ?_)
  have hv : Sum.inr (nI (ixG T ((tXx T).pp (tLs T l)))) = (Sum.inr v : Nat ⊕ Int32) := by
    unfold firA at hv
    rw [he] at hv
    exact hv
  rw [← pm.2.1, ixG_slot pm2.1 pm2.2] at hv
  cases hv
  rfl
theorem m_212 {T : gS} {x : Int32} {μ : gMu} {P : gMu → gRes → Prop} (hk : gOk T) (hT : mTx T μ) (h : ∀ μ' w, gSm mAll μ μ' → mTx T μ' → gI μ' 1 9 = nI (cdA [2, 3, 1, 4] (lofA T x)) → (∀ v, lofA T x = .inr v → w = v) → P μ' (.inl (some (.int w)))) : gCl' 212 [.ref 1, .int x] μ P := by
  refine vc_212 (s_211 hk hT (fun μ' e he f t c => ⟨_, rfl, fun z => absurd rfl z, fun _ => h _ _ (f.all (by decide)) t (by unfold lofA; rw [he]; exact c) (fun v hv => by unfold lofA at hv; rw [he] at hv; cases hv)⟩) (fun μ' n j hs he hlt hx hj hm hnj hac f t L n9 c => ⟨_, rfl, fun _ => h _ _ (f.all (by decide)) t (by unfold lofA; rw [he, c]; rfl) (fun v hv => by unfold lofA at hv; rw [he] at hv; cases hv; rfl), fun z => absurd z (nI_nm1 ?_)⟩))
  have := (lnOf_ok hk hac (tOw_lt hlt)).1
  have := (tXx_ok hk).G
  have := (tXx_ok hk).P
  have := (tLs_ok (T := T)).1
  omega
theorem m_213 {T : gS} {x : Int32} {μ : gMu} {P : gMu → gRes → Prop} (hk : gOk T) (hT : mTx T μ) (h : ∀ μ' w, gSm mAll μ μ' → mTx T μ' → gI μ' 1 9 = nI (cdA [1, 2] (widA T x)) → (∀ v, widA T x = .inr v → w = v) → P μ' (.inl (some (.int w)))) : gCl' 213 [.ref 1, .int x] μ P := by
  refine vc_213 (s_209 hk hT (fun μ' e he f t c => ⟨_, rfl, fun z => absurd rfl z, fun _ => h _ _ (f.all (by decide)) t (by unfold widA; rw [he]; exact c) (fun v hv => by unfold widA at hv; rw [he] at hv; cases hv)⟩) (fun μ' l he hl f t L n c => ⟨_, rfl, fun _ => ?_, fun z => absurd z (nI_nm1 (by have := (tXx_ok hk).G; have := (tXx_ok hk).P; have := (n.nx hl).2; omega))⟩))
  have hX := tXx_ok hk
  have g4 := hX.P
  have g5 := hX.G
  have hM := tMn_le hk
  have nx := n.nx hl
  have hac := tCn_act (T := T) (by omega)
  simp (disch := first | omega | decide) only [nx.1, show tLs T l < 51 by omega, nE_l, nE_r, nE_n, nLe_l, nLe_r, nLe_n, nLt_l, nLt_r, nLt_n, nA_l, nA_r, nI_add, nS_l, nS_n, nIn, nI_clamp, gI_I, gI_J, gI_D, gJ_J, gJ_I, gJ_D, true_and, and_true, false_and, and_false, if_true, if_false, false_implies, true_implies, not_true_eq_false, not_false_eq_true, bI_0, bI_1, Nat.reduceEqDiff, eq_self, nMax, nMin]
  exact s_194 hk t L nx.2.1 nx.2.2 ⟨_, rfl, h _ _ (f.all (by decide)) t (by unfold widA; rw [he, c]; rfl) (fun v hv => by unfold widA at hv; rw [he] at hv; cases hv; rfl)⟩
theorem ls_q {T : gS} {l : Nat} (hl : l < tCn T) : xQ (tXx T) (tLs T l) (tLs T (l + 1)) = true := by
  have hac := tCn_act (T := T) (by omega)
  have a := kS_lt (tXx_q hac) (l := l) (by rw [← tCn_k hac]; exact hl)
  rw [tLs_k hac, tLs_k hac]
  exact a.2.2.2.1
theorem m_214 {T : gS} {x : Int32} {μ : gMu} {P : gMu → gRes → Prop} (hk : gOk T) (hT : mTx T μ) (h : ∀ μ' w, gSm mAll μ μ' → mTx T μ' → gI μ' 1 9 = nI (cdA [1, 2] (badA T x)) → (∀ v, badA T x = .inr v → w = v) → P μ' (.inl (some (.int w)))) : gCl' 214 [.ref 1, .int x] μ P := by
  refine vc_214 (s_209 hk hT (fun μ' e he f t c => ⟨_, rfl, fun z => absurd rfl z, fun _ => h _ _ (f.all (by decide)) t (by unfold badA; rw [he]; exact c) (fun v hv => by unfold badA at hv; rw [he] at hv; cases hv)⟩) (fun μ' l he hl f t L n c => ⟨_, rfl, fun _ => ?_, fun z => absurd z (nI_nm1 (by have := (tXx_ok hk).G; have := (tXx_ok hk).P; have := (n.nx hl).2; omega))⟩))
  have hX := tXx_ok hk
  have g4 := hX.P
  have g5 := hX.G
  have hM := tMn_le hk
  have nx := n.nx hl
  have hac := tCn_act (T := T) (by omega)
  simp (disch := first | omega | decide) only [nx.1, show tLs T l < 51 by omega, nE_l, nE_r, nE_n, nLe_l, nLe_r, nLe_n, nLt_l, nLt_r, nLt_n, nA_l, nA_r, nI_add, nS_l, nS_n, nIn, nI_clamp, gI_I, gI_J, gI_D, gJ_J, gJ_I, gJ_D, true_and, and_true, false_and, and_false, if_true, if_false, false_implies, true_implies, not_true_eq_false, not_false_eq_true, bI_0, bI_1, Nat.reduceEqDiff, eq_self, nMax, nMin]
  exact s_200 hk t L nx.2.1 nx.2.2 (ls_q hl) ⟨_, rfl, h _ _ (f.all (by decide)) t (by unfold badA; rw [he, c]; rfl) (fun v hv => by unfold badA at hv; rw [he] at hv; cases hv; rfl)⟩
/-- the demerits that stand ready -/
theorem mDm {T : gS} {μ : gMu} (n : mLn T μ) (hz : tTwT T = 0) (hb : tBlT T = false) : gJ μ 59 0 = lN (tDm T) := by
  have hac : tAc T = true := by unfold tAc; rw [hz, hb]; rfl
  rw [(n hb).1 0 (Nat.zero_le _)]
  unfold tDm
  rw [if_pos hac]
theorem tDm_b {T : gS} (h : tBlT T = true) : tDm T = 0 := by
  unfold tDm tAc
  rw [h]
  simp
theorem m_215 {T : gS} {μ : gMu} {P : gMu → gRes → Prop} (hk : gOk T) (hT : mTx T μ) (h : ∀ μ' w, gSm mAll μ μ' → mTx T μ' → gI μ' 1 9 = nI (cdA [1] (demA T)) → (∀ v, demA T = .inr v → w = v) → P μ' (.inl (some (.long w)))) : gCl' 215 [.ref 1] μ P := by
  have eA : demA T = if tTwT T = 0 then .inr (lN (tDm T)) else .inl 1 := rfl
  refine vc_215 (s_204 (e := 1) hk hT (by decide) (fun μ' hz f t L n c => ⟨_, rfl, fun z => absurd rfl z, fun _ => s_191 hk L ⟨_, rfl, ?_⟩⟩) (fun μ' hz f t c => ⟨_, rfl, fun _ => ?_, fun z => absurd z (by decide)⟩))
  · rw [if_pos hz] at eA
    rw [bI_0]
    refine ⟨fun q => ⟨vp_in_nI (n := 0) (by decide) (by decide), ?_⟩, fun q => ?_⟩
    · rw [sb_cl0, mDm n hz (by simpa using q)]
      exact h _ _ (f.all (by decide)) t (by rw [eA, c]; rfl) (fun v hv => by rw [eA] at hv; cases hv; rfl)
    · rw [tDm_b (by simpa using q)] at eA
      exact h _ _ (f.all (by decide)) t (by rw [eA, c]; rfl) (fun v hv => by rw [eA] at hv; cases hv; rfl)
  · rw [if_neg hz] at eA
    exact h _ _ (f.all (by decide)) t (by rw [eA, c]; rfl) (fun v hv => by rw [eA] at hv; cases hv)
theorem m_216 {T : gS} {μ : gMu} {P : gMu → gRes → Prop} (hk : gOk T) (hT : mTx T μ) (h : ∀ μ' w, gSm mAll μ μ' → mTx T μ' → gI μ' 1 9 = nI (cdA [1, 3] (dtrA T)) → (∀ v, dtrA T = .inr v → w = v) → P μ' (.inl (some (.long w)))) : gCl' 216 [.ref 1] μ P := by
  have hX := tXx_ok hk
  have g4 := hX.P
  have g5 := hX.G
  have eA : dtrA T = if tTwT T = 0 then (if 10 < (tXx T).P then .inl 3 else .inr (lN (tDm T))) else .inl 1 := rfl
  have i00 : ¬ (0 : Int32) < 0 := by decide
  refine vc_216 (s_204 (e := 1) hk hT (by decide) (fun μ' hz f t L n c => ⟨_, rfl, fun z => absurd rfl z, fun _ => ?_⟩) (fun μ' hz f t c => ⟨_, rfl, fun _ => ?_, fun z => absurd z (by decide)⟩))
  · rw [if_pos hz] at eA
    rw [L.P, c]
    refine ⟨fun q => ⟨fun z => absurd z i00, fun _ => s_191 hk L ⟨_, rfl, ?_⟩⟩, fun q => s_161 ⟨_, rfl, ?_⟩⟩
    · rw [show (nI (tXx T).P ≤ (10 : Int32)) = ((tXx T).P ≤ 10) from nLe_l (by omega) (by decide)] at q
      rw [if_neg (by omega)] at eA
      rw [bI_0]
      refine ⟨fun q => ⟨vp_in_nI (n := 0) (by decide) (by decide), ?_⟩, fun q => ?_⟩
      · rw [sb_cl0, mDm n hz (by simpa using q)]
        exact h _ _ (f.all (by decide)) t (by rw [eA, c]; rfl) (fun v hv => by rw [eA] at hv; cases hv; rfl)
      · rw [tDm_b (by simpa using q)] at eA
        exact h _ _ (f.all (by decide)) t (by rw [eA, c]; rfl) (fun v hv => by rw [eA] at hv; cases hv; rfl)
    · rw [show (nI (tXx T).P ≤ (10 : Int32)) = ((tXx T).P ≤ 10) from nLe_l (by omega) (by decide)] at q
      rw [if_pos (by omega)] at eA
      have c9 : gI (gsI μ' 1 9 2) 1 9 = 2 := by simp (disch := first | omega | decide) only [nE_l, nE_r, nE_n, nLe_l, nLe_r, nLe_n, nLt_l, nLt_r, nLt_n, nA_l, nA_r, nI_add, nS_l, nS_n, nIn, nI_clamp, gI_I, gI_J, gI_D, gJ_J, gJ_I, gJ_D, true_and, and_true, false_and, and_false, if_true, if_false, false_implies, true_implies, not_true_eq_false, not_false_eq_true, bI_0, bI_1, Nat.reduceEqDiff, eq_self, nMax, nMin]
      rw [c9]
      exact ⟨fun _ => h _ _ ((f.all (by decide)).m (by decide)) (t.f9 2) (by rw [eA, c9]; rfl) (fun v hv => by rw [eA] at hv; cases hv), fun z => absurd (by decide) z⟩
  · rw [if_neg hz] at eA
    rw [c]
    exact ⟨fun _ => h _ _ (f.all (by decide)) t (by rw [eA, c]; rfl) (fun v hv => by rw [eA] at hv; cases hv), fun z => absurd (by decide) z⟩
theorem m_217 {T : gS} {μ : gMu} {P : gMu → gRes → Prop} (hk : gOk T) (hT : mTx T μ) (h : ∀ μ' w, gSm mAll μ μ' → mTx T μ' → gI μ' 1 9 = nI (cdA [1, 3] (ltrA T)) → (∀ v, ltrA T = .inr v → w = v) → P μ' (.inl (some (.int w)))) : gCl' 217 [.ref 1] μ P := by
  have hX := tXx_ok hk
  have g4 := hX.P
  have g5 := hX.G
  have eA : ltrA T = if tTwT T = 0 then (if 10 < (tXx T).P then .inl 3 else .inr (nI (tCn T))) else .inl 1 := rfl
  refine vc_217 (s_204 (e := 1) hk hT (by decide) (fun μ' hz f t L n c => ⟨_, rfl, fun z => absurd rfl z, fun _ => ?_⟩) (fun μ' hz f t c => ⟨_, rfl, fun _ => ?_, fun z => absurd z (by decide)⟩))
  · rw [if_pos hz] at eA
    rw [L.P, c]
    refine ⟨fun q => ⟨fun _ => s_205 hk L n hz ⟨_, rfl, ?_⟩, fun z => absurd (by decide) z⟩, fun q => s_161 ⟨_, rfl, ?_⟩⟩
    · rw [show (nI (tXx T).P ≤ (10 : Int32)) = ((tXx T).P ≤ 10) from nLe_l (by omega) (by decide)] at q
      rw [if_neg (by omega)] at eA
      exact h _ _ (f.all (by decide)) t (by rw [eA, c]; rfl) (fun v hv => by rw [eA] at hv; cases hv; rfl)
    · rw [show (nI (tXx T).P ≤ (10 : Int32)) = ((tXx T).P ≤ 10) from nLe_l (by omega) (by decide)] at q
      rw [if_pos (by omega)] at eA
      have c9 : gI (gsI μ' 1 9 2) 1 9 = 2 := by simp (disch := first | omega | decide) only [nE_l, nE_r, nE_n, nLe_l, nLe_r, nLe_n, nLt_l, nLt_r, nLt_n, nA_l, nA_r, nI_add, nS_l, nS_n, nIn, nI_clamp, gI_I, gI_J, gI_D, gJ_J, gJ_I, gJ_D, true_and, and_true, false_and, and_false, if_true, if_false, false_implies, true_implies, not_true_eq_false, not_false_eq_true, bI_0, bI_1, Nat.reduceEqDiff, eq_self, nMax, nMin]
      rw [c9]
      exact ⟨fun z => absurd z (by decide), fun _ => h _ _ ((f.all (by decide)).m (by decide)) (t.f9 2) (by rw [eA, c9]; rfl) (fun v hv => by rw [eA] at hv; cases hv)⟩
  · rw [if_neg hz] at eA
    rw [c]
    exact ⟨fun z => absurd z (by decide), fun _ => h _ _ (f.all (by decide)) t (by rw [eA, c]; rfl) (fun v hv => by rw [eA] at hv; cases hv)⟩
/-- the model's row -/
def mRow (T : gS) (l : Nat) (μ : gMu) : Prop := gI μ 1 29 = nI (lnE (tXx T) (tLs T) l - lnS (tXx T) (tLs T) l) ∧ ∀ r, r < lnE (tXx T) (tLs T) l - lnS (tXx T) (tLs T) l → gI μ 63 r = nI (tGsT T (oG T l (lnS (tXx T) (tLs T) l + r)))
theorem mRow.gf {A F : List Nat} {T : gS} {l : Nat} {μ μ' : gMu} (h : mRow T l μ) (hs : mF A F μ μ') (f29 : 29 ∉ F) (a63 : 63 ∉ A) : mRow T l μ' := ⟨by rw [hs.F f29, h.1], fun r hr => by rw [hs.I a63 (by decide), h.2 r hr]⟩
theorem mTx.r {T : gS} {μ μ' : gMu} (h : mTx T μ) (hs : mF [63] [29] μ μ') : mTx T μ' := h.gf hs (by decide) (by decide) (by decide) (by decide) (by decide) (by decide) (by decide) (by decide) (by decide)
theorem m_219 {T : gS} {x : Int32} {μ : gMu} {P : gMu → gRes → Prop} (hk : gOk T) (hT : mTx T μ) (h : ∀ μ' w, gSm mAll μ μ' → mTx T μ' → gI μ' 1 9 = nI (cdA [1, 2] (gofA T x)) → (∀ v, gofA T x = .inr v → w = v) → P μ' (.inl (some (.int w)))) : gCl' 219 [.ref 1, .int x] μ P := by
  refine vc_219 (s_209 hk hT (fun μ' e he f t c => ⟨_, rfl, fun z => absurd rfl z, fun _ => h _ _ (f.all (by decide)) t (by unfold gofA; rw [he]; exact c) (fun v hv => by unfold gofA at hv; rw [he] at hv; cases hv)⟩) (fun μ' l he hl f t L n c => ⟨_, rfl, fun _ => ?_, fun z => absurd z (nI_nm1 (by have := (tXx_ok hk).G; have := (tXx_ok hk).P; have := (n.nx hl).2; omega))⟩))
  have hX := tXx_ok hk
  have g4 := hX.P
  have g5 := hX.G
  have hM := tMn_le hk
  have nx := n.nx hl
  have hac := tCn_act (T := T) (by omega)
  refine s_218 hk L n hl (fun μ3 s3 q29 qrow => ⟨rfl, ?_⟩)
  rw [q29]
  exact h _ _ ((f.all (by decide)).tr (s3.all (by decide))) (t.r s3) (by unfold gofA; rw [he, s3.F (by decide), c]; rfl) (fun v hv => by unfold gofA at hv; rw [he] at hv; cases hv; rfl)
theorem oG_in {T : gS} {l r : Nat} (hr : r < lnE (tXx T) (tLs T) l - lnS (tXx T) (tLs T) l) : lnS (tXx T) (tLs T) l ≤ oG T l (lnS (tXx T) (tLs T) l + r) ∧ oG T l (lnS (tXx T) (tLs T) l + r) < lnE (tXx T) (tLs T) l := oF_in _ _ (by omega) (by omega)
theorem m_220 {T : gS} {x y : Int32} {μ : gMu} {P : gMu → gRes → Prop} (hk : gOk T) (hT : mTx T μ) (h : ∀ μ' w, gSm mAll μ μ' → mTx T μ' → gI μ' 1 9 = nI (cdA [1, 2] (gatA T x y)) → (∀ v, gatA T x y = .inr v → w = v) → P μ' (.inl (some (.int w)))) : gCl' 220 [.ref 1, .int x, .int y] μ P := by
  refine vc_220 (s_209 hk hT (fun μ' e he f t c => ⟨_, rfl, fun z => absurd rfl z, fun _ => h _ _ (f.all (by decide)) t (by unfold gatA; rw [he]; exact c) (fun v hv => by unfold gatA at hv; rw [he] at hv; cases hv)⟩) (fun μ' l he hl f t L n c => ⟨_, rfl, fun _ => ?_, fun z => absurd z (nI_nm1 (by have := (tXx_ok hk).G; have := (tXx_ok hk).P; have := (n.nx hl).2; omega))⟩))
  have hX := tXx_ok hk
  have g4 := hX.P
  have g5 := hX.G
  have hM := tMn_le hk
  have nx := n.nx hl
  have hac := tCn_act (T := T) (by omega)
  have l20 : ¬ (2 : Int32) ≤ 0 := by decide
  have hSE := lnSE hX (tLs_ok (T := T)) hl
  have hG' : (tXx T).G = tGT T := rfl
  have eA : gatA T x y = (match inx y (lnE (tXx T) (tLs T) l - lnS (tXx T) (tLs T) l) with | none => .inl 2 | some r => .inr (nI (ixG T (oG T l (lnS (tXx T) (tLs T) l + r))))) := by
    unfold gatA
    rw [he]
    rfl
  refine s_218 hk L n hl (fun μ3 s3 q29 qrow => ⟨rfl, ?_⟩)
  have f3 := (f.all (show ∀ a ∈ mA, a ∈ mAll by decide)).tr (s3.all (by decide))
  rw [q29]
  refine s_153i (n := lnE (tXx T) (tLs T) l - lnS (tXx T) (tLs T) l) (by omega) rfl (fun e => ⟨_, rfl, fun _ => ⟨fun z => absurd z l20, fun _ => ?_⟩, fun z => absurd rfl z⟩) (fun r hr hy e => ⟨_, rfl, fun z => absurd z (by decide), fun _ => ⟨fun _ => ?_, fun z => absurd (by decide) z⟩⟩)
  · rw [e] at eA
    exact h _ _ (f3.m (by decide)) ((t.r s3).f9 2) (by rw [eA]; simp (disch := first | omega | decide) only [nE_l, nE_r, nE_n, nLe_l, nLe_r, nLe_n, nLt_l, nLt_r, nLt_n, nA_l, nA_r, nI_add, nS_l, nS_n, nIn, nI_clamp, gI_I, gI_J, gI_D, gJ_J, gJ_I, gJ_D, true_and, and_true, false_and, and_false, if_true, if_false, false_implies, true_implies, not_true_eq_false, not_false_eq_true, bI_0, bI_1, Nat.reduceEqDiff, eq_self, nMax, nMin]; rfl) (fun v hv => by rw [eA] at hv; cases hv)
  · rw [e] at eA
    dsimp only at eA
    subst hy
    have oi := oG_in hr
    have b := gsT_ok (T := T) (g := oG T l (lnS (tXx T) (tLs T) l + r)) (by omega)
    have g1 := qrow r hr
    have g2 : gI μ3 49 (tGsT T (oG T l (lnS (tXx T) (tLs T) l + r))) = nI (tIx T.c T.n (tGsT T (oG T l (lnS (tXx T) (tLs T) l + r)))) := by
      rw [s3.I (by decide) (by decide)]
      exact L.ix _ b.1
    have b1 := b.1
    simp (disch := first | omega | decide) only [g1, g2, show r < 50 by omega, show tGsT T (oG T l (lnS (tXx T) (tLs T) l + r)) < 50 by omega, nE_l, nE_r, nE_n, nLe_l, nLe_r, nLe_n, nLt_l, nLt_r, nLt_n, nA_l, nA_r, nI_add, nS_l, nS_n, nIn, nI_clamp, gI_I, gI_J, gI_D, gJ_J, gJ_I, gJ_D, true_and, and_true, false_and, and_false, if_true, if_false, false_implies, true_implies, not_true_eq_false, not_false_eq_true, bI_0, bI_1, Nat.reduceEqDiff, eq_self, nMax, nMin]
    exact h _ _ (f3.m (by decide)) ((t.r s3).f9 0) (by rw [eA]; simp (disch := first | omega | decide) only [nE_l, nE_r, nE_n, nLe_l, nLe_r, nLe_n, nLt_l, nLt_r, nLt_n, nA_l, nA_r, nI_add, nS_l, nS_n, nIn, nI_clamp, gI_I, gI_J, gI_D, gJ_J, gJ_I, gJ_D, true_and, and_true, false_and, and_false, if_true, if_false, false_implies, true_implies, not_true_eq_false, not_false_eq_true, bI_0, bI_1, Nat.reduceEqDiff, eq_self, nMax, nMin]; rfl) (fun v hv => by rw [eA] at hv; cases hv; rfl)
end
