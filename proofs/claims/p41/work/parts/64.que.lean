/-! THE CLASS'S QUESTIONS -/
theorem cR.tb {T : gS} {μ : gMu} (h : cR T μ) : cTab T μ := h.2.2.2.2
theorem cR.sq {T : gS} {μ : gMu} (h : cR T μ) : cSq T.c T.b T.n μ := h.2.2.2.2.1
theorem cR.lv {T : gS} {μ : gMu} (h : cR T μ) : gAr μ 17 (tMn T) (tLv T) := h.2.2.2.2.2.1
theorem cR.sc {T : gS} {μ : gMu} (h : cR T μ) : gAr μ 19 (tMn T) (tScT T) := h.2.2.2.2.2.2.1
theorem cR.rn {T : gS} {μ : gMu} (h : cR T μ) : gAr μ 20 (tMn T) (tRnT T) := h.2.2.2.2.2.2.2.1
theorem cR.rc {T : gS} {μ : gMu} (h : cR T μ) : gI μ 18 4 = nI (tRn (tScT T) (tLv T) (tMn T)) := h.2.2.2.2.2.2.2.2.1
theorem cR.gy {T : gS} {μ : gMu} (h : cR T μ) : cGy (tRlT T) (tRnT T) (tSg T) (tLv T) (tMn T) μ := h.2.2.2.2.2.2.2.2.2.1
theorem cR.gw {T : gS} {μ : gMu} (h : cR T μ) : gAr μ 26 (tGT T) (tGw T) := h.2.2.2.2.2.2.2.2.2.2.1
theorem cR.x {T : gS} {μ : gMu} (h : cR T μ) : cX (tXx T) μ := h.2.2.2.2.2.2.2.2.2.2.2.1
theorem cR.bl {T : gS} {μ : gMu} (h : cR T μ) : gI μ 29 4 = bI (tBlT T) := h.2.2.2.2.2.2.2.2.2.2.2.2.1
theorem cR.w6 {T : gS} {μ : gMu} (h : cR T μ) : gI μ 32 6 = nI T.W := h.2.2.2.2.2.2.2.2.2.2.2.2.2.1
theorem cR.w7 {T : gS} {μ : gMu} (h : cR T μ) : gI μ 32 7 = nO (tTwT T) := h.2.2.2.2.2.2.2.2.2.2.2.2.2.2.1
theorem cR.ls {T : gS} {μ : gMu} (h : cR T μ) : cLs (tXx T) (tCn T) (tDm T) (tLs T) μ := h.2.2.2.2.2.2.2.2.2.2.2.2.2.2.2.1
theorem cR.em {T : gS} {μ : gMu} (h : cR T μ) : gAr μ 13 (tMn T) (tEmT T) := h.sq.2.2.2.2
theorem cR.ow {T : gS} {μ : gMu} (h : cR T μ) : gAr μ 22 (tMn T) (tOw T) := h.gy.2.1
theorem cR.nu {T : gS} {μ : gMu} (h : cR T μ) : gAr μ 23 (tGT T) (tNu T) := h.gy.2.2.1
theorem tX50 {T : gS} (hk : gOk T) : (tXx T).P ≤ tGT T ∧ tGT T ≤ 50 ∧ tCn T ≤ (tXx T).P := ⟨(tXx_ok hk).P, (tXx_ok hk).G, (tLs_ok (T := T)).1⟩
theorem nO_s {x : Nat} (h : x ≠ 0) : nO x = nI (x - 1) := if_neg h
theorem tTw_bad (Q : Nat → Nat → Bool) : ∀ r i t, tTw Q r i = t + 1 → Q t (t + 1) = false ∧ i ≤ t ∧ t < i + r
  | 0, i, t, h => by cases h
  | r + 1, i, t, h => by
    unfold tTw at h
    by_cases q : Q i (i + 1) = true
    · rw [if_pos q] at h
      have := tTw_bad Q r (i + 1) t h
      exact ⟨this.1, by omega, by omega⟩
    · rw [if_neg q] at h
      have : t = i := by omega
      subst this
      exact ⟨by simpa using q, Nat.le_refl _, by omega⟩
theorem tTwT_bad {T : gS} (h : tTwT T ≠ 0) : xQ (tXx T) (tTwT T - 1) (tTwT T) = false ∧ tTwT T - 1 < tTwT T ∧ tTwT T ≤ (tXx T).P := by
  have e : tTwT T = tTw (xQ (tXx T)) (tXx T).P 0 := by
    unfold tTwT at h ⊢
    split
    · rename_i q
      rw [if_pos q] at h
      exact absurd rfl h
    · rfl
  have b := tTw_bad (xQ (tXx T)) (tXx T).P 0 (tTwT T - 1) (by rw [← e]; omega)
  rw [show tTwT T - 1 + 1 = tTwT T by omega] at b
  exact ⟨b.1, by omega, by omega⟩
theorem tLs_lt {T : gS} {l : Nat} (hl : l < tCn T) : tLs T l < tLs T (l + 1) ∧ tLs T (l + 1) ≤ (tXx T).P := ⟨(tLs_ok (T := T)).2.1 l hl, (tLs_ok (T := T)).2.2 (l + 1) (by omega)⟩
theorem s_92 {T : gS} {x : Int32} {μ : gMu} {P : gMu → gRes → Prop} (hk : gOk T) (hI : cI T μ) (h : ∀ μ', gSm cC μ μ' → cI T μ' → P μ' (rG (embA T x))) : gCl' 92 [.ref 0, .int x] μ P := by
  refine vc_92 (s_62 hk hI (fun μ1 hs hR => ⟨rfl, s_91 hk hR (fun e he => Or.inr ⟨e, rfl, ?_⟩) (fun k he hk2 => Or.inl ⟨_, rfl, ?_⟩)⟩))
  · have hp := h μ1 hs hR.i
    unfold embA at hp
    rw [he] at hp
    exact hp
  · have hp := h μ1 hs hR.i
    unfold embA at hp
    rw [he] at hp
    have hM := tMn_le hk
    have a := hR.em k hk2
    simp (disch := first | omega | decide) only [a, show k < 50 by omega, nE_l, nE_r, nE_n, nLe_l, nLe_r, nLe_n, nLt_l, nLt_r, nLt_n, nA_l, nA_r, nI_add, nS_l, nS_n, nIn, nI_clamp, gI_I, gI_J, gI_D, gJ_J, gJ_I, gJ_D, true_and, and_true, false_and, and_false, if_true, if_false, false_implies, true_implies, not_true_eq_false, not_false_eq_true, bI_0, bI_1, Nat.reduceEqDiff, eq_self, nMax, nMin]
    exact hp
theorem s_94 {T : gS} {x : Int32} {μ : gMu} {P : gMu → gRes → Prop} (hk : gOk T) (hI : cI T μ) (h : ∀ μ', gSm cC μ μ' → cI T μ' → P μ' (rG (levA T x))) : gCl' 94 [.ref 0, .int x] μ P := by
  refine vc_94 (s_62 hk hI (fun μ1 hs hR => ⟨rfl, s_91 hk hR (fun e he => Or.inr ⟨e, rfl, ?_⟩) (fun k he hk2 => Or.inl ⟨_, rfl, ?_⟩)⟩))
  · have hp := h μ1 hs hR.i
    unfold levA at hp
    rw [he] at hp
    exact hp
  · have hp := h μ1 hs hR.i
    unfold levA at hp
    rw [he] at hp
    have hM := tMn_le hk
    have a := hR.lv k hk2
    simp (disch := first | omega | decide) only [a, show k < 50 by omega, nE_l, nE_r, nE_n, nLe_l, nLe_r, nLe_n, nLt_l, nLt_r, nLt_n, nA_l, nA_r, nI_add, nS_l, nS_n, nIn, nI_clamp, gI_I, gI_J, gI_D, gJ_J, gJ_I, gJ_D, true_and, and_true, false_and, and_false, if_true, if_false, false_implies, true_implies, not_true_eq_false, not_false_eq_true, bI_0, bI_1, Nat.reduceEqDiff, eq_self, nMax, nMin]
    exact hp
theorem s_98 {T : gS} {x : Int32} {μ : gMu} {P : gMu → gRes → Prop} (hk : gOk T) (hI : cI T μ) (h : ∀ μ', gSm cC μ μ' → cI T μ' → P μ' (rG (runA T x))) : gCl' 98 [.ref 0, .int x] μ P := by
  refine vc_98 (s_62 hk hI (fun μ1 hs hR => ⟨rfl, s_91 hk hR (fun e he => Or.inr ⟨e, rfl, ?_⟩) (fun k he hk2 => Or.inl ⟨_, rfl, ?_⟩)⟩))
  · have hp := h μ1 hs hR.i
    unfold runA at hp
    rw [he] at hp
    exact hp
  · have hp := h μ1 hs hR.i
    unfold runA at hp
    rw [he] at hp
    have hM := tMn_le hk
    have a := hR.rn k hk2
    simp (disch := first | omega | decide) only [a, show k < 50 by omega, nE_l, nE_r, nE_n, nLe_l, nLe_r, nLe_n, nLt_l, nLt_r, nLt_n, nA_l, nA_r, nI_add, nS_l, nS_n, nIn, nI_clamp, gI_I, gI_J, gI_D, gJ_J, gJ_I, gJ_D, true_and, and_true, false_and, and_false, if_true, if_false, false_implies, true_implies, not_true_eq_false, not_false_eq_true, bI_0, bI_1, Nat.reduceEqDiff, eq_self, nMax, nMin]
    exact hp
theorem s_101 {T : gS} {x : Int32} {μ : gMu} {P : gMu → gRes → Prop} (hk : gOk T) (hI : cI T μ) (h : ∀ μ', gSm cC μ μ' → cI T μ' → P μ' (rG (glyA T x))) : gCl' 101 [.ref 0, .int x] μ P := by
  refine vc_101 (s_62 hk hI (fun μ1 hs hR => ⟨rfl, s_100 hk hR (fun e he => Or.inr ⟨e, rfl, ?_⟩) (fun k he hk2 => Or.inl ⟨_, rfl, ?_⟩)⟩))
  · have hp := h μ1 hs hR.i
    unfold glyA at hp
    rw [he] at hp
    exact hp
  · have hp := h μ1 hs hR.i
    unfold glyA at hp
    rw [he] at hp
    have h50 := tX50 hk
    have ho := tOw_lt hk2
    have a := hR.nu _ ho
    simp (disch := first | omega | decide) only [a, show tOw T k < 50 by omega, nE_l, nE_r, nE_n, nLe_l, nLe_r, nLe_n, nLt_l, nLt_r, nLt_n, nA_l, nA_r, nI_add, nS_l, nS_n, nIn, nI_clamp, gI_I, gI_J, gI_D, gJ_J, gJ_I, gJ_D, true_and, and_true, false_and, and_false, if_true, if_false, false_implies, true_implies, not_true_eq_false, not_false_eq_true, bI_0, bI_1, Nat.reduceEqDiff, eq_self, nMax, nMin]
    exact hp
theorem s_103 {T : gS} {x : Int32} {μ : gMu} {P : gMu → gRes → Prop} (hk : gOk T) (hI : cI T μ) (h : ∀ μ', gSm cC μ μ' → cI T μ' → P μ' (rG (gstA T x))) : gCl' 103 [.ref 0, .int x] μ P := by
  refine vc_103 (s_62 hk hI (fun μ1 hs hR => ⟨rfl, s_100 hk hR (fun e he => Or.inr ⟨e, rfl, ?_⟩) (fun k he hk2 => Or.inl ⟨_, rfl, s_67 hk hR (tOw_lt hk2) ⟨_, rfl, ?_⟩⟩)⟩))
  · have hp := h μ1 hs hR.i
    unfold gstA at hp
    rw [he] at hp
    exact hp
  · have hp := h μ1 hs hR.i
    unfold gstA at hp
    rw [he] at hp
    exact hp
theorem s_63 {T : gS} {μ : gMu} {P : gMu → gRes → Prop} (hk : gOk T) (hI : cI T μ) (h : ∀ μ', gSm cC μ μ' → cI T μ' → P μ' (.inl (some (.int (nI (tRn (tScT T) (tLv T) (tMn T))))))) : gCl' 63 [.ref 0] μ P := vc_63 (s_62 hk hI (fun μ1 hs hR => ⟨rfl, by rw [hR.rc]; exact h μ1 hs hR.i⟩))
theorem s_64 {T : gS} {μ : gMu} {P : gMu → gRes → Prop} (hk : gOk T) (hI : cI T μ) (h : ∀ μ', gSm cC μ μ' → cI T μ' → P μ' (.inl (some (.int (nI (tGT T)))))) : gCl' 64 [.ref 0] μ P := vc_64 (s_62 hk hI (fun μ1 hs hR => ⟨rfl, by rw [hR.gy.1]; exact h μ1 hs hR.i⟩))
theorem s_66 {T : gS} {μ : gMu} {P : gMu → gRes → Prop} (hk : gOk T) (hI : cI T μ) (h : ∀ μ', gSm cC μ μ' → cI T μ' → P μ' (.inl (some (.int (nI ((tXx T).P - 1)))))) : gCl' 66 [.ref 0] μ P := vc_66 (s_62 hk hI (fun μ1 hs hR => ⟨rfl, s_65 (p := (tXx T).P) (by have := tX50 hk; omega) hR.x.1 ⟨_, rfl, h μ1 hs hR.i⟩⟩))
theorem s_68 {T : gS} {μ : gMu} {P : gMu → gRes → Prop} (hk : gOk T) (hI : cI T μ) (h : ∀ μ', gSm cC μ μ' → cI T μ' → P μ' (.inl (some (.int (twdA T))))) : gCl' 68 [.ref 0] μ P := by
  refine vc_68 (s_62 hk hI (fun μ1 hs hR => ⟨rfl, ?_⟩))
  have h50 := tX50 hk
  have htw := tTw_lt hk
  have hp := h μ1 hs hR.i
  unfold twdA at hp
  refine s_26 (b := (tTwT T == 0)) (by rw [hR.w7, nO_m1 (by omega)]; exact propext ⟨fun z => by simpa using z, fun z => by simpa using z⟩) ⟨_, rfl, ?_⟩
  rw [bI_0]
  refine ⟨fun q => ?_, fun q => ?_⟩
  · have q : tTwT T ≠ 0 := by simpa using q
    rw [if_neg q] at hp
    obtain ⟨b1, b2, b3⟩ := tTwT_bad q
    have hX := tXx_ok hk
    have a := hR.x.2.2.2.2.1 (tTwT T - 1) (by omega)
    have hlt := Nat.lt_of_lt_of_le (hX.pl _ _ b2 b3) (hX.pG b3)
    rw [hR.w7, nO_s q]
    simp (disch := first | omega | decide) only [a, show tTwT T - 1 < 51 by omega, nE_l, nE_r, nE_n, nLe_l, nLe_r, nLe_n, nLt_l, nLt_r, nLt_n, nA_l, nA_r, nI_add, nS_l, nS_n, nIn, nI_clamp, gI_I, gI_J, gI_D, gJ_J, gJ_I, gJ_D, true_and, and_true, false_and, and_false, if_true, if_false, false_implies, true_implies, not_true_eq_false, not_false_eq_true, bI_0, bI_1, Nat.reduceEqDiff, eq_self, nMax, nMin]
    exact s_67 hk hR hlt ⟨_, rfl, hp⟩
  · rw [if_pos (by simpa using q)] at hp
    exact hp
theorem s_69 {T : gS} {μ : gMu} {P : gMu → gRes → Prop} (hk : gOk T) (hI : cI T μ) (h : ∀ μ', gSm cC μ μ' → cI T μ' → P μ' (.inl (some (.int (excA T))))) : gCl' 69 [.ref 0] μ P := by
  refine vc_69 (s_62 hk hI (fun μ1 hs hR => ⟨rfl, ?_⟩))
  have h50 := tX50 hk
  have htw := tTw_lt hk
  have hp := h μ1 hs hR.i
  unfold excA at hp
  refine s_26 (b := (tTwT T == 0)) (by rw [hR.w7, nO_m1 (by omega)]; exact propext ⟨fun z => by simpa using z, fun z => by simpa using z⟩) ⟨_, rfl, ?_⟩
  rw [bI_0]
  refine ⟨fun q => ?_, fun q => ?_⟩
  · have q : tTwT T ≠ 0 := by simpa using q
    rw [if_neg q] at hp
    obtain ⟨b1, b2, b3⟩ := tTwT_bad q
    have hX := tXx_ok hk
    rw [hR.w7, nO_s q, nI_1, show tTwT T - 1 + 1 = tTwT T by omega]
    refine s_29 hX hR.x b2 b3 hR.w6 ⟨_, rfl, ?_⟩
    have hbad : ¬ xN (tXx T) (tTwT T - 1) (tTwT T) ≤ (tXx T).W + xK (tXx T) (tTwT T - 1) (tTwT T) := of_decide_eq_false b1
    rw [Int32.neg_sub, nS_n (show (tXx T).W ≤ xN (tXx T) (tTwT T - 1) (tTwT T) by omega)]
    exact hp
  · rw [if_pos (by simpa using q)] at hp
    exact hp
theorem s_89 {T : gS} {x : Int32} {μ : gMu} {P : gMu → gRes → Prop} (hk : gOk T) (hT : cT T μ) (h1 : inx x T.n = none → P μ (.inr 2)) (h2 : ∀ j, inx x T.n = some j → P μ (.inl (some (.int (nI (T.c j)))))) : gCl' 89 [.ref 0, .int x] μ P := by
  have hn := hk.n
  refine vc_89 (s_88 hk hT (fun e => Or.inr ⟨2, rfl, h1 e⟩) (fun j hj hx e => Or.inl ⟨rfl, ?_⟩))
  subst hx
  have a := hT.2.1 j hj
  have b := hk.c_lt hj
  simp (disch := first | omega | decide) only [a, show j < 50 by omega, nE_l, nE_r, nE_n, nLe_l, nLe_r, nLe_n, nLt_l, nLt_r, nLt_n, nA_l, nA_r, nI_add, nS_l, nS_n, nIn, nI_clamp, gI_I, gI_J, gI_D, gJ_J, gJ_I, gJ_D, true_and, and_true, false_and, and_false, if_true, if_false, false_implies, true_implies, not_true_eq_false, not_false_eq_true, bI_0, bI_1, Nat.reduceEqDiff, eq_self, nMax, nMin]
  exact ⟨nCc (by omega), h2 j e⟩
theorem s_108 {T : gS} {μ : gMu} {P : gMu → gRes → Prop} (hk : gOk T) (hI : cI T μ) (h : ∀ μ', gSm cC μ μ' → cI T μ' → P μ' (rG (linA T))) : gCl' 108 [.ref 0] μ P := by
  unfold linA at h
  refine vc_108 (s_62 hk hI (fun μ1 hs hR => ⟨rfl, s_107 hk hR (fun q => Or.inr ⟨1, rfl, ?_⟩) (fun q => Or.inl ⟨rfl, ?_⟩)⟩))
  · rw [if_neg q] at h; exact h μ1 hs hR.i
  · rw [if_pos q] at h
    rw [hR.ls.1]
    exact h μ1 hs hR.i
theorem s_111 {T : gS} {μ : gMu} {P : gMu → gRes → Prop} (hk : gOk T) (hI : cI T μ) (h : ∀ μ', gSm cC μ μ' → cI T μ' → P μ' (rG (ffiA T))) : gCl' 111 [.ref 0] μ P := by
  unfold ffiA at h
  refine vc_111 (s_62 hk hI (fun μ1 hs hR => ⟨rfl, s_107 hk hR (fun q => Or.inr ⟨1, rfl, ?_⟩) (fun q => Or.inl ⟨rfl, s_110 (bl := tBlT T) (tXx_ok hk) hR.x hR.w6 hR.bl ⟨_, rfl, ?_⟩⟩)⟩))
  · rw [if_neg q] at h; exact h μ1 hs hR.i
  · rw [if_pos q] at h
    exact h μ1 hs hR.i
theorem s_114 {T : gS} {x : Int32} {μ : gMu} {P : gMu → gRes → Prop} (hk : gOk T) (hI : cI T μ) (h : ∀ μ', gSm cC μ μ' → cI T μ' → P μ' (rG (firA T x))) : gCl' 114 [.ref 0, .int x] μ P := by
  refine vc_114 (s_62 hk hI (fun μ1 hs hR => ⟨rfl, s_113 hk hR (fun e he => Or.inr ⟨e, rfl, ?_⟩) (fun l hl hx he => Or.inl ⟨rfl, ?_⟩)⟩))
  · have hp := h μ1 hs hR.i
    unfold firA at hp
    rw [he] at hp
    exact hp
  · have hp := h μ1 hs hR.i
    unfold firA at hp
    rw [he] at hp
    subst hx
    have h50 := tX50 hk
    have hl2 := tLs_lt hl
    exact s_51 (tXx_ok hk) hR.x hR.ls.2.2 (by omega) h50.2.2 (by omega) ⟨_, rfl, s_67 hk hR (lnS_lt hk hl) ⟨_, rfl, hp⟩⟩
theorem s_117 {T : gS} {x : Int32} {μ : gMu} {P : gMu → gRes → Prop} (hk : gOk T) (hI : cI T μ) (h : ∀ μ', gSm cC μ μ' → cI T μ' → P μ' (rG (lofA T x))) : gCl' 117 [.ref 0, .int x] μ P := by
  refine vc_117 (s_62 hk hI (fun μ1 hs hR => ⟨rfl, s_116 hk hR (fun e he => Or.inr ⟨e, rfl, ?_⟩) (fun g he hg hac => Or.inl ⟨_, rfl, ?_⟩)⟩))
  · have hp := h μ1 hs hR.i
    unfold lofA at hp
    rw [he] at hp
    exact hp
  · have hp := h μ1 hs hR.i
    unfold lofA at hp
    rw [he] at hp
    have h50 := tX50 hk
    have hl := lnOf_ok hk hac hg
    have a := (hR.row hk hac hg).1 g hl.2.1 hl.2.2
    simp (disch := first | omega | decide) only [a, show g < 50 by omega, nE_l, nE_r, nE_n, nLe_l, nLe_r, nLe_n, nLt_l, nLt_r, nLt_n, nA_l, nA_r, nI_add, nS_l, nS_n, nIn, nI_clamp, gI_I, gI_J, gI_D, gJ_J, gJ_I, gJ_D, true_and, and_true, false_and, and_false, if_true, if_false, false_implies, true_implies, not_true_eq_false, not_false_eq_true, bI_0, bI_1, Nat.reduceEqDiff, eq_self, nMax, nMin]
    exact hp
theorem s_119 {T : gS} {x : Int32} {μ : gMu} {P : gMu → gRes → Prop} (hk : gOk T) (hI : cI T μ) (h : ∀ μ', gSm cC μ μ' → cI T μ' → P μ' (rG (widA T x))) : gCl' 119 [.ref 0, .int x] μ P := by
  refine vc_119 (s_62 hk hI (fun μ1 hs hR => ⟨rfl, s_113 hk hR (fun e he => Or.inr ⟨e, rfl, ?_⟩) (fun l hl hx he => Or.inl ⟨rfl, ?_⟩)⟩))
  · have hp := h μ1 hs hR.i
    unfold widA at hp
    rw [he] at hp
    exact hp
  · have hp := h μ1 hs hR.i
    unfold widA at hp
    rw [he] at hp
    subst hx
    have h50 := tX50 hk
    have hl2 := tLs_lt hl
    have hX := tXx_ok hk
    have a1 := hR.ls.2.2 l (by omega)
    have a2 := hR.ls.2.2 (l + 1) (by omega)
    simp (disch := first | omega | decide) only [a1, a2, show l < 51 by omega, show l + 1 < 51 by omega, nE_l, nE_r, nE_n, nLe_l, nLe_r, nLe_n, nLt_l, nLt_r, nLt_n, nA_l, nA_r, nI_add, nS_l, nS_n, nIn, nI_clamp, gI_I, gI_J, gI_D, gJ_J, gJ_I, gJ_D, true_and, and_true, false_and, and_false, if_true, if_false, false_implies, true_implies, not_true_eq_false, not_false_eq_true, bI_0, bI_1, Nat.reduceEqDiff, eq_self, nMax, nMin]
    exact s_28 hX hR.x hl2.1 hl2.2 ⟨_, rfl, hp⟩
theorem s_121 {T : gS} {x : Int32} {μ : gMu} {P : gMu → gRes → Prop} (hk : gOk T) (hI : cI T μ) (h : ∀ μ', gSm cC μ μ' → cI T μ' → P μ' (rG (badA T x))) : gCl' 121 [.ref 0, .int x] μ P := by
  refine vc_121 (s_62 hk hI (fun μ1 hs hR => ⟨rfl, s_113 hk hR (fun e he => Or.inr ⟨e, rfl, ?_⟩) (fun l hl hx he => Or.inl ⟨rfl, ?_⟩)⟩))
  · have hp := h μ1 hs hR.i
    unfold badA at hp
    rw [he] at hp
    exact hp
  · have hp := h μ1 hs hR.i
    unfold badA at hp
    rw [he] at hp
    subst hx
    have h50 := tX50 hk
    have hl2 := tLs_lt hl
    have hX := tXx_ok hk
    have a1 := hR.ls.2.2 l (by omega)
    have a2 := hR.ls.2.2 (l + 1) (by omega)
    simp (disch := first | omega | decide) only [a1, a2, show l < 51 by omega, show l + 1 < 51 by omega, nE_l, nE_r, nE_n, nLe_l, nLe_r, nLe_n, nLt_l, nLt_r, nLt_n, nA_l, nA_r, nI_add, nS_l, nS_n, nIn, nI_clamp, gI_I, gI_J, gI_D, gJ_J, gJ_I, gJ_D, true_and, and_true, false_and, and_false, if_true, if_false, false_implies, true_implies, not_true_eq_false, not_false_eq_true, bI_0, bI_1, Nat.reduceEqDiff, eq_self, nMax, nMin]
    exact s_31 hX hR.x hl2.1 hl2.2 hR.w6 ⟨_, rfl, hp⟩
theorem s_123 {T : gS} {μ : gMu} {P : gMu → gRes → Prop} (hk : gOk T) (hI : cI T μ) (h : ∀ μ', gSm cC μ μ' → cI T μ' → P μ' (rGJ (demA T))) : gCl' 123 [.ref 0] μ P := by
  unfold demA at h
  refine vc_123 (s_62 hk hI (fun μ1 hs hR => ⟨rfl, s_107 hk hR (fun q => Or.inr ⟨1, rfl, ?_⟩) (fun q => Or.inl ⟨rfl, ?_⟩)⟩))
  · rw [if_neg q] at h; exact h μ1 hs hR.i
  · rw [if_pos q] at h
    rw [hR.ls.2.1]
    exact h μ1 hs hR.i
theorem s_125 {T : gS} {μ : gMu} {P : gMu → gRes → Prop} (hk : gOk T) (hR : cR T μ) (h1 : 10 < (tXx T).P → P μ (.inr 3)) (h2 : (tXx T).P ≤ 10 → P μ (.inl none)) : gCl' 125 [.ref 0] μ P := by
  have h50 := tX50 hk
  refine vc_125 (s_65 (p := (tXx T).P) (by omega) hR.x.1 ⟨_, rfl, ?_⟩)
  simp (disch := first | omega | decide) only [nE_l, nE_r, nE_n, nLe_l, nLe_r, nLe_n, nLt_l, nLt_r, nLt_n, nA_l, nA_r, nI_add, nS_l, nS_n, nIn, nI_clamp, gI_I, gI_J, gI_D, gJ_J, gJ_I, gJ_D, true_and, and_true, false_and, and_false, if_true, if_false, false_implies, true_implies, not_true_eq_false, not_false_eq_true, bI_0, bI_1, Nat.reduceEqDiff, eq_self, nMax, nMin]
  exact ⟨fun q => h2 (by omega), fun q => h1 (by omega)⟩
theorem cR.try {T : gS} {μ μ' : gMu} (h : cR T μ) (hs : gSm [32] μ μ') (hj : ∀ j, j < 10 → gI μ' 32 j = gI μ 32 j) (h9 : gJ μ' 32 9 = gJ μ 32 9) : cR T μ' := by
  refine ⟨h.1.sm hs (by decide) (by decide) (by decide) (by decide) (by decide) (by decide) (by decide) (by decide), by rw [hs.I (by decide)]; exact h.2.1, by rw [hs.I (by decide)]; exact h.2.2.1, by rw [hs.I (by decide)]; exact h.2.2.2.1, cSq_sm h.sq hs (by decide) (by decide) (by decide) (by decide) (by decide), h.lv.sm hs (by decide), h.sc.sm hs (by decide), h.rn.sm hs (by decide), by rw [hs.I (by decide)]; exact h.rc, h.gy.sm hs (by decide) (by decide) (by decide) (by decide) (by decide), h.gw.sm hs (by decide), h.x.sm hs (by decide) (by decide) (by decide) (by decide) (by decide) (by decide), by rw [hs.I (by decide)]; exact h.bl, by rw [hj 6 (by decide)]; exact h.w6, by rw [hj 7 (by decide)]; exact h.w7, ⟨by rw [hj 8 (by decide)]; exact h.ls.1, by rw [h9]; exact h.ls.2.1, h.ls.2.2.sm hs (by decide)⟩, fun l hl => (h.2.2.2.2.2.2.2.2.2.2.2.2.2.2.2.2 l hl).sm hs (by decide) (by decide) (by decide) (by decide) (by decide)⟩
theorem s_128T {T : gS} {μ : gMu} {P : gMu → gRes → Prop} (hk : gOk T) (hR : cR T μ) (hP : (tXx T).P ≤ 10) (htw : tTwT T = 0) (h : ∀ μ', gSm [32] μ μ' → cR T μ' → gJ μ' 32 10 = lN (tDm T) → gI μ' 32 11 = nI (tCn T) → P μ' (.inl none)) : gCl' 128 [.ref 32] μ P := by
  have h50 := tX50 hk
  have hX := tXx_ok hk
  refine s_128 (X := tXx T) (bl := tBlT T) hX hR.x hR.w6 hR.bl hP (fun hb => ?_) (fun hb μ' hs hj h9 h10 h11 => ?_) (fun hb μ' B C hs hj h9 h10 h11 ht => ?_)
  · exact tAc_pos (by unfold tAc; rw [htw, hb]; rfl)
  · have hac : ¬ tAc T = true := by unfold tAc; rw [hb]; simp
    have e1 : tCn T = 0 := if_neg hac
    have e2 : tDm T = 0 := if_neg hac
    exact h μ' hs (hR.try hs hj h9) (by rw [e2]; exact h10) (by rw [e1]; exact h11)
  · have hac : tAc T = true := by unfold tAc; rw [htw, hb]; rfl
    have e1 : tCn T = kK (tXx T) 0 := if_pos hac
    have e2 : tDm T = kL (tXx T) 0 := if_pos hac
    obtain ⟨r1, r2⟩ := tI_same (by omega) (tAc_pos hac) (kFin (tXx_q hac)) ht
    refine h μ' hs (hR.try hs hj h9) ?_ (by rw [e1, ← r2]; exact h11)
    rw [h10, e2, r1, lO_pos (by omega), Nat.add_sub_cancel]
theorem s_129 {T : gS} {μ : gMu} {P : gMu → gRes → Prop} (hk : gOk T) (hI : cI T μ) (h : ∀ μ', gSm cC μ μ' → cI T μ' → P μ' (rGJ (dtrA T))) : gCl' 129 [.ref 0] μ P := by
  unfold dtrA at h
  refine vc_129 (s_62 hk hI (fun μ1 hs hR => ⟨rfl, s_107 hk hR (fun q => Or.inr ⟨1, rfl, ?_⟩) (fun q => Or.inl ⟨rfl, s_125 hk hR (fun q2 => Or.inr ⟨3, rfl, ?_⟩) (fun q2 => Or.inl ⟨rfl, s_128T hk hR q2 q (fun μ2 hs2 hR2 h10 h11 => ⟨rfl, ?_⟩)⟩)⟩)⟩))
  · rw [if_neg q] at h; exact h μ1 hs hR.i
  · rw [if_pos q, if_pos q2] at h; exact h μ1 hs hR.i
  · rw [if_pos q, if_neg (by omega)] at h
    rw [h10]
    exact h μ2 (hs.tr (hs2.up (by decide))) hR2.i
theorem s_131 {T : gS} {μ : gMu} {P : gMu → gRes → Prop} (hk : gOk T) (hI : cI T μ) (h : ∀ μ', gSm cC μ μ' → cI T μ' → P μ' (rG (ltrA T))) : gCl' 131 [.ref 0] μ P := by
  unfold ltrA at h
  refine vc_131 (s_62 hk hI (fun μ1 hs hR => ⟨rfl, s_107 hk hR (fun q => Or.inr ⟨1, rfl, ?_⟩) (fun q => Or.inl ⟨rfl, s_125 hk hR (fun q2 => Or.inr ⟨3, rfl, ?_⟩) (fun q2 => Or.inl ⟨rfl, s_128T hk hR q2 q (fun μ2 hs2 hR2 h10 h11 => ⟨rfl, ?_⟩)⟩)⟩)⟩))
  · rw [if_neg q] at h; exact h μ1 hs hR.i
  · rw [if_pos q, if_pos q2] at h; exact h μ1 hs hR.i
  · rw [if_pos q, if_neg (by omega)] at h
    rw [h11]
    exact h μ2 (hs.tr (hs2.up (by decide))) hR2.i
theorem s_133 {T : gS} {x : Int32} {μ : gMu} {P : gMu → gRes → Prop} (hk : gOk T) (hI : cI T μ) (h : ∀ μ', gSm cC μ μ' → cI T μ' → P μ' (rG (gofA T x))) : gCl' 133 [.ref 0, .int x] μ P := by
  refine vc_133 (s_62 hk hI (fun μ1 hs hR => ⟨rfl, s_113 hk hR (fun e he => Or.inr ⟨e, rfl, ?_⟩) (fun l hl hx he => Or.inl ⟨rfl, ?_⟩)⟩))
  · have hp := h μ1 hs hR.i
    unfold gofA at hp
    rw [he] at hp
    exact hp
  · have hp := h μ1 hs hR.i
    unfold gofA at hp
    rw [he] at hp
    subst hx
    have h50 := tX50 hk
    have hl2 := tLs_lt hl
    have hse := lnSE (tXx_ok hk) (tLs_ok (T := T)) hl
    refine s_47 (tXx_ok hk) hR.x hR.ls.2.2 hl h50.2.2 (by omega) hl2.2 ⟨_, rfl, s_51 (tXx_ok hk) hR.x hR.ls.2.2 (by omega) h50.2.2 (by omega) ⟨_, rfl, ?_⟩⟩
    show P μ1 (.inl (some (.int (nI (lnE (tXx T) (tLs T) l) - nI (lnS (tXx T) (tLs T) l)))))
    rw [nS_n hse.1]
    exact hp
theorem s_135 {T : gS} {x y : Int32} {μ : gMu} {P : gMu → gRes → Prop} (hk : gOk T) (hI : cI T μ) (h : ∀ μ', gSm cC μ μ' → cI T μ' → P μ' (rG (gatA T x y))) : gCl' 135 [.ref 0, .int x, .int y] μ P := by
  refine vc_135 (s_62 hk hI (fun μ1 hs hR => ⟨rfl, s_113 hk hR (fun e he => Or.inr ⟨e, rfl, ?_⟩) (fun l hl hx he => Or.inl ⟨rfl, ?_⟩)⟩))
  · have hp := h μ1 hs hR.i
    unfold gatA at hp
    rw [he] at hp
    exact hp
  · have hp := h μ1 hs hR.i
    unfold gatA at hp
    rw [he] at hp
    subst hx
    have h50 := tX50 hk
    have hl2 := tLs_lt hl
    have hse := lnSE (tXx_ok hk) (tLs_ok (T := T)) hl
    have hG : (tXx T).G = tGT T := rfl
    have hp : P μ1 (rG (match inx y (lnE (tXx T) (tLs T) l - lnS (tXx T) (tLs T) l) with | none => .inl 2 | some r => .inr (nI (ixG T (oL (tGl T) (lnS (tXx T) (tLs T) l) (lnE (tXx T) (tLs T) l) (lnS (tXx T) (tLs T) l + r)))))) := hp
    refine s_51 (tXx_ok hk) hR.x hR.ls.2.2 (by omega) h50.2.2 (by omega) ⟨_, rfl, ?_⟩
    have e1 : (tXx T).pp (tLs T l) = lnS (tXx T) (tLs T) l := rfl
    have e2 : (tXx T).pe (tLs T (l + 1) - 1) = lnE (tXx T) (tLs T) l := rfl
    have s47 := fun (Q : gMu → gRes → Prop) (hq : Q μ1 (.inl (some (.int (nI (lnE (tXx T) (tLs T) l)))))) => s_47 (l := l) (P := Q) (tXx_ok hk) hR.x hR.ls.2.2 hl h50.2.2 (by omega) hl2.2 hq
    rw [e1]
    rcases inx_cases y (n := lnE (tXx T) (tLs T) l - lnS (tXx T) (tLs T) l) (by omega) with ⟨e, q1 | ⟨q1, q2⟩⟩ | ⟨j, hj, rfl, e⟩
    · rw [e] at hp
      exact ⟨fun _ => hp, fun z => absurd q1 z⟩
    · rw [e] at hp
      refine ⟨fun _ => hp, fun _ => s47 _ ⟨_, rfl, ?_⟩⟩
      rw [nS_n hse.1]
      exact ⟨fun z => absurd z q2, fun _ => hp⟩
    · rw [e] at hp
      refine ⟨fun z => absurd z (nI_pos (by omega)), fun _ => s47 _ ⟨_, rfl, ?_⟩⟩
      rw [nS_n hse.1]
      refine ⟨fun _ => ?_, fun z => absurd (nI_lt hj (by omega)) z⟩
      have row := hR.2.2.2.2.2.2.2.2.2.2.2.2.2.2.2.2 l hl
      have a := (row.2.1 (lnS (tXx T) (tLs T) l + j) (by omega) (by omega)).1
      have ho := oL_in (gl := tGl T) (s := lnS (tXx T) (tLs T) l) (e := lnE (tXx T) (tLs T) l) (j := lnS (tXx T) (tLs T) l + j) (by omega) (by omega)
      rw [nI_add, nI_clamp (show lnS (tXx T) (tLs T) l + j < 2 ^ 31 by omega), a]
      exact ⟨vp_in_nI (by omega) (by decide), s_67 hk hR (by omega) ⟨_, rfl, hp⟩⟩
theorem s_138 {T : gS} {x : Int32} {μ : gMu} {P : gMu → gRes → Prop} (hk : gOk T) (hI : cI T μ) (h : ∀ μ', gSm cC μ μ' → cI T μ' → P μ' (rG (rnkA T x))) : gCl' 138 [.ref 0, .int x] μ P := by
  refine vc_138 (s_62 hk hI (fun μ1 hs hR => ⟨rfl, s_137 hk hR (fun e he => Or.inr ⟨e, rfl, ?_⟩) (fun g he hg hac hlt => Or.inl ⟨_, rfl, ?_⟩)⟩))
  · have hp := h μ1 hs hR.i
    unfold rnkA at hp
    rw [he] at hp
    exact hp
  · have hp := h μ1 hs hR.i
    unfold rnkA at hp
    rw [he] at hp
    have h50 := tX50 hk
    have hl := lnOf_ok hk hac hg
    have row := hR.row hk hac hg
    have a := (row.2.1 g hl.2.1 hlt).2.1
    refine ⟨vp_in_nI (by omega) (by decide), ?_⟩
    rw [nI_clamp (show g < 2 ^ 31 by omega), a]
    exact hp
theorem s_143 {T : gS} {x : Int32} {μ : gMu} {P : gMu → gRes → Prop} (hk : gOk T) (hI : cI T μ) (h : ∀ μ', gSm cC μ μ' → cI T μ' → P μ' (rG (plaA T x))) : gCl' 143 [.ref 0, .int x] μ P := by
  refine vc_143 (s_62 hk hI (fun μ1 hs hR => ⟨rfl, s_137 hk hR (fun e he => Or.inr ⟨e, rfl, ?_⟩) (fun g he hg hac hlt => Or.inl ⟨_, rfl, ?_⟩)⟩))
  · have hp := h μ1 hs hR.i
    unfold plaA at hp
    rw [he] at hp
    exact hp
  · have hp := h μ1 hs hR.i
    unfold plaA at hp
    rw [he] at hp
    have h50 := tX50 hk
    have hl := lnOf_ok hk hac hg
    have row := hR.row hk hac hg
    have hp2 := pL_in (gl := tGl T) hl.2.1 hlt
    have a0 := (row.2.1 (pG T g) hp2.1 hp2.2).2.2.2
    have eo : oL (tGl T) (lnS (tXx T) (tLs T) (lnOf T g)) (lnE (tXx T) (tLs T) (lnOf T g)) (pG T g) = g := oL_pL hl.2.1 hlt
    rw [eo] at a0
    have a := a0
    refine ⟨vp_in_nI (by omega) (by decide), ?_⟩
    rw [nI_clamp (show g < 2 ^ 31 by omega), a]
    exact hp
theorem s_145 {T : gS} {x : Int32} {μ : gMu} {P : gMu → gRes → Prop} (hk : gOk T) (hI : cI T μ) (h : ∀ μ', gSm cC μ μ' → cI T μ' → P μ' (rG (jwdA T x))) : gCl' 145 [.ref 0, .int x] μ P := by
  refine vc_145 (s_62 hk hI (fun μ1 hs hR => ⟨rfl, s_137 hk hR (fun e he => Or.inr ⟨e, rfl, ?_⟩) (fun g he hg hac hlt => Or.inl ⟨_, rfl, ?_⟩)⟩))
  · have hp := h μ1 hs hR.i
    unfold jwdA at hp
    rw [he] at hp
    exact hp
  · have hp := h μ1 hs hR.i
    unfold jwdA at hp
    rw [he] at hp
    have h50 := tX50 hk
    have hl := lnOf_ok hk hac hg
    have row := hR.row hk hac hg
    have hp2 := pL_in (gl := tGl T) hl.2.1 hlt
    have a0 := (row.2.1 (pG T g) hp2.1 hp2.2).2.2.1
    have eo : oL (tGl T) (lnS (tXx T) (tLs T) (lnOf T g)) (lnE (tXx T) (tLs T) (lnOf T g)) (pG T g) = g := oL_pL hl.2.1 hlt
    rw [eo] at a0
    have a := a0
    refine ⟨vp_in_nI (by omega) (by decide), ?_⟩
    rw [nI_clamp (show g < 2 ^ 31 by omega), a]
    exact hp
theorem s_141 {T : gS} {x : Int32} {μ : gMu} {P : gMu → gRes → Prop} (hk : gOk T) (hI : cI T μ) (h : ∀ μ', gSm cC μ μ' → cI T μ' → P μ' (rG (rnkA T x))) : gCl' 141 [.ref 0, .int x] μ P := by
  refine vc_141 (s_62 hk hI (fun μ1 hs hR => ⟨rfl, s_137 hk hR (fun e he => Or.inr ⟨e, rfl, ?_⟩) (fun g he hg hac hlt => Or.inl ⟨_, rfl, ?_⟩)⟩))
  · have hp := h μ1 hs hR.i
    unfold rnkA at hp
    rw [he] at hp
    exact hp
  · have hp := h μ1 hs hR.i
    unfold rnkA at hp
    rw [he] at hp
    have hl := lnOf_ok hk hac hg
    have row := hR.row hk hac hg
    exact s_140 (C := tCn T) (ls := tLs T) (gl := tGl T) (tXx_ok hk) hR.x hR.ls.2.2 tLs_ok hR.gy.2.2.2.2 (fun y hy => by have := tGl_le hk hy; omega) hl.1 hl.2.1 hlt (row.1 g hl.2.1 hl.2.2) ⟨_, rfl, hp⟩
