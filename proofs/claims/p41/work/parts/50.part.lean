/-! PARTS, as the class cuts them; nu: the numbers of the glyphs -/
def tBk (nu : Nat → Nat) (g : Nat) : Bool := nu g != 32 && (nu (g - 1) == 32 || nu (g - 1) == 45)
/-- a part begins with the glyph g -/
def tPb (nu : Nat → Nat) (g : Nat) : Bool := g == 0 || tBk nu g
def tPc (nu : Nat → Nat) : Nat → Nat
  | 0 => 0
  | g + 1 => if tPb nu g = true then tPc nu g + 1 else tPc nu g
def tPp (nu : Nat → Nat) : Nat → Nat → Nat
  | 0 => fun _ => 0
  | g + 1 => if tPb nu g = true then upN (tPp nu g) (tPc nu g) g else tPp nu g
def tPh (nu : Nat → Nat) (e : Nat → Nat) (g : Nat) : Nat → Nat := if tPb nu g = true then upN e (tPc nu g) g else e
def tPe (nu : Nat → Nat) : Nat → Nat → Nat
  | 0 => fun _ => 0
  | g + 1 => if nu g = 32 then tPh nu (tPe nu g) g else upN (tPh nu (tPe nu g) g) (tPc nu (g + 1) - 1) (g + 1)
def tBl (nu : Nat → Nat) : Nat → Bool
  | 0 => true
  | g + 1 => tBl nu g && nu g == 32
theorem tPc_le (nu : Nat → Nat) : ∀ g, tPc nu g ≤ g
  | 0 => Nat.le_refl 0
  | g + 1 => by
    have := tPc_le nu g
    unfold tPc
    split <;> omega
theorem tPc_pos (nu : Nat → Nat) : ∀ g, 0 < tPc nu (g + 1)
  | 0 => Nat.one_pos
  | g + 1 => by
    have := tPc_pos nu g
    unfold tPc
    split <;> omega
theorem s_45 {nu : Nat → Nat} {G g : Nat} {μ : gMu} {P : gMu → gRes → Prop} (hG : G ≤ 50) (h23 : gAr μ 23 G nu) (hb : ∀ g, g < G → nu g < 1000) (h0 : 0 < g) (hg : g < G) (h : P μ (.inl (some (.int (bI (tBk nu g)))))) : gCl' 45 [.ref 29, .int (nI g)] μ P := by
  have b1 := hb g hg
  have b2 := hb (g - 1) (by omega)
  have b3 := h23 g hg
  have b4 := h23 (g - 1) (by omega)
  refine vc_45 ?_
  simp (disch := first | omega | decide) only [show ¬ g ≤ 0 by omega, nE_l, nE_r, nE_n, nLe_l, nLe_r, nLe_n, nLt_l, nLt_r, nLt_n, nA_l, nA_r, nI_add, nS_l, nS_n, nIn, nI_clamp, gI_I, gI_J, gI_D, gJ_J, gJ_I, gJ_D, true_and, and_true, false_and, and_false, if_true, if_false, false_implies, true_implies, not_true_eq_false, not_false_eq_true, bI_0, bI_1, Nat.reduceEqDiff, eq_self, nMax, nMin]
  unfold tBk at h
  refine s_10 b3 (by omega) (by omega) ⟨_, rfl, ?_⟩
  simp (disch := first | omega | decide) only [Bool.not_eq_false, nE_l, nE_r, nE_n, nLe_l, nLe_r, nLe_n, nLt_l, nLt_r, nLt_n, nA_l, nA_r, nI_add, nS_l, nS_n, nIn, nI_clamp, gI_I, gI_J, gI_D, gJ_J, gJ_I, gJ_D, true_and, and_true, false_and, and_false, if_true, if_false, false_implies, true_implies, not_true_eq_false, not_false_eq_true, bI_0, bI_1, Nat.reduceEqDiff, eq_self, nMax, nMin]
  refine ⟨fun h1 => ?_, fun h1 => s_10 b4 (by omega) (by omega) ⟨_, rfl, ?_⟩⟩
  · rw [show (nu g != 32) = false by simpa using h1] at h; exact h
  · rw [show (nu g != 32) = true by simpa using h1] at h
    simp (disch := first | omega | decide) only [Bool.not_eq_false, nE_l, nE_r, nE_n, nLe_l, nLe_r, nLe_n, nLt_l, nLt_r, nLt_n, nA_l, nA_r, nI_add, nS_l, nS_n, nIn, nI_clamp, gI_I, gI_J, gI_D, gJ_J, gJ_I, gJ_D, true_and, and_true, false_and, and_false, if_true, if_false, false_implies, true_implies, not_true_eq_false, not_false_eq_true, bI_0, bI_1, Nat.reduceEqDiff, eq_self, nMax, nMin]
    refine ⟨fun h2 => ?_, fun h2 => s_32 b4 (by omega) (by omega) ⟨_, rfl, ?_⟩⟩
    · rw [h2] at h; exact h
    · rw [h2] at h
      simp (disch := first | omega | decide) only [Bool.not_eq_false, nE_l, nE_r, nE_n, nLe_l, nLe_r, nLe_n, nLt_l, nLt_r, nLt_n, nA_l, nA_r, nI_add, nS_l, nS_n, nIn, nI_clamp, gI_I, gI_J, gI_D, gJ_J, gJ_I, gJ_D, true_and, and_true, false_and, and_false, if_true, if_false, false_implies, true_implies, not_true_eq_false, not_false_eq_true, bI_0, bI_1, Nat.reduceEqDiff, eq_self, nMax, nMin]
      refine ⟨fun h3 => ?_, fun h3 => ?_⟩
      · rw [h3] at h; exact h
      · rw [h3] at h; exact h
def cPt (nu : Nat → Nat) (k : Nat) (μ : gMu) : Prop := gI μ 29 3 = nI (tPc nu k) ∧ gI μ 29 4 = bI (tBl nu k) ∧ gAr μ 30 (tPc nu k) (tPp nu k) ∧ gAr μ 31 (tPc nu k) (tPe nu k)
def cPh (nu : Nat → Nat) (k : Nat) (μ : gMu) : Prop := gI μ 29 3 = nI (tPc nu (k + 1)) ∧ gI μ 29 4 = bI (tBl nu k) ∧ gAr μ 30 (tPc nu (k + 1)) (tPp nu (k + 1)) ∧ gAr μ 31 (tPc nu (k + 1)) (tPh nu (tPe nu k) k)
theorem cPh_new {nu : Nat → Nat} {k : Nat} {μ : gMu} (h : cPt nu k μ) (e : tPb nu k = true) : cPh nu k (gsI (gsI (gsI μ 30 (tPc nu k) (nI k)) 31 (tPc nu k) (nI k)) 29 3 (nI (tPc nu k + 1))) := by
  obtain ⟨h1, h2, h3, h4⟩ := h
  have e1 : tPc nu (k + 1) = tPc nu k + 1 := if_pos e
  have e2 : tPp nu (k + 1) = upN (tPp nu k) (tPc nu k) k := if_pos e
  have e3 : tPh nu (tPe nu k) k = upN (tPe nu k) (tPc nu k) k := if_pos e
  unfold cPh
  rw [e1, e2, e3]
  exact ⟨by simp (disch := first | omega | decide) only [nE_l, nE_r, nE_n, nLe_l, nLe_r, nLe_n, nLt_l, nLt_r, nLt_n, nA_l, nA_r, nI_add, nS_l, nS_n, nIn, nI_clamp, gI_I, gI_J, gI_D, gJ_J, gJ_I, gJ_D, true_and, and_true, false_and, and_false, if_true, if_false, false_implies, true_implies, not_true_eq_false, not_false_eq_true, bI_0, bI_1, Nat.reduceEqDiff, eq_self, nMax, nMin], by simp (disch := first | omega | decide) only [h2, nE_l, nE_r, nE_n, nLe_l, nLe_r, nLe_n, nLt_l, nLt_r, nLt_n, nA_l, nA_r, nI_add, nS_l, nS_n, nIn, nI_clamp, gI_I, gI_J, gI_D, gJ_J, gJ_I, gJ_D, true_and, and_true, false_and, and_false, if_true, if_false, false_implies, true_implies, not_true_eq_false, not_false_eq_true, bI_0, bI_1, Nat.reduceEqDiff, eq_self, nMax, nMin], (h3.push.skip (by decide)).skip (by decide), (((h4.skip (by decide)).push)).skip (by decide)⟩
theorem cPh_old {nu : Nat → Nat} {k : Nat} {μ : gMu} (h : cPt nu k μ) (e : tPb nu k = false) : cPh nu k μ := by
  obtain ⟨h1, h2, h3, h4⟩ := h
  have e0 : ¬ tPb nu k = true := by rw [e]; decide
  have e1 : tPc nu (k + 1) = tPc nu k := if_neg e0
  have e2 : tPp nu (k + 1) = tPp nu k := if_neg e0
  have e3 : tPh nu (tPe nu k) k = tPe nu k := if_neg e0
  unfold cPh
  rw [e1, e2, e3]
  exact ⟨h1, h2, h3, h4⟩
theorem cPt_sp {nu : Nat → Nat} {k : Nat} {μ : gMu} (h : cPh nu k μ) (e : nu k = 32) : cPt nu (k + 1) μ := by
  obtain ⟨h1, h2, h3, h4⟩ := h
  have e1 : tPe nu (k + 1) = tPh nu (tPe nu k) k := if_pos e
  have e2 : tBl nu (k + 1) = tBl nu k := by
    show (tBl nu k && nu k == 32) = tBl nu k
    rw [e]
    simp
  unfold cPt
  rw [e1, e2]
  exact ⟨h1, h2, h3, h4⟩
theorem cPt_no {nu : Nat → Nat} {k : Nat} {μ : gMu} (h : cPh nu k μ) (e : nu k ≠ 32) : cPt nu (k + 1) (gsI (gsI μ 31 (tPc nu (k + 1) - 1) (nI (k + 1))) 29 4 0) := by
  obtain ⟨h1, h2, h3, h4⟩ := h
  have e1 : tPe nu (k + 1) = upN (tPh nu (tPe nu k) k) (tPc nu (k + 1) - 1) (k + 1) := if_neg e
  have e2 : tBl nu (k + 1) = false := by
    show (tBl nu k && nu k == 32) = false
    simp [e]
  unfold cPt
  rw [e1, e2]
  exact ⟨by simp (disch := first | omega | decide) only [h1, nE_l, nE_r, nE_n, nLe_l, nLe_r, nLe_n, nLt_l, nLt_r, nLt_n, nA_l, nA_r, nI_add, nS_l, nS_n, nIn, nI_clamp, gI_I, gI_J, gI_D, gJ_J, gJ_I, gJ_D, true_and, and_true, false_and, and_false, if_true, if_false, false_implies, true_implies, not_true_eq_false, not_false_eq_true, bI_0, bI_1, Nat.reduceEqDiff, eq_self, nMax, nMin], by simp (disch := first | omega | decide) only [nE_l, nE_r, nE_n, nLe_l, nLe_r, nLe_n, nLt_l, nLt_r, nLt_n, nA_l, nA_r, nI_add, nS_l, nS_n, nIn, nI_clamp, gI_I, gI_J, gI_D, gJ_J, gJ_I, gJ_D, true_and, and_true, false_and, and_false, if_true, if_false, false_implies, true_implies, not_true_eq_false, not_false_eq_true, bI_0, bI_1, Nat.reduceEqDiff, eq_self, nMax, nMin]; rfl, (h3.skip (by decide)).skip (by decide), h4.set.skip (by decide)⟩
theorem s_46 {nu : Nat → Nat} {G : Nat} {μ : gMu} {P : gMu → gRes → Prop} (hG : G ≤ 50) (h10 : gI μ 21 10 = nI G) (h23 : gAr μ 23 G nu) (hb : ∀ g, g < G → nu g < 1000) (h : ∀ μ', gSm [29, 30, 31] μ μ' → gI μ' 29 3 = nI (tPc nu G) → gI μ' 29 4 = bI (tBl nu G) → gAr μ' 30 (tPc nu G + 1) (upN (tPp nu G) (tPc nu G) G) → gAr μ' 31 (tPc nu G) (tPe nu G) → P μ' (.inl none)) : gCl' 46 [.ref 29] μ P := by
  have loop : ∀ r k μ', k + r = G → gSm [29, 30, 31] μ μ' → cPt nu k μ' → gWp none 46 (12, [some (.ref 29), some (.int (nI k))], [], μ') 0 P := by
    intro r
    induction r with
    | zero =>
      intro k μ' hr hs hc
      have hk : k = G := by omega
      subst hk
      have g3 := tPc_le nu k
      obtain ⟨h1, h2, h3, h4⟩ := hc
      refine vc_46_12 ?_
      rw [hs.I (by decide), h10]
      simp (disch := first | omega | decide) only [Nat.le_refl, h1, show tPc nu k < 51 by omega, nE_l, nE_r, nE_n, nLe_l, nLe_r, nLe_n, nLt_l, nLt_r, nLt_n, nA_l, nA_r, nI_add, nS_l, nS_n, nIn, nI_clamp, gI_I, gI_J, gI_D, gJ_J, gJ_I, gJ_D, true_and, and_true, false_and, and_false, if_true, if_false, false_implies, true_implies, not_true_eq_false, not_false_eq_true, bI_0, bI_1, Nat.reduceEqDiff, eq_self, nMax, nMin]
      exact h _ (hs.i 30 _ _ (by decide)) (by simp (disch := first | omega | decide) only [h1, nE_l, nE_r, nE_n, nLe_l, nLe_r, nLe_n, nLt_l, nLt_r, nLt_n, nA_l, nA_r, nI_add, nS_l, nS_n, nIn, nI_clamp, gI_I, gI_J, gI_D, gJ_J, gJ_I, gJ_D, true_and, and_true, false_and, and_false, if_true, if_false, false_implies, true_implies, not_true_eq_false, not_false_eq_true, bI_0, bI_1, Nat.reduceEqDiff, eq_self, nMax, nMin]) (by simp (disch := first | omega | decide) only [h2, nE_l, nE_r, nE_n, nLe_l, nLe_r, nLe_n, nLt_l, nLt_r, nLt_n, nA_l, nA_r, nI_add, nS_l, nS_n, nIn, nI_clamp, gI_I, gI_J, gI_D, gJ_J, gJ_I, gJ_D, true_and, and_true, false_and, and_false, if_true, if_false, false_implies, true_implies, not_true_eq_false, not_false_eq_true, bI_0, bI_1, Nat.reduceEqDiff, eq_self, nMax, nMin]) h3.push (h4.skip (by decide))
    | succ r ih =>
      intro k μ' hr hs hc
      have hbk := hb k (by omega)
      have g4 := tPc_le nu k
      have h1 := hc.1
      have h2 : gI μ' 23 k = nI (nu k) := by rw [hs.I (by decide), h23 k (by omega)]
      refine vc_46_12 ?_
      rw [hs.I (by decide), h10]
      simp (disch := first | omega | decide) only [h1, show ¬ G ≤ k by omega, show tPc nu k < 50 by omega, show tPc nu k < 51 by omega, nE_l, nE_r, nE_n, nLe_l, nLe_r, nLe_n, nLt_l, nLt_r, nLt_n, nA_l, nA_r, nI_add, nS_l, nS_n, nIn, nI_clamp, gI_I, gI_J, gI_D, gJ_J, gJ_I, gJ_D, true_and, and_true, false_and, and_false, if_true, if_false, false_implies, true_implies, not_true_eq_false, not_false_eq_true, bI_0, bI_1, Nat.reduceEqDiff, eq_self, nMax, nMin]
      refine ⟨fun hk0 => ?_, fun hk0 => ?_⟩
      · have hnew : tPb nu k = true := by simp [tPb, hk0]
        have hh := cPh_new hc hnew
        have hs2 : gSm [29, 30, 31] μ (gsI (gsI (gsI μ' 30 (tPc nu k) (nI k)) 31 (tPc nu k) (nI k)) 29 3 (nI (tPc nu k + 1))) := ((hs.i 30 _ _ (by decide)).i 31 _ _ (by decide)).i 29 _ _ (by decide)
        have g1 := hh.1
        have g2 := tPc_pos nu k
        have g3 := tPc_le nu (k + 1)
        refine s_10 (x := nu k) (by simp (disch := first | omega | decide) only [h2, nE_l, nE_r, nE_n, nLe_l, nLe_r, nLe_n, nLt_l, nLt_r, nLt_n, nA_l, nA_r, nI_add, nS_l, nS_n, nIn, nI_clamp, gI_I, gI_J, gI_D, gJ_J, gJ_I, gJ_D, true_and, and_true, false_and, and_false, if_true, if_false, false_implies, true_implies, not_true_eq_false, not_false_eq_true, bI_0, bI_1, Nat.reduceEqDiff, eq_self, nMax, nMin]) (by omega) (by omega) ⟨_, rfl, ?_⟩
        simp (disch := first | omega | decide) only [Bool.not_eq_false, beq_iff_eq, beq_eq_false_iff_ne, ne_eq, Classical.not_not, nE_l, nE_r, nE_n, nLe_l, nLe_r, nLe_n, nLt_l, nLt_r, nLt_n, nA_l, nA_r, nI_add, nS_l, nS_n, nIn, nI_clamp, gI_I, gI_J, gI_D, gJ_J, gJ_I, gJ_D, true_and, and_true, false_and, and_false, if_true, if_false, false_implies, true_implies, not_true_eq_false, not_false_eq_true, bI_0, bI_1, Nat.reduceEqDiff, eq_self, nMax, nMin]
        refine ⟨fun hd => ?_, fun hd => ?_⟩
        · exact ih (k + 1) _ (by omega) hs2 (cPt_sp hh hd)
        · try simp (disch := first | omega | decide) only [g1, show tPc nu (k + 1) - 1 < 50 by omega, nE_l, nE_r, nE_n, nLe_l, nLe_r, nLe_n, nLt_l, nLt_r, nLt_n, nA_l, nA_r, nI_add, nS_l, nS_n, nIn, nI_clamp, gI_I, gI_J, gI_D, gJ_J, gJ_I, gJ_D, true_and, and_true, false_and, and_false, if_true, if_false, false_implies, true_implies, not_true_eq_false, not_false_eq_true, bI_0, bI_1, Nat.reduceEqDiff, eq_self, nMax, nMin]
          try rw [show tPc nu k + 1 - 1 = tPc nu (k + 1) - 1 by rw [show tPc nu (k + 1) = tPc nu k + 1 from if_pos hnew]]
          exact ih (k + 1) _ (by omega) (((hs2).i 31 _ _ (by decide)).i 29 _ _ (by decide)) (cPt_no hh hd)
      · refine s_45 hG (h23.sm hs (by decide)) hb (by omega) (by omega) ⟨_, rfl, ?_⟩
        simp (disch := first | omega | decide) only [Bool.not_eq_false, nE_l, nE_r, nE_n, nLe_l, nLe_r, nLe_n, nLt_l, nLt_r, nLt_n, nA_l, nA_r, nI_add, nS_l, nS_n, nIn, nI_clamp, gI_I, gI_J, gI_D, gJ_J, gJ_I, gJ_D, true_and, and_true, false_and, and_false, if_true, if_false, false_implies, true_implies, not_true_eq_false, not_false_eq_true, bI_0, bI_1, Nat.reduceEqDiff, eq_self, nMax, nMin]
        refine ⟨fun hbk2 => ?_, fun hbk2 => ?_⟩
        · have hh := cPh_old hc (show tPb nu k = false by simp [tPb, hk0, hbk2])
          have g1 := hh.1
          have g2 := tPc_pos nu k
          have g3 := tPc_le nu (k + 1)
          refine s_10 (x := nu k) h2 (by omega) (by omega) ⟨_, rfl, ?_⟩
          simp (disch := first | omega | decide) only [Bool.not_eq_false, beq_iff_eq, beq_eq_false_iff_ne, ne_eq, Classical.not_not, nE_l, nE_r, nE_n, nLe_l, nLe_r, nLe_n, nLt_l, nLt_r, nLt_n, nA_l, nA_r, nI_add, nS_l, nS_n, nIn, nI_clamp, gI_I, gI_J, gI_D, gJ_J, gJ_I, gJ_D, true_and, and_true, false_and, and_false, if_true, if_false, false_implies, true_implies, not_true_eq_false, not_false_eq_true, bI_0, bI_1, Nat.reduceEqDiff, eq_self, nMax, nMin]
          refine ⟨fun hd => ?_, fun hd => ?_⟩
          · exact ih (k + 1) _ (by omega) hs (cPt_sp hh hd)
          · try simp (disch := first | omega | decide) only [g1, show tPc nu (k + 1) - 1 < 50 by omega, nE_l, nE_r, nE_n, nLe_l, nLe_r, nLe_n, nLt_l, nLt_r, nLt_n, nA_l, nA_r, nI_add, nS_l, nS_n, nIn, nI_clamp, gI_I, gI_J, gI_D, gJ_J, gJ_I, gJ_D, true_and, and_true, false_and, and_false, if_true, if_false, false_implies, true_implies, not_true_eq_false, not_false_eq_true, bI_0, bI_1, Nat.reduceEqDiff, eq_self, nMax, nMin]
            try rw [show tPc nu k + 1 - 1 = tPc nu (k + 1) - 1 by rw [show tPc nu (k + 1) = tPc nu k + 1 from if_pos rfl]]
            exact ih (k + 1) _ (by omega) (((hs).i 31 _ _ (by decide)).i 29 _ _ (by decide)) (cPt_no hh hd)
        · have hnew : tPb nu k = true := by simp [tPb, hbk2]
          have hh := cPh_new hc hnew
          have hs2 : gSm [29, 30, 31] μ (gsI (gsI (gsI μ' 30 (tPc nu k) (nI k)) 31 (tPc nu k) (nI k)) 29 3 (nI (tPc nu k + 1))) := ((hs.i 30 _ _ (by decide)).i 31 _ _ (by decide)).i 29 _ _ (by decide)
          simp (disch := first | omega | decide) only [h1, show tPc nu k < 50 by omega, show tPc nu k < 51 by omega, nE_l, nE_r, nE_n, nLe_l, nLe_r, nLe_n, nLt_l, nLt_r, nLt_n, nA_l, nA_r, nI_add, nS_l, nS_n, nIn, nI_clamp, gI_I, gI_J, gI_D, gJ_J, gJ_I, gJ_D, true_and, and_true, false_and, and_false, if_true, if_false, false_implies, true_implies, not_true_eq_false, not_false_eq_true, bI_0, bI_1, Nat.reduceEqDiff, eq_self, nMax, nMin]
          have g1 := hh.1
          have g2 := tPc_pos nu k
          have g3 := tPc_le nu (k + 1)
          refine s_10 (x := nu k) (by simp (disch := first | omega | decide) only [h2, nE_l, nE_r, nE_n, nLe_l, nLe_r, nLe_n, nLt_l, nLt_r, nLt_n, nA_l, nA_r, nI_add, nS_l, nS_n, nIn, nI_clamp, gI_I, gI_J, gI_D, gJ_J, gJ_I, gJ_D, true_and, and_true, false_and, and_false, if_true, if_false, false_implies, true_implies, not_true_eq_false, not_false_eq_true, bI_0, bI_1, Nat.reduceEqDiff, eq_self, nMax, nMin]) (by omega) (by omega) ⟨_, rfl, ?_⟩
          simp (disch := first | omega | decide) only [Bool.not_eq_false, beq_iff_eq, beq_eq_false_iff_ne, ne_eq, Classical.not_not, nE_l, nE_r, nE_n, nLe_l, nLe_r, nLe_n, nLt_l, nLt_r, nLt_n, nA_l, nA_r, nI_add, nS_l, nS_n, nIn, nI_clamp, gI_I, gI_J, gI_D, gJ_J, gJ_I, gJ_D, true_and, and_true, false_and, and_false, if_true, if_false, false_implies, true_implies, not_true_eq_false, not_false_eq_true, bI_0, bI_1, Nat.reduceEqDiff, eq_self, nMax, nMin]
          refine ⟨fun hd => ?_, fun hd => ?_⟩
          · exact ih (k + 1) _ (by omega) hs2 (cPt_sp hh hd)
          · try simp (disch := first | omega | decide) only [g1, show tPc nu (k + 1) - 1 < 50 by omega, nE_l, nE_r, nE_n, nLe_l, nLe_r, nLe_n, nLt_l, nLt_r, nLt_n, nA_l, nA_r, nI_add, nS_l, nS_n, nIn, nI_clamp, gI_I, gI_J, gI_D, gJ_J, gJ_I, gJ_D, true_and, and_true, false_and, and_false, if_true, if_false, false_implies, true_implies, not_true_eq_false, not_false_eq_true, bI_0, bI_1, Nat.reduceEqDiff, eq_self, nMax, nMin]
            try rw [show tPc nu k + 1 - 1 = tPc nu (k + 1) - 1 by rw [show tPc nu (k + 1) = tPc nu k + 1 from if_pos hnew]]
            exact ih (k + 1) _ (by omega) (((hs2).i 31 _ _ (by decide)).i 29 _ _ (by decide)) (cPt_no hh hd)
  exact vc_46 (loop G 0 _ (by omega) (((gSm.rf _ μ).i 29 _ _ (by decide)).i 29 _ _ (by decide)) ⟨rfl, rfl, gAr.nil _ _ _, gAr.nil _ _ _⟩)
theorem s_65 {p : Nat} {μ : gMu} {P : gMu → gRes → Prop} (hp : p ≤ 50) (h3 : gI μ 29 3 = nI p) (h : P μ (.inl (some (.int (nI (p - 1)))))) : gCl' 65 [.ref 29] μ P := by
  refine vc_65 ?_
  simp (disch := first | omega | decide) only [h3, nE_l, nE_r, nE_n, nLe_l, nLe_r, nLe_n, nLt_l, nLt_r, nLt_n, nA_l, nA_r, nI_add, nS_l, nS_n, nIn, nI_clamp, gI_I, gI_J, gI_D, gJ_J, gJ_I, gJ_D, true_and, and_true, false_and, and_false, if_true, if_false, false_implies, true_implies, not_true_eq_false, not_false_eq_true, bI_0, bI_1, Nat.reduceEqDiff, eq_self, nMax, nMin]
  refine ⟨fun h1 => ?_, fun h1 => ?_⟩
  · rw [show p - 1 = 0 by omega] at h; exact h
  · simp (disch := first | omega | decide) only [nE_l, nE_r, nE_n, nLe_l, nLe_r, nLe_n, nLt_l, nLt_r, nLt_n, nA_l, nA_r, nI_add, nS_l, nS_n, nIn, nI_clamp, gI_I, gI_J, gI_D, gJ_J, gJ_I, gJ_D, true_and, and_true, false_and, and_false, if_true, if_false, false_implies, true_implies, not_true_eq_false, not_false_eq_true, bI_0, bI_1, Nat.reduceEqDiff, eq_self, nMax, nMin]
    exact h
/-! what the lines know of glyphs and parts: the number of glyphs, of parts, the width, the glyphs' numbers, sums of widths and spaces, where parts begin and end -/
def xX : Type := Nat × Nat × Nat × (Nat → Nat) × (Nat → Nat) × (Nat → Nat) × (Nat → Nat) × (Nat → Nat)
def xX.G (X : xX) : Nat := X.1
def xX.P (X : xX) : Nat := X.2.1
def xX.W (X : xX) : Nat := X.2.2.1
def xX.nu (X : xX) : Nat → Nat := X.2.2.2.1
def xX.wa (X : xX) : Nat → Nat := X.2.2.2.2.1
def xX.sa (X : xX) : Nat → Nat := X.2.2.2.2.2.1
def xX.pp (X : xX) : Nat → Nat := X.2.2.2.2.2.2.1
def xX.pe (X : xX) : Nat → Nat := X.2.2.2.2.2.2.2
/-- what is true of them -/
def xOk (X : xX) : Prop := (X.G ≤ 50) ∧ (X.P ≤ X.G) ∧ (10 ≤ X.W ∧ X.W ≤ 200) ∧ (∀ g, g < X.G → X.nu g < 1000) ∧ (∀ i j, i ≤ j → j ≤ X.G → X.wa i ≤ X.wa j) ∧ (∀ j, j ≤ X.G → X.wa j ≤ 2000) ∧ (∀ i j, i ≤ j → j ≤ X.G → X.sa i ≤ X.sa j) ∧ (∀ j, j ≤ X.G → X.sa j ≤ 50) ∧ (∀ i j, i < j → j ≤ X.P → X.pp i < X.pp j) ∧ (X.pp X.P = X.G) ∧ (∀ j, j < X.P → X.pp j ≤ X.pe j ∧ X.pe j ≤ X.pp (j + 1)) ∧ (0 < X.P → X.pp 0 = 0)
theorem xOk.G {X : xX} (h : xOk X) : X.G ≤ 50 := h.1
theorem xOk.P {X : xX} (h : xOk X) : X.P ≤ X.G := h.2.1
theorem xOk.W {X : xX} (h : xOk X) : 10 ≤ X.W ∧ X.W ≤ 200 := h.2.2.1
theorem xOk.nu {X : xX} (h : xOk X) : ∀ g, g < X.G → X.nu g < 1000 := h.2.2.2.1
theorem xOk.wm {X : xX} (h : xOk X) : ∀ i j, i ≤ j → j ≤ X.G → X.wa i ≤ X.wa j := h.2.2.2.2.1
theorem xOk.wl {X : xX} (h : xOk X) : ∀ j, j ≤ X.G → X.wa j ≤ 2000 := h.2.2.2.2.2.1
theorem xOk.sm {X : xX} (h : xOk X) : ∀ i j, i ≤ j → j ≤ X.G → X.sa i ≤ X.sa j := h.2.2.2.2.2.2.1
theorem xOk.sl {X : xX} (h : xOk X) : ∀ j, j ≤ X.G → X.sa j ≤ 50 := h.2.2.2.2.2.2.2.1
theorem xOk.pl {X : xX} (h : xOk X) : ∀ i j, i < j → j ≤ X.P → X.pp i < X.pp j := h.2.2.2.2.2.2.2.2.1
theorem xOk.pP {X : xX} (h : xOk X) : X.pp X.P = X.G := h.2.2.2.2.2.2.2.2.2.1
theorem xOk.pe {X : xX} (h : xOk X) : ∀ j, j < X.P → X.pp j ≤ X.pe j ∧ X.pe j ≤ X.pp (j + 1) := h.2.2.2.2.2.2.2.2.2.2.1
theorem xOk.p0 {X : xX} (h : xOk X) : 0 < X.P → X.pp 0 = 0 := h.2.2.2.2.2.2.2.2.2.2.2
theorem xOk.ple {X : xX} (h : xOk X) {i j : Nat} (hij : i ≤ j) (hj : j ≤ X.P) : X.pp i ≤ X.pp j := by
  rcases Nat.lt_or_eq_of_le hij with h1 | h1
  · exact Nat.le_of_lt (h.pl i j h1 hj)
  · rw [h1]; exact Nat.le_refl _
theorem xOk.pG {X : xX} (h : xOk X) {i : Nat} (hi : i ≤ X.P) : X.pp i ≤ X.G := by
  rw [← h.pP]
  exact h.ple hi (Nat.le_refl _)
theorem xOk.pij {X : xX} (h : xOk X) {i j : Nat} (hij : i < j) (hj : j ≤ X.P) : X.pp i ≤ X.pe (j - 1) ∧ X.pe (j - 1) ≤ X.G := by
  have h1 := h.pe (j - 1) (by omega)
  have h2 := h.ple (i := i) (j := j - 1) (by omega) (by omega)
  have h3 := h.pG (i := j - 1 + 1) (by omega)
  omega
def xN (X : xX) (i j : Nat) : Nat := X.wa (X.pe (j - 1)) - X.wa (X.pp i)
def xK (X : xX) (i j : Nat) : Nat := X.sa (X.pe (j - 1)) - X.sa (X.pp i)
def xH (X : xX) (j : Nat) : Bool := decide (0 < X.pp j) && X.nu (X.pp j - 1) == 45
/-- the class holds them -/
def cX (X : xX) (μ : gMu) : Prop := gI μ 29 3 = nI X.P ∧ gAr μ 23 X.G X.nu ∧ gAr μ 27 (X.G + 1) X.wa ∧ gAr μ 28 (X.G + 1) X.sa ∧ gAr μ 30 (X.P + 1) X.pp ∧ gAr μ 31 X.P X.pe
theorem cX.sm {A : List Nat} {X : xX} {μ μ' : gMu} (h : cX X μ) (hs : gSm A μ μ') (h1 : 29 ∉ A) (h2 : 23 ∉ A) (h3 : 27 ∉ A) (h4 : 28 ∉ A) (h5 : 30 ∉ A) (h6 : 31 ∉ A) : cX X μ' := ⟨by rw [hs.I h1, h.1], h.2.1.sm hs h2, h.2.2.1.sm hs h3, h.2.2.2.1.sm hs h4, h.2.2.2.2.1.sm hs h5, h.2.2.2.2.2.sm hs h6⟩
theorem s_33 {X : xX} {j : Nat} {μ : gMu} {P : gMu → gRes → Prop} (hX : xOk X) (hc : cX X μ) (hj : j ≤ X.P) (h : P μ (.inl (some (.int (bI (xH X j)))))) : gCl' 33 [.ref 29, .int (nI j)] μ P := by
  have h1 := hX.G
  have h2 := hX.P
  have h3 := hX.pG hj
  have h4 := hc.2.2.2.2.1 j (by omega)
  refine vc_33 ?_
  simp (disch := first | omega | decide) only [h4, show j < 51 by omega, nE_l, nE_r, nE_n, nLe_l, nLe_r, nLe_n, nLt_l, nLt_r, nLt_n, nA_l, nA_r, nI_add, nS_l, nS_n, nIn, nI_clamp, gI_I, gI_J, gI_D, gJ_J, gJ_I, gJ_D, true_and, and_true, false_and, and_false, if_true, if_false, false_implies, true_implies, not_true_eq_false, not_false_eq_true, bI_0, bI_1, Nat.reduceEqDiff, eq_self, nMax, nMin]
  unfold xH at h
  refine ⟨fun h5 => ?_, fun h5 => ?_⟩
  · rw [decide_eq_false (by omega)] at h; exact h
  · have h6 := hc.2.1 (X.pp j - 1) (by omega)
    have h7 := hX.nu (X.pp j - 1) (by omega)
    simp (disch := first | omega | decide) only [nE_l, nE_r, nE_n, nLe_l, nLe_r, nLe_n, nLt_l, nLt_r, nLt_n, nA_l, nA_r, nI_add, nS_l, nS_n, nIn, nI_clamp, gI_I, gI_J, gI_D, gJ_J, gJ_I, gJ_D, true_and, and_true, false_and, and_false, if_true, if_false, false_implies, true_implies, not_true_eq_false, not_false_eq_true, bI_0, bI_1, Nat.reduceEqDiff, eq_self, nMax, nMin]
    refine s_32 h6 (by omega) (by omega) ⟨_, rfl, ?_⟩
    rw [decide_eq_true (by omega), Bool.true_and] at h
    simp (disch := first | omega | decide) only [Bool.not_eq_false, nE_l, nE_r, nE_n, nLe_l, nLe_r, nLe_n, nLt_l, nLt_r, nLt_n, nA_l, nA_r, nI_add, nS_l, nS_n, nIn, nI_clamp, gI_I, gI_J, gI_D, gJ_J, gJ_I, gJ_D, true_and, and_true, false_and, and_false, if_true, if_false, false_implies, true_implies, not_true_eq_false, not_false_eq_true, bI_0, bI_1, Nat.reduceEqDiff, eq_self, nMax, nMin]
    refine ⟨fun h8 => ?_, fun h8 => ?_⟩
    · rw [h8] at h; exact h
    · rw [h8] at h; exact h
theorem s_28 {X : xX} {i j : Nat} {μ : gMu} {P : gMu → gRes → Prop} (hX : xOk X) (hc : cX X μ) (hij : i < j) (hj : j ≤ X.P) (h : P μ (.inl (some (.int (nI (xN X i j)))))) : gCl' 28 [.ref 29, .int (nI i), .int (nI j)] μ P := by
  have h1 := hX.G
  have h2 := hX.P
  have h3 := hX.pij hij hj
  have h4 := hc.2.2.2.2.1 i (by omega)
  have h5 := hc.2.2.2.2.2 (j - 1) (by omega)
  have h6 := hc.2.2.1 (X.pp i) (by omega)
  have h7 := hc.2.2.1 (X.pe (j - 1)) (by omega)
  have h8 := hX.wm _ _ h3.1 h3.2
  refine vc_28 ?_
  simp (disch := first | omega | decide) only [h4, h5, show ¬ j ≤ 0 by omega, show j - 1 < 50 by omega, show i < 51 by omega, show X.pp i < 51 by omega, show X.pe (j - 1) < 51 by omega, h6, h7, nE_l, nE_r, nE_n, nLe_l, nLe_r, nLe_n, nLt_l, nLt_r, nLt_n, nA_l, nA_r, nI_add, nS_l, nS_n, nIn, nI_clamp, gI_I, gI_J, gI_D, gJ_J, gJ_I, gJ_D, true_and, and_true, false_and, and_false, if_true, if_false, false_implies, true_implies, not_true_eq_false, not_false_eq_true, bI_0, bI_1, Nat.reduceEqDiff, eq_self, nMax, nMin]
  exact h
theorem s_30 {X : xX} {i j : Nat} {μ : gMu} {P : gMu → gRes → Prop} (hX : xOk X) (hc : cX X μ) (hij : i < j) (hj : j ≤ X.P) (h : P μ (.inl (some (.int (nI (xK X i j)))))) : gCl' 30 [.ref 29, .int (nI i), .int (nI j)] μ P := by
  have h1 := hX.G
  have h2 := hX.P
  have h3 := hX.pij hij hj
  have h4 := hc.2.2.2.2.1 i (by omega)
  have h5 := hc.2.2.2.2.2 (j - 1) (by omega)
  have h6 := hc.2.2.2.1 (X.pp i) (by omega)
  have h7 := hc.2.2.2.1 (X.pe (j - 1)) (by omega)
  have h8 := hX.sm _ _ h3.1 h3.2
  refine vc_30 ?_
  simp (disch := first | omega | decide) only [h4, h5, show ¬ j ≤ 0 by omega, show j - 1 < 50 by omega, show i < 51 by omega, show X.pp i < 51 by omega, show X.pe (j - 1) < 51 by omega, h6, h7, nE_l, nE_r, nE_n, nLe_l, nLe_r, nLe_n, nLt_l, nLt_r, nLt_n, nA_l, nA_r, nI_add, nS_l, nS_n, nIn, nI_clamp, gI_I, gI_J, gI_D, gJ_J, gJ_I, gJ_D, true_and, and_true, false_and, and_false, if_true, if_false, false_implies, true_implies, not_true_eq_false, not_false_eq_true, bI_0, bI_1, Nat.reduceEqDiff, eq_self, nMax, nMin]
  exact h
theorem xN_le {X : xX} (hX : xOk X) {i j : Nat} (hij : i < j) (hj : j ≤ X.P) : xN X i j ≤ 2000 := by
  have h3 := hX.pij hij hj
  have := hX.wl _ h3.2
  unfold xN
  omega
theorem xK_le {X : xX} (hX : xOk X) {i j : Nat} (hij : i < j) (hj : j ≤ X.P) : xK X i j ≤ 50 := by
  have h3 := hX.pij hij hj
  have := hX.sl _ h3.2
  unfold xK
  omega
