/-! ALL LINES OF THE CLASS, and its counting -/
/-- what the class's Rows hold of the line l -/
def cRow (X : xX) (ls gw gl : Nat → Nat) (b l : Nat) (μ : gMu) : Prop :=
  (∀ g, lnS X ls l ≤ g → g < lnS X ls (l + 1) → gI μ 39 g = nI l) ∧
  (∀ x, lnS X ls l ≤ x → x < lnE X ls l → gI μ 40 x = nI (oL gl (lnS X ls l) (lnE X ls l) x) ∧ gI μ 41 x = nI (pL gl (lnS X ls l) (lnE X ls l) x - lnS X ls l) ∧ gI μ 1 (oL gl (lnS X ls l) (lnE X ls l) x) = nI (fwN X gw (oL gl (lnS X ls l) (lnE X ls l)) (ls l) (ls (l + 1)) (lnS X ls l) x) ∧ gI μ 42 (oL gl (lnS X ls l) (lnE X ls l) x) = nI (p0N X b (ls l) (ls (l + 1)) + smF (fwN X gw (oL gl (lnS X ls l) (lnE X ls l)) (ls l) (ls (l + 1)) (lnS X ls l)) (lnS X ls l) (x - lnS X ls l))) ∧
  (∀ g, lnE X ls l ≤ g → g < lnS X ls (l + 1) → gI μ 41 g = -1)
theorem oL_in {gl : Nat → Nat} {s e j : Nat} (h1 : s ≤ j) (h2 : j < e) : s ≤ oL gl s e j ∧ oL gl s e j < e := oF_in _ j h1 h2
theorem pL_in {gl : Nat → Nat} {s e j : Nat} (h1 : s ≤ j) (h2 : j < e) : s ≤ pL gl s e j ∧ pL gl s e j < e := pF_in _ j h1 h2
theorem oL_pL {gl : Nat → Nat} {s e j : Nat} (h1 : s ≤ j) (h2 : j < e) : oL gl s e (pL gl s e j) = j := oF_pF _ j h1 h2
theorem pL_oL {gl : Nat → Nat} {s e j : Nat} (h1 : s ≤ j) (h2 : j < e) : pL gl s e (oL gl s e j) = j := pF_oF _ j h1 h2
theorem oL_inj {gl : Nat → Nat} {s e x y : Nat} (h1 : s ≤ x) (h2 : x < e) (h3 : s ≤ y) (h4 : y < e) (h : oL gl s e x = oL gl s e y) : x = y := by
  have a := pL_oL (gl := gl) h1 h2
  have b := pL_oL (gl := gl) h3 h4
  rw [h, b] at a
  exact a.symm
theorem cRow.keep {X : xX} {ls gw gl : Nat → Nat} {b l : Nat} {μ μ' : gMu} (h : cRow X ls gw gl b l μ) (hse : lnS X ls l ≤ lnE X ls l ∧ lnE X ls l ≤ lnS X ls (l + 1)) (hk : ∀ g, lnS X ls l ≤ g → g < lnS X ls (l + 1) → gI μ' 39 g = gI μ 39 g ∧ gI μ' 40 g = gI μ 40 g ∧ gI μ' 41 g = gI μ 41 g ∧ gI μ' 42 g = gI μ 42 g ∧ gI μ' 1 g = gI μ 1 g) : cRow X ls gw gl b l μ' := by
  obtain ⟨h1, h2, h3⟩ := h
  refine ⟨fun g g1 g2 => by rw [(hk g g1 g2).1, h1 g g1 g2], fun x x1 x2 => ?_, fun g g1 g2 => by rw [(hk g (by omega) g2).2.2.1, h3 g g1 g2]⟩
  have a := oL_in (gl := gl) x1 x2
  obtain ⟨b1, b2, b3, b4⟩ := h2 x x1 x2
  have k1 := hk x x1 (by omega)
  have k2 := hk (oL gl (lnS X ls l) (lnE X ls l) x) a.1 (by omega)
  exact ⟨by rw [k1.2.1, b1], by rw [k1.2.2.1, b2], by rw [k2.2.2.2.2, b3], by rw [k2.2.2.2.1, b4]⟩
theorem lnS_mono {X : xX} {C : Nat} {ls : Nat → Nat} (hX : xOk X) (hl : lOk X C ls) : ∀ {l m : Nat}, l ≤ m → m ≤ C → lnS X ls l ≤ lnS X ls m := by
  intro l m h
  induction h with
  | refl => intro _; exact Nat.le_refl _
  | step h ih =>
    rename_i m
    intro hm
    have a := lnSE hX hl (l := m) (by omega)
    have b := ih (by omega)
    exact Nat.le_trans b (Nat.le_trans a.1 a.2.1)
theorem s_55 {X : xX} {ls gw gl : Nat → Nat} {C b : Nat} {μ : gMu} {P : gMu → gRes → Prop} (hX : xOk X) (hx : cX X μ) (h6 : gI μ 32 6 = nI X.W) (h8 : gI μ 32 8 = nI C) (h37 : gAr μ 37 (C + 1) ls) (hL : lOk X C ls) (h25 : gAr μ 25 X.G gl) (hlb : ∀ g, g < X.G → gl g < 1000) (h26 : gAr μ 26 X.G gw) (hb : b ≤ 1) (hw40 : ∀ g, g < X.G → gw g ≤ 40) (hw1 : ∀ g, g < X.G → 1 ≤ gw g) (hq : ∀ l, l < C → xQ X (ls l) (ls (l + 1)) = true)
    (h : ∀ μ', gSm [39, 40, 41, 42, 1] μ μ' → (∀ l, l < C → cRow X ls gw gl b l μ') → P μ' (.inl none)) : gCl' 55 [.ref 38, .int (nI b)] μ P := by
  have hG := hX.G
  have hXP := hX.P
  have hCP := hL.1
  have lines : ∀ r l μ', l + r = C → gSm [39, 40, 41, 42, 1] μ μ' → (∀ m, m < l → cRow X ls gw gl b m μ') → (∀ g, g < 50 → lnS X ls l ≤ g → gI μ' 41 g = -1) → gWp none 55 (10, [some (.ref 38), some (.int (nI b)), some (.int (nI l)), none], [], μ') 0 P := by
    intro r
    induction r with
    | zero =>
      intro l μ' hr hs hrow hm1
      refine vc_55_10 ?_
      rw [hs.I (by decide), h8]
      simp (disch := first | omega | decide) only [show C ≤ l by omega, nE_l, nE_r, nE_n, nLe_l, nLe_r, nLe_n, nLt_l, nLt_r, nLt_n, nA_l, nA_r, nI_add, nS_l, nS_n, nIn, nI_clamp, gI_I, gI_J, gI_D, gJ_J, gJ_I, gJ_D, true_and, and_true, false_and, and_false, if_true, if_false, false_implies, true_implies, not_true_eq_false, not_false_eq_true, bI_0, bI_1, Nat.reduceEqDiff, eq_self, nMax, nMin]
      exact h μ' hs (fun m hm => hrow m (by omega))
    | succ r ih =>
      intro l μ' hr hs hrow hm1
      have hl : l < C := by omega
      have hse := lnSE hX hL hl
      have hij := hL.2.1 l hl
      have hj := hL.2.2 (l + 1) (by omega)
      have inner : ∀ r2 g μ2, g + r2 = lnS X ls (l + 1) → lnS X ls l ≤ g → gSm [39] μ' μ2 → (∀ y, y < lnS X ls l → gI μ2 39 y = gI μ' 39 y) → (∀ y, lnS X ls l ≤ y → y < g → gI μ2 39 y = nI l) → gWp none 55 (27, [some (.ref 38), some (.int (nI b)), some (.int (nI l)), some (.int (nI g))], [], μ2) 0 P := by
        intro r2
        induction r2 with
        | zero =>
          intro g μ2 hr2 hg hs2 hout hin
          have hs02 : gSm [39, 40, 41, 42, 1] μ μ2 := hs.tr (hs2.up (by decide))
          have e : X.pp (ls (l + 1)) = lnS X ls (l + 1) := rfl
          have e2 : X.pp (ls l) = lnS X ls l := rfl
          have e3 : X.pe (ls (l + 1) - 1) = lnE X ls l := rfl
          have hx2 : cX X μ2 := hx.sm hs02 (by decide) (by decide) (by decide) (by decide) (by decide) (by decide)
          have h372 : gAr μ2 37 (C + 1) ls := h37.sm hs02 (by decide)
          refine vc_55_27 ?_
          rw [nI_1]
          refine s_51 hX hx2 h372 (by omega) hCP hj ⟨_, rfl, ?_⟩
          rw [e]
          simp (disch := first | omega | decide) only [show lnS X ls (l + 1) ≤ g by omega, nE_l, nE_r, nE_n, nLe_l, nLe_r, nLe_n, nLt_l, nLt_r, nLt_n, nA_l, nA_r, nI_add, nS_l, nS_n, nIn, nI_clamp, gI_I, gI_J, gI_D, gJ_J, gJ_I, gJ_D, true_and, and_true, false_and, and_false, if_true, if_false, false_implies, true_implies, not_true_eq_false, not_false_eq_true, bI_0, bI_1, Nat.reduceEqDiff, eq_self, nMax, nMin]
          refine s_51 hX hx2 h372 (by omega) hCP (by omega) ⟨_, rfl, ?_⟩
          refine s_47 hX hx2 h372 hl hCP (by omega) hj ⟨_, rfl, ?_⟩
          rw [e2, e3]
          refine s_50 (G := X.G) hse.1 (by omega) hG (h25.sm hs02 (by decide)) hlb (fun μ3 hs3 hout3 hin3 => ⟨rfl, ?_⟩)
          have hs03 : gSm [39, 40, 41, 42, 1] μ μ3 := hs02.tr (hs3.up (by decide))
          refine s_54 (C := C) (gw := gw) (o := oL gl (lnS X ls l) (lnE X ls l)) hX (hx.sm hs03 (by decide) (by decide) (by decide) (by decide) (by decide) (by decide)) (by rw [hs03.I (by decide), h6]) (h37.sm hs03 (by decide)) hL hl (h26.sm hs03 (by decide)) hb (fun x x1 x2 => (hin3 x x1 x2).1) (fun x x1 x2 => oL_in x1 x2) (fun x y x1 x2 y1 y2 q => oL_inj x1 x2 y1 y2 q) (fun y y1 y2 => ⟨pL gl (lnS X ls l) (lnE X ls l) y, (pL_in y1 y2).1, (pL_in y1 y2).2, oL_pL y1 y2⟩) hw40 hw1 (hq l hl) (fun μ4 hs4 hout4 hin4 => ⟨rfl, ?_⟩)
          have hs04 : gSm [39, 40, 41, 42, 1] μ μ4 := hs03.tr (hs4.up (by decide))
          refine gWp_up (ih (l + 1) μ4 (by omega) hs04 (fun m hm => ?_) (fun y y1 y2 => ?_)) (by (repeat (first | exact gUp.nil | refine gUp.cs ?_ | refine gUp.cn ?_)))
          · by_cases q : m = l
            · subst q
              refine ⟨fun y y1 y2 => ?_, fun x x1 x2 => ?_, fun y y1 y2 => ?_⟩
              · rw [hs4.I (by decide), hs3.I (by decide), hin y y1 (by omega)]
              · have i3 := hin3 x x1 x2
                have i4 := hin4 x x1 x2
                exact ⟨by rw [hs4.I (by decide), i3.1], by rw [hs4.I (by decide), i3.2], i4.1, i4.2⟩
              · rw [hs4.I (by decide), (hout3 y (Or.inr y1)).2, hs2.I (by decide), hm1 y (by omega) (by omega)]
            · have hme := lnSE hX hL (l := m) (by omega)
              have hmm := lnS_mono hX hL (l := m + 1) (m := l) (by omega) (by omega)
              refine (hrow m (by omega)).keep ⟨hme.1, hme.2.1⟩ (fun y y1 y2 => ⟨?_, ?_, ?_, ?_, ?_⟩)
              · rw [hs4.I (by decide), hs3.I (by decide), hout y (by omega)]
              · rw [hs4.I (by decide), (hout3 y (Or.inl (by omega))).1, hs2.I (by decide)]
              · rw [hs4.I (by decide), (hout3 y (Or.inl (by omega))).2, hs2.I (by decide)]
              · rw [(hout4 y (Or.inl (by omega))).1, hs3.I (by decide), hs2.I (by decide)]
              · rw [(hout4 y (Or.inl (by omega))).2, hs3.I (by decide), hs2.I (by decide)]
          · rw [hs4.I (by decide), (hout3 y (Or.inr (by omega))).2, hs2.I (by decide), hm1 y y1 (by omega)]
        | succ r2 ih2 =>
          intro g μ2 hr2 hg hs2 hout hin
          have hs02 : gSm [39, 40, 41, 42, 1] μ μ2 := hs.tr (hs2.up (by decide))
          have e : X.pp (ls (l + 1)) = lnS X ls (l + 1) := rfl
          have hx2 : cX X μ2 := hx.sm hs02 (by decide) (by decide) (by decide) (by decide) (by decide) (by decide)
          refine vc_55_27 ?_
          rw [nI_1]
          refine s_51 hX hx2 (h37.sm hs02 (by decide)) (by omega) hCP hj ⟨_, rfl, ?_⟩
          rw [e]
          simp (disch := first | omega | decide) only [show ¬ lnS X ls (l + 1) ≤ g by omega, show g < 50 by omega, nE_l, nE_r, nE_n, nLe_l, nLe_r, nLe_n, nLt_l, nLt_r, nLt_n, nA_l, nA_r, nI_add, nS_l, nS_n, nIn, nI_clamp, gI_I, gI_J, gI_D, gJ_J, gJ_I, gJ_D, true_and, and_true, false_and, and_false, if_true, if_false, false_implies, true_implies, not_true_eq_false, not_false_eq_true, bI_0, bI_1, Nat.reduceEqDiff, eq_self, nMax, nMin]
          refine ih2 (g + 1) _ (by omega) (by omega) (hs2.i 39 _ _ (by decide)) (fun y hy => ?_) (fun y y1 y2 => ?_)
          · simp (disch := first | omega | decide) only [show ¬ y = g by omega, nE_l, nE_r, nE_n, nLe_l, nLe_r, nLe_n, nLt_l, nLt_r, nLt_n, nA_l, nA_r, nI_add, nS_l, nS_n, nIn, nI_clamp, gI_I, gI_J, gI_D, gJ_J, gJ_I, gJ_D, true_and, and_true, false_and, and_false, if_true, if_false, false_implies, true_implies, not_true_eq_false, not_false_eq_true, bI_0, bI_1, Nat.reduceEqDiff, eq_self, nMax, nMin]
            exact hout y hy
          · rw [gI_I]
            by_cases q : y = g
            · rw [if_pos ⟨rfl, q⟩]
            · rw [if_neg (fun z => q z.2)]
              exact hin y y1 (by omega)
      refine vc_55_10 ?_
      rw [hs.I (by decide), h8]
      simp (disch := first | omega | decide) only [show ¬ C ≤ l by omega, nE_l, nE_r, nE_n, nLe_l, nLe_r, nLe_n, nLt_l, nLt_r, nLt_n, nA_l, nA_r, nI_add, nS_l, nS_n, nIn, nI_clamp, gI_I, gI_J, gI_D, gJ_J, gJ_I, gJ_D, true_and, and_true, false_and, and_false, if_true, if_false, false_implies, true_implies, not_true_eq_false, not_false_eq_true, bI_0, bI_1, Nat.reduceEqDiff, eq_self, nMax, nMin]
      refine s_51 hX (hx.sm hs (by decide) (by decide) (by decide) (by decide) (by decide) (by decide)) (h37.sm hs (by decide)) (by omega) hCP (by omega) ⟨_, rfl, ?_⟩
      exact inner (lnS X ls (l + 1) - lnS X ls l) (lnS X ls l) μ' (by omega) (Nat.le_refl _) (gSm.rf _ _) (fun y _ => rfl) (fun y y1 y2 => by omega)
  refine vc_55 (s_0 rfl (by decide) (by decide) (fun μ1 hs1 ha1 => ⟨rfl, ?_⟩))
  exact lines C 0 μ1 (by omega) (hs1.up (by decide)) (fun m hm => absurd hm (Nat.not_lt_zero m)) (fun g hg _ => ha1 g hg)
/-- the least of the n levels ahead of g, and its own -/
def mnD (lv : Nat → Nat) (g : Nat) : Nat → Nat
  | 0 => lv g
  | n + 1 => mnN (lv (g - (n + 1))) (mnD lv g n)
theorem mnD_eq (lv : Nat → Nat) (g : Nat) : ∀ n, n ≤ g → mnD lv g n = mnL lv (g - n) n := by
  have le : ∀ n x, n ≤ g → g - n ≤ x → x ≤ g → mnD lv g n ≤ lv x := by
    intro n
    induction n with
    | zero =>
      intro x _ h1 h2
      have : x = g := by omega
      subst this
      exact Nat.le_refl _
    | succ n ih =>
      intro x hn h1 h2
      unfold mnD mnN
      by_cases q : x = g - (n + 1)
      · rw [q]
        split <;> omega
      · have := ih x (by omega) (by omega) h2
        split <;> omega
  have att : ∀ n, n ≤ g → ∃ x, g - n ≤ x ∧ x ≤ g ∧ lv x = mnD lv g n := by
    intro n
    induction n with
    | zero => intro _; exact ⟨g, by omega, Nat.le_refl g, rfl⟩
    | succ n ih =>
      intro hn
      unfold mnD mnN
      split
      · exact ⟨g - (n + 1), by omega, by omega, rfl⟩
      · obtain ⟨x, x1, x2, x3⟩ := ih (by omega)
        exact ⟨x, by omega, x2, x3⟩
  intro n hn
  obtain ⟨x, x1, x2, x3⟩ := att n hn
  obtain ⟨y, y1, y2, y3⟩ := mnL_at lv (g - n) n
  have a := mnL_le lv (g - n) n x x1 (by omega)
  have b := le n y hn y1 (by omega)
  omega
theorem m1_ltN {a b : Nat} (ha : a < 2 ^ 30) (hb : b < 2 ^ 30) : (nI a - 1 < nI b) = (a ≤ b) := by
  apply propext
  have e : nI a - 1 = nI a - nI 1 := rfl
  rw [e, Int32.lt_iff_toInt_lt, pk_sub_toInt ha (by decide), nI_toInt (by omega)]
  omega
theorem addm1 (x : Int32) : x + (-1 : Int32) = x - 1 := (Int32.sub_eq_add_neg x 1).symm
theorem mnN_le {a b c : Nat} (hb : b < c) : mnN a b < c := by unfold mnN; split <;> omega
theorem s_140 {X : xX} {ls gl : Nat → Nat} {C l g : Nat} {μ : gMu} {P : gMu → gRes → Prop} (hX : xOk X) (hx : cX X μ) (h37 : gAr μ 37 (C + 1) ls) (hL : lOk X C ls) (h25 : gAr μ 25 X.G gl) (hlb : ∀ g, g < X.G → gl g < 1000) (hl : l < C) (hg1 : lnS X ls l ≤ g) (hg2 : g < lnE X ls l) (h39 : gI μ 39 g = nI l) (h : P μ (.inl (some (.int (nI (pL gl (lnS X ls l) (lnE X ls l) g - lnS X ls l)))))) : gCl' 140 [.ref 38, .int (nI g)] μ P := by
  have hse := lnSE hX hL hl
  have hG := hX.G
  have hXP := hX.P
  have hCP := hL.1
  have hij := hL.2.1 l hl
  have hj := hL.2.2 (l + 1) (by omega)
  have hgg := hlb g (by omega)
  have g25 := h25 g (by omega)
  have hD : ∀ n, mnD gl g n < 1000 := by
    intro n
    induction n with
    | zero => exact hgg
    | succ n ih => exact mnN_le ih
  have hU : ∀ n, mnL gl g n < 1000 := by
    intro n
    induction n with
    | zero => exact hgg
    | succ n ih => exact mnN_le ih
  -- behind
  have up : ∀ r n c, n + r = lnE X ls l - 1 - g → P μ (.inl (some (.int (nI (c + cnt (fun h => isOd (mnL gl g (h - g))) (g + 1 + n) r))))) → gWp none 140 (90, [some (.ref 38), some (.int (nI g)), some (.int (nI l)), some (.int (nI c)), some (.int (nI (mnL gl g n))), some (.int (nI (g + 1 + n)))], [], μ) 0 P := by
    intro r
    induction r with
    | zero =>
      intro n c hr hp
      refine vc_140_90 (s_47 hX hx h37 hl hCP (by omega) hj ⟨_, rfl, ?_⟩)
      have e : X.pe (ls (l + 1) - 1) = lnE X ls l := rfl
      rw [e]
      simp (disch := first | omega | decide) only [show lnE X ls l ≤ g + 1 + n by omega, nE_l, nE_r, nE_n, nLe_l, nLe_r, nLe_n, nLt_l, nLt_r, nLt_n, nA_l, nA_r, nI_add, nS_l, nS_n, nIn, nI_clamp, gI_I, gI_J, gI_D, gJ_J, gJ_I, gJ_D, true_and, and_true, false_and, and_false, if_true, if_false, false_implies, true_implies, not_true_eq_false, not_false_eq_true, bI_0, bI_1, Nat.reduceEqDiff, eq_self, nMax, nMin]
      exact hp
    | succ r ih =>
      intro n c hr hp
      have g1 := h25 (g + 1 + n) (by omega)
      have g2 := hlb (g + 1 + n) (by omega)
      have g3 := hU n
      have g4 := hU (n + 1)
      have e1 : mnN (gl (g + 1 + n)) (mnL gl g n) = mnL gl g (n + 1) := by
        show _ = mnN (gl (g + n + 1)) (mnL gl g n)
        rw [show g + 1 + n = g + n + 1 by omega]
      have e2 : cnt (fun h => isOd (mnL gl g (h - g))) (g + 1 + n) (r + 1) = (if isOd (mnL gl g (n + 1)) = true then 1 else 0) + cnt (fun h => isOd (mnL gl g (h - g))) (g + 1 + (n + 1)) r := by
        rw [show r + 1 = 1 + r by omega, cnt_app]
        show 0 + (if isOd (mnL gl g (g + 1 + n + 0 - g)) = true then 1 else 0) + _ = _
        rw [show g + 1 + n + 0 - g = n + 1 by omega, show g + 1 + n + 1 = g + 1 + (n + 1) by omega]
        omega
      refine vc_140_90 (s_47 hX hx h37 hl hCP (by omega) hj ⟨_, rfl, ?_⟩)
      have e : X.pe (ls (l + 1) - 1) = lnE X ls l := rfl
      rw [e]
      simp (disch := first | omega | decide) only [show ¬ lnE X ls l ≤ g + 1 + n by omega, show g + 1 + n < 50 by omega, g1, e1, nE_l, nE_r, nE_n, nLe_l, nLe_r, nLe_n, nLt_l, nLt_r, nLt_n, nA_l, nA_r, nI_add, nS_l, nS_n, nIn, nI_clamp, gI_I, gI_J, gI_D, gJ_J, gJ_I, gJ_D, true_and, and_true, false_and, and_false, if_true, if_false, false_implies, true_implies, not_true_eq_false, not_false_eq_true, bI_0, bI_1, Nat.reduceEqDiff, eq_self, nMax, nMin]
      refine s_13 (by omega) ⟨_, rfl, ?_⟩
      simp (disch := first | omega | decide) only [Bool.not_eq_false, Nat.add_zero, g1, e1, nE_l, nE_r, nE_n, nLe_l, nLe_r, nLe_n, nLt_l, nLt_r, nLt_n, nA_l, nA_r, nI_add, nS_l, nS_n, nIn, nI_clamp, gI_I, gI_J, gI_D, gJ_J, gJ_I, gJ_D, true_and, and_true, false_and, and_false, if_true, if_false, false_implies, true_implies, not_true_eq_false, not_false_eq_true, bI_0, bI_1, Nat.reduceEqDiff, eq_self, nMax, nMin]
      refine ⟨fun q => ?_, fun q => ?_⟩
      · rw [e2, if_neg (by rw [q]; decide), Nat.zero_add] at hp
        have z := ih (n + 1) c (by omega) hp
        rw [show g + 1 + (n + 1) = g + 1 + n + 1 by omega] at z
        exact z
      · rw [e2, if_pos q, ← Nat.add_assoc] at hp
        have z := ih (n + 1) (c + 1) (by omega) hp
        rw [show g + 1 + (n + 1) = g + 1 + n + 1 by omega] at z
        exact z
  have hr := rank_cnt (lv := gl) (s := lnS X ls l) (e := lnE X ls l) (t := tpL gl (lnS X ls l) (lnE X ls l)) hg1 hg2 (fun x x1 x2 => mxF_ge gl (lnS X ls l) _ x x1 (by omega))
  have hp : P μ (.inl (some (.int (nI (cnt (fun h => !isOd (mnL gl h (g - h))) (lnS X ls l) (g - lnS X ls l) + cnt (fun h => isOd (mnL gl g (h - g))) (g + 1) (lnE X ls l - 1 - g)))))) := by
    rw [hr]
    exact h
  -- ahead
  have dn : ∀ r n, n + r = g - lnS X ls l → gWp none 140 (25, [some (.ref 38), some (.int (nI g)), some (.int (nI l)), some (.int (nI (cnt (fun h => !isOd (mnL gl h (g - h))) (g - n) n))), some (.int (nI (mnD gl g n))), some (.int (nI (g - n) - 1))], [], μ) 0 P := by
    intro r
    induction r with
    | zero =>
      intro n hn
      refine vc_140_25 (s_51 hX hx h37 (by omega) hCP (by omega) ⟨_, rfl, ?_⟩)
      have e : X.pp (ls l) = lnS X ls l := rfl
      rw [e, m1_ltN (by omega) (by omega)]
      refine ⟨fun _ => ⟨vp_in_nI (by omega) (by decide), ?_⟩, fun q => absurd (show g - n ≤ lnS X ls l by omega) q⟩
      rw [nI_clamp (show g < 2 ^ 31 by omega), g25, nI_1]
      have z := up (lnE X ls l - 1 - g) 0 (cnt (fun h => !isOd (mnL gl h (g - h))) (g - n) n) (by omega)
      rw [Nat.add_zero, show g - n = lnS X ls l by omega, show n = g - lnS X ls l by omega] at z
      rw [show g - n = lnS X ls l by omega, show n = g - lnS X ls l by omega]
      exact z hp
    | succ r ih =>
      intro n hn
      have g1 := h25 (g - n - 1) (by omega)
      have g2 := hlb (g - n - 1) (by omega)
      have g3 := hD n
      have g4 := hD (n + 1)
      have e1 : mnN (gl (g - n - 1)) (mnD gl g n) = mnD gl g (n + 1) := by
        show _ = mnN (gl (g - (n + 1))) (mnD gl g n)
        rw [show g - n - 1 = g - (n + 1) by omega]
      have e2 : cnt (fun h => !isOd (mnL gl h (g - h))) (g - (n + 1)) (n + 1) = (if isOd (mnD gl g (n + 1)) = true then 0 else 1) + cnt (fun h => !isOd (mnL gl h (g - h))) (g - n) n := by
        rw [show n + 1 = 1 + n by omega, cnt_app]
        show 0 + (if (!isOd (mnL gl (g - (1 + n) + 0) (g - (g - (1 + n) + 0)))) = true then 1 else 0) + _ = _
        rw [mnD_eq gl g (1 + n) (by omega), show g - (1 + n) + 0 = g - (1 + n) by omega, show g - (g - (1 + n)) = 1 + n by omega, show g - (1 + n) + 1 = g - n by omega]
        cases isOd (mnL gl (g - (1 + n)) (1 + n)) <;> simp
      refine vc_140_25 (s_51 hX hx h37 (by omega) hCP (by omega) ⟨_, rfl, ?_⟩)
      have e : X.pp (ls l) = lnS X ls l := rfl
      rw [e, m1_ltN (by omega) (by omega), nS_1 (show 1 ≤ g - n by omega)]
      refine ⟨fun q => absurd q (by omega), fun _ => ⟨vp_in_nI (by omega) (by decide), ?_⟩⟩
      rw [nI_clamp (show g - n - 1 < 2 ^ 31 by omega), g1]
      simp (disch := first | omega | decide) only [e1, nE_l, nE_r, nE_n, nLe_l, nLe_r, nLe_n, nLt_l, nLt_r, nLt_n, nA_l, nA_r, nI_add, nS_l, nS_n, nIn, nI_clamp, gI_I, gI_J, gI_D, gJ_J, gJ_I, gJ_D, true_and, and_true, false_and, and_false, if_true, if_false, false_implies, true_implies, not_true_eq_false, not_false_eq_true, bI_0, bI_1, Nat.reduceEqDiff, eq_self, nMax, nMin]
      refine s_13 (by omega) ⟨_, rfl, ?_⟩
      simp (disch := first | omega | decide) only [g1, e1, Bool.not_eq_false, nE_l, nE_r, nE_n, nLe_l, nLe_r, nLe_n, nLt_l, nLt_r, nLt_n, nA_l, nA_r, nI_add, nS_l, nS_n, nIn, nI_clamp, gI_I, gI_J, gI_D, gJ_J, gJ_I, gJ_D, true_and, and_true, false_and, and_false, if_true, if_false, false_implies, true_implies, not_true_eq_false, not_false_eq_true, bI_0, bI_1, Nat.reduceEqDiff, eq_self, nMax, nMin]
      have z := ih (n + 1) (by omega)
      rw [e2, show g - (n + 1) = g - n - 1 by omega] at z
      rw [addm1]
      refine ⟨fun q => ?_, fun q => ?_⟩
      · rw [if_neg (by rw [q]; decide), Nat.add_comm] at z
        exact z
      · rw [if_pos q, Nat.zero_add] at z
        exact z
  refine vc_140 ⟨vp_in_nI (by omega) (by decide), vp_in_nI (by omega) (by decide), ?_⟩
  rw [nI_clamp (show g < 2 ^ 31 by omega), h39, g25]
  exact dn (g - lnS X ls l) 0 (by omega)
