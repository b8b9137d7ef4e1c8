/-! THE CLASS'S LINES: what is too wide, the first fit, and trying -/
def nO (x : Nat) : Int32 := if x = 0 then -1 else nI (x - 1)
/-- the first part that is too wide, plus 1; 0: none -/
def tTw (Q : Nat → Nat → Bool) : Nat → Nat → Nat
  | 0, _ => 0
  | r + 1, i => if Q i (i + 1) = true then tTw Q r (i + 1) else i + 1
theorem tTw_le (Q : Nat → Nat → Bool) : ∀ r i, tTw Q r i ≤ i + r
  | 0, _ => Nat.zero_le _
  | r + 1, i => by
    have := tTw_le Q r (i + 1)
    unfold tTw
    split <;> omega
theorem tTw_0 (Q : Nat → Nat → Bool) : ∀ r i, tTw Q r i = 0 → ∀ j, i ≤ j → j < i + r → Q j (j + 1) = true
  | 0, i, _, j, h1, h2 => by omega
  | r + 1, i, h, j, h1, h2 => by
    unfold tTw at h
    by_cases q : Q i (i + 1) = true
    · rw [if_pos q] at h
      by_cases e : j = i
      · rw [e]; exact q
      · exact tTw_0 Q r (i + 1) h j (by omega) (by omega)
    · rw [if_neg q] at h
      cases h
theorem s_43 {X : xX} {μ : gMu} {P : gMu → gRes → Prop} (hX : xOk X) (hx : cX X μ) (h6 : gI μ 32 6 = nI X.W) (h : P μ (.inl (some (.int (nO (tTw (xQ X) X.P 0)))))) : gCl' 43 [.ref 32] μ P := by
  have loop : ∀ r i, i + r = X.P → P μ (.inl (some (.int (nO (tTw (xQ X) r i))))) → gWp none 43 (2, [some (.ref 32), some (.int (nI i))], [], μ) 0 P := by
    intro r
    induction r with
    | zero =>
      intro i hr hp
      have hXP := hX.P
      have hXG := hX.G
      refine vc_43_2 ?_
      simp (disch := first | omega | decide) only [hx.1, show X.P ≤ i by omega, nE_l, nE_r, nE_n, nLe_l, nLe_r, nLe_n, nLt_l, nLt_r, nLt_n, nA_l, nA_r, nI_add, nS_l, nS_n, nIn, nI_clamp, gI_I, gI_J, gI_D, gJ_J, gJ_I, gJ_D, true_and, and_true, false_and, and_false, if_true, if_false, false_implies, true_implies, not_true_eq_false, not_false_eq_true, bI_0, bI_1, Nat.reduceEqDiff, eq_self, nMax, nMin]
      exact hp
    | succ r ih =>
      intro i hr hp
      have hXP := hX.P
      have hXG := hX.G
      refine vc_43_2 ?_
      simp (disch := first | omega | decide) only [hx.1, show ¬ X.P ≤ i by omega, nE_l, nE_r, nE_n, nLe_l, nLe_r, nLe_n, nLt_l, nLt_r, nLt_n, nA_l, nA_r, nI_add, nS_l, nS_n, nIn, nI_clamp, gI_I, gI_J, gI_D, gJ_J, gJ_I, gJ_D, true_and, and_true, false_and, and_false, if_true, if_false, false_implies, true_implies, not_true_eq_false, not_false_eq_true, bI_0, bI_1, Nat.reduceEqDiff, eq_self, nMax, nMin]
      refine s_37 hX hx (by omega) (by omega) h6 ⟨_, rfl, ?_⟩
      unfold tTw at hp
      simp (disch := first | omega | decide) only [Bool.not_eq_false, nE_l, nE_r, nE_n, nLe_l, nLe_r, nLe_n, nLt_l, nLt_r, nLt_n, nA_l, nA_r, nI_add, nS_l, nS_n, nIn, nI_clamp, gI_I, gI_J, gI_D, gJ_J, gJ_I, gJ_D, true_and, and_true, false_and, and_false, if_true, if_false, false_implies, true_implies, not_true_eq_false, not_false_eq_true, bI_0, bI_1, Nat.reduceEqDiff, eq_self, nMax, nMin]
      refine ⟨fun q => ih (i + 1) (by omega) ?_, fun q => ?_⟩
      · rw [if_pos q] at hp; exact hp
      · rw [if_neg (by rw [q]; decide)] at hp; exact hp
  exact vc_43 (loop X.P 0 (by omega) h)
theorem s_44 {X : xX} {bl : Bool} {μ : gMu} {P : gMu → gRes → Prop} (hX : xOk X) (hx : cX X μ) (h4 : gI μ 29 4 = bI bl) (h : P (gsI (gsI μ 32 6 (nI X.W)) 32 7 (nO (if bl = true then 0 else tTw (xQ X) X.P 0))) (.inl none)) : gCl' 44 [.ref 32, .int (nI X.W)] μ P := by
  refine vc_44 ?_
  simp (disch := first | omega | decide) only [h4, Bool.not_eq_false, nE_l, nE_r, nE_n, nLe_l, nLe_r, nLe_n, nLt_l, nLt_r, nLt_n, nA_l, nA_r, nI_add, nS_l, nS_n, nIn, nI_clamp, gI_I, gI_J, gI_D, gJ_J, gJ_I, gJ_D, true_and, and_true, false_and, and_false, if_true, if_false, false_implies, true_implies, not_true_eq_false, not_false_eq_true, bI_0, bI_1, Nat.reduceEqDiff, eq_self, nMax, nMin]
  refine ⟨fun hb => ?_, fun hb => ?_⟩
  · rw [if_neg (by rw [hb]; decide)] at h
    exact s_43 hX (hx.sm ((gSm.rf [32] μ).i 32 6 _ (by decide)) (by decide) (by decide) (by decide) (by decide) (by decide) (by decide)) (by simp (disch := first | omega | decide) only [nE_l, nE_r, nE_n, nLe_l, nLe_r, nLe_n, nLt_l, nLt_r, nLt_n, nA_l, nA_r, nI_add, nS_l, nS_n, nIn, nI_clamp, gI_I, gI_J, gI_D, gJ_J, gJ_I, gJ_D, true_and, and_true, false_and, and_false, if_true, if_false, false_implies, true_implies, not_true_eq_false, not_false_eq_true, bI_0, bI_1, Nat.reduceEqDiff, eq_self, nMax, nMin]) ⟨_, rfl, h⟩
  · rw [if_pos hb] at h
    exact h
theorem dZ_ge {a b : Nat} (ha : a < 2 ^ 30) (hb : b < 2 ^ 30) : (0 ≤ nI a - nI b) = (b ≤ a) := by
  apply propext
  rw [Int32.le_iff_toInt_le, pk_sub_toInt ha hb, z0]
  omega
/-- the first fit: how many lines, and the part that begins the last -/
def fF (X : xX) : Nat → Nat × Nat
  | 0 => (0, 0)
  | k + 1 => if (fF X k).1 = 0 ∨ X.W < xN X (fF X k).2 (k + 1) then ((fF X k).1 + 1, k) else fF X k
theorem fF_le (X : xX) : ∀ k, (fF X k).1 ≤ k ∧ (fF X k).2 ≤ k ∧ (0 < k → (fF X k).2 < k)
  | 0 => ⟨Nat.le_refl 0, Nat.le_refl 0, fun h => absurd h (Nat.lt_irrefl 0)⟩
  | k + 1 => by
    have h := fF_le X k
    unfold fF
    split
    · exact ⟨by show (fF X k).1 + 1 ≤ k + 1; omega, by show k ≤ k + 1; omega, fun _ => by show k < k + 1; omega⟩
    · exact ⟨by omega, by omega, fun _ => by omega⟩
theorem s_110 {X : xX} {bl : Bool} {μ : gMu} {P : gMu → gRes → Prop} (hX : xOk X) (hx : cX X μ) (h6 : gI μ 32 6 = nI X.W) (h4 : gI μ 29 4 = bI bl) (h : P μ (.inl (some (.int (nI (if bl = true then 0 else (fF X X.P).1)))))) : gCl' 110 [.ref 32] μ P := by
  have hXP := hX.P
  have hXG := hX.G
  have hW := hX.W
  have loop : ∀ r k, k + r = X.P → (bl = true → k = 0) → gWp none 110 (6, [some (.ref 32), some (.int (nI (fF X k).1)), some (.int (nI (fF X k).2)), some (.int (nI (k + 1)))], [], μ) 0 P := by
    intro r
    induction r with
    | zero =>
      intro k hr hb
      have hk : k = X.P := by omega
      subst hk
      refine vc_110_6 ?_
      simp (disch := first | omega | decide) only [hx.1, show X.P < X.P + 1 by omega, nE_l, nE_r, nE_n, nLe_l, nLe_r, nLe_n, nLt_l, nLt_r, nLt_n, nA_l, nA_r, nI_add, nS_l, nS_n, nIn, nI_clamp, gI_I, gI_J, gI_D, gJ_J, gJ_I, gJ_D, true_and, and_true, false_and, and_false, if_true, if_false, false_implies, true_implies, not_true_eq_false, not_false_eq_true, bI_0, bI_1, Nat.reduceEqDiff, eq_self, nMax, nMin]
      by_cases q : bl = true
      · rw [if_pos q] at h
        rw [hb q]
        exact h
      · rw [if_neg q] at h
        exact h
    | succ r ih =>
      intro k hr hb
      have hle := fF_le X k
      have e : fF X (k + 1) = if (fF X k).1 = 0 ∨ X.W < xN X (fF X k).2 (k + 1) then ((fF X k).1 + 1, k) else fF X k := rfl
      refine vc_110_6 ?_
      simp (disch := first | omega | decide) only [hx.1, show ¬ X.P < k + 1 by omega, h4, Bool.not_eq_false, Nat.add_sub_cancel, nE_l, nE_r, nE_n, nLe_l, nLe_r, nLe_n, nLt_l, nLt_r, nLt_n, nA_l, nA_r, nI_add, nS_l, nS_n, nIn, nI_clamp, gI_I, gI_J, gI_D, gJ_J, gJ_I, gJ_D, true_and, and_true, false_and, and_false, if_true, if_false, false_implies, true_implies, not_true_eq_false, not_false_eq_true, bI_0, bI_1, Nat.reduceEqDiff, eq_self, nMax, nMin]
      refine ⟨fun q => ?_, fun q => ⟨fun q0 => ?_, fun q0 => ?_⟩⟩
      · rw [if_pos q] at h
        rw [hb q]
        exact h
      · rw [if_pos (Or.inl q0)] at e
        have g := ih (k + 1) (by omega) (fun q2 => by rw [q] at q2; cases q2)
        rw [e] at g
        exact g
      · have g2 := hle.2.2 (by omega)
        have g3 := xN_le hX (i := (fF X k).2) (j := k + 1) (by omega) (by omega)
        refine s_29 hX hx (by omega) (by omega) h6 ⟨_, rfl, ?_⟩
        rw [dZ_ge (by omega) (by omega)]
        have g := ih (k + 1) (by omega) (fun q2 => by rw [q] at q2; cases q2)
        refine ⟨fun q1 => ?_, fun q1 => ?_⟩
        · rw [if_neg (by omega)] at e
          rw [e] at g
          try simp (disch := first | omega | decide) only [nE_l, nE_r, nE_n, nLe_l, nLe_r, nLe_n, nLt_l, nLt_r, nLt_n, nA_l, nA_r, nI_add, nS_l, nS_n, nIn, nI_clamp, gI_I, gI_J, gI_D, gJ_J, gJ_I, gJ_D, true_and, and_true, false_and, and_false, if_true, if_false, false_implies, true_implies, not_true_eq_false, not_false_eq_true, bI_0, bI_1, Nat.reduceEqDiff, eq_self, nMax, nMin]
          exact g
        · rw [if_pos (Or.inr (by omega))] at e
          rw [e] at g
          try simp (disch := first | omega | decide) only [Nat.add_sub_cancel, nE_l, nE_r, nE_n, nLe_l, nLe_r, nLe_n, nLt_l, nLt_r, nLt_n, nA_l, nA_r, nI_add, nS_l, nS_n, nIn, nI_clamp, gI_I, gI_J, gI_D, gJ_J, gJ_I, gJ_D, true_and, and_true, false_and, and_false, if_true, if_false, false_implies, true_implies, not_true_eq_false, not_false_eq_true, bI_0, bI_1, Nat.reduceEqDiff, eq_self, nMax, nMin]
          exact g
  exact vc_110 (loop X.P 0 (by omega) (fun _ => rfl))
/-! trying -/
def pcN : Nat → Nat → Nat
  | 0, _ => 0
  | k + 1, x => (if isOd x = true then 1 else 0) + pcN k (x / 2)
def bitC (x0 : Int32) : Int32 := ((((((((x0 - (((x0.toUInt32 >>> ((1 : Int32).toUInt32 &&& Int32.toUInt32 31)).toInt32) &&& (1431655765 : Int32))) &&& (858993459 : Int32)) + ((((x0 - (((x0.toUInt32 >>> ((1 : Int32).toUInt32 &&& Int32.toUInt32 31)).toInt32) &&& (1431655765 : Int32))).toUInt32 >>> ((2 : Int32).toUInt32 &&& Int32.toUInt32 31)).toInt32) &&& (858993459 : Int32))) + (((((x0 - (((x0.toUInt32 >>> ((1 : Int32).toUInt32 &&& Int32.toUInt32 31)).toInt32) &&& (1431655765 : Int32))) &&& (858993459 : Int32)) + ((((x0 - (((x0.toUInt32 >>> ((1 : Int32).toUInt32 &&& Int32.toUInt32 31)).toInt32) &&& (1431655765 : Int32))).toUInt32 >>> ((2 : Int32).toUInt32 &&& Int32.toUInt32 31)).toInt32) &&& (858993459 : Int32))).toUInt32 >>> ((4 : Int32).toUInt32 &&& Int32.toUInt32 31)).toInt32)) &&& (252645135 : Int32)) + (((((((x0 - (((x0.toUInt32 >>> ((1 : Int32).toUInt32 &&& Int32.toUInt32 31)).toInt32) &&& (1431655765 : Int32))) &&& (858993459 : Int32)) + ((((x0 - (((x0.toUInt32 >>> ((1 : Int32).toUInt32 &&& Int32.toUInt32 31)).toInt32) &&& (1431655765 : Int32))).toUInt32 >>> ((2 : Int32).toUInt32 &&& Int32.toUInt32 31)).toInt32) &&& (858993459 : Int32))) + (((((x0 - (((x0.toUInt32 >>> ((1 : Int32).toUInt32 &&& Int32.toUInt32 31)).toInt32) &&& (1431655765 : Int32))) &&& (858993459 : Int32)) + ((((x0 - (((x0.toUInt32 >>> ((1 : Int32).toUInt32 &&& Int32.toUInt32 31)).toInt32) &&& (1431655765 : Int32))).toUInt32 >>> ((2 : Int32).toUInt32 &&& Int32.toUInt32 31)).toInt32) &&& (858993459 : Int32))).toUInt32 >>> ((4 : Int32).toUInt32 &&& Int32.toUInt32 31)).toInt32)) &&& (252645135 : Int32)).toUInt32 >>> ((8 : Int32).toUInt32 &&& Int32.toUInt32 31)).toInt32)) + ((((((((x0 - (((x0.toUInt32 >>> ((1 : Int32).toUInt32 &&& Int32.toUInt32 31)).toInt32) &&& (1431655765 : Int32))) &&& (858993459 : Int32)) + ((((x0 - (((x0.toUInt32 >>> ((1 : Int32).toUInt32 &&& Int32.toUInt32 31)).toInt32) &&& (1431655765 : Int32))).toUInt32 >>> ((2 : Int32).toUInt32 &&& Int32.toUInt32 31)).toInt32) &&& (858993459 : Int32))) + (((((x0 - (((x0.toUInt32 >>> ((1 : Int32).toUInt32 &&& Int32.toUInt32 31)).toInt32) &&& (1431655765 : Int32))) &&& (858993459 : Int32)) + ((((x0 - (((x0.toUInt32 >>> ((1 : Int32).toUInt32 &&& Int32.toUInt32 31)).toInt32) &&& (1431655765 : Int32))).toUInt32 >>> ((2 : Int32).toUInt32 &&& Int32.toUInt32 31)).toInt32) &&& (858993459 : Int32))).toUInt32 >>> ((4 : Int32).toUInt32 &&& Int32.toUInt32 31)).toInt32)) &&& (252645135 : Int32)) + (((((((x0 - (((x0.toUInt32 >>> ((1 : Int32).toUInt32 &&& Int32.toUInt32 31)).toInt32) &&& (1431655765 : Int32))) &&& (858993459 : Int32)) + ((((x0 - (((x0.toUInt32 >>> ((1 : Int32).toUInt32 &&& Int32.toUInt32 31)).toInt32) &&& (1431655765 : Int32))).toUInt32 >>> ((2 : Int32).toUInt32 &&& Int32.toUInt32 31)).toInt32) &&& (858993459 : Int32))) + (((((x0 - (((x0.toUInt32 >>> ((1 : Int32).toUInt32 &&& Int32.toUInt32 31)).toInt32) &&& (1431655765 : Int32))) &&& (858993459 : Int32)) + ((((x0 - (((x0.toUInt32 >>> ((1 : Int32).toUInt32 &&& Int32.toUInt32 31)).toInt32) &&& (1431655765 : Int32))).toUInt32 >>> ((2 : Int32).toUInt32 &&& Int32.toUInt32 31)).toInt32) &&& (858993459 : Int32))).toUInt32 >>> ((4 : Int32).toUInt32 &&& Int32.toUInt32 31)).toInt32)) &&& (252645135 : Int32)).toUInt32 >>> ((8 : Int32).toUInt32 &&& Int32.toUInt32 31)).toInt32)).toUInt32 >>> ((16 : Int32).toUInt32 &&& Int32.toUInt32 31)).toInt32)) &&& (63 : Int32))
theorem bitC_ok : ∀ n, n < 512 → bitC (nI n) = nI (pcN 9 n) := by decide +kernel
theorem s_126 {n : Nat} {μ : gMu} {P : gMu → gRes → Prop} (hn : n < 512) (h : P μ (.inl (some (.int (nI (pcN 9 n)))))) : gCl' 126 [.int (nI n)] μ P := by
  refine vc_126 ?_
  rw [← bitC_ok n hn] at h
  exact h
/-- the lines that a set of break places makes -/
def bPx (P : Nat) : Nat → Nat → Nat → List Nat
  | 0, _, _ => []
  | r + 1, t, x => if t = P ∨ isOd x = true then t :: bPx P r (t + 1) (x / 2) else bPx P r (t + 1) (x / 2)
def qL (Q : Nat → Nat → Bool) : Nat → List Nat → Prop
  | _, [] => True
  | i, j :: l => Q i j = true ∧ qL Q j l
theorem bPx_pt {P : Nat} {Q : Nat → Nat → Bool} : ∀ r t i x, r + t = P + 1 → i < t → (r = 0 → i = P) → qL Q i (bPx P r t x) → Pt P Q i (bPx P r t x)
  | 0, t, i, x, _, _, h, _ => h rfl
  | r + 1, t, i, x, h1, h2, h3, h4 => by
    unfold bPx at h4 ⊢
    by_cases q : t = P ∨ isOd x = true
    · rw [if_pos q] at h4 ⊢
      exact ⟨h2, h4.1, bPx_pt r (t + 1) t (x / 2) (by omega) (by omega) (by omega) h4.2⟩
    · rw [if_neg q] at h4 ⊢
      exact bPx_pt r (t + 1) i (x / 2) (by omega) (by omega) (by omega) h4
theorem Pt_q {P : Nat} {Q : Nat → Nat → Bool} : ∀ (l : List Nat) (i : Nat), Pt P Q i l → qL Q i l
  | [], _, _ => trivial
  | _ :: l, _, h => ⟨h.2.1, Pt_q l _ h.2.2⟩
theorem isOd_2 (x : Nat) : isOd (2 * x) = false ∧ isOd (2 * x + 1) = true := by
  unfold isOd
  constructor
  · rw [Nat.mul_mod_right]; rfl
  · rw [Nat.mul_add_mod]; rfl
theorem bPx_ex {P : Nat} {Q : Nat → Nat → Bool} : ∀ r t i (l : List Nat), r + t = P + 1 → i < t → Pt P Q i l → (∀ j ∈ l, t ≤ j) → ∃ x, (0 < r → x < 2 ^ (P - t)) ∧ bPx P r t x = l
  | 0, t, i, l, h1, h2, h3, h4 => by
    cases l with
    | nil => exact ⟨0, fun h => absurd h (Nat.lt_irrefl 0), rfl⟩
    | cons j l =>
      have a := h4 j List.mem_cons_self
      have b := Pt_le l j h3.2.2
      omega
  | r + 1, t, i, l, h1, h2, h3, h4 => by
    cases l with
    | nil =>
      have h3 : i = P := h3
      omega
    | cons j l =>
      have a := h4 j List.mem_cons_self
      have b := Pt_le l j h3.2.2
      by_cases q : j = t
      · subst q
        have hl : ∀ k ∈ l, j + 1 ≤ k := by
          have key : ∀ (l : List Nat) (i : Nat), Pt P Q i l → ∀ k ∈ l, i + 1 ≤ k := by
            intro l
            induction l with
            | nil => intro i _ k hk; cases hk
            | cons m l ih =>
              intro i hp k hk
              rcases List.mem_cons.mp hk with e | e
              · rw [e]; exact hp.1
              · have := ih m hp.2.2 k e
                have := hp.1
                omega
          exact key l j h3.2.2
        obtain ⟨x, hx, e⟩ := bPx_ex r (j + 1) j l (by omega) (by omega) h3.2.2 hl
        by_cases qP : j = P
        · subst qP
          have hr : r = 0 := by omega
          subst hr
          refine ⟨0, fun _ => Nat.two_pow_pos _, ?_⟩
          unfold bPx
          rw [if_pos (Or.inl rfl), ← e]
          rfl
        · have hx := hx (by omega)
          refine ⟨2 * x + 1, fun _ => ?_, ?_⟩
          · rw [show P - j = (P - (j + 1)) + 1 by omega, Nat.pow_succ]
            omega
          · unfold bPx
            rw [if_pos (Or.inr (isOd_2 x).2), show (2 * x + 1) / 2 = x by omega, e]
      · obtain ⟨x, hx, e⟩ := bPx_ex r (t + 1) i (j :: l) (by omega) (by omega) h3 (fun k hk => by
          rcases List.mem_cons.mp hk with e | e
          · rw [e]; omega
          · have key : ∀ (l : List Nat) (i : Nat), Pt P Q i l → ∀ k ∈ l, i + 1 ≤ k := by
              intro l
              induction l with
              | nil => intro i _ k hk; cases hk
              | cons m l ih =>
                intro i hp k hk
                rcases List.mem_cons.mp hk with e | e
                · rw [e]; exact hp.1
                · have := ih m hp.2.2 k e
                  have := hp.1
                  omega
            have := key l j h3.2.2 k e
            omega)
        have hx := hx (by omega)
        refine ⟨2 * x, fun _ => ?_, ?_⟩
        · rw [show P - t = (P - (t + 1)) + 1 by omega, Nat.pow_succ]
          omega
        · unfold bPx
          rw [if_neg (by rintro (e2 | e2); omega; rw [(isOd_2 x).1] at e2; cases e2), show 2 * x / 2 = x by omega, e]
theorem pcN_0 : ∀ k, pcN k 0 = 0
  | 0 => rfl
  | k + 1 => by
    show (if isOd 0 = true then 1 else 0) + pcN k (0 / 2) = 0
    rw [Nat.zero_div, pcN_0 k]
    rfl
theorem pcN_more : ∀ k d x, x < 2 ^ k → pcN (k + d) x = pcN k x
  | 0, d, x, h => by
    have : x = 0 := by simpa using h
    subst this
    rw [pcN_0]
    rfl
  | k + 1, d, x, h => by
    rw [show k + 1 + d = (k + d) + 1 by omega]
    show _ + pcN (k + d) (x / 2) = _ + pcN k (x / 2)
    rw [pcN_more k d (x / 2) (by rw [Nat.pow_succ] at h; omega)]
theorem bPx_len {P : Nat} : ∀ r t x, r + t = P + 1 → 0 < r → x < 2 ^ (P - t) → (bPx P r t x).length = pcN (P - t) x + 1
  | 0, _, _, _, h, _ => absurd h (Nat.lt_irrefl 0)
  | r + 1, t, x, h1, _, h3 => by
    unfold bPx
    by_cases q : t = P
    · subst q
      have hr : r = 0 := by omega
      subst hr
      rw [if_pos (Or.inl rfl), Nat.sub_self]
      rfl
    · have ih := bPx_len (P := P) r (t + 1) (x / 2) (by omega) (by omega) (by
        rw [show P - t = (P - (t + 1)) + 1 by omega, Nat.pow_succ] at h3
        omega)
      rw [show P - t = (P - (t + 1)) + 1 by omega]
      show _ = (if isOd x = true then 1 else 0) + pcN (P - (t + 1)) (x / 2) + 1
      by_cases q2 : isOd x = true
      · rw [if_pos (Or.inr q2), if_pos q2, List.length_cons, ih]
        omega
      · rw [if_neg (by rintro (e | e); exact q e; exact q2 e), if_neg q2, ih]
        omega
theorem sh_ok : ∀ k, k < 10 → ((nI k &&& 31).toBitVec.smod 32).toNat = k := by decide +kernel
theorem sl_ok : ∀ k, k < 10 → (1 : Int32) <<< (nI k &&& 31) = nI (2 ^ k) := by decide +kernel
theorem bit_ok {m k : Nat} (hm : m < 512) (hk : k < 10) : (nI m >>> (nI k &&& 31) &&& 1 = 1) = (isOd (m / 2 ^ k) = true) := by
  rw [pk_shrN (by omega) _ k (sh_ok k hk)]
  have := Nat.div_le_self m (2 ^ k)
  exact nAnd1 (by omega)
def tBest (B C s c : Nat) : Prop := B = 0 ∨ s + 1 < B ∨ (s + 1 = B ∧ c < C)
theorem lO_lt {x y : Nat} (h : x < 2 ^ 62) (h' : y < 2 ^ 62) : (lg_cmp (lO x) (lO y) < 0) = (x < y) := by
  apply propext
  rw [lg_cmp_lt, Int64.lt_iff_toInt_lt, lO_T h, lO_T h']
  omega
theorem sD_le {D : Nat → Nat → Nat} (hD : ∀ i j, D i j ≤ 200000000) : ∀ (l : List Nat) (i : Nat), sD D i l ≤ 200000000 * l.length
  | [], _ => Nat.zero_le _
  | j :: l, i => by
    have := sD_le hD l j
    have := hD i j
    show D i j + sD D j l ≤ 200000000 * (l.length + 1)
    omega
theorem half_ok {m t : Nat} (ht : 0 < t) : m / 2 ^ (t + 1 - 1) = m / 2 ^ (t - 1) / 2 := by
  obtain ⟨s, rfl⟩ : ∃ s, t = s + 1 := ⟨t - 1, by omega⟩
  rw [Nat.div_div_eq_div_mul, Nat.add_sub_cancel, Nat.add_sub_cancel, Nat.pow_succ]
theorem s_127 {X : xX} {m B C : Nat} {μ : gMu} {P : gMu → gRes → Prop} (hX : xOk X) (hx : cX X μ) (h6 : gI μ 32 6 = nI X.W) (hP : 0 < X.P) (hP2 : X.P ≤ 10) (hm : m < 2 ^ (X.P - 1)) (hB : gJ μ 32 10 = lO B) (hC : gI μ 32 11 = nI C) (hB2 : B < 2 ^ 40) (hC2 : C ≤ 50)
    (hS : qL (xQ X) 0 (bPx X.P X.P 1 m) → (tBest B C (sD (xD X) 0 (bPx X.P X.P 1 m)) (bPx X.P X.P 1 m).length → P (gsI (gsJ μ 32 10 (lO (sD (xD X) 0 (bPx X.P X.P 1 m) + 1))) 32 11 (nI (bPx X.P X.P 1 m).length)) (.inl none)) ∧ (¬ tBest B C (sD (xD X) 0 (bPx X.P X.P 1 m)) (bPx X.P X.P 1 m).length → P μ (.inl none))) (hF : ¬ qL (xQ X) 0 (bPx X.P X.P 1 m) → P μ (.inl none)) : gCl' 127 [.ref 32, .int (nI m)] μ P := by
  have hm9 : m < 512 := Nat.lt_of_lt_of_le hm (Nat.pow_le_pow_right (n := 2) (by decide) (show X.P - 1 ≤ 9 by omega))
  have hlen : (bPx X.P X.P 1 m).length = pcN 9 m + 1 := by
    rw [bPx_len X.P 1 m (by omega) hP hm]
    have := pcN_more (X.P - 1) (9 - (X.P - 1)) m hm
    rw [show X.P - 1 + (9 - (X.P - 1)) = 9 by omega] at this
    rw [this]
  have hpc : pcN 9 m ≤ 9 := by
    have key : ∀ k x, pcN k x ≤ k := by
      intro k
      induction k with
      | zero => intro x; exact Nat.le_refl 0
      | succ k ih =>
        intro x
        have := ih (x / 2)
        show (if isOd x = true then 1 else 0) + pcN k (x / 2) ≤ k + 1
        split <;> omega
    exact key 9 m
  rw [hlen] at hS
  have loop : ∀ r t i s, r + t = X.P + 1 → 0 < t → i < t → s ≤ 200000000 * (t - 1) → (qL (xQ X) i (bPx X.P r t (m / 2 ^ (t - 1))) → (tBest B C (s + sD (xD X) i (bPx X.P r t (m / 2 ^ (t - 1)))) (pcN 9 m + 1) → P (gsI (gsJ μ 32 10 (lO (s + sD (xD X) i (bPx X.P r t (m / 2 ^ (t - 1))) + 1))) 32 11 (nI (pcN 9 m + 1))) (.inl none)) ∧ (¬ tBest B C (s + sD (xD X) i (bPx X.P r t (m / 2 ^ (t - 1)))) (pcN 9 m + 1) → P μ (.inl none))) → (¬ qL (xQ X) i (bPx X.P r t (m / 2 ^ (t - 1))) → P μ (.inl none)) → gWp none 127 (8, [some (.ref 32), some (.int (nI m)), some (.long (lN s)), none, some (.int (nI i)), some (.int (nI t))], [], μ) 0 P := by
    intro r
    induction r with
    | zero =>
      intro t i s h1 h2 h3 hs hS hF
      have hS : (tBest B C s (pcN 9 m + 1) → P (gsI (gsJ μ 32 10 (lO (s + 1))) 32 11 (nI (pcN 9 m + 1))) (.inl none)) ∧ (¬ tBest B C s (pcN 9 m + 1) → P μ (.inl none)) := hS trivial
      have hlo : lN s = lO (s + 1) := by rw [lO_pos (by omega), Nat.add_sub_cancel]
      refine vc_127_8 ?_
      rw [hlo]
      simp (disch := first | omega | decide) only [hx.1, show X.P < t by omega, nE_l, nE_r, nE_n, nLe_l, nLe_r, nLe_n, nLt_l, nLt_r, nLt_n, nA_l, nA_r, nI_add, nS_l, nS_n, nIn, nI_clamp, gI_I, gI_J, gI_D, gJ_J, gJ_I, gJ_D, true_and, and_true, false_and, and_false, if_true, if_false, false_implies, true_implies, not_true_eq_false, not_false_eq_true, bI_0, bI_1, Nat.reduceEqDiff, eq_self, nMax, nMin]
      refine s_126 hm9 ⟨_, rfl, ?_⟩
      unfold tBest at hS
      by_cases q : B = 0
      · have e0 : (lg_cmp (lO 0) (-1 : Int64) = 0) = (0 = 0) := lO_none (by omega)
        simp (disch := first | omega | decide) only [hB, hC, q, e0, nE_l, nE_r, nE_n, nLe_l, nLe_r, nLe_n, nLt_l, nLt_r, nLt_n, nA_l, nA_r, nI_add, nS_l, nS_n, nIn, nI_clamp, gI_I, gI_J, gI_D, gJ_J, gJ_I, gJ_D, true_and, and_true, false_and, and_false, if_true, if_false, false_implies, true_implies, not_true_eq_false, not_false_eq_true, bI_0, bI_1, Nat.reduceEqDiff, eq_self, nMax, nMin]
        exact hS.1 (Or.inl q)
      · simp (disch := first | omega | decide) only [hB, hC, lO_none (show B < 2 ^ 62 by omega), q, lO_lt (show s + 1 < 2 ^ 62 by omega) (show B < 2 ^ 62 by omega), lO_eq (show s + 1 < 2 ^ 62 by omega) (show B < 2 ^ 62 by omega), nE_l, nE_r, nE_n, nLe_l, nLe_r, nLe_n, nLt_l, nLt_r, nLt_n, nA_l, nA_r, nI_add, nS_l, nS_n, nIn, nI_clamp, gI_I, gI_J, gI_D, gJ_J, gJ_I, gJ_D, true_and, and_true, false_and, and_false, if_true, if_false, false_implies, true_implies, not_true_eq_false, not_false_eq_true, bI_0, bI_1, Nat.reduceEqDiff, eq_self, nMax, nMin]
        refine ⟨fun a => hS.1 (by omega), fun a => ⟨fun b => hS.2 (by omega), fun b => ⟨fun c => hS.2 (by omega), fun c => hS.1 (by omega)⟩⟩⟩
    | succ r ih =>
      intro t i s h1 h2 h3 hs hS hF
      unfold bPx at hS hF
      refine vc_127_8 ?_
      simp (disch := first | omega | decide) only [hx.1, show ¬ X.P < t by omega, nE_l, nE_r, nE_n, nLe_l, nLe_r, nLe_n, nLt_l, nLt_r, nLt_n, nA_l, nA_r, nI_add, nS_l, nS_n, nIn, nI_clamp, gI_I, gI_J, gI_D, gJ_J, gJ_I, gJ_D, true_and, and_true, false_and, and_false, if_true, if_false, false_implies, true_implies, not_true_eq_false, not_false_eq_true, bI_0, bI_1, Nat.reduceEqDiff, eq_self, nMax, nMin]
      rw [bit_ok hm9 (show t - 1 < 10 by omega)]
      by_cases htP : t = X.P
      · rw [if_pos (Or.inl htP)] at hS hF
        refine ⟨fun _ => ?_, fun q => absurd htP q⟩
        refine s_37 hX hx (by omega) (by omega) h6 ⟨_, rfl, ?_⟩
        simp (disch := first | omega | decide) only [Bool.not_eq_false, nE_l, nE_r, nE_n, nLe_l, nLe_r, nLe_n, nLt_l, nLt_r, nLt_n, nA_l, nA_r, nI_add, nS_l, nS_n, nIn, nI_clamp, gI_I, gI_J, gI_D, gJ_J, gJ_I, gJ_D, true_and, and_true, false_and, and_false, if_true, if_false, false_implies, true_implies, not_true_eq_false, not_false_eq_true, bI_0, bI_1, Nat.reduceEqDiff, eq_self, nMax, nMin]
        refine ⟨fun q => ?_, fun q => ?_⟩
        · refine s_34 hX hx (by omega) (by omega) h6 ⟨_, rfl, ?_⟩
          rw [lN_add]
          have e3 := xD_le X i t
          refine gWp_up (ih (t + 1) t (s + xD X i t) (by omega) (by omega) (by omega) (by omega) ?_ ?_) (by (repeat (first | exact gUp.nil | refine gUp.cs ?_ | refine gUp.cn ?_)))
          · intro h9
            rw [half_ok h2] at h9 ⊢
            have g := hS ⟨q, h9⟩
            rw [show s + xD X i t + sD (xD X) t (bPx X.P r (t + 1) (m / 2 ^ (t - 1) / 2)) = s + sD (xD X) i (t :: bPx X.P r (t + 1) (m / 2 ^ (t - 1) / 2)) by show _ = s + (xD X i t + _); omega]
            exact g
          · intro h9
            rw [half_ok h2] at h9
            exact hF (fun h8 => h9 h8.2)
        · exact hF (fun h9 => by have h8 := h9.1; rw [q] at h8; cases h8)
      · refine ⟨fun q => absurd q htP, fun _ => ⟨fun hb => ?_, fun hb => ?_⟩⟩
        · rw [if_neg (by rintro (e | e); exact htP e; exact hb e)] at hS hF
          refine ih (t + 1) i s (by omega) (by omega) (by omega) (by omega) ?_ ?_
          · rw [half_ok h2]
            exact hS
          · rw [half_ok h2]
            exact hF
        · rw [if_pos (Or.inr hb)] at hS hF
          refine s_37 hX hx (by omega) (by omega) h6 ⟨_, rfl, ?_⟩
          simp (disch := first | omega | decide) only [Bool.not_eq_false, nE_l, nE_r, nE_n, nLe_l, nLe_r, nLe_n, nLt_l, nLt_r, nLt_n, nA_l, nA_r, nI_add, nS_l, nS_n, nIn, nI_clamp, gI_I, gI_J, gI_D, gJ_J, gJ_I, gJ_D, true_and, and_true, false_and, and_false, if_true, if_false, false_implies, true_implies, not_true_eq_false, not_false_eq_true, bI_0, bI_1, Nat.reduceEqDiff, eq_self, nMax, nMin]
          refine ⟨fun q => ?_, fun q => ?_⟩
          · refine s_34 hX hx (by omega) (by omega) h6 ⟨_, rfl, ?_⟩
            rw [lN_add]
            have e3 := xD_le X i t
            refine gWp_up (ih (t + 1) t (s + xD X i t) (by omega) (by omega) (by omega) (by omega) ?_ ?_) (by (repeat (first | exact gUp.nil | refine gUp.cs ?_ | refine gUp.cn ?_)))
            · intro h9
              rw [half_ok h2] at h9 ⊢
              have g := hS ⟨q, h9⟩
              rw [show s + xD X i t + sD (xD X) t (bPx X.P r (t + 1) (m / 2 ^ (t - 1) / 2)) = s + sD (xD X) i (t :: bPx X.P r (t + 1) (m / 2 ^ (t - 1) / 2)) by show _ = s + (xD X i t + _); omega]
              exact g
            · intro h9
              rw [half_ok h2] at h9
              exact hF (fun h8 => h9 h8.2)
          · exact hF (fun h9 => by have h8 := h9.1; rw [q] at h8; cases h8)
  refine vc_127 (loop X.P 1 0 0 rfl (by omega) (by omega) (by omega) ?_ ?_)
  · rw [show m / 2 ^ (1 - 1) = m by simp, Nat.zero_add]
    exact hS
  · rw [show m / 2 ^ (1 - 1) = m by simp]
    exact hF
/-- the best of the sets before the n-th -/
def tI (X : xX) (n B C : Nat) : Prop := (B = 0 ∧ ∀ m, m < n → ¬ qL (xQ X) 0 (bPx X.P X.P 1 m)) ∨ ((∃ m, m < n ∧ qL (xQ X) 0 (bPx X.P X.P 1 m) ∧ B = sD (xD X) 0 (bPx X.P X.P 1 m) + 1 ∧ C = (bPx X.P X.P 1 m).length) ∧ ∀ m, m < n → qL (xQ X) 0 (bPx X.P X.P 1 m) → B < sD (xD X) 0 (bPx X.P X.P 1 m) + 1 ∨ (B = sD (xD X) 0 (bPx X.P X.P 1 m) + 1 ∧ C ≤ (bPx X.P X.P 1 m).length))
theorem tI_no {X : xX} {n B C : Nat} (h : tI X n B C) (hq : ¬ qL (xQ X) 0 (bPx X.P X.P 1 n)) : tI X (n + 1) B C := by
  rcases h with ⟨h1, h2⟩ | ⟨⟨m, h1, h2, h3, h4⟩, h5⟩
  · refine Or.inl ⟨h1, fun m hm => ?_⟩
    by_cases e : m = n
    · rw [e]; exact hq
    · exact h2 m (by omega)
  · refine Or.inr ⟨⟨m, by omega, h2, h3, h4⟩, fun m hm hm2 => ?_⟩
    by_cases e : m = n
    · rw [e] at hm2; exact absurd hm2 hq
    · exact h5 m (by omega) hm2
theorem tI_worse {X : xX} {n B C : Nat} (h : tI X n B C) (hb : ¬ tBest B C (sD (xD X) 0 (bPx X.P X.P 1 n)) (bPx X.P X.P 1 n).length) : tI X (n + 1) B C := by
  unfold tBest at hb
  rcases h with ⟨h1, h2⟩ | ⟨⟨m, h1, h2, h3, h4⟩, h5⟩
  · omega
  · refine Or.inr ⟨⟨m, by omega, h2, h3, h4⟩, fun m hm hm2 => ?_⟩
    by_cases e : m = n
    · rw [e]; omega
    · exact h5 m (by omega) hm2
theorem tI_put {X : xX} {n B C : Nat} (h : tI X n B C) (hq : qL (xQ X) 0 (bPx X.P X.P 1 n)) (hb : tBest B C (sD (xD X) 0 (bPx X.P X.P 1 n)) (bPx X.P X.P 1 n).length) : tI X (n + 1) (sD (xD X) 0 (bPx X.P X.P 1 n) + 1) (bPx X.P X.P 1 n).length := by
  unfold tBest at hb
  refine Or.inr ⟨⟨n, by omega, hq, rfl, rfl⟩, fun m hm hm2 => ?_⟩
  by_cases e : m = n
  · rw [e]; omega
  · rcases h with ⟨h1, h2⟩ | ⟨⟨m', h1, h2, h3, h4⟩, h5⟩
    · exact absurd hm2 (h2 m (by omega))
    · have := h5 m (by omega) hm2
      omega
theorem s_128 {X : xX} {bl : Bool} {μ : gMu} {P : gMu → gRes → Prop} (hX : xOk X) (hx : cX X μ) (h6 : gI μ 32 6 = nI X.W) (h4 : gI μ 29 4 = bI bl) (hP2 : X.P ≤ 10) (hP0 : bl = false → 0 < X.P) (h0 : bl = true → ∀ μ', gSm [32] μ μ' → (∀ j, j < 10 → gI μ' 32 j = gI μ 32 j) → gJ μ' 32 9 = gJ μ 32 9 → gJ μ' 32 10 = lN 0 → gI μ' 32 11 = nI 0 → P μ' (.inl none)) (h1 : bl = false → ∀ μ' B C, gSm [32] μ μ' → (∀ j, j < 10 → gI μ' 32 j = gI μ 32 j) → gJ μ' 32 9 = gJ μ 32 9 → gJ μ' 32 10 = lO B → gI μ' 32 11 = nI C → tI X (2 ^ (X.P - 1)) B C → P μ' (.inl none)) : gCl' 128 [.ref 32] μ P := by
  have hXP := hX.P
  have hXG := hX.G
  have loop : ∀ r n μ' B C, n + r = 2 ^ (X.P - 1) → bl = false → gSm [32] μ μ' → (∀ j, j < 10 → gI μ' 32 j = gI μ 32 j) → gJ μ' 32 9 = gJ μ 32 9 → gJ μ' 32 10 = lO B → gI μ' 32 11 = nI C → B < 2 ^ 40 → C ≤ 50 → tI X n B C → gWp none 128 (44, [some (.ref 32), some (.int (nI (X.P - 1))), some (.int (nI n))], [], μ') 0 P := by
    intro r
    have h29 : 2 ^ (X.P - 1) ≤ 512 := Nat.pow_le_pow_right (n := 2) (by decide) (show X.P - 1 ≤ 9 by omega)
    induction r with
    | zero =>
      intro n μ' B C hr hbl hs hk9 hk10 hB hC hB2 hC2 ht
      have hn : n = 2 ^ (X.P - 1) := by omega
      refine vc_128_44 ?_
      rw [sl_ok (X.P - 1) (by omega), hn]
      simp (disch := first | omega | decide) only [Nat.le_refl, nE_l, nE_r, nE_n, nLe_l, nLe_r, nLe_n, nLt_l, nLt_r, nLt_n, nA_l, nA_r, nI_add, nS_l, nS_n, nIn, nI_clamp, gI_I, gI_J, gI_D, gJ_J, gJ_I, gJ_D, true_and, and_true, false_and, and_false, if_true, if_false, false_implies, true_implies, not_true_eq_false, not_false_eq_true, bI_0, bI_1, Nat.reduceEqDiff, eq_self, nMax, nMin]
      rw [hn] at ht
      exact h1 hbl μ' B C hs hk9 hk10 hB hC ht
    | succ r ih =>
      intro n μ' B C hr hbl hs hk9 hk10 hB hC hB2 hC2 ht
      have hx' : cX X μ' := hx.sm hs (by decide) (by decide) (by decide) (by decide) (by decide) (by decide)
      have h6' : gI μ' 32 6 = nI X.W := by rw [hk9 6 (by decide), h6]
      refine vc_128_44 ?_
      rw [sl_ok (X.P - 1) (by omega)]
      simp (disch := first | omega | decide) only [show ¬ 2 ^ (X.P - 1) ≤ n by omega, nE_l, nE_r, nE_n, nLe_l, nLe_r, nLe_n, nLt_l, nLt_r, nLt_n, nA_l, nA_r, nI_add, nS_l, nS_n, nIn, nI_clamp, gI_I, gI_J, gI_D, gJ_J, gJ_I, gJ_D, true_and, and_true, false_and, and_false, if_true, if_false, false_implies, true_implies, not_true_eq_false, not_false_eq_true, bI_0, bI_1, Nat.reduceEqDiff, eq_self, nMax, nMin]
      have hlen : (bPx X.P X.P 1 n).length ≤ 50 := by
        have key : ∀ r t x, (bPx X.P r t x).length ≤ r := by
          intro r
          induction r with
          | zero => intro t x; exact Nat.le_refl 0
          | succ r ih =>
            intro t x
            have := ih (t + 1) (x / 2)
            unfold bPx
            split
            · rw [List.length_cons]; omega
            · omega
        have := key X.P 1 n
        omega
      have hsd := sD_le (xD_le X) (bPx X.P X.P 1 n) 0
      refine s_127 hX hx' h6' (hP0 hbl) hP2 (by omega) hB hC hB2 hC2 (fun q => ⟨fun b => ⟨rfl, ?_⟩, fun b => ⟨rfl, ?_⟩⟩) (fun q => ⟨rfl, ?_⟩)
      · refine ih (n + 1) _ _ _ (by omega) hbl ((hs.j 32 _ _ (by decide)).i 32 _ _ (by decide)) (fun j hj => ?_) ?_ ?_ ?_ (by omega) hlen (tI_put ht q b)
        · simp (disch := first | omega | decide) only [show ¬ j = 11 by omega, nE_l, nE_r, nE_n, nLe_l, nLe_r, nLe_n, nLt_l, nLt_r, nLt_n, nA_l, nA_r, nI_add, nS_l, nS_n, nIn, nI_clamp, gI_I, gI_J, gI_D, gJ_J, gJ_I, gJ_D, true_and, and_true, false_and, and_false, if_true, if_false, false_implies, true_implies, not_true_eq_false, not_false_eq_true, bI_0, bI_1, Nat.reduceEqDiff, eq_self, nMax, nMin]
          exact hk9 j hj
        · simp (disch := first | omega | decide) only [nE_l, nE_r, nE_n, nLe_l, nLe_r, nLe_n, nLt_l, nLt_r, nLt_n, nA_l, nA_r, nI_add, nS_l, nS_n, nIn, nI_clamp, gI_I, gI_J, gI_D, gJ_J, gJ_I, gJ_D, true_and, and_true, false_and, and_false, if_true, if_false, false_implies, true_implies, not_true_eq_false, not_false_eq_true, bI_0, bI_1, Nat.reduceEqDiff, eq_self, nMax, nMin]
          exact hk10
        · simp (disch := first | omega | decide) only [nE_l, nE_r, nE_n, nLe_l, nLe_r, nLe_n, nLt_l, nLt_r, nLt_n, nA_l, nA_r, nI_add, nS_l, nS_n, nIn, nI_clamp, gI_I, gI_J, gI_D, gJ_J, gJ_I, gJ_D, true_and, and_true, false_and, and_false, if_true, if_false, false_implies, true_implies, not_true_eq_false, not_false_eq_true, bI_0, bI_1, Nat.reduceEqDiff, eq_self, nMax, nMin]
        · simp (disch := first | omega | decide) only [nE_l, nE_r, nE_n, nLe_l, nLe_r, nLe_n, nLt_l, nLt_r, nLt_n, nA_l, nA_r, nI_add, nS_l, nS_n, nIn, nI_clamp, gI_I, gI_J, gI_D, gJ_J, gJ_I, gJ_D, true_and, and_true, false_and, and_false, if_true, if_false, false_implies, true_implies, not_true_eq_false, not_false_eq_true, bI_0, bI_1, Nat.reduceEqDiff, eq_self, nMax, nMin]
      · exact ih (n + 1) μ' B C (by omega) hbl hs hk9 hk10 hB hC hB2 hC2 (tI_worse ht b)
      · exact ih (n + 1) μ' B C (by omega) hbl hs hk9 hk10 hB hC hB2 hC2 (tI_no ht q)
  have hs1 : gSm [32] μ (gsI (gsJ μ 32 10 (-1 : Int64)) 32 11 (0 : Int32)) := ((gSm.rf _ μ).j 32 _ _ (by decide)).i 32 _ _ (by decide)
  refine vc_128 (s_65 (p := X.P) (by omega) (by simp (disch := first | omega | decide) only [hx.1, nE_l, nE_r, nE_n, nLe_l, nLe_r, nLe_n, nLt_l, nLt_r, nLt_n, nA_l, nA_r, nI_add, nS_l, nS_n, nIn, nI_clamp, gI_I, gI_J, gI_D, gJ_J, gJ_I, gJ_D, true_and, and_true, false_and, and_false, if_true, if_false, false_implies, true_implies, not_true_eq_false, not_false_eq_true, bI_0, bI_1, Nat.reduceEqDiff, eq_self, nMax, nMin]) ⟨_, rfl, ?_⟩)
  simp (disch := first | omega | decide) only [h4, Bool.not_eq_false, nE_l, nE_r, nE_n, nLe_l, nLe_r, nLe_n, nLt_l, nLt_r, nLt_n, nA_l, nA_r, nI_add, nS_l, nS_n, nIn, nI_clamp, gI_I, gI_J, gI_D, gJ_J, gJ_I, gJ_D, true_and, and_true, false_and, and_false, if_true, if_false, false_implies, true_implies, not_true_eq_false, not_false_eq_true, bI_0, bI_1, Nat.reduceEqDiff, eq_self, nMax, nMin]
  refine ⟨fun hb => ?_, fun hb => ⟨fun q => ?_, fun q => ?_⟩⟩
  · refine h0 hb _ (hs1.j 32 _ _ (by decide)) (fun j hj => ?_) ?_ ?_ ?_
    · simp (disch := first | omega | decide) only [show ¬ j = 11 by omega, nE_l, nE_r, nE_n, nLe_l, nLe_r, nLe_n, nLt_l, nLt_r, nLt_n, nA_l, nA_r, nI_add, nS_l, nS_n, nIn, nI_clamp, gI_I, gI_J, gI_D, gJ_J, gJ_I, gJ_D, true_and, and_true, false_and, and_false, if_true, if_false, false_implies, true_implies, not_true_eq_false, not_false_eq_true, bI_0, bI_1, Nat.reduceEqDiff, eq_self, nMax, nMin]
    · simp (disch := first | omega | decide) only [nE_l, nE_r, nE_n, nLe_l, nLe_r, nLe_n, nLt_l, nLt_r, nLt_n, nA_l, nA_r, nI_add, nS_l, nS_n, nIn, nI_clamp, gI_I, gI_J, gI_D, gJ_J, gJ_I, gJ_D, true_and, and_true, false_and, and_false, if_true, if_false, false_implies, true_implies, not_true_eq_false, not_false_eq_true, bI_0, bI_1, Nat.reduceEqDiff, eq_self, nMax, nMin]
    · simp (disch := first | omega | decide) only [nE_l, nE_r, nE_n, nLe_l, nLe_r, nLe_n, nLt_l, nLt_r, nLt_n, nA_l, nA_r, nI_add, nS_l, nS_n, nIn, nI_clamp, gI_I, gI_J, gI_D, gJ_J, gJ_I, gJ_D, true_and, and_true, false_and, and_false, if_true, if_false, false_implies, true_implies, not_true_eq_false, not_false_eq_true, bI_0, bI_1, Nat.reduceEqDiff, eq_self, nMax, nMin]
      try rfl
    · simp (disch := first | omega | decide) only [nE_l, nE_r, nE_n, nLe_l, nLe_r, nLe_n, nLt_l, nLt_r, nLt_n, nA_l, nA_r, nI_add, nS_l, nS_n, nIn, nI_clamp, gI_I, gI_J, gI_D, gJ_J, gJ_I, gJ_D, true_and, and_true, false_and, and_false, if_true, if_false, false_implies, true_implies, not_true_eq_false, not_false_eq_true, bI_0, bI_1, Nat.reduceEqDiff, eq_self, nMax, nMin]
      try rfl
  · exact loop (2 ^ (X.P - 1)) 0 _ 0 0 (by omega) hb hs1 (fun j hj => by simp (disch := first | omega | decide) only [show ¬ j = 11 by omega, nE_l, nE_r, nE_n, nLe_l, nLe_r, nLe_n, nLt_l, nLt_r, nLt_n, nA_l, nA_r, nI_add, nS_l, nS_n, nIn, nI_clamp, gI_I, gI_J, gI_D, gJ_J, gJ_I, gJ_D, true_and, and_true, false_and, and_false, if_true, if_false, false_implies, true_implies, not_true_eq_false, not_false_eq_true, bI_0, bI_1, Nat.reduceEqDiff, eq_self, nMax, nMin]) (by simp (disch := first | omega | decide) only [nE_l, nE_r, nE_n, nLe_l, nLe_r, nLe_n, nLt_l, nLt_r, nLt_n, nA_l, nA_r, nI_add, nS_l, nS_n, nIn, nI_clamp, gI_I, gI_J, gI_D, gJ_J, gJ_I, gJ_D, true_and, and_true, false_and, and_false, if_true, if_false, false_implies, true_implies, not_true_eq_false, not_false_eq_true, bI_0, bI_1, Nat.reduceEqDiff, eq_self, nMax, nMin]) (by simp (disch := first | omega | decide) only [nE_l, nE_r, nE_n, nLe_l, nLe_r, nLe_n, nLt_l, nLt_r, nLt_n, nA_l, nA_r, nI_add, nS_l, nS_n, nIn, nI_clamp, gI_I, gI_J, gI_D, gJ_J, gJ_I, gJ_D, true_and, and_true, false_and, and_false, if_true, if_false, false_implies, true_implies, not_true_eq_false, not_false_eq_true, bI_0, bI_1, Nat.reduceEqDiff, eq_self, nMax, nMin]; try rfl) (by simp (disch := first | omega | decide) only [nE_l, nE_r, nE_n, nLe_l, nLe_r, nLe_n, nLt_l, nLt_r, nLt_n, nA_l, nA_r, nI_add, nS_l, nS_n, nIn, nI_clamp, gI_I, gI_J, gI_D, gJ_J, gJ_I, gJ_D, true_and, and_true, false_and, and_false, if_true, if_false, false_implies, true_implies, not_true_eq_false, not_false_eq_true, bI_0, bI_1, Nat.reduceEqDiff, eq_self, nMax, nMin]; try rfl) (by omega) (by omega) (Or.inl ⟨rfl, fun m hm => absurd hm (Nat.not_lt_zero m)⟩)
  · omega
/-- what trying finds is what the other way from behind finds -/
theorem tI_same {X : xX} {N L K : Nat → Nat} {B C : Nat} (hP : X.P < 64) (hP0 : 0 < X.P) (hm : mFin X.P (xQ X) (xD X) N L K) (ht : tI X (2 ^ (X.P - 1)) B C) : B = L 0 + 1 ∧ C = K 0 := by
  obtain ⟨m1, m2⟩ := mP_pt hm (K 0) 0 rfl (Nat.zero_le _)
  have hall : ∀ j ∈ mP N (K 0) 0, 1 ≤ j := by
    have key : ∀ (l : List Nat) (i : Nat), Pt X.P (xQ X) i l → ∀ k ∈ l, i + 1 ≤ k := by
      intro l
      induction l with
      | nil => intro i _ k hk; cases hk
      | cons m l ih =>
        intro i hp k hk
        rcases List.mem_cons.mp hk with e | e
        · rw [e]; exact hp.1
        · have := ih m hp.2.2 k e
          have := hp.1
          omega
    exact key _ 0 m1
  obtain ⟨x, hx, e⟩ := bPx_ex X.P 1 0 _ (by omega) (by omega) m1 hall
  have hx := hx hP0
  have hqx : qL (xQ X) 0 (bPx X.P X.P 1 x) := by rw [e]; exact Pt_q _ _ m1
  rcases ht with ⟨-, t2⟩ | ⟨⟨m, t1, t2, t3, t4⟩, t5⟩
  · exact absurd hqx (t2 x hx)
  · have a := t5 x hx hqx
    rw [e, m2, mP_len] at a
    have b := m_opt hP hm _ 0 (bPx_pt X.P 1 0 m (by omega) (by omega) (by omega) t2)
    unfold le3 at b
    omega
