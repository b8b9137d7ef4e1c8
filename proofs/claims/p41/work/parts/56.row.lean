/-! THE CLASS'S VISUAL ORDER -/
theorem m1_le {a : Nat} (h : a < 2 ^ 31) : ((-1 : Int32) ≤ nI a) = True := by
  apply eq_true
  rw [Int32.le_iff_toInt_le, nI_toInt h, show (-1 : Int32).toInt = -1 from rfl]
  omega
theorem m1_lt {a : Nat} (h : a < 2 ^ 31) : ((-1 : Int32) < nI a) = True := by
  apply eq_true
  rw [Int32.lt_iff_toInt_lt, nI_toInt h, show (-1 : Int32).toInt = -1 from rfl]
  omega
theorem nI_01 : nI 0 - 1 = -1 := by decide
theorem nS_1 {b : Nat} (h : 1 ≤ b) : nI b - 1 = nI (b - 1) := nS_n h
theorem s_48 {o : Nat → Nat} {a b : Nat} {y : Int32} {μ : gMu} {P : gMu → gRes → Prop} (hy : y = nI b - 1) (hb : b ≤ 50) (ha : a ≤ 50) (ho : ∀ j, a ≤ j → j < b → gI μ 40 j = nI (o j)) (h : ∀ μ', gSm [40] μ μ' → (∀ j, j < a ∨ b ≤ j → gI μ' 40 j = gI μ 40 j) → (∀ j, a ≤ j → j < b → gI μ' 40 j = nI (o (a + (b - 1) - j))) → P μ' (.inl none)) : gCl' 48 [.ref 38, .int (nI a), .int y] μ P := by
  subst hy
  by_cases hab : b ≤ a + 1
  · have fin : P μ (.inl none) := h μ (gSm.rf _ _) (fun j _ => rfl) (fun j h1 h2 => by
      rw [ho j h1 h2, show a + (b - 1) - j = j by omega])
    refine vc_48 (vc_48_5 ⟨fun _ => fin, fun q => ?_⟩)
    exfalso
    apply q
    by_cases hb0 : b = 0
    · subst hb0
      rw [nI_01, m1_le (by omega)]
      trivial
    · rw [nS_1 (show 1 ≤ b by omega), nLe_n (by omega) (by omega)]
      omega
  · have loop : ∀ (y2 : Int32) r i j μ', j ≤ i + r → a ≤ i → i ≤ j + 1 → i + j = a + (b - 1) → gSm [40] μ μ' → (∀ x, x < a ∨ b ≤ x → gI μ' 40 x = gI μ 40 x) → (∀ x, a ≤ x → x < b → gI μ' 40 x = nI (if x < i ∨ j < x then o (a + (b - 1) - x) else o x)) → gWp none 48 (5, [some (.ref 38), some (.int (nI a)), some (.int y2), some (.int (nI i)), some (.int (nI j)), none], [], μ') 0 P := by
      intro y2 r
      induction r with
      | zero =>
        intro i j μ' h1 h2 h3 h4 hs hout hin
        refine vc_48_5 ?_
        simp (disch := first | omega | decide) only [show j ≤ i by omega, nE_l, nE_r, nE_n, nLe_l, nLe_r, nLe_n, nLt_l, nLt_r, nLt_n, nA_l, nA_r, nI_add, nS_l, nS_n, nIn, nI_clamp, gI_I, gI_J, gI_D, gJ_J, gJ_I, gJ_D, true_and, and_true, false_and, and_false, if_true, if_false, false_implies, true_implies, not_true_eq_false, not_false_eq_true, bI_0, bI_1, Nat.reduceEqDiff, eq_self, nMax, nMin]
        refine h μ' hs hout (fun x x1 x2 => ?_)
        rw [hin x x1 x2]
        by_cases c : x < i ∨ j < x
        · rw [if_pos c]
        · rw [if_neg c, show a + (b - 1) - x = x by omega]
      | succ r ih =>
        intro i j μ' h1 h2 h3 h4 hs hout hin
        by_cases hji : j ≤ i
        · refine vc_48_5 ?_
          simp (disch := first | omega | decide) only [hji, nE_l, nE_r, nE_n, nLe_l, nLe_r, nLe_n, nLt_l, nLt_r, nLt_n, nA_l, nA_r, nI_add, nS_l, nS_n, nIn, nI_clamp, gI_I, gI_J, gI_D, gJ_J, gJ_I, gJ_D, true_and, and_true, false_and, and_false, if_true, if_false, false_implies, true_implies, not_true_eq_false, not_false_eq_true, bI_0, bI_1, Nat.reduceEqDiff, eq_self, nMax, nMin]
          refine h μ' hs hout (fun x x1 x2 => ?_)
          rw [hin x x1 x2]
          by_cases c : x < i ∨ j < x
          · rw [if_pos c]
          · rw [if_neg c, show a + (b - 1) - x = x by omega]
        · have g1 := hin i h2 (by omega)
          have g2 := hin j (by omega) (by omega)
          rw [if_neg (by omega)] at g1 g2
          refine vc_48_5 ?_
          simp (disch := first | omega | decide) only [hji, show i < 50 by omega, show j < 50 by omega, g1, g2, nE_l, nE_r, nE_n, nLe_l, nLe_r, nLe_n, nLt_l, nLt_r, nLt_n, nA_l, nA_r, nI_add, nS_l, nS_n, nIn, nI_clamp, gI_I, gI_J, gI_D, gJ_J, gJ_I, gJ_D, true_and, and_true, false_and, and_false, if_true, if_false, false_implies, true_implies, not_true_eq_false, not_false_eq_true, bI_0, bI_1, Nat.reduceEqDiff, eq_self, nMax, nMin]
          rw [nI_m1 (show 0 < j by omega)]
          refine gWp_up (ih (i + 1) (j - 1) _ (by omega) (by omega) (by omega) (by omega) ((hs.i 40 i (nI (o j)) (by decide)).i 40 j (nI (o i)) (by decide)) (fun x hx => ?_) (fun x x1 x2 => ?_)) (by (repeat (first | exact gUp.nil | refine gUp.cs ?_ | refine gUp.cn ?_)))
          · simp (disch := first | omega | decide) only [show ¬ x = i by omega, show ¬ x = j by omega, nE_l, nE_r, nE_n, nLe_l, nLe_r, nLe_n, nLt_l, nLt_r, nLt_n, nA_l, nA_r, nI_add, nS_l, nS_n, nIn, nI_clamp, gI_I, gI_J, gI_D, gJ_J, gJ_I, gJ_D, true_and, and_true, false_and, and_false, if_true, if_false, false_implies, true_implies, not_true_eq_false, not_false_eq_true, bI_0, bI_1, Nat.reduceEqDiff, eq_self, nMax, nMin]
            exact hout x hx
          · rw [gI_I]
            by_cases c1 : x = j
            · rw [if_pos ⟨rfl, c1⟩, if_pos (by omega), show a + (b - 1) - x = i by omega]
            · rw [if_neg (fun q => c1 q.2), gI_I]
              by_cases c2 : x = i
              · rw [if_pos ⟨rfl, c2⟩, if_pos (by omega), show a + (b - 1) - x = j by omega]
              · rw [if_neg (fun q => c2 q.2), hin x x1 x2]
                by_cases c : x < i ∨ j < x
                · rw [if_pos c, if_pos (by omega)]
                · rw [if_neg c, if_neg (by omega)]
    refine vc_48 ?_
    have e0 := loop (nI (b - 1)) b a (b - 1) μ (by omega) (Nat.le_refl a) (by omega) (by omega) (gSm.rf _ _) (fun x _ => rfl) (fun x x1 x2 => by
      rw [if_neg (by omega)]
      exact ho x x1 x2)
    rw [nS_1 (show 1 ≤ b by omega)]
    exact e0
theorem s_49 {lv o : Nat → Nat} {v s e G : Nat} {μ : gMu} {P : gMu → gRes → Prop} (hse : s ≤ e) (heG : e ≤ G) (hG : G ≤ 50) (h25 : gAr μ 25 G lv) (hlb : ∀ g, g < G → lv g < 1000) (hv : v < 1000) (ho : ∀ j, s ≤ j → j < e → gI μ 40 j = nI (o j)) (hoi : ∀ j, s ≤ j → j < e → s ≤ o j ∧ o j < e) (hol : ∀ j, s ≤ j → j < e → (v ≤ lv (o j) ↔ v ≤ lv j)) (h : ∀ μ', gSm [40] μ μ' → (∀ j, j < s ∨ e ≤ j → gI μ' 40 j = gI μ 40 j) → (∀ j, s ≤ j → j < e → gI μ' 40 j = nI (o (mir lv v s e j))) → P μ' (.inl none)) : gCl' 49 [.ref 38, .int (nI v), .int (nI s), .int (nI e)] μ P := by
  have loop : ∀ r i a μ', i + r = e + 1 → s ≤ a → a ≤ i → (i = e + 1 → a = e + 1) → (i ≤ e → (∀ x, a ≤ x → x < i → v ≤ lv x) ∧ (a = s ∨ lv (a - 1) < v)) → gSm [40] μ μ' → (∀ j, j < s ∨ e ≤ j → gI μ' 40 j = gI μ 40 j) → (∀ j, s ≤ j → j < e → gI μ' 40 j = nI (if j < a then o (mir lv v s e j) else o j)) → gWp none 49 (6, [some (.ref 38), some (.int (nI v)), some (.int (nI s)), some (.int (nI e)), some (.int (nI a)), some (.int (nI i))], [], μ') 0 P := by
    intro r
    induction r with
    | zero =>
      intro i a μ' hr h1 h2 h3 h4 hs hout hin
      refine vc_49_6 ?_
      simp (disch := first | omega | decide) only [show e < i by omega, nE_l, nE_r, nE_n, nLe_l, nLe_r, nLe_n, nLt_l, nLt_r, nLt_n, nA_l, nA_r, nI_add, nS_l, nS_n, nIn, nI_clamp, gI_I, gI_J, gI_D, gJ_J, gJ_I, gJ_D, true_and, and_true, false_and, and_false, if_true, if_false, false_implies, true_implies, not_true_eq_false, not_false_eq_true, bI_0, bI_1, Nat.reduceEqDiff, eq_self, nMax, nMin]
      exact h μ' hs hout (fun j j1 j2 => by rw [hin j j1 j2, if_pos (by omega)])
    | succ r ih =>
      intro i a μ' hr h1 h2 h3 h4 hs hout hin
      obtain ⟨h5, h6⟩ := h4 (by omega)
      have step : (i = e ∨ lv i < v) → ∀ y, y = nI i - 1 → gCl' 48 [.ref 38, .int (nI a), .int y] μ' (fun μ1 r => (r = .inl none ∧ gWp none 49 (6, [some (.ref 38), some (.int (nI v)), some (.int (nI s)), some (.int (nI e)), some (.int (nI (i + 1))), some (.int (nI (i + 1)))], [], μ1) 0 P)) := by
        intro hie y hy
        refine s_48 (o := o) (b := i) hy (by omega) (by omega) (fun j j1 j2 => by rw [hin j (by omega) (by omega), if_neg (by omega)]) (fun μ1 hs1 hout1 hin1 => ⟨rfl, ?_⟩)
        refine ih (i + 1) (i + 1) μ1 (by omega) (by omega) (Nat.le_refl _) (by omega) (fun q => ⟨fun x x1 x2 => by omega, ?_⟩) (hs.tr hs1) (fun j hj => ?_) (fun j j1 j2 => ?_)
        · rw [Nat.add_sub_cancel]
          rcases hie with e1 | e1
          · omega
          · exact Or.inr e1
        · rw [hout1 j (by omega), hout j hj]
        · by_cases c1 : j < a
          · rw [hout1 j (Or.inl c1), hin j j1 j2, if_pos c1, if_pos (by omega)]
          · by_cases c2 : j < i
            · rw [hin1 j (by omega) c2, if_pos (by omega)]
              rw [mir_run h1 h6 (show i ≤ e by omega) hie h5 (by omega) c2]
            · rw [hout1 j (by omega), hin j j1 j2, if_neg c1]
              by_cases c3 : j = i
              · rw [if_pos (by omega), mir_low (by rw [c3]; omega)]
              · rw [if_neg (by omega)]
      refine vc_49_6 ?_
      by_cases hie : i = e
      · have hn : ¬ nI e < nI i := by rw [nLt_n (by omega) (by omega)]; omega
        refine ⟨fun q => absurd q hn, fun _ => ⟨fun _ => ?_, fun q => absurd (by rw [hie]) q⟩⟩
        have g := step (Or.inl hie) (nI i - 1) rfl
        simp (disch := first | omega | decide) only [nE_l, nE_r, nE_n, nLe_l, nLe_r, nLe_n, nLt_l, nLt_r, nLt_n, nA_l, nA_r, nI_add, nS_l, nS_n, nIn, nI_clamp, gI_I, gI_J, gI_D, gJ_J, gJ_I, gJ_D, true_and, and_true, false_and, and_false, if_true, if_false, false_implies, true_implies, not_true_eq_false, not_false_eq_true, bI_0, bI_1, Nat.reduceEqDiff, eq_self, nMax, nMin]
        exact g
      · have hn : ¬ nI e < nI i := by rw [nLt_n (by omega) (by omega)]; omega
        have g1 := hin i (by omega) (by omega)
        rw [if_neg (by omega)] at g1
        have g2 := hoi i (by omega) (by omega)
        have g3 : gI μ' 25 (o i) = nI (lv (o i)) := by rw [hs.I (by decide), h25 (o i) (by omega)]
        have g4 := hlb (o i) (by omega)
        have g5 := hol i (by omega) (by omega)
        refine ⟨fun q => absurd q hn, fun _ => ⟨fun q => absurd ((nI_eq (by omega) (by omega)).mp q) hie, fun _ => ?_⟩⟩
        rw [nI_clamp (show i < 2 ^ 31 by omega), g1, nI_clamp (show o i < 2 ^ 31 by omega), g3, nLe_n (by omega) (by omega)]
        refine ⟨vp_in_nI (by omega) (by decide), vp_in_nI (by omega) (by decide), fun q => ?_, fun q => ?_⟩
        · simp (disch := first | omega | decide) only [nE_l, nE_r, nE_n, nLe_l, nLe_r, nLe_n, nLt_l, nLt_r, nLt_n, nA_l, nA_r, nI_add, nS_l, nS_n, nIn, nI_clamp, gI_I, gI_J, gI_D, gJ_J, gJ_I, gJ_D, true_and, and_true, false_and, and_false, if_true, if_false, false_implies, true_implies, not_true_eq_false, not_false_eq_true, bI_0, bI_1, Nat.reduceEqDiff, eq_self, nMax, nMin]
          exact ih (i + 1) a μ' (by omega) h1 (by omega) (by omega) (fun q2 => ⟨fun x x1 x2 => by
            by_cases c : x = i
            · rw [c]; exact g5.mp q
            · exact h5 x x1 (by omega), h6⟩) hs hout hin
        · have g := step (Or.inr (by omega)) (nI i - 1) rfl
          have e1 : nI i + 1 = nI (i + 1) := nI_1 i
          rw [e1]
          exact g
  exact vc_49 (loop (e + 1 - s) s s μ (by omega) (Nat.le_refl s) (Nat.le_refl s) (by omega) (fun _ => ⟨fun x x1 x2 => by omega, Or.inl rfl⟩) (gSm.rf _ _) (fun j _ => rfl) (fun j j1 j2 => by rw [if_neg (by omega)]; exact ho j j1 j2))
def mxF (lv : Nat → Nat) (s : Nat) : Nat → Nat
  | 0 => 0
  | n + 1 => mxN (mxF lv s n) (lv (s + n))
theorem mxF_ge (lv : Nat → Nat) (s : Nat) : ∀ n x, s ≤ x → x < s + n → lv x ≤ mxF lv s n
  | 0, x, h1, h2 => by omega
  | n + 1, x, h1, h2 => by
    unfold mxF mxN
    by_cases c : x = s + n
    · rw [c]
      split <;> omega
    · have := mxF_ge lv s n x h1 (by omega)
      split <;> omega
theorem mxF_lt {lv : Nat → Nat} {s c : Nat} (hc : 0 < c) : ∀ n, (∀ x, s ≤ x → x < s + n → lv x < c) → mxF lv s n < c
  | 0, _ => hc
  | n + 1, h => by
    have h1 := mxF_lt hc n (fun x x1 x2 => h x x1 (by omega))
    have h2 := h (s + n) (by omega) (by omega)
    unfold mxF mxN
    split <;> omega
/-- the top level of a line, who stands where in it -/
def tpL (lv : Nat → Nat) (s e : Nat) : Nat := mxF lv s (e - s)
def oL (lv : Nat → Nat) (s e : Nat) : Nat → Nat := oF lv s e (tpL lv s e) (tpL lv s e)
def pL (lv : Nat → Nat) (s e : Nat) : Nat → Nat := pF lv s e (tpL lv s e) (tpL lv s e)
theorem s_50 {lv : Nat → Nat} {s e G : Nat} {μ : gMu} {P : gMu → gRes → Prop} (hse : s ≤ e) (heG : e ≤ G) (hG : G ≤ 50) (h25 : gAr μ 25 G lv) (hlb : ∀ g, g < G → lv g < 1000) (h : ∀ μ', gSm [40, 41] μ μ' → (∀ j, j < s ∨ e ≤ j → gI μ' 40 j = gI μ 40 j ∧ gI μ' 41 j = gI μ 41 j) → (∀ j, s ≤ j → j < e → gI μ' 40 j = nI (oL lv s e j) ∧ gI μ' 41 j = nI (pL lv s e j - s)) → P μ' (.inl none)) : gCl' 50 [.ref 38, .int (nI s), .int (nI e)] μ P := by
  have ht : tpL lv s e < 1000 := mxF_lt (by decide) (e - s) (fun x x1 x2 => hlb x (by omega))
  have loop3 : ∀ r i μ', i + r = e → s ≤ i → gSm [40, 41] μ μ' → (∀ j, j < s ∨ e ≤ j → gI μ' 40 j = gI μ 40 j ∧ gI μ' 41 j = gI μ 41 j) → (∀ j, s ≤ j → j < e → gI μ' 40 j = nI (oL lv s e j)) → (∀ j, s ≤ j → j < e → pL lv s e j < i → gI μ' 41 j = nI (pL lv s e j - s)) → gWp none 50 (66, [some (.ref 38), some (.int (nI s)), some (.int (nI e)), some (.int (nI (tpL lv s e))), some (.int (nI i))], [], μ') 0 P := by
    intro r
    induction r with
    | zero =>
      intro i μ' hr hi hs hout hin hra
      refine vc_50_66 ?_
      simp (disch := first | omega | decide) only [show e ≤ i by omega, nE_l, nE_r, nE_n, nLe_l, nLe_r, nLe_n, nLt_l, nLt_r, nLt_n, nA_l, nA_r, nI_add, nS_l, nS_n, nIn, nI_clamp, gI_I, gI_J, gI_D, gJ_J, gJ_I, gJ_D, true_and, and_true, false_and, and_false, if_true, if_false, false_implies, true_implies, not_true_eq_false, not_false_eq_true, bI_0, bI_1, Nat.reduceEqDiff, eq_self, nMax, nMin]
      exact h μ' hs hout (fun j j1 j2 => ⟨hin j j1 j2, hra j j1 j2 (by
        have := (pF_in (lv := lv) (t := tpL lv s e) (tpL lv s e) j j1 j2).2
        show pF lv s e (tpL lv s e) (tpL lv s e) j < i
        omega)⟩)
    | succ r ih =>
      intro i μ' hr hi hs hout hin hra
      have g1 := hin i hi (by omega)
      have g2 := oF_in (lv := lv) (t := tpL lv s e) (tpL lv s e) i hi (by omega : i < e)
      have g2 : s ≤ oL lv s e i ∧ oL lv s e i < e := g2
      refine vc_50_66 ?_
      simp (disch := first | omega | decide) only [show ¬ e ≤ i by omega, show i < 50 by omega, g1, show oL lv s e i < 50 by omega, nE_l, nE_r, nE_n, nLe_l, nLe_r, nLe_n, nLt_l, nLt_r, nLt_n, nA_l, nA_r, nI_add, nS_l, nS_n, nIn, nI_clamp, gI_I, gI_J, gI_D, gJ_J, gJ_I, gJ_D, true_and, and_true, false_and, and_false, if_true, if_false, false_implies, true_implies, not_true_eq_false, not_false_eq_true, bI_0, bI_1, Nat.reduceEqDiff, eq_self, nMax, nMin]
      refine ih (i + 1) _ (by omega) (by omega) (hs.i 41 _ _ (by decide)) (fun j hj => ?_) (fun j j1 j2 => ?_) (fun j j1 j2 j3 => ?_)
      · simp (disch := first | omega | decide) only [show ¬ j = oL lv s e i by omega, nE_l, nE_r, nE_n, nLe_l, nLe_r, nLe_n, nLt_l, nLt_r, nLt_n, nA_l, nA_r, nI_add, nS_l, nS_n, nIn, nI_clamp, gI_I, gI_J, gI_D, gJ_J, gJ_I, gJ_D, true_and, and_true, false_and, and_false, if_true, if_false, false_implies, true_implies, not_true_eq_false, not_false_eq_true, bI_0, bI_1, Nat.reduceEqDiff, eq_self, nMax, nMin]
        exact hout j hj
      · simp (disch := first | omega | decide) only [nE_l, nE_r, nE_n, nLe_l, nLe_r, nLe_n, nLt_l, nLt_r, nLt_n, nA_l, nA_r, nI_add, nS_l, nS_n, nIn, nI_clamp, gI_I, gI_J, gI_D, gJ_J, gJ_I, gJ_D, true_and, and_true, false_and, and_false, if_true, if_false, false_implies, true_implies, not_true_eq_false, not_false_eq_true, bI_0, bI_1, Nat.reduceEqDiff, eq_self, nMax, nMin]
        exact hin j j1 j2
      · rw [gI_I]
        by_cases c : j = oL lv s e i
        · rw [if_pos ⟨rfl, c⟩, c]
          have e1 : pL lv s e (oL lv s e i) = i := pF_oF (tpL lv s e) i hi (by omega)
          rw [e1]
        · rw [if_neg (fun q => c q.2)]
          refine hra j j1 j2 ?_
          have e1 : oL lv s e (pL lv s e j) = j := oF_pF (tpL lv s e) j j1 j2
          rcases (show pL lv s e j < i ∨ pL lv s e j = i by omega) with q | q
          · exact q
          · rw [q] at e1
            exact absurd e1.symm c
  have loop2 : ∀ r d μ', d + r = tpL lv s e → gSm [40, 41] μ μ' → (∀ j, j < s ∨ e ≤ j → gI μ' 40 j = gI μ 40 j ∧ gI μ' 41 j = gI μ 41 j) → (∀ j, s ≤ j → j < e → gI μ' 40 j = nI (oF lv s e (tpL lv s e) d j)) → gWp none 50 (44, [some (.ref 38), some (.int (nI s)), some (.int (nI e)), some (.int (nI (tpL lv s e))), some (.int (nI r))], [], μ') 0 P := by
    intro r
    induction r with
    | zero =>
      intro d μ' hd hs hout hin
      have hd' : d = tpL lv s e := by omega
      subst hd'
      refine vc_50_44 ?_
      simp (disch := first | omega | decide) only [Nat.le_refl, nE_l, nE_r, nE_n, nLe_l, nLe_r, nLe_n, nLt_l, nLt_r, nLt_n, nA_l, nA_r, nI_add, nS_l, nS_n, nIn, nI_clamp, gI_I, gI_J, gI_D, gJ_J, gJ_I, gJ_D, true_and, and_true, false_and, and_false, if_true, if_false, false_implies, true_implies, not_true_eq_false, not_false_eq_true, bI_0, bI_1, Nat.reduceEqDiff, eq_self, nMax, nMin]
      exact loop3 (e - s) s μ' (by omega) (Nat.le_refl s) hs hout hin (fun j j1 j2 j3 => by
        have := (pF_in (lv := lv) (t := tpL lv s e) (tpL lv s e) j j1 j2).1
        have j3 : pF lv s e (tpL lv s e) (tpL lv s e) j < s := j3
        omega)
    | succ r ih =>
      intro d μ' hd hs hout hin
      refine vc_50_44 ?_
      simp (disch := first | omega | decide) only [show ¬ r + 1 ≤ 0 by omega, nE_l, nE_r, nE_n, nLe_l, nLe_r, nLe_n, nLt_l, nLt_r, nLt_n, nA_l, nA_r, nI_add, nS_l, nS_n, nIn, nI_clamp, gI_I, gI_J, gI_D, gJ_J, gJ_I, gJ_D, true_and, and_true, false_and, and_false, if_true, if_false, false_implies, true_implies, not_true_eq_false, not_false_eq_true, bI_0, bI_1, Nat.reduceEqDiff, eq_self, nMax, nMin]
      refine s_49 (lv := lv) (o := oF lv s e (tpL lv s e) d) (G := G) hse heG hG (h25.sm hs (by decide)) hlb (by omega) hin (fun j j1 j2 => oF_in d j j1 j2) (fun j j1 j2 => oF_lv d j j1 j2 _ (by omega)) (fun μ1 hs1 hout1 hin1 => ⟨rfl, ?_⟩)
      rw [nI_m1 (show 0 < r + 1 by omega), Nat.add_sub_cancel]
      refine ih (d + 1) μ1 (by omega) (hs.tr (hs1.up (by decide))) (fun j hj => ⟨by rw [hout1 j hj, (hout j hj).1], by rw [hs1.I (by decide), (hout j hj).2]⟩) (fun j j1 j2 => ?_)
      rw [hin1 j j1 j2]
      show _ = nI (oF lv s e (tpL lv s e) d (mir lv (tpL lv s e - d) s e j))
      rw [show tpL lv s e - d = r + 1 by omega]
  have loop1 : ∀ r i μ', i + r = e → s ≤ i → gSm [40, 41] μ μ' → (∀ j, j < s ∨ e ≤ j → gI μ' 40 j = gI μ 40 j ∧ gI μ' 41 j = gI μ 41 j) → (∀ j, s ≤ j → j < i → gI μ' 40 j = nI j) → gWp none 50 (5, [some (.ref 38), some (.int (nI s)), some (.int (nI e)), some (.int (nI (mxF lv s (i - s)))), some (.int (nI i))], [], μ') 0 P := by
    intro r
    induction r with
    | zero =>
      intro i μ' hr hi hs hout hin
      have hie : i = e := by omega
      subst hie
      refine vc_50_5 ?_
      simp (disch := first | omega | decide) only [Nat.le_refl, nE_l, nE_r, nE_n, nLe_l, nLe_r, nLe_n, nLt_l, nLt_r, nLt_n, nA_l, nA_r, nI_add, nS_l, nS_n, nIn, nI_clamp, gI_I, gI_J, gI_D, gJ_J, gJ_I, gJ_D, true_and, and_true, false_and, and_false, if_true, if_false, false_implies, true_implies, not_true_eq_false, not_false_eq_true, bI_0, bI_1, Nat.reduceEqDiff, eq_self, nMax, nMin]
      exact loop2 (tpL lv s i) 0 μ' (by omega) hs hout hin
    | succ r ih =>
      intro i μ' hr hi hs hout hin
      have g1 : gI μ' 25 i = nI (lv i) := by rw [hs.I (by decide), h25 i (by omega)]
      have g2 := hlb i (by omega)
      have g3 : mxF lv s (i - s) < 1000 := mxF_lt (by decide) (i - s) (fun x x1 x2 => hlb x (by omega))
      have g4 := ih (i + 1) (gsI μ' 40 i (nI i)) (by omega) (by omega) (hs.i 40 _ _ (by decide)) (fun j hj => by
        simp (disch := first | omega | decide) only [show ¬ j = i by omega, nE_l, nE_r, nE_n, nLe_l, nLe_r, nLe_n, nLt_l, nLt_r, nLt_n, nA_l, nA_r, nI_add, nS_l, nS_n, nIn, nI_clamp, gI_I, gI_J, gI_D, gJ_J, gJ_I, gJ_D, true_and, and_true, false_and, and_false, if_true, if_false, false_implies, true_implies, not_true_eq_false, not_false_eq_true, bI_0, bI_1, Nat.reduceEqDiff, eq_self, nMax, nMin]
        exact hout j hj) (fun j j1 j2 => by
        rw [gI_I]
        by_cases c : j = i
        · rw [if_pos ⟨rfl, c⟩, c]
        · rw [if_neg (fun q => c q.2)]
          exact hin j j1 (by omega))
      have e1 : mxF lv s (i + 1 - s) = mxN (mxF lv s (i - s)) (lv i) := by
        rw [show i + 1 - s = (i - s) + 1 by omega]
        show mxN (mxF lv s (i - s)) (lv (s + (i - s))) = _
        rw [show s + (i - s) = i by omega]
      rw [e1] at g4
      refine vc_50_5 ?_
      simp (disch := first | omega | decide) only [show ¬ e ≤ i by omega, show i < 50 by omega, g1, nE_l, nE_r, nE_n, nLe_l, nLe_r, nLe_n, nLt_l, nLt_r, nLt_n, nA_l, nA_r, nI_add, nS_l, nS_n, nIn, nI_clamp, gI_I, gI_J, gI_D, gJ_J, gJ_I, gJ_D, true_and, and_true, false_and, and_false, if_true, if_false, false_implies, true_implies, not_true_eq_false, not_false_eq_true, bI_0, bI_1, Nat.reduceEqDiff, eq_self, nMax, nMin]
      exact g4
  refine vc_50 ?_
  have e0 := loop1 (e - s) s μ (by omega) (Nat.le_refl s) (gSm.rf _ _) (fun j _ => ⟨rfl, rfl⟩) (fun j j1 j2 => by omega)
  rw [Nat.sub_self] at e0
  exact e0
