/-! THE MODEL: the glyphs of a line from left to right -/
section
theorem tAc_0 {T : gS} (h : tAc T = true) : tTwT T = 0 ∧ tBlT T = false := by
  unfold tAc at h
  rw [Bool.and_eq_true] at h
  exact ⟨by simpa using h.1, by simpa using h.2⟩
theorem tLs_k {T : gS} (h : tAc T = true) (l : Nat) : tLs T l = kS (tXx T) l := if_pos h
theorem tCn_k {T : gS} (h : tAc T = true) : tCn T = kK (tXx T) 0 := if_pos h
/-- the part after the line that begins with a part -/
theorem mLn.nx {T : gS} {μ : gMu} (hn : mLn T μ) {l : Nat} (hl : l < tCn T) : gI μ 61 (tLs T l) = nI (tLs T (l + 1)) ∧ tLs T l < tLs T (l + 1) ∧ tLs T (l + 1) ≤ (tXx T).P := by
  have hac := tCn_act (T := T) (by omega)
  have h0 := tAc_0 hac
  have a := kS_lt (tXx_q hac) (l := l) (by rw [← tCn_k hac]; exact hl)
  have b := (hn h0.2).2.2 (kS (tXx T) l) a.1
  rw [tLs_k hac, tLs_k hac, b, a.2.2.2.2]
  rw [a.2.2.2.2] at a
  exact ⟨rfl, a.2.1, a.2.2.1⟩
theorem s_208 {T : gS} {l : Nat} {μ : gMu} {P : gMu → gRes → Prop} (hk : gOk T) (hn : mLn T μ) (hl : l ≤ tCn T) (hac : tAc T = true) (h : P μ (.inl (some (.int (nI (tLs T l)))))) : gCl' 208 [.ref 1, .int (nI l)] μ P := by
  have hX := tXx_ok hk
  have g4 := hX.P
  have g5 := hX.G
  have hC := (tLs_ok (T := T)).1
  have loop : ∀ r k, k + r = l → gWp none 208 (4, [some (.ref 1), some (.int (nI l)), some (.int (nI (tLs T k))), some (.int (nI k))], [], μ) 0 P := by
    intro r
    induction r with
    | zero =>
      intro k hr
      have e : k = l := by omega
      subst e
      refine vc_208_4 ?_
      simp (disch := first | omega | decide) only [Nat.le_refl, nE_l, nE_r, nE_n, nLe_l, nLe_r, nLe_n, nLt_l, nLt_r, nLt_n, nA_l, nA_r, nI_add, nS_l, nS_n, nIn, nI_clamp, gI_I, gI_J, gI_D, gJ_J, gJ_I, gJ_D, true_and, and_true, false_and, and_false, if_true, if_false, false_implies, true_implies, not_true_eq_false, not_false_eq_true, bI_0, bI_1, Nat.reduceEqDiff, eq_self, nMax, nMin]
      exact h
    | succ r ih =>
      intro k hr
      have nx := hn.nx (l := k) (by omega)
      refine vc_208_4 ?_
      simp (disch := first | omega | decide) only [show ¬ l ≤ k by omega, nx.1, show tLs T k < 51 by omega, nE_l, nE_r, nE_n, nLe_l, nLe_r, nLe_n, nLt_l, nLt_r, nLt_n, nA_l, nA_r, nI_add, nS_l, nS_n, nIn, nI_clamp, gI_I, gI_J, gI_D, gJ_J, gJ_I, gJ_D, true_and, and_true, false_and, and_false, if_true, if_false, false_implies, true_implies, not_true_eq_false, not_false_eq_true, bI_0, bI_1, Nat.reduceEqDiff, eq_self, nMax, nMin]
      exact ih (k + 1) (by omega)
  have z := loop l 0 (by omega)
  rw [(tLs_0 hac).1] at z
  exact vc_208 z
theorem mRev {f : Nat → Nat} {a b C : Nat} {x1 x2 x3 : Int32} {μ : gMu} {P : gMu → gRes → Prop} (hC : C ≤ 50) (hab : a ≤ b) (hb : b ≤ C) (hf : ∀ r, r < C → gI μ 63 r = nI (f r)) (h : ∀ μ', mF [63] [] μ μ' → (∀ r, r < C → gI μ' 63 r = nI (if a ≤ r ∧ r < b then f (a + (b - 1) - r) else f r)) → gWp none 218 (85, [some (.ref 1), some (.int x1), some (.int x2), some (.int x3), some (.int (nI (b + 1))), none, none, none, none], [], μ') 0 P) : gWp none 218 (139, [some (.ref 1), some (.int x1), some (.int x2), some (.int x3), some (.int (nI a)), some (.int (nI b)), some (.int (nI a)), some (.int (nI b - 1)), none], [], μ) 0 P := by
  by_cases hab1 : b ≤ a + 1
  · have fin := h μ (mF.rf _ _ _) (fun r hr => by
      rw [hf r hr]
      by_cases c : a ≤ r ∧ r < b
      · rw [if_pos c, show a + (b - 1) - r = r by omega]
      · rw [if_neg c])
    refine vc_218_139 ⟨fun _ => ?_, fun q => ?_⟩
    · rw [nI_1]
      exact gWp_up fin (by (repeat (first | exact gUp.nil | refine gUp.cs ?_ | refine gUp.cn ?_)))
    · exfalso
      apply q
      by_cases hb0 : b = 0
      · subst hb0
        rw [nI_01, m1_le (by omega)]
        trivial
      · rw [nS_1 (show 1 ≤ b by omega), nLe_n (by omega) (by omega)]
        omega
  · have loop : ∀ r i j μ', j ≤ i + r → a ≤ i → i ≤ j + 1 → i + j = a + (b - 1) → mF [63] [] μ μ' → (∀ x, x < C → gI μ' 63 x = nI (if a ≤ x ∧ x < b ∧ (x < i ∨ j < x) then f (a + (b - 1) - x) else f x)) → gWp none 218 (139, [some (.ref 1), some (.int x1), some (.int x2), some (.int x3), some (.int (nI a)), some (.int (nI b)), some (.int (nI i)), some (.int (nI j)), none], [], μ') 0 P := by
      intro r
      have stop : ∀ i j μ', j ≤ i → a ≤ i → i ≤ j + 1 → i + j = a + (b - 1) → mF [63] [] μ μ' → (∀ x, x < C → gI μ' 63 x = nI (if a ≤ x ∧ x < b ∧ (x < i ∨ j < x) then f (a + (b - 1) - x) else f x)) → gWp none 218 (139, [some (.ref 1), some (.int x1), some (.int x2), some (.int x3), some (.int (nI a)), some (.int (nI b)), some (.int (nI i)), some (.int (nI j)), none], [], μ') 0 P := by
        intro i j μ' h1 h2 h3 h4 hs hin
        refine vc_218_139 ?_
        simp (disch := first | omega | decide) only [show j ≤ i by omega, nE_l, nE_r, nE_n, nLe_l, nLe_r, nLe_n, nLt_l, nLt_r, nLt_n, nA_l, nA_r, nI_add, nS_l, nS_n, nIn, nI_clamp, gI_I, gI_J, gI_D, gJ_J, gJ_I, gJ_D, true_and, and_true, false_and, and_false, if_true, if_false, false_implies, true_implies, not_true_eq_false, not_false_eq_true, bI_0, bI_1, Nat.reduceEqDiff, eq_self, nMax, nMin]
        refine gWp_up (h μ' hs (fun x hx => ?_)) (by (repeat (first | exact gUp.nil | refine gUp.cs ?_ | refine gUp.cn ?_)))
        rw [hin x hx]
        by_cases c : a ≤ x ∧ x < b
        · rw [if_pos c]
          by_cases c2 : x < i ∨ j < x
          · rw [if_pos ⟨c.1, c.2, c2⟩]
          · rw [if_neg (fun z => c2 z.2.2), show a + (b - 1) - x = x by omega]
        · rw [if_neg c, if_neg (fun z => c ⟨z.1, z.2.1⟩)]
      induction r with
      | zero =>
        intro i j μ' h1 h2 h3 h4 hs hin
        exact stop i j μ' h1 h2 h3 h4 hs hin
      | succ r ih =>
        intro i j μ' h1 h2 h3 h4 hs hin
        by_cases hji : j ≤ i
        · exact stop i j μ' hji h2 h3 h4 hs hin
        · have g1 := hin i (by omega)
          have g2 := hin j (by omega)
          rw [if_neg (by omega)] at g1 g2
          refine vc_218_139 ?_
          simp (disch := first | omega | decide) only [hji, show i < 50 by omega, show j < 50 by omega, g1, g2, nE_l, nE_r, nE_n, nLe_l, nLe_r, nLe_n, nLt_l, nLt_r, nLt_n, nA_l, nA_r, nI_add, nS_l, nS_n, nIn, nI_clamp, gI_I, gI_J, gI_D, gJ_J, gJ_I, gJ_D, true_and, and_true, false_and, and_false, if_true, if_false, false_implies, true_implies, not_true_eq_false, not_false_eq_true, bI_0, bI_1, Nat.reduceEqDiff, eq_self, nMax, nMin]
          rw [nI_m1 (show 0 < j by omega)]
          refine gWp_up (ih (i + 1) (j - 1) _ (by omega) (by omega) (by omega) (by omega) ((hs.i 63 i (nI (f j)) (by decide) (by decide)).i 63 j (nI (f i)) (by decide) (by decide)) (fun x hx => ?_)) (by (repeat (first | exact gUp.nil | refine gUp.cs ?_ | refine gUp.cn ?_)))
          rw [gI_I]
          by_cases c1 : x = j
          · rw [if_pos ⟨rfl, c1⟩, if_pos (by omega), show a + (b - 1) - x = i by omega]
          · rw [if_neg (fun q => c1 q.2), gI_I]
            by_cases c2 : x = i
            · rw [if_pos ⟨rfl, c2⟩, if_pos (by omega), show a + (b - 1) - x = j by omega]
            · rw [if_neg (fun q => c2 q.2), hin x hx]
              by_cases c : a ≤ x ∧ x < b ∧ (x < i ∨ j < x)
              · rw [if_pos c, if_pos (by omega)]
              · rw [if_neg c, if_neg (by omega)]
    rw [nS_1 (show 1 ≤ b by omega)]
    exact loop b a (b - 1) μ (by omega) (Nat.le_refl a) (by omega) (by omega) (mF.rf _ _ _) (fun x hx => by
      rw [if_neg (by omega)]
      exact hf x hx)
theorem mPass {lv o g : Nat → Nat} {v s e C : Nat} {x1 x2 : Int32} {μ : gMu} {P : gMu → gRes → Prop} (hC : C ≤ 50) (hse : s + C = e) (hv : 0 < v) (hvb : v < 1000) (hcn : gI μ 1 29 = nI C) (hl : ∀ x, s ≤ x → x < e → g x < 50 ∧ gI μ 52 (g x) = nI (lv x) ∧ lv x < 1000) (hoi : ∀ x, s ≤ x → x < e → s ≤ o x ∧ o x < e) (hov : ∀ x, s ≤ x → x < e → (v ≤ lv (o x) ↔ v ≤ lv x)) (ho : ∀ r, r < C → gI μ 63 r = nI (g (o (s + r))))
    (h : ∀ μ', mF [63] [] μ μ' → (∀ r, r < C → gI μ' 63 r = nI (g (o (mir lv v s e (s + r))))) → gWp none 218 (78, [some (.ref 1), some (.int x1), some (.int x2), some (.int (nI (v - 1))), none, none, none, none, none], [], μ') 0 P) : gWp none 218 (85, [some (.ref 1), some (.int x1), some (.int x2), some (.int (nI v)), some (.int (nI 0)), none, none, none, none], [], μ) 0 P := by
  have loop : ∀ n a μ', C + 1 - a ≤ n → (0 < n ∨ C ≤ a) → (a = 0 ∨ C ≤ a ∨ lv (s + a - 1) < v) → a ≤ C + 1 → mF [63] [] μ μ' → (∀ r, r < C → gI μ' 63 r = nI (g (o (if r < a then mir lv v s e (s + r) else s + r)))) → gWp none 218 (85, [some (.ref 1), some (.int x1), some (.int x2), some (.int (nI v)), some (.int (nI a)), none, none, none, none], [], μ') 0 P := by
    intro n
    induction n with
    | zero =>
      intro a μ' hn hn2 hbd ha hs hin
      have hCa : C ≤ a := by omega
      refine vc_218_85 ?_
      rw [hs.F (by decide), hcn]
      simp (disch := first | omega | decide) only [hCa, nE_l, nE_r, nE_n, nLe_l, nLe_r, nLe_n, nLt_l, nLt_r, nLt_n, nA_l, nA_r, nI_add, nS_l, nS_n, nIn, nI_clamp, gI_I, gI_J, gI_D, gJ_J, gJ_I, gJ_D, true_and, and_true, false_and, and_false, if_true, if_false, false_implies, true_implies, not_true_eq_false, not_false_eq_true, bI_0, bI_1, Nat.reduceEqDiff, eq_self, nMax, nMin]
      rw [nI_m1 hv]
      refine gWp_up (h μ' hs (fun r hr => ?_)) (by (repeat (first | exact gUp.nil | refine gUp.cs ?_ | refine gUp.cn ?_)))
      rw [hin r hr, if_pos (by omega)]
    | succ n ih =>
      intro a μ' hn hn2 hbd ha hs hin
      by_cases hCa : C ≤ a
      · refine vc_218_85 ?_
        rw [hs.F (by decide), hcn]
        simp (disch := first | omega | decide) only [hCa, nE_l, nE_r, nE_n, nLe_l, nLe_r, nLe_n, nLt_l, nLt_r, nLt_n, nA_l, nA_r, nI_add, nS_l, nS_n, nIn, nI_clamp, gI_I, gI_J, gI_D, gJ_J, gJ_I, gJ_D, true_and, and_true, false_and, and_false, if_true, if_false, false_implies, true_implies, not_true_eq_false, not_false_eq_true, bI_0, bI_1, Nat.reduceEqDiff, eq_self, nMax, nMin]
        rw [nI_m1 hv]
        refine gWp_up (h μ' hs (fun r hr => ?_)) (by (repeat (first | exact gUp.nil | refine gUp.cs ?_ | refine gUp.cn ?_)))
        rw [hin r hr, if_pos (by omega)]
      · have fin : ∀ b, a ≤ b → b ≤ C → (∀ x, a ≤ x → x < b → v ≤ lv (s + x)) → (b = C ∨ lv (s + b) < v) → gWp none 218 (139, [some (.ref 1), some (.int x1), some (.int x2), some (.int (nI v)), some (.int (nI a)), some (.int (nI b)), some (.int (nI a)), some (.int (nI b - 1)), none], [], μ') 0 P := by
          intro b hab hb hall hbe
          refine mRev (C := C) (f := fun r => g (o (if r < a then mir lv v s e (s + r) else s + r))) hC hab hb hin (fun μ1 s1 h1 => ?_)
          refine ih (b + 1) μ1 (by omega) (by omega) (by
            rcases hbe with z | z
            · exact Or.inr (Or.inl (by omega))
            · exact Or.inr (Or.inr (by rw [show s + (b + 1) - 1 = s + b by omega]; exact z))) (by omega) (hs.tr s1) (fun r hr => ?_)
          rw [h1 r hr]
          by_cases c : a ≤ r ∧ r < b
          · rw [if_pos c, if_neg (by omega), if_pos (by omega), mir_run (a := s + a) (b := s + b) (by omega) (by
              rcases hbd with z | z | z
              · exact Or.inl (by omega)
              · exact absurd z hCa
              · exact Or.inr z) (by omega) (by
              rcases hbe with z | z
              · exact Or.inl (by omega)
              · exact Or.inr z) (fun x x1 x2 => by
              have := hall (x - s) (by omega) (by omega)
              rw [show s + (x - s) = x by omega] at this
              exact this) (by omega) (by omega), show s + (a + (b - 1) - r) = s + a + (s + b - 1) - (s + r) by omega]
          · rw [if_neg c]
            by_cases c2 : r < a
            · rw [if_pos c2, if_pos (by omega)]
            · rw [if_neg c2]
              by_cases c3 : r = b
              · rw [if_pos (by omega), mir_low (by
                  rcases hbe with z | z
                  · omega
                  · rw [c3]; exact z)]
              · rw [if_neg (by omega)]
        have inner : ∀ m b, b + m = C → a ≤ b → (∀ x, a ≤ x → x < b → v ≤ lv (s + x)) → gWp none 218 (98, [some (.ref 1), some (.int x1), some (.int x2), some (.int (nI v)), some (.int (nI a)), some (.int (nI b)), none, none, none], [], μ') 0 P := by
          intro m
          induction m with
          | zero =>
            intro b hb hab hall
            refine vc_218_98 ?_
            rw [hs.F (by decide), hcn]
            simp (disch := first | omega | decide) only [show C ≤ b by omega, nE_l, nE_r, nE_n, nLe_l, nLe_r, nLe_n, nLt_l, nLt_r, nLt_n, nA_l, nA_r, nI_add, nS_l, nS_n, nIn, nI_clamp, gI_I, gI_J, gI_D, gJ_J, gJ_I, gJ_D, true_and, and_true, false_and, and_false, if_true, if_false, false_implies, true_implies, not_true_eq_false, not_false_eq_true, bI_0, bI_1, Nat.reduceEqDiff, eq_self, nMax, nMin]
            have z := fin b hab (by omega) hall (Or.inl (by omega))
            rw [nS_1 (show 1 ≤ b by omega)] at z
            exact z
          | succ m ihm =>
            intro b hb hab hall
            have g1 := hin b (by omega)
            rw [if_neg (by omega)] at g1
            have o1 := hoi (s + b) (by omega) (by omega)
            have o2 := hl (o (s + b)) o1.1 o1.2
            have o3 := hov (s + b) (by omega) (by omega)
            have g2 : gI μ' 52 (g (o (s + b))) = nI (lv (o (s + b))) := by rw [hs.I (by decide) (by decide), o2.2.1]
            have b1 := o2.1
            have b2 := o2.2.2
            refine vc_218_98 ?_
            rw [hs.F (by decide), hcn]
            simp (disch := first | omega | decide) only [show ¬ C ≤ b by omega, show b < 50 by omega, g1, g2, nE_l, nE_r, nE_n, nLe_l, nLe_r, nLe_n, nLt_l, nLt_r, nLt_n, nA_l, nA_r, nI_add, nS_l, nS_n, nIn, nI_clamp, gI_I, gI_J, gI_D, gJ_J, gJ_I, gJ_D, true_and, and_true, false_and, and_false, if_true, if_false, false_implies, true_implies, not_true_eq_false, not_false_eq_true, bI_0, bI_1, Nat.reduceEqDiff, eq_self, nMax, nMin]
            refine ⟨fun q => fin b hab (by omega) hall (Or.inr (by omega)), fun q => ihm (b + 1) (by omega) (by omega) (fun x x1 x2 => ?_)⟩
            by_cases c : x = b
            · rw [c]; omega
            · exact hall x x1 (by omega)
        refine vc_218_85 ?_
        rw [hs.F (by decide), hcn]
        simp (disch := first | omega | decide) only [hCa, nE_l, nE_r, nE_n, nLe_l, nLe_r, nLe_n, nLt_l, nLt_r, nLt_n, nA_l, nA_r, nI_add, nS_l, nS_n, nIn, nI_clamp, gI_I, gI_J, gI_D, gJ_J, gJ_I, gJ_D, true_and, and_true, false_and, and_false, if_true, if_false, false_implies, true_implies, not_true_eq_false, not_false_eq_true, bI_0, bI_1, Nat.reduceEqDiff, eq_self, nMax, nMin]
        exact inner (C - a) a (by omega) (Nat.le_refl a) (fun x x1 x2 => by omega)
  exact loop (C + 1) 0 μ (by omega) (Or.inl (by omega)) (Or.inl rfl) (by omega) (mF.rf _ _ _) (fun r hr => by
    rw [if_neg (by omega)]
    exact ho r hr)
theorem s_218 {T : gS} {l : Nat} {μ : gMu} {P : gMu → gRes → Prop} (hk : gOk T) (hL : mLay T μ) (hn : mLn T μ) (hl : l < tCn T) (h : ∀ μ', mF [63] [29] μ μ' → gI μ' 1 29 = nI (lnE (tXx T) (tLs T) l - lnS (tXx T) (tLs T) l) → (∀ r, r < lnE (tXx T) (tLs T) l - lnS (tXx T) (tLs T) l → gI μ' 63 r = nI (tGsT T (oG T l (lnS (tXx T) (tLs T) l + r)))) → P μ' (.inl none)) : gCl' 218 [.ref 1, .int (nI (tLs T l))] μ P := by
  have hX := tXx_ok hk
  have g4 := hX.P
  have g5 := hX.G
  have hM := tMn_le hk
  have hG' : (tXx T).G = tGT T := rfl
  have nx := hn.nx hl
  have hSE := lnSE hX (tLs_ok (T := T)) hl
  have hS : lnS (tXx T) (tLs T) l = gc T (mPtT T (tLs T l)) := (mPt_ok hk (show tLs T l ≤ (tXx T).P by omega)).2.1.symm
  have hE : lnE (tXx T) (tLs T) l = gc T (mLa T (tLs T l) (tLs T (l + 1))) := (mLa_ok hk nx.2.1 nx.2.2).2.2.symm
  have la := mLa_ok hk nx.2.1 nx.2.2
  have pj := mPt_ok hk nx.2.2
  have gp := hL.pt (tLs T l) (by omega)
  have nx1 := nx.1
  generalize hs0 : lnS (tXx T) (tLs T) l = s at h hSE hS
  generalize he0 : lnE (tXx T) (tLs T) l = e at h hSE hE
  have hoG : ∀ j, oG T l j = oL (tGl T) s e j := fun j => by rw [← hs0, ← he0]; rfl
  have lvb : ∀ x, s ≤ x → x < e → tGl T x < 1000 := fun x x1 x2 => by
    have := tGl_le hk (g := x) (by omega)
    omega
  have htop : tpL (tGl T) s e < 1000 := mxF_lt (by decide) (e - s) (fun x x1 x2 => lvb x x1 (by omega))
  have down : ∀ r d μ', d + r = tpL (tGl T) s e → mF [63] [29] μ μ' → gI μ' 1 29 = nI (e - s) → (∀ r, r < e - s → gI μ' 63 r = nI (tGsT T (oF (tGl T) s e (tpL (tGl T) s e) d (s + r)))) → gWp none 218 (78, [some (.ref 1), some (.int (nI (tLs T l))), some (.int (nI (tpL (tGl T) s e))), some (.int (nI r)), none, none, none, none, none], [], μ') 0 P := by
    intro r
    induction r with
    | zero =>
      intro d μ' hd hs h29 hin
      have hd' : d = tpL (tGl T) s e := by omega
      refine vc_218_78 ?_
      simp (disch := first | omega | decide) only [Nat.le_refl, nE_l, nE_r, nE_n, nLe_l, nLe_r, nLe_n, nLt_l, nLt_r, nLt_n, nA_l, nA_r, nI_add, nS_l, nS_n, nIn, nI_clamp, gI_I, gI_J, gI_D, gJ_J, gJ_I, gJ_D, true_and, and_true, false_and, and_false, if_true, if_false, false_implies, true_implies, not_true_eq_false, not_false_eq_true, bI_0, bI_1, Nat.reduceEqDiff, eq_self, nMax, nMin]
      exact h μ' hs h29 (fun r hr => by rw [hin r hr, hoG, hd']; rfl)
    | succ r ih =>
      intro d μ' hd hs h29 hin
      refine vc_218_78 ?_
      simp (disch := first | omega | decide) only [show ¬ r + 1 ≤ 0 by omega, nE_l, nE_r, nE_n, nLe_l, nLe_r, nLe_n, nLt_l, nLt_r, nLt_n, nA_l, nA_r, nI_add, nS_l, nS_n, nIn, nI_clamp, gI_I, gI_J, gI_D, gJ_J, gJ_I, gJ_D, true_and, and_true, false_and, and_false, if_true, if_false, false_implies, true_implies, not_true_eq_false, not_false_eq_true, bI_0, bI_1, Nat.reduceEqDiff, eq_self, nMax, nMin]
      refine mPass (lv := tGl T) (o := oF (tGl T) s e (tpL (tGl T) s e) d) (g := tGsT T) (v := r + 1) (s := s) (e := e) (C := e - s) (by omega) (by omega) (by omega) (by omega) h29 (fun x x1 x2 => ?_) (fun x x1 x2 => oF_in d x x1 x2) (fun x x1 x2 => oF_lv d x x1 x2 _ (by omega)) hin (fun μ1 s1 h1 => ?_)
      · have a := tGsT_lt (T := T) (g := x) (by omega)
        have b : gI μ' 52 (tGsT T x) = nI (tGl T x) := by
          rw [hs.I (by decide) (by decide)]
          exact hL.lv _ a
        exact ⟨by omega, b, lvb x x1 x2⟩
      · rw [Nat.add_sub_cancel]
        refine ih (d + 1) μ1 (by omega) (hs.tr (s1.up (by decide) (by decide))) (by rw [s1.F (by decide), h29]) (fun x hx => ?_)
        rw [h1 x hx]
        show _ = nI (tGsT T (oF (tGl T) s e (tpL (tGl T) s e) d (mir (tGl T) (tpL (tGl T) s e - d) s e (s + x))))
        rw [show tpL (tGl T) s e - d = r + 1 by omega]
  have loop : ∀ r n μ', n + r = mLa T (tLs T l) (tLs T (l + 1)) → mPtT T (tLs T l) ≤ n → mF [63] [29] μ μ' → gI μ' 1 29 = nI (gc T n - s) → (∀ x, x < gc T n - s → gI μ' 63 x = nI (tGsT T (s + x))) → gWp none 218 (14, [some (.ref 1), some (.int (nI (tLs T l))), some (.int (nI (mxF (tGl T) s (gc T n - s)))), some (.int (nI n)), none, none, none, none, none], [], μ') 0 P := by
    intro r
    induction r with
    | zero =>
      intro n μ' hr hn1 hs h29 hin
      have hne : n = mLa T (tLs T l) (tLs T (l + 1)) := by omega
      have L' : mLay T μ' := hL.gf hs (by decide) (by decide) (by decide) (by decide) (by decide)
      refine vc_218_14 ?_
      rw [nI_clamp (show tLs T l < 2 ^ 31 by omega), hs.I (by decide) (by decide), nx1]
      refine ⟨vp_in_nI (by omega) (by decide), s_192 hk L' nx.2.1 nx.2.2 ⟨_, rfl, ?_⟩⟩
      rw [← hne] at hE
      rw [← hne]
      simp (disch := first | omega | decide) only [Nat.le_refl, nE_l, nE_r, nE_n, nLe_l, nLe_r, nLe_n, nLt_l, nLt_r, nLt_n, nA_l, nA_r, nI_add, nS_l, nS_n, nIn, nI_clamp, gI_I, gI_J, gI_D, gJ_J, gJ_I, gJ_D, true_and, and_true, false_and, and_false, if_true, if_false, false_implies, true_implies, not_true_eq_false, not_false_eq_true, bI_0, bI_1, Nat.reduceEqDiff, eq_self, nMax, nMin]
      rw [← hE]
      rw [← hE] at h29 hin
      exact gWp_up (down (tpL (tGl T) s e) 0 μ' (by omega) hs h29 hin) (by (repeat (first | exact gUp.nil | refine gUp.cs ?_ | refine gUp.cn ?_)))
    | succ r ih =>
      intro n μ' hr hn1 hs h29 hin
      have L' : mLay T μ' := hL.gf hs (by decide) (by decide) (by decide) (by decide) (by decide)
      have hnM : n < tMn T := by omega
      have g1 := L'.gs n hnM
      dsimp only at g1
      have g2 := L'.lv n hnM
      have b1 := (gsT_ok (tOw_lt hnM)).1
      have b2 := tLv_le hk hnM
      have hsl := gsT_slot hnM
      have hge := gc_mono T hn1
      rw [← hS] at hge
      have hle := gc_mono T (show n + 1 ≤ mLa T (tLs T l) (tLs T (l + 1)) by omega)
      rw [← hE] at hle
      have hmx : mxF (tGl T) s (gc T n - s) < 1000 := mxF_lt (by decide) _ (fun x x1 x2 => lvb x x1 (by have := gc_mono T (show n ≤ n + 1 by omega); omega))
      refine vc_218_14 ?_
      rw [nI_clamp (show tLs T l < 2 ^ 31 by omega), hs.I (by decide) (by decide), nx1]
      refine ⟨vp_in_nI (by omega) (by decide), s_192 hk L' nx.2.1 nx.2.2 ⟨_, rfl, ?_⟩⟩
      by_cases q : lgT T n = 0
      · have hg := gc_new q
        have hgs := hsl.mpr q
        have e1 : s + (gc T n - s) = gc T n := by omega
        have hgl : tGl T (gc T n) = tLv T n := by
          show tLv T (tGsT T (gc T n)) = tLv T n
          rw [gs_of hnM q]
        have z := ih (n + 1) (gsI (gsI μ' 63 (gc T n - s) (nI n)) 1 29 (nI (gc T n - s + 1))) (by omega) (by omega) ((hs.i 63 _ _ (by decide) (by decide)).f 29 _ (by decide)) (by rw [hg, show gc T n + 1 - s = gc T n - s + 1 by omega]; simp (disch := first | omega | decide) only [nE_l, nE_r, nE_n, nLe_l, nLe_r, nLe_n, nLt_l, nLt_r, nLt_n, nA_l, nA_r, nI_add, nS_l, nS_n, nIn, nI_clamp, gI_I, gI_J, gI_D, gJ_J, gJ_I, gJ_D, true_and, and_true, false_and, and_false, if_true, if_false, false_implies, true_implies, not_true_eq_false, not_false_eq_true, bI_0, bI_1, Nat.reduceEqDiff, eq_self, nMax, nMin]) (by
          intro x hx
          rw [hg] at hx
          by_cases c : x = gc T n - s
          · subst c
            simp (disch := first | omega | decide) only [nE_l, nE_r, nE_n, nLe_l, nLe_r, nLe_n, nLt_l, nLt_r, nLt_n, nA_l, nA_r, nI_add, nS_l, nS_n, nIn, nI_clamp, gI_I, gI_J, gI_D, gJ_J, gJ_I, gJ_D, true_and, and_true, false_and, and_false, if_true, if_false, false_implies, true_implies, not_true_eq_false, not_false_eq_true, bI_0, bI_1, Nat.reduceEqDiff, eq_self, nMax, nMin]
            rw [e1, gs_of hnM q]
          · simp (disch := first | omega | decide) only [c, nE_l, nE_r, nE_n, nLe_l, nLe_r, nLe_n, nLt_l, nLt_r, nLt_n, nA_l, nA_r, nI_add, nS_l, nS_n, nIn, nI_clamp, gI_I, gI_J, gI_D, gJ_J, gJ_I, gJ_D, true_and, and_true, false_and, and_false, if_true, if_false, false_implies, true_implies, not_true_eq_false, not_false_eq_true, bI_0, bI_1, Nat.reduceEqDiff, eq_self, nMax, nMin]
            exact hin x (by omega))
        rw [hg, show gc T n + 1 - s = gc T n - s + 1 by omega, show mxF (tGl T) s (gc T n - s + 1) = mxN (mxF (tGl T) s (gc T n - s)) (tGl T (s + (gc T n - s))) from rfl, e1, hgl] at z
        rw [hgs] at g1
        simp (disch := first | omega | decide) only [g1, g2, h29, show ¬ mLa T (tLs T l) (tLs T (l + 1)) ≤ n by omega, show n < 50 by omega, show gc T n - s < 50 by omega, nE_l, nE_r, nE_n, nLe_l, nLe_r, nLe_n, nLt_l, nLt_r, nLt_n, nA_l, nA_r, nI_add, nS_l, nS_n, nIn, nI_clamp, gI_I, gI_J, gI_D, gJ_J, gJ_I, gJ_D, true_and, and_true, false_and, and_false, if_true, if_false, false_implies, true_implies, not_true_eq_false, not_false_eq_true, bI_0, bI_1, Nat.reduceEqDiff, eq_self, nMax, nMin]
        exact gWp_up z (by (repeat (first | exact gUp.nil | refine gUp.cs ?_ | refine gUp.cn ?_)))
      · have hg := gc_old q
        have hgs : ¬ tGsT T (tOw T n) = n := fun z => q (hsl.mp z)
        have z := ih (n + 1) μ' (by omega) (by omega) hs (by rw [hg]; exact h29) (by rw [hg]; exact hin)
        rw [hg] at z
        simp (disch := first | omega | decide) only [g1, hgs, show ¬ mLa T (tLs T l) (tLs T (l + 1)) ≤ n by omega, show n < 50 by omega, nE_l, nE_r, nE_n, nLe_l, nLe_r, nLe_n, nLt_l, nLt_r, nLt_n, nA_l, nA_r, nI_add, nS_l, nS_n, nIn, nI_clamp, gI_I, gI_J, gI_D, gJ_J, gJ_I, gJ_D, true_and, and_true, false_and, and_false, if_true, if_false, false_implies, true_implies, not_true_eq_false, not_false_eq_true, bI_0, bI_1, Nat.reduceEqDiff, eq_self, nMax, nMin]
        exact gWp_up z (by (repeat (first | exact gUp.nil | refine gUp.cs ?_ | refine gUp.cn ?_)))
  refine vc_218 ?_
  simp (disch := first | omega | decide) only [gp, show tLs T l < 51 by omega, nE_l, nE_r, nE_n, nLe_l, nLe_r, nLe_n, nLt_l, nLt_r, nLt_n, nA_l, nA_r, nI_add, nS_l, nS_n, nIn, nI_clamp, gI_I, gI_J, gI_D, gJ_J, gJ_I, gJ_D, true_and, and_true, false_and, and_false, if_true, if_false, false_implies, true_implies, not_true_eq_false, not_false_eq_true, bI_0, bI_1, Nat.reduceEqDiff, eq_self, nMax, nMin]
  have z := loop (mLa T (tLs T l) (tLs T (l + 1)) - mPtT T (tLs T l)) (mPtT T (tLs T l)) (gsI μ 1 29 0) (by omega) (Nat.le_refl _) ((mF.rf _ _ μ).f 29 _ (by decide)) (by rw [← hS, Nat.sub_self]; simp (disch := first | omega | decide) only [nE_l, nE_r, nE_n, nLe_l, nLe_r, nLe_n, nLt_l, nLt_r, nLt_n, nA_l, nA_r, nI_add, nS_l, nS_n, nIn, nI_clamp, gI_I, gI_J, gI_D, gJ_J, gJ_I, gJ_D, true_and, and_true, false_and, and_false, if_true, if_false, false_implies, true_implies, not_true_eq_false, not_false_eq_true, bI_0, bI_1, Nat.reduceEqDiff, eq_self, nMax, nMin]) (fun x hx => by rw [← hS, Nat.sub_self] at hx; exact absurd hx (Nat.not_lt_zero x))
  rw [← hS, Nat.sub_self] at z
  exact z
end
