/-! THE CLASS'S LINES -/
def lO (x : Nat) : Int64 := if x = 0 then -1 else lN (x - 1)
theorem l1T : (-1 : Int64).toInt = -1 := rfl
theorem lO_T {x : Nat} (h : x < 2 ^ 62) : (lO x).toInt = (x : Int) - 1 := by
  unfold lO
  split
  · rename_i q
    rw [q, l1T]
    rfl
  · rw [pk_lT (by omega)]
    omega
theorem lO_none {x : Nat} (h : x < 2 ^ 62) : (lg_cmp (lO x) (-1 : Int64) = 0) = (x = 0) := by
  apply propext
  rw [lg_cmp_eq, ← Int64.toInt_inj, lO_T h, l1T]
  omega
theorem lO_eq {x y : Nat} (h : x < 2 ^ 62) (h' : y < 2 ^ 62) : (lg_cmp (lO x) (lO y) = 0) = (x = y) := by
  apply propext
  rw [lg_cmp_eq, ← Int64.toInt_inj, lO_T h, lO_T h']
  omega
theorem lO_ge {x y : Nat} (h : x < 2 ^ 62) (h' : y < 2 ^ 62) : (0 ≤ lg_cmp (lO x) (lO y)) = (y ≤ x) := by
  apply propext
  rw [lg_cmp_ge, Int64.le_iff_toInt_le, lO_T h, lO_T h']
  omega
theorem lO_add {x d : Nat} (h : x ≠ 0) : lO x + lN d = lO (x + d) := by
  unfold lO
  rw [if_neg h, if_neg (by omega), lN_add, show x + d - 1 = x - 1 + d by omega]
theorem lO_pos {x : Nat} (h : x ≠ 0) : lO x = lN (x - 1) := if_neg h
theorem nNb (b : Bool) : vp_nar .boolean (bI b) = bI b := by cases b <;> decide
theorem nNb0 : vp_nar .boolean (0 : Int32) = bI false := by decide
theorem nNb1 : vp_nar .boolean (1 : Int32) = bI true := by decide
theorem nBb (b : Bool) : narrow .boolean (.int (bI b)) = .int (bI b) := by cases b <;> decide
theorem s_0 {q n : Nat} {v : Int32} {μ : gMu} {P : gMu → gRes → Prop} (hq : gArr q = some (0, n)) (hsc : q ≠ gSC) (hn : n ≤ 128) (h : ∀ μ', gSm [q] μ μ' → (∀ j, j < n → gI μ' q j = v) → P μ' (.inl none)) : gCl' 0 [.ref q, .int v] μ P := by
  have loop : ∀ r k μ', k + r = n → gSm [q] μ μ' → (∀ j, j < k → gI μ' q j = v) → gWp none 0 (5, [some (.ref q), some (.int v), some (.int (nI k)), some (.int (nI n))], [], μ') 0 P := by
    intro r
    induction r with
    | zero =>
      intro k μ' hr hs ha
      have hk : k = n := by omega
      subst hk
      refine vc_0_5 hq hsc ?_
      simp (disch := first | omega | decide) only [Nat.le_refl, nE_l, nE_r, nE_n, nLe_l, nLe_r, nLe_n, nLt_l, nLt_r, nLt_n, nA_l, nA_r, nI_add, nS_l, nS_n, nIn, nI_clamp, gI_I, gI_J, gI_D, gJ_J, gJ_I, gJ_D, true_and, and_true, false_and, and_false, if_true, if_false, false_implies, true_implies, not_true_eq_false, not_false_eq_true, bI_0, bI_1, Nat.reduceEqDiff, eq_self, nMax, nMin]
      exact h μ' hs ha
    | succ r ih =>
      intro k μ' hr hs ha
      refine vc_0_5 hq hsc ?_
      simp (disch := first | omega | decide) only [show ¬ n ≤ k by omega, show k < n by omega, nE_l, nE_r, nE_n, nLe_l, nLe_r, nLe_n, nLt_l, nLt_r, nLt_n, nA_l, nA_r, nI_add, nS_l, nS_n, nIn, nI_clamp, gI_I, gI_J, gI_D, gJ_J, gJ_I, gJ_D, true_and, and_true, false_and, and_false, if_true, if_false, false_implies, true_implies, not_true_eq_false, not_false_eq_true, bI_0, bI_1, Nat.reduceEqDiff, eq_self, nMax, nMin]
      refine ih (k + 1) _ (by omega) (hs.i q k v (List.mem_singleton.mpr rfl)) (fun j hj => ?_)
      rw [gI_I]
      by_cases e : j = k
      · rw [if_pos ⟨rfl, e⟩]
      · rw [if_neg (fun x => e x.2)]
        exact ha j (by omega)
  exact vc_0 hq hsc (loop n 0 μ (by omega) (gSm.rf _ _) (fun j hj => absurd hj (Nat.not_lt_zero j)))
theorem s_39 {q n : Nat} {v : Int64} {μ : gMu} {P : gMu → gRes → Prop} (hq : gArr q = some (3, n)) (hsc : q ≠ gSC) (hn : n ≤ 128) (h : ∀ μ', gSm [q] μ μ' → (∀ j, j < n → gJ μ' q j = v) → P μ' (.inl none)) : gCl' 39 [.ref q, .long v] μ P := by
  have loop : ∀ r k μ', k + r = n → gSm [q] μ μ' → (∀ j, j < k → gJ μ' q j = v) → gWp none 39 (6, [some (.ref q), some (.long v), none, some (.int (nI k)), some (.int (nI n))], [], μ') 0 P := by
    intro r
    induction r with
    | zero =>
      intro k μ' hr hs ha
      have hk : k = n := by omega
      subst hk
      refine vc_39_6 hq hsc ?_
      simp (disch := first | omega | decide) only [Nat.le_refl, nE_l, nE_r, nE_n, nLe_l, nLe_r, nLe_n, nLt_l, nLt_r, nLt_n, nA_l, nA_r, nI_add, nS_l, nS_n, nIn, nI_clamp, gI_I, gI_J, gI_D, gJ_J, gJ_I, gJ_D, true_and, and_true, false_and, and_false, if_true, if_false, false_implies, true_implies, not_true_eq_false, not_false_eq_true, bI_0, bI_1, Nat.reduceEqDiff, eq_self, nMax, nMin]
      exact h μ' hs ha
    | succ r ih =>
      intro k μ' hr hs ha
      refine vc_39_6 hq hsc ?_
      simp (disch := first | omega | decide) only [show ¬ n ≤ k by omega, show k < n by omega, nE_l, nE_r, nE_n, nLe_l, nLe_r, nLe_n, nLt_l, nLt_r, nLt_n, nA_l, nA_r, nI_add, nS_l, nS_n, nIn, nI_clamp, gI_I, gI_J, gI_D, gJ_J, gJ_I, gJ_D, true_and, and_true, false_and, and_false, if_true, if_false, false_implies, true_implies, not_true_eq_false, not_false_eq_true, bI_0, bI_1, Nat.reduceEqDiff, eq_self, nMax, nMin]
      refine ih (k + 1) _ (by omega) (hs.j q k v (List.mem_singleton.mpr rfl)) (fun j hj => ?_)
      rw [gJ_J]
      by_cases e : j = k
      · rw [if_pos ⟨rfl, e⟩]
      · rw [if_neg (fun x => e x.2)]
        exact ha j (by omega)
  exact vc_39 hq hsc (loop n 0 μ (by omega) (gSm.rf _ _) (fun j hj => absurd hj (Nat.not_lt_zero j)))
theorem yN_mod {f : Nat → Nat} (hf : ∀ s, 0 < s → f s < s) {p : Nat} (hp : p < 64) : yN f p % 64 = p := by
  by_cases h : p = 0
  · subst h; rfl
  · rw [yN_step hf (by omega)]
    omega
theorem yN_lt {f : Nat → Nat} (hf : ∀ s, 0 < s → f s < s) {p q : Nat} (hp : 0 < p) (hq : 0 < q) (hp2 : p < 64) (hq2 : q < 64) : (yN f p < yN f q) ↔ ((f p = f q ∧ p < q) ∨ (f p ≠ f q ∧ yN f (f p) < yN f (f q))) := by
  have h1 := hf p hp
  have h2 := hf q hq
  have h3 := yN_mod hf (p := f p) (by omega)
  have h4 := yN_mod hf (p := f q) (by omega)
  rw [yN_step hf hp, yN_step hf hq]
  by_cases h : f p = f q
  · rw [h]
    omega
  · have h5 : yN f (f p) ≠ yN f (f q) := fun e => by rw [e] at h3; omega
    omega
theorem s_35 {f c : Nat → Nat} {al : Nat → Prop} {N a b : Nat} {μ : gMu} {P : gMu → gRes → Prop} (hN : N ≤ 50) (hf : gAr μ 35 (N + 1) f) (hd : ∀ s, 0 < s → f s < s) (hc0 : c 0 = 0) (hc : ∀ s, 0 < s → s ≤ N → al s → al (f s) ∧ c s = c (f s) + 1) (ha : a < 50) (hb : b < 50) (ha2 : a ≤ N) (hb2 : b ≤ N) (haa : al a) (hab : al b) (hcc : c a = c b) (h : P μ (.inl (some (.int (bI (decide (yN f a < yN f b))))))) : gCl' 35 [.ref 32, .int (nI a), .int (nI b)] μ P := by
  have loop : ∀ r n p q w, n + r = 50 → p + n ≤ 49 → q + n ≤ 49 → p ≤ N → q ≤ N → al p → al q → c p = c q → P μ (.inl (some (.int (bI (if p = q then w else decide (yN f p < yN f q)))))) → gWp none 35 (11, [some (.ref 32), some (.int (nI a)), some (.int (nI b)), some (.int (bI w)), some (.int (nI p)), some (.int (nI q)), some (.int (nI n))], [], μ) 0 P := by
    intro r
    induction r with
    | zero => intro n p q w h1 h2; omega
    | succ r ih =>
      intro n p q w h1 h2 h3 h4 h5 h6 h7 h8 hp
      refine vc_35_11 ?_
      by_cases hpq : p = q
      · rw [if_pos hpq] at hp
        simp (disch := first | omega | decide) only [show ¬ 50 ≤ n by omega, hpq, not_true_eq_false, nE_l, nE_r, nE_n, nLe_l, nLe_r, nLe_n, nLt_l, nLt_r, nLt_n, nA_l, nA_r, nI_add, nS_l, nS_n, nIn, nI_clamp, gI_I, gI_J, gI_D, gJ_J, gJ_I, gJ_D, true_and, and_true, false_and, and_false, if_true, if_false, false_implies, true_implies, not_true_eq_false, not_false_eq_true, bI_0, bI_1, Nat.reduceEqDiff, eq_self, nMax, nMin]
        exact ⟨nBb w, hp⟩
      · rw [if_neg hpq] at hp
        have hp0 : 0 < p := by
          rcases Nat.eq_zero_or_pos p with e | e
          · subst e
            have := (hc q (by omega) h5 h7).2
            omega
          · exact e
        have hq0 : 0 < q := by
          rcases Nat.eq_zero_or_pos q with e | e
          · subst e
            have := (hc p (by omega) h4 h6).2
            omega
          · exact e
        have g1 := hf p (by omega)
        have g2 := hf q (by omega)
        have g3 := hd p hp0
        have g4 := hd q hq0
        have g5 := hc p hp0 h4 h6
        have g6 := hc q hq0 h5 h7
        have key := yN_lt hd hp0 hq0 (by omega) (by omega)
        simp (disch := first | omega | decide) only [show ¬ 50 ≤ n by omega, hpq, g1, g2, show p < 51 by omega, show q < 51 by omega, nE_l, nE_r, nE_n, nLe_l, nLe_r, nLe_n, nLt_l, nLt_r, nLt_n, nA_l, nA_r, nI_add, nS_l, nS_n, nIn, nI_clamp, gI_I, gI_J, gI_D, gJ_J, gJ_I, gJ_D, true_and, and_true, false_and, and_false, if_true, if_false, false_implies, true_implies, not_true_eq_false, not_false_eq_true, bI_0, bI_1, Nat.reduceEqDiff, eq_self, nMax, nMin]
        refine ⟨fun hle => ?_, fun hle => ?_⟩
        · refine ih (n + 1) (f p) (f q) false (by omega) (by omega) (by omega) (by omega) (by omega) g5.1 g6.1 (by omega) ?_
          have e : (if f p = f q then false else decide (yN f (f p) < yN f (f q))) = decide (yN f p < yN f q) := by
            by_cases h9 : f p = f q
            · rw [if_pos h9, decide_eq_false (by rw [key]; omega)]
            · rw [if_neg h9]
              exact decide_eq_decide.mpr (by rw [key]; omega)
          rw [e]
          exact hp
        · refine ih (n + 1) (f p) (f q) true (by omega) (by omega) (by omega) (by omega) (by omega) g5.1 g6.1 (by omega) ?_
          have e : (if f p = f q then true else decide (yN f (f p) < yN f (f q))) = decide (yN f p < yN f q) := by
            by_cases h9 : f p = f q
            · rw [if_pos h9, decide_eq_true (by rw [key]; omega)]
            · rw [if_neg h9]
              exact decide_eq_decide.mpr (by rw [key]; omega)
          rw [e]
          exact hp
  refine vc_35 (loop 50 0 a b false (by omega) (by omega) (by omega) ha2 hb2 haa hab hcc ?_)
  by_cases e : a = b
  · rw [if_pos e]
    rw [e, decide_eq_false (Nat.lt_irrefl _)] at h
    exact h
  · rw [if_neg e]
    exact h
theorem zOk_bd {P : Nat} {Q : Nat → Nat → Bool} {D : Nat → Nat → Nat} {Z : gZ} {u T : Nat} (h : zOk P Q D Z u T) (hD : ∀ i j, D i j ≤ 200000000) : ∀ n t, t ≤ n → t ≤ P → Z.b t ≤ 1 + 200000000 * t := by
  intro n
  induction n with
  | zero =>
    intro t ht _
    have : t = 0 := by omega
    subst this
    rw [h.1.1]
    omega
  | succ n ih =>
    intro t ht htP
    by_cases q : t = 0
    · subst q
      rw [h.1.1]
      omega
    · have h2 := h.2.1 t (by omega)
      rcases h.2.2.1 t (by omega) htP with a | ⟨-, -, a, -⟩
      · omega
      · have := ih (Z.f t) (by omega) (by omega)
        have := hD (Z.f t) t
        omega
theorem zOk_cd {P : Nat} {Q : Nat → Nat → Bool} {D : Nat → Nat → Nat} {Z : gZ} {u T : Nat} (h : zOk P Q D Z u T) : ∀ n t, t ≤ n → t ≤ P → Z.b t ≠ 0 → Z.c t ≤ t := by
  intro n
  induction n with
  | zero =>
    intro t ht _ _
    have : t = 0 := by omega
    subst this
    rw [h.1.2.1]
    omega
  | succ n ih =>
    intro t ht htP hb
    by_cases q : t = 0
    · subst q
      rw [h.1.2.1]
      omega
    · have h2 := h.2.1 t (by omega)
      rcases h.2.2.1 t (by omega) htP with a | ⟨e, -, -, a⟩
      · exact absurd a hb
      · have := ih (Z.f t) (by omega) (by omega) (h.2.2.2.2.2 _ e).1
        omega
def cZ (P : Nat) (Z : gZ) (μ : gMu) : Prop := (∀ t, t ≤ P → gJ μ 33 t = lO (Z.b t)) ∧ gAr μ 34 (P + 1) Z.c ∧ gAr μ 35 (P + 1) Z.f ∧ (∀ t, t ≤ P → gI μ 36 t = bI (Z.e t))
theorem cZ.sm {A : List Nat} {P : Nat} {Z : gZ} {μ μ' : gMu} (h : cZ P Z μ) (hs : gSm A μ μ') (h1 : 33 ∉ A) (h2 : 34 ∉ A) (h3 : 35 ∉ A) (h4 : 36 ∉ A) : cZ P Z μ' := ⟨fun t ht => by rw [hs.J h1, h.1 t ht], h.2.1.sm hs h2, h.2.2.1.sm hs h3, fun t ht => by rw [hs.I h4, h.2.2.2 t ht]⟩
theorem s_36 {X : xX} {Z : gZ} {u t T u' : Nat} {μ : gMu} {P : gMu → gRes → Prop} (hP : X.P ≤ 50) (hz : zOk X.P (xQ X) (xD X) Z u' T) (hc : cZ X.P Z μ) (hut : u < t) (ht : t ≤ X.P) (hu : Z.e u = true) (hT : zBt (xD X) Z u t → P μ (.inl (some (.int (bI true))))) (hF : ¬ zBt (xD X) Z u t → P μ (.inl (some (.int (bI false))))) : gCl' 36 [.ref 32, .int (nI u), .int (nI t), .long (lO (Z.b u + xD X u t))] μ P := by
  obtain ⟨c1, c2, c3, c4⟩ := hc
  have hbu := (hz.2.2.2.2.2 u hu).1
  have b1 := zOk_bd hz (xD_le X) u u (Nat.le_refl u) (by omega)
  have b2 := zOk_bd hz (xD_le X) t t (Nat.le_refl t) ht
  have b3 := xD_le X u t
  have g1 := c1 t ht
  have g2 := c2 u (by omega)
  have g3 := c2 t (by omega)
  have g4 := c3 t (by omega)
  have cu := zOk_cd hz u u (Nat.le_refl u) (by omega) hbu
  refine vc_36 ?_
  unfold zBt at hT hF
  by_cases hbt : Z.b t = 0
  · have e0 : (lg_cmp (lO 0) (-1 : Int64) = 0) = (0 = 0) := lO_none (by omega)
    simp (disch := first | omega | decide) only [g1, show t < 51 by omega, hbt, e0, nE_l, nE_r, nE_n, nLe_l, nLe_r, nLe_n, nLt_l, nLt_r, nLt_n, nA_l, nA_r, nI_add, nS_l, nS_n, nIn, nI_clamp, gI_I, gI_J, gI_D, gJ_J, gJ_I, gJ_D, true_and, and_true, false_and, and_false, if_true, if_false, false_implies, true_implies, not_true_eq_false, not_false_eq_true, bI_0, bI_1, Nat.reduceEqDiff, eq_self, nMax, nMin]
    exact hT (Or.inl hbt)
  · have ct := zOk_cd hz t t (Nat.le_refl t) ht hbt
    simp (disch := first | omega | decide) only [g1, g2, g3, g4, show t < 51 by omega, show u < 51 by omega, lO_none (show Z.b t < 2 ^ 62 by omega), hbt, lO_eq (show Z.b u + xD X u t < 2 ^ 62 by omega) (show Z.b t < 2 ^ 62 by omega), lO_ge (show Z.b u + xD X u t < 2 ^ 62 by omega) (show Z.b t < 2 ^ 62 by omega), nE_l, nE_r, nE_n, nLe_l, nLe_r, nLe_n, nLt_l, nLt_r, nLt_n, nA_l, nA_r, nI_add, nS_l, nS_n, nIn, nI_clamp, gI_I, gI_J, gI_D, gJ_J, gJ_I, gJ_D, true_and, and_true, false_and, and_false, if_true, if_false, false_implies, true_implies, not_true_eq_false, not_false_eq_true, bI_0, bI_1, Nat.reduceEqDiff, eq_self, nMax, nMin]
    refine ⟨fun hs => ⟨fun hcc => ?_, fun hcc => ⟨fun hle => ?_, fun hle => ?_⟩⟩, fun hs => ⟨fun hle => ?_, fun hle => ?_⟩⟩
    · rcases hz.2.2.1 t (by omega) ht with q | ⟨q1, q2, q3, q4⟩
      · exact absurd q hbt
      · have hft := hz.2.1 t (by omega)
        refine s_35 (al := fun s => Z.b s ≠ 0) (c := Z.c) hP c3 hz.2.1 hz.1.2.1 (fun s hs hsP has => ?_) (by omega) (by omega) (by omega) (by omega) hbu (hz.2.2.2.2.2 _ q1).1 (by omega) ⟨_, rfl, nBb _, ?_⟩
        · rcases hz.2.2.1 s hs hsP with r | ⟨r1, -, -, r4⟩
          · exact absurd r has
          · exact ⟨(hz.2.2.2.2.2 _ r1).1, r4⟩
        · by_cases hy : yN Z.f u < yN Z.f (Z.f t)
          · rw [decide_eq_true hy]
            exact hT (by omega)
          · rw [decide_eq_false hy]
            exact hF (by omega)
    · exact hF (by omega)
    · exact hT (by omega)
    · exact hF (by omega)
    · exact hT (by omega)
theorem cZ_put {X : xX} {Z : gZ} {u t : Nat} {μ : gMu} (h : cZ X.P Z μ) (hut : u < t) : cZ X.P (zPut (xD X) Z u t) (gsI (gsI (gsJ μ 33 t (lO (Z.b u + xD X u t))) 34 t (nI (Z.c u + 1))) 35 t (nI u)) := by
  obtain ⟨c1, c2, c3, c4⟩ := h
  refine ⟨fun s hs => ?_, ?_, ?_, fun s hs => ?_⟩
  · simp (disch := first | omega | decide) only [nE_l, nE_r, nE_n, nLe_l, nLe_r, nLe_n, nLt_l, nLt_r, nLt_n, nA_l, nA_r, nI_add, nS_l, nS_n, nIn, nI_clamp, gI_I, gI_J, gI_D, gJ_J, gJ_I, gJ_D, true_and, and_true, false_and, and_false, if_true, if_false, false_implies, true_implies, not_true_eq_false, not_false_eq_true, bI_0, bI_1, Nat.reduceEqDiff, eq_self, nMax, nMin]
    show _ = lO (upN Z.b t _ s)
    unfold upN
    split
    · rfl
    · exact c1 s hs
  · exact ((c2.skipJ).set).skip (by decide)
  · exact ((c3.skipJ).skip (by decide)).set
  · simp (disch := first | omega | decide) only [nE_l, nE_r, nE_n, nLe_l, nLe_r, nLe_n, nLt_l, nLt_r, nLt_n, nA_l, nA_r, nI_add, nS_l, nS_n, nIn, nI_clamp, gI_I, gI_J, gI_D, gJ_J, gJ_I, gJ_D, true_and, and_true, false_and, and_false, if_true, if_false, false_implies, true_implies, not_true_eq_false, not_false_eq_true, bI_0, bI_1, Nat.reduceEqDiff, eq_self, nMax, nMin]
    exact c4 s hs
theorem s_38 {X : xX} {Z : gZ} {u : Nat} {μ : gMu} {P : gMu → gRes → Prop} (hX : xOk X) (hx : cX X μ) (h6 : gI μ 32 6 = nI X.W) (hz : zOk X.P (xQ X) (xD X) Z u (u + 1)) (hmax : ∀ v, Z.e v = true → Z.b v ≤ Z.b u) (hu : Z.e u = true) (hc : cZ X.P Z μ) (h : ∀ μ' Z', gSm [33, 34, 35] μ μ' → cZ X.P Z' μ' → zOk X.P (xQ X) (xD X) Z' X.P 0 → Z'.e = Z.e → P μ' (.inl none)) : gCl' 38 [.ref 32, .int (nI u)] μ P := by
  have hP : X.P ≤ 50 := Nat.le_trans hX.P hX.G
  have huP := (hz.2.2.2.2.2 u hu).2
  have loop : ∀ r t μ' Z', t + r = X.P + 1 → u < t → gSm [33, 34, 35] μ μ' → cZ X.P Z' μ' → zOk X.P (xQ X) (xD X) Z' u t → (∀ v, Z'.e v = true → Z'.b v ≤ Z'.b u) → Z'.e = Z.e → gWp none 38 (4, [some (.ref 32), some (.int (nI u)), some (.int (nI t)), none, none], [], μ') 0 P := by
    intro r
    induction r with
    | zero =>
      intro t μ' Z' hr hut hs hc' hz' hm he
      have ht : t = X.P + 1 := by omega
      subst ht
      refine vc_38_4 ?_
      have h29 : gI μ' 29 3 = nI X.P := by rw [hs.I (by decide), hx.1]
      simp (disch := first | omega | decide) only [h29, show X.P < X.P + 1 by omega, nE_l, nE_r, nE_n, nLe_l, nLe_r, nLe_n, nLt_l, nLt_r, nLt_n, nA_l, nA_r, nI_add, nS_l, nS_n, nIn, nI_clamp, gI_I, gI_J, gI_D, gJ_J, gJ_I, gJ_D, true_and, and_true, false_and, and_false, if_true, if_false, false_implies, true_implies, not_true_eq_false, not_false_eq_true, bI_0, bI_1, Nat.reduceEqDiff, eq_self, nMax, nMin]
      exact h μ' Z' hs hc' (zOk_full hz') he
    | succ r ih =>
      intro t μ' Z' hr hut hs hc' hz' hm he
      have hx' : cX X μ' := hx.sm hs (by decide) (by decide) (by decide) (by decide) (by decide) (by decide)
      have h6' : gI μ' 32 6 = nI X.W := by rw [hs.I (by decide), h6]
      have hu' : Z'.e u = true := by rw [he]; exact hu
      have hbu := (hz'.2.2.2.2.2 u hu').1
      have cu := zOk_cd hz' u u (Nat.le_refl u) (by omega) hbu
      refine vc_38_4 ?_
      simp (disch := first | omega | decide) only [hx'.1, show ¬ X.P < t by omega, nE_l, nE_r, nE_n, nLe_l, nLe_r, nLe_n, nLt_l, nLt_r, nLt_n, nA_l, nA_r, nI_add, nS_l, nS_n, nIn, nI_clamp, gI_I, gI_J, gI_D, gJ_J, gJ_I, gJ_D, true_and, and_true, false_and, and_false, if_true, if_false, false_implies, true_implies, not_true_eq_false, not_false_eq_true, bI_0, bI_1, Nat.reduceEqDiff, eq_self, nMax, nMin]
      refine s_37 hX hx' hut (by omega) h6' ⟨_, rfl, ?_⟩
      simp (disch := first | omega | decide) only [Bool.not_eq_false, nE_l, nE_r, nE_n, nLe_l, nLe_r, nLe_n, nLt_l, nLt_r, nLt_n, nA_l, nA_r, nI_add, nS_l, nS_n, nIn, nI_clamp, gI_I, gI_J, gI_D, gJ_J, gJ_I, gJ_D, true_and, and_true, false_and, and_false, if_true, if_false, false_implies, true_implies, not_true_eq_false, not_false_eq_true, bI_0, bI_1, Nat.reduceEqDiff, eq_self, nMax, nMin]
      refine ⟨fun hq => ?_, fun hq => ?_⟩
      · exact ih (t + 1) μ' Z' (by omega) (by omega) hs hc' (zOk_no hz' hq) hm he
      · try simp (disch := first | omega | decide) only [show u < 51 by omega, nE_l, nE_r, nE_n, nLe_l, nLe_r, nLe_n, nLt_l, nLt_r, nLt_n, nA_l, nA_r, nI_add, nS_l, nS_n, nIn, nI_clamp, gI_I, gI_J, gI_D, gJ_J, gJ_I, gJ_D, true_and, and_true, false_and, and_false, if_true, if_false, false_implies, true_implies, not_true_eq_false, not_false_eq_true, bI_0, bI_1, Nat.reduceEqDiff, eq_self, nMax, nMin]
        refine s_34 hX hx' hut (by omega) h6' ⟨_, rfl, ?_⟩
        simp (disch := first | omega | decide) only [hc'.1 u (by omega), lO_add hbu, nE_l, nE_r, nE_n, nLe_l, nLe_r, nLe_n, nLt_l, nLt_r, nLt_n, nA_l, nA_r, nI_add, nS_l, nS_n, nIn, nI_clamp, gI_I, gI_J, gI_D, gJ_J, gJ_I, gJ_D, true_and, and_true, false_and, and_false, if_true, if_false, false_implies, true_implies, not_true_eq_false, not_false_eq_true, bI_0, bI_1, Nat.reduceEqDiff, eq_self, nMax, nMin]
        refine s_36 hP hz' hc' hut (by omega) hu' (fun hb => ⟨_, rfl, ?_⟩) (fun hb => ⟨_, rfl, ?_⟩)
        · obtain ⟨z1, z2, z3, -⟩ := zOk_put (xD_pos X) hz' hut (by omega) hq hu' hm hb
          simp (disch := first | omega | decide) only [Bool.true_eq_false, hc'.2.1 u (by omega), show u < 51 by omega, show t < 51 by omega, nE_l, nE_r, nE_n, nLe_l, nLe_r, nLe_n, nLt_l, nLt_r, nLt_n, nA_l, nA_r, nI_add, nS_l, nS_n, nIn, nI_clamp, gI_I, gI_J, gI_D, gJ_J, gJ_I, gJ_D, true_and, and_true, false_and, and_false, if_true, if_false, false_implies, true_implies, not_true_eq_false, not_false_eq_true, bI_0, bI_1, Nat.reduceEqDiff, eq_self, nMax, nMin]
          refine gWp_up (ih (t + 1) _ (zPut (xD X) Z' u t) (by omega) (by omega) (((hs.j 33 _ _ (by decide)).i 34 _ _ (by decide)).i 35 _ _ (by decide)) (cZ_put hc' hut) z1 z2 he) (by (repeat (first | exact gUp.nil | refine gUp.cs ?_ | refine gUp.cn ?_)))
        · simp (disch := first | omega | decide) only [nE_l, nE_r, nE_n, nLe_l, nLe_r, nLe_n, nLt_l, nLt_r, nLt_n, nA_l, nA_r, nI_add, nS_l, nS_n, nIn, nI_clamp, gI_I, gI_J, gI_D, gJ_J, gJ_I, gJ_D, true_and, and_true, false_and, and_false, if_true, if_false, false_implies, true_implies, not_true_eq_false, not_false_eq_true, bI_0, bI_1, Nat.reduceEqDiff, eq_self, nMax, nMin]
          exact gWp_up (ih (t + 1) μ' Z' (by omega) (by omega) hs hc' (zOk_worse hz' hut hb) hm he) (by (repeat (first | exact gUp.nil | refine gUp.cs ?_ | refine gUp.cn ?_)))
  refine vc_38 ?_
  simp (disch := first | omega | decide) only [nE_l, nE_r, nE_n, nLe_l, nLe_r, nLe_n, nLt_l, nLt_r, nLt_n, nA_l, nA_r, nI_add, nS_l, nS_n, nIn, nI_clamp, gI_I, gI_J, gI_D, gJ_J, gJ_I, gJ_D, true_and, and_true, false_and, and_false, if_true, if_false, false_implies, true_implies, not_true_eq_false, not_false_eq_true, bI_0, bI_1, Nat.reduceEqDiff, eq_self, nMax, nMin]
  exact loop (X.P - u) (u + 1) μ Z (by omega) (by omega) (gSm.rf _ _) hc hz hmax rfl
theorem s_27 {X : xX} {Z : gZ} {μ : gMu} {P : gMu → gRes → Prop} (hX : xOk X) (hx : cX X μ) (hz : zOk X.P (xQ X) (xD X) Z X.P 0) (hc : cZ X.P Z μ) (h1 : ∀ u, u < X.P → Z.e u = false → Z.b u ≠ 0 → (∀ t, t < X.P → Z.e t = false → Z.b t ≠ 0 → Z.b u ≤ Z.b t) → P μ (.inl (some (.int (nI u))))) (h2 : (∀ t, t < X.P → Z.e t = true ∨ Z.b t = 0) → P μ (.inl (some (.int (-1))))) : gCl' 27 [.ref 32] μ P := by
  have hP : X.P ≤ 50 := Nat.le_trans hX.P hX.G
  obtain ⟨c1, c2, c3, c4⟩ := hc
  have loop : ∀ r i (x : Int32), i + r = X.P → ((x = -1 ∧ ∀ t, t < i → Z.e t = true ∨ Z.b t = 0) ∨ (∃ u, x = nI u ∧ u < i ∧ Z.e u = false ∧ Z.b u ≠ 0 ∧ ∀ t, t < i → Z.e t = false → Z.b t ≠ 0 → Z.b u ≤ Z.b t)) → gWp none 27 (4, [some (.ref 32), some (.int x), some (.int (nI i))], [], μ) 0 P := by
    intro r
    induction r with
    | zero =>
      intro i x hr hi
      have : i = X.P := by omega
      subst this
      refine vc_27_4 ?_
      simp (disch := first | omega | decide) only [hx.1, Nat.le_refl, nE_l, nE_r, nE_n, nLe_l, nLe_r, nLe_n, nLt_l, nLt_r, nLt_n, nA_l, nA_r, nI_add, nS_l, nS_n, nIn, nI_clamp, gI_I, gI_J, gI_D, gJ_J, gJ_I, gJ_D, true_and, and_true, false_and, and_false, if_true, if_false, false_implies, true_implies, not_true_eq_false, not_false_eq_true, bI_0, bI_1, Nat.reduceEqDiff, eq_self, nMax, nMin]
      rcases hi with ⟨rfl, hi⟩ | ⟨u, rfl, u1, u2, u3, u4⟩
      · exact h2 hi
      · exact h1 u u1 u2 u3 u4
    | succ r ih =>
      intro i x hr hi
      have b2 := zOk_bd hz (xD_le X) i i (Nat.le_refl i) (by omega)
      have g1 := c1 i (by omega)
      have g4 := c4 i (by omega)
      have keep : (Z.e i = true ∨ Z.b i = 0) → gWp none 27 (4, [some (.ref 32), some (.int x), some (.int (nI (i + 1)))], [], μ) 0 P := by
        intro q
        refine ih (i + 1) x (by omega) ?_
        rcases hi with ⟨e, hi⟩ | ⟨u, e, u1, u2, u3, u4⟩
        · exact Or.inl ⟨e, fun t ht => by
            by_cases qt : t = i
            · rw [qt]; exact q
            · exact hi t (by omega)⟩
        · refine Or.inr ⟨u, e, by omega, u2, u3, fun t ht t1 t2 => ?_⟩
          by_cases qt : t = i
          · subst qt
            rcases q with q | q
            · rw [q] at t1; cases t1
            · exact absurd q t2
          · exact u4 t (by omega) t1 t2
      refine vc_27_4 ?_
      simp (disch := first | omega | decide) only [hx.1, show ¬ X.P ≤ i by omega, g1, g4, show i < 51 by omega, lO_none (show Z.b i < 2 ^ 62 by omega), Bool.not_eq_false, nE_l, nE_r, nE_n, nLe_l, nLe_r, nLe_n, nLt_l, nLt_r, nLt_n, nA_l, nA_r, nI_add, nS_l, nS_n, nIn, nI_clamp, gI_I, gI_J, gI_D, gJ_J, gJ_I, gJ_D, true_and, and_true, false_and, and_false, if_true, if_false, false_implies, true_implies, not_true_eq_false, not_false_eq_true, bI_0, bI_1, Nat.reduceEqDiff, eq_self, nMax, nMin]
      refine ⟨fun he => keep (Or.inl he), fun he => ⟨fun hb => keep (Or.inr hb), fun hb => ?_⟩⟩
      rcases hi with ⟨rfl, hi⟩ | ⟨u, rfl, u1, u2, u3, u4⟩
      · simp (disch := first | omega | decide) only [nE_l, nE_r, nE_n, nLe_l, nLe_r, nLe_n, nLt_l, nLt_r, nLt_n, nA_l, nA_r, nI_add, nS_l, nS_n, nIn, nI_clamp, gI_I, gI_J, gI_D, gJ_J, gJ_I, gJ_D, true_and, and_true, false_and, and_false, if_true, if_false, false_implies, true_implies, not_true_eq_false, not_false_eq_true, bI_0, bI_1, Nat.reduceEqDiff, eq_self, nMax, nMin]
        refine ih (i + 1) (nI i) (by omega) (Or.inr ⟨i, rfl, by omega, he, hb, fun t ht t1 t2 => ?_⟩)
        by_cases qt : t = i
        · rw [qt]; exact Nat.le_refl _
        · rcases hi t (by omega) with q | q
          · rw [q] at t1; cases t1
          · exact absurd q t2
      · have b3 := zOk_bd hz (xD_le X) u u (Nat.le_refl u) (by omega)
        have g2 := c1 u (by omega)
        have e3 : ¬ nI u = -1 := nI_nm1 (by omega)
        simp (disch := first | omega | decide) only [e3, g2, show u < 51 by omega, lO_ge (show Z.b i < 2 ^ 62 by omega) (show Z.b u < 2 ^ 62 by omega), nE_l, nE_r, nE_n, nLe_l, nLe_r, nLe_n, nLt_l, nLt_r, nLt_n, nA_l, nA_r, nI_add, nS_l, nS_n, nIn, nI_clamp, gI_I, gI_J, gI_D, gJ_J, gJ_I, gJ_D, true_and, and_true, false_and, and_false, if_true, if_false, false_implies, true_implies, not_true_eq_false, not_false_eq_true, bI_0, bI_1, Nat.reduceEqDiff, eq_self, nMax, nMin]
        refine ⟨fun hle => ?_, fun hle => ?_⟩
        · refine ih (i + 1) (nI u) (by omega) (Or.inr ⟨u, rfl, by omega, u2, u3, fun t ht t1 t2 => ?_⟩)
          by_cases qt : t = i
          · rw [qt]; exact hle
          · exact u4 t (by omega) t1 t2
        · refine ih (i + 1) (nI i) (by omega) (Or.inr ⟨i, rfl, by omega, he, hb, fun t ht t1 t2 => ?_⟩)
          by_cases qt : t = i
          · rw [qt]; exact Nat.le_refl _
          · have := u4 t (by omega) t1 t2
            omega
  exact vc_27 (loop X.P 0 (-1) (by omega) (Or.inl ⟨rfl, fun t ht => absurd ht (Nat.not_lt_zero t)⟩))
def z00 : gZ := (fun t => if t = 0 then 1 else 0, fun _ => 0, fun _ => 0, fun _ => false)
theorem z00_ok (P : Nat) (Q : Nat → Nat → Bool) (D : Nat → Nat → Nat) : zOk P Q D z00 P 0 := by
  refine ⟨⟨rfl, rfl, rfl⟩, fun s hs => hs, fun t ht _ => Or.inl (if_neg (by omega)), fun v t _ _ hv => ?_, fun v t hv => ?_, fun v hv => ?_⟩
  · exact absurd (show (false : Bool) = true from hv) (by decide)
  · exact absurd (show (false : Bool) = true from hv) (by decide)
  · exact absurd (show (false : Bool) = true from hv) (by decide)
theorem s_40 {X : xX} {μ : gMu} {P : gMu → gRes → Prop} (hX : xOk X) (hx : cX X μ) (h : ∀ μ', gSm [33, 34, 35, 36] μ μ' → cZ X.P z00 μ' → P μ' (.inl none)) : gCl' 40 [.ref 32] μ P := by
  have hP : X.P ≤ 50 := Nat.le_trans hX.P hX.G
  refine vc_40 (s_39 rfl (by decide) (by decide) (fun μ1 hs1 ha1 => ⟨rfl, s_0 rfl (by decide) (by decide) (fun μ2 hs2 ha2 => ⟨rfl, s_0 rfl (by decide) (by decide) (fun μ3 hs3 ha3 => ⟨rfl, ?_⟩)⟩)⟩))
  have hs03 : gSm [33, 34, 35, 36] μ μ3 := ((hs1.up (by decide)).tr (hs2.up (by decide))).tr (hs3.up (by decide))
  have b3 : ∀ j, j < 51 → gI μ3 35 j = nI 0 := ha3
  have b2 : ∀ j, j < 51 → gI μ3 34 j = nI 0 := fun j hj => by rw [hs3.I (by decide)]; exact ha2 j hj
  have b1 : ∀ j, j < 51 → gJ μ3 33 j = -1 := fun j hj => by rw [hs3.J (by decide), hs2.J (by decide)]; exact ha1 j hj
  have loop : ∀ r i μ', i + r = X.P + 1 → gSm [36] μ3 μ' → (∀ t, t < i → gI μ' 36 t = bI false) → gWp none 40 (28, [some (.ref 32), some (.int (nI i))], [], μ') 0 P := by
    intro r
    induction r with
    | zero =>
      intro i μ' hr hs ha
      have : i = X.P + 1 := by omega
      subst this
      have h29 : gI μ' 29 3 = nI X.P := by rw [hs.I (by decide), hs03.I (by decide)]; exact hx.1
      refine vc_40_28 ?_
      simp (disch := first | omega | decide) only [h29, show X.P < X.P + 1 by omega, sb_cl0, nE_l, nE_r, nE_n, nLe_l, nLe_r, nLe_n, nLt_l, nLt_r, nLt_n, nA_l, nA_r, nI_add, nS_l, nS_n, nIn, nI_clamp, gI_I, gI_J, gI_D, gJ_J, gJ_I, gJ_D, true_and, and_true, false_and, and_false, if_true, if_false, false_implies, true_implies, not_true_eq_false, not_false_eq_true, bI_0, bI_1, Nat.reduceEqDiff, eq_self, nMax, nMin]
      refine ⟨vp_in_nI (n := 0) (by decide) (by decide), ?_⟩
      refine h _ (((hs03.tr (hs.up (by decide)))).j 33 _ _ (by decide)) ⟨fun t ht => ?_, fun t ht => ?_, fun t ht => ?_, fun t ht => ?_⟩
      · by_cases q : t = 0
        · subst q
          simp (disch := first | omega | decide) only [nE_l, nE_r, nE_n, nLe_l, nLe_r, nLe_n, nLt_l, nLt_r, nLt_n, nA_l, nA_r, nI_add, nS_l, nS_n, nIn, nI_clamp, gI_I, gI_J, gI_D, gJ_J, gJ_I, gJ_D, true_and, and_true, false_and, and_false, if_true, if_false, false_implies, true_implies, not_true_eq_false, not_false_eq_true, bI_0, bI_1, Nat.reduceEqDiff, eq_self, nMax, nMin]
          rfl
        · simp (disch := first | omega | decide) only [q, nE_l, nE_r, nE_n, nLe_l, nLe_r, nLe_n, nLt_l, nLt_r, nLt_n, nA_l, nA_r, nI_add, nS_l, nS_n, nIn, nI_clamp, gI_I, gI_J, gI_D, gJ_J, gJ_I, gJ_D, true_and, and_true, false_and, and_false, if_true, if_false, false_implies, true_implies, not_true_eq_false, not_false_eq_true, bI_0, bI_1, Nat.reduceEqDiff, eq_self, nMax, nMin]
          rw [hs.J (by decide), b1 t (by omega)]
          show (-1 : Int64) = lO (if t = 0 then 1 else 0)
          rw [if_neg q]
          rfl
      · simp (disch := first | omega | decide) only [nE_l, nE_r, nE_n, nLe_l, nLe_r, nLe_n, nLt_l, nLt_r, nLt_n, nA_l, nA_r, nI_add, nS_l, nS_n, nIn, nI_clamp, gI_I, gI_J, gI_D, gJ_J, gJ_I, gJ_D, true_and, and_true, false_and, and_false, if_true, if_false, false_implies, true_implies, not_true_eq_false, not_false_eq_true, bI_0, bI_1, Nat.reduceEqDiff, eq_self, nMax, nMin]
        rw [hs.I (by decide)]
        exact b2 t (by omega)
      · simp (disch := first | omega | decide) only [nE_l, nE_r, nE_n, nLe_l, nLe_r, nLe_n, nLt_l, nLt_r, nLt_n, nA_l, nA_r, nI_add, nS_l, nS_n, nIn, nI_clamp, gI_I, gI_J, gI_D, gJ_J, gJ_I, gJ_D, true_and, and_true, false_and, and_false, if_true, if_false, false_implies, true_implies, not_true_eq_false, not_false_eq_true, bI_0, bI_1, Nat.reduceEqDiff, eq_self, nMax, nMin]
        rw [hs.I (by decide)]
        exact b3 t (by omega)
      · simp (disch := first | omega | decide) only [nE_l, nE_r, nE_n, nLe_l, nLe_r, nLe_n, nLt_l, nLt_r, nLt_n, nA_l, nA_r, nI_add, nS_l, nS_n, nIn, nI_clamp, gI_I, gI_J, gI_D, gJ_J, gJ_I, gJ_D, true_and, and_true, false_and, and_false, if_true, if_false, false_implies, true_implies, not_true_eq_false, not_false_eq_true, bI_0, bI_1, Nat.reduceEqDiff, eq_self, nMax, nMin]
        exact ha t (by omega)
    | succ r ih =>
      intro i μ' hr hs ha
      have h29 : gI μ' 29 3 = nI X.P := by rw [hs.I (by decide), hs03.I (by decide)]; exact hx.1
      refine vc_40_28 ?_
      simp (disch := first | omega | decide) only [h29, show ¬ X.P < i by omega, show i < 51 by omega, nNb0, nE_l, nE_r, nE_n, nLe_l, nLe_r, nLe_n, nLt_l, nLt_r, nLt_n, nA_l, nA_r, nI_add, nS_l, nS_n, nIn, nI_clamp, gI_I, gI_J, gI_D, gJ_J, gJ_I, gJ_D, true_and, and_true, false_and, and_false, if_true, if_false, false_implies, true_implies, not_true_eq_false, not_false_eq_true, bI_0, bI_1, Nat.reduceEqDiff, eq_self, nMax, nMin]
      refine ih (i + 1) _ (by omega) (hs.i 36 _ _ (by decide)) (fun t ht => ?_)
      rw [gI_I]
      by_cases q : t = i
      · rw [if_pos ⟨rfl, q⟩]
      · rw [if_neg (fun x => q x.2)]
        exact ha t (by omega)
  exact loop (X.P + 1) 0 μ3 (by omega) (gSm.rf _ _) (fun t ht => absurd ht (Nat.not_lt_zero t))
theorem itN_add (N : Nat → Nat) : ∀ a b i, itN N (a + b) i = itN N b (itN N a i)
  | 0, b, i => by rw [Nat.zero_add]; rfl
  | a + 1, b, i => by
    rw [show a + 1 + b = (a + b) + 1 by omega]
    exact itN_add N a b (N i)
theorem itN_one (N : Nat → Nat) (a i : Nat) : itN N (a + 1) i = N (itN N a i) := itN_add N a 1 i
theorem itN_le {f : Nat → Nat} (hf : ∀ s, f s ≤ s) : ∀ n t, itN f n t ≤ t
  | 0, t => Nat.le_refl t
  | n + 1, t => Nat.le_trans (itN_le hf n (f t)) (hf t)
theorem s_41 {X : xX} {f : Nat → Nat} {C : Nat} {μ : gMu} {P : gMu → gRes → Prop} (hX : xOk X) (hx : cX X μ) (hf : gAr μ 35 (X.P + 1) f) (hd : ∀ s, f s ≤ s) (hC : C ≤ X.P) (h8 : gI μ 32 8 = nI C) (h : ∀ μ', gSm [37] μ μ' → gAr μ' 37 (C + 1) (fun l => itN f (C - l) X.P) → P μ' (.inl none)) : gCl' 41 [.ref 32] μ P := by
  have hP : X.P ≤ 50 := Nat.le_trans hX.P hX.G
  have loop : ∀ l μ', l ≤ C → gSm [37] μ μ' → gAs μ' 37 (l + 1) (C + 1) (fun l => itN f (C - l) X.P) → gWp none 41 (13, [some (.ref 32), some (.int (nI (itN f (C - l) X.P))), some (.int (nI l))], [], μ') 0 P := by
    intro l
    induction l with
    | zero =>
      intro μ' hl hs ha
      have g1 := itN_le hd (C - 0) X.P
      have g2 : gI μ' 35 (itN f (C - 0) X.P) = nI (f (itN f (C - 0) X.P)) := by rw [hs.I (by decide), hf _ (by omega)]
      refine vc_41_13 ?_
      simp (disch := first | omega | decide) only [show ¬ 0 < 0 by omega, show (0 : Nat) < 51 by omega, show itN f (C - 0) X.P < 51 by omega, g2, Nat.not_lt_zero, nE_l, nE_r, nE_n, nLe_l, nLe_r, nLe_n, nLt_l, nLt_r, nLt_n, nA_l, nA_r, nI_add, nS_l, nS_n, nIn, nI_clamp, gI_I, gI_J, gI_D, gJ_J, gJ_I, gJ_D, true_and, and_true, false_and, and_false, if_true, if_false, false_implies, true_implies, not_true_eq_false, not_false_eq_true, bI_0, bI_1, Nat.reduceEqDiff, eq_self, nMax, nMin]
      refine vc_41_13 ?_
      rw [show nI 0 + (-1 : Int32) = -1 by decide]
      refine ⟨fun _ => h _ (hs.i 37 _ _ (by decide)) (fun j hj => ?_), fun q => absurd (show (-1 : Int32) < 0 by decide) q⟩
      by_cases e : j = 0
      · subst e
        simp (disch := first | omega | decide) only [nE_l, nE_r, nE_n, nLe_l, nLe_r, nLe_n, nLt_l, nLt_r, nLt_n, nA_l, nA_r, nI_add, nS_l, nS_n, nIn, nI_clamp, gI_I, gI_J, gI_D, gJ_J, gJ_I, gJ_D, true_and, and_true, false_and, and_false, if_true, if_false, false_implies, true_implies, not_true_eq_false, not_false_eq_true, bI_0, bI_1, Nat.reduceEqDiff, eq_self, nMax, nMin]
      · simp (disch := first | omega | decide) only [e, nE_l, nE_r, nE_n, nLe_l, nLe_r, nLe_n, nLt_l, nLt_r, nLt_n, nA_l, nA_r, nI_add, nS_l, nS_n, nIn, nI_clamp, gI_I, gI_J, gI_D, gJ_J, gJ_I, gJ_D, true_and, and_true, false_and, and_false, if_true, if_false, false_implies, true_implies, not_true_eq_false, not_false_eq_true, bI_0, bI_1, Nat.reduceEqDiff, eq_self, nMax, nMin]
        exact ha j (by omega) hj
    | succ l ih =>
      intro μ' hl hs ha
      have g1 := itN_le hd (C - (l + 1)) X.P
      have g2 : gI μ' 35 (itN f (C - (l + 1)) X.P) = nI (f (itN f (C - (l + 1)) X.P)) := by rw [hs.I (by decide), hf _ (by omega)]
      have e : f (itN f (C - (l + 1)) X.P) = itN f (C - l) X.P := by
        rw [show C - l = C - (l + 1) + 1 by omega, itN_one]
      refine vc_41_13 ?_
      simp (disch := first | omega | decide) only [Nat.not_lt_zero, show l + 1 < 51 by omega, show itN f (C - (l + 1)) X.P < 51 by omega, g2, e, nE_l, nE_r, nE_n, nLe_l, nLe_r, nLe_n, nLt_l, nLt_r, nLt_n, nA_l, nA_r, nI_add, nS_l, nS_n, nIn, nI_clamp, gI_I, gI_J, gI_D, gJ_J, gJ_I, gJ_D, true_and, and_true, false_and, and_false, if_true, if_false, false_implies, true_implies, not_true_eq_false, not_false_eq_true, bI_0, bI_1, Nat.reduceEqDiff, eq_self, nMax, nMin]
      rw [nI_m1 (show 0 < l + 1 by omega), Nat.add_sub_cancel]
      refine ih _ (by omega) (hs.i 37 _ _ (by decide)) (fun j hj1 hj2 => ?_)
      rw [gI_I]
      by_cases q : j = l + 1
      · rw [if_pos ⟨rfl, q⟩, q]
      · rw [if_neg (fun x => q x.2)]
        exact ha j (by omega) hj2
  refine vc_41 ?_
  rw [h8, hx.1]
  have e0 := loop C μ (Nat.le_refl C) (gSm.rf _ _) (fun j h1 h2 => by omega)
  rw [Nat.sub_self] at e0
  exact e0
theorem cZ_mark {P : Nat} {Z : gZ} {u : Nat} {μ : gMu} (h : cZ P Z μ) : cZ P (zMark Z u) (gsI μ 36 u (bI true)) := by
  obtain ⟨c1, c2, c3, c4⟩ := h
  refine ⟨fun s hs => ?_, c2.skip (by decide), c3.skip (by decide), fun s hs => ?_⟩
  · simp (disch := first | omega | decide) only [nE_l, nE_r, nE_n, nLe_l, nLe_r, nLe_n, nLt_l, nLt_r, nLt_n, nA_l, nA_r, nI_add, nS_l, nS_n, nIn, nI_clamp, gI_I, gI_J, gI_D, gJ_J, gJ_I, gJ_D, true_and, and_true, false_and, and_false, if_true, if_false, false_implies, true_implies, not_true_eq_false, not_false_eq_true, bI_0, bI_1, Nat.reduceEqDiff, eq_self, nMax, nMin]
    exact c1 s hs
  · rw [gI_I]
    show _ = bI (upN Z.e u true s)
    unfold upN
    by_cases q : s = u
    · rw [if_pos ⟨rfl, q⟩, if_pos q]
    · rw [if_neg (fun x => q x.2), if_neg q]
      exact c4 s hs
/-- what the class's Lines hold, but the tried ones -/
def cLs (X : xX) (C T : Nat) (ls : Nat → Nat) (μ : gMu) : Prop := gI μ 32 8 = nI C ∧ gJ μ 32 9 = lN T ∧ gAr μ 37 (C + 1) ls
theorem s_42 {X : xX} {a : Bool} {bl : Bool} {μ : gMu} {P : gMu → gRes → Prop} (hX : xOk X) (hx : cX X μ) (h6 : gI μ 32 6 = nI X.W) (h7 : (gI μ 32 7 = -1) = (a = true)) (h4 : gI μ 29 4 = bI bl) (hq : a = true → bl = false → ∀ i, i < X.P → xQ X i (i + 1) = true) (hA : a = true → bl = false → ∀ μ' Z, gSm [32, 33, 34, 35, 36, 37] μ μ' → gI μ' 32 6 = nI X.W → gI μ' 32 7 = gI μ 32 7 → zFin X.P (xQ X) (xD X) Z → cLs X (Z.c X.P) (Z.b X.P - 1) (fun l => itN Z.f (Z.c X.P - l) X.P) μ' → P μ' (.inl none)) (hB : (a = false ∨ bl = true ∨ X.P = 0) → ∀ μ', gSm [32, 33, 34, 35, 36, 37] μ μ' → gI μ' 32 6 = nI X.W → gI μ' 32 7 = gI μ 32 7 → cLs X 0 0 (fun _ => X.P) μ' → P μ' (.inl none)) : gCl' 42 [.ref 32] μ P := by
  have hP : X.P ≤ 50 := Nat.le_trans hX.P hX.G
  -- the end of the method: what is found is laid
  have fin : ∀ μ' Z (bz : Int64), gSm [33, 34, 35, 36] μ μ' → cZ X.P Z μ' → zOk X.P (xQ X) (xD X) Z X.P 0 → (Z.b X.P ≠ 0 → bz = lO (Z.b X.P)) → (Z.b X.P = 0 → bz = 0) → ((a = true ∧ bl = false ∧ ∀ v, v < X.P → Z.e v = true) ∨ ((a = false ∨ bl = true ∨ X.P = 0) ∧ Z.c X.P = 0 ∧ Z.b X.P ≤ 1)) → gCl' 41 [.ref 32] (gsJ (gsI μ' 32 8 (nI (Z.c X.P))) 32 9 bz) (fun μ1 r => r = .inl none ∧ P μ1 (.inl none)) := by
    intro μ' Z bz hs hc hz hb1 hb0 hk
    have hbP := zOk_bd hz (xD_le X) X.P X.P (Nat.le_refl _) (Nat.le_refl _)
    have hfd : ∀ s, Z.f s ≤ s := fun s => by
      by_cases q : s = 0
      · subst q; rw [hz.1.2.2]; exact Nat.le_refl 0
      · exact Nat.le_of_lt (hz.2.1 s (by omega))
    have hcP : Z.c X.P ≤ X.P := by
      by_cases q : Z.b X.P = 0
      · rcases hk with ⟨k1, k2, k3⟩ | ⟨-, k2, -⟩
        · exfalso
          have z := zFin_of hz (hq k1 k2) k3
          by_cases p0 : X.P = 0
          · rw [p0, z.1.1] at q
            cases q
          · exact (z.2.2.1 X.P (by omega) (Nat.le_refl _)).1 q
        · omega
      · exact zOk_cd hz X.P X.P (Nat.le_refl _) (Nat.le_refl _) q
    have hs1 : gSm [32, 33, 34, 35, 36] μ (gsJ (gsI μ' 32 8 (nI (Z.c X.P))) 32 9 bz) := ((hs.up (by decide)).i 32 _ _ (by decide)).j 32 _ _ (by decide)
    refine s_41 (f := Z.f) (C := Z.c X.P) hX (hx.sm hs1 (by decide) (by decide) (by decide) (by decide) (by decide) (by decide)) ((hc.2.2.1.skip (by decide)).skipJ) hfd hcP (by simp (disch := first | omega | decide) only [nE_l, nE_r, nE_n, nLe_l, nLe_r, nLe_n, nLt_l, nLt_r, nLt_n, nA_l, nA_r, nI_add, nS_l, nS_n, nIn, nI_clamp, gI_I, gI_J, gI_D, gJ_J, gJ_I, gJ_D, true_and, and_true, false_and, and_false, if_true, if_false, false_implies, true_implies, not_true_eq_false, not_false_eq_true, bI_0, bI_1, Nat.reduceEqDiff, eq_self, nMax, nMin]) (fun μ1 hs2 ha => ⟨rfl, ?_⟩)
    have hs3 : gSm [32, 33, 34, 35, 36, 37] μ μ1 := (hs1.up (by decide)).tr (hs2.up (by decide))
    have f6 : gI μ1 32 6 = nI X.W := by rw [hs2.I (by decide)]; simp (disch := first | omega | decide) only [nE_l, nE_r, nE_n, nLe_l, nLe_r, nLe_n, nLt_l, nLt_r, nLt_n, nA_l, nA_r, nI_add, nS_l, nS_n, nIn, nI_clamp, gI_I, gI_J, gI_D, gJ_J, gJ_I, gJ_D, true_and, and_true, false_and, and_false, if_true, if_false, false_implies, true_implies, not_true_eq_false, not_false_eq_true, bI_0, bI_1, Nat.reduceEqDiff, eq_self, nMax, nMin]; rw [hs.I (by decide), h6]
    have f7 : gI μ1 32 7 = gI μ 32 7 := by rw [hs2.I (by decide)]; simp (disch := first | omega | decide) only [nE_l, nE_r, nE_n, nLe_l, nLe_r, nLe_n, nLt_l, nLt_r, nLt_n, nA_l, nA_r, nI_add, nS_l, nS_n, nIn, nI_clamp, gI_I, gI_J, gI_D, gJ_J, gJ_I, gJ_D, true_and, and_true, false_and, and_false, if_true, if_false, false_implies, true_implies, not_true_eq_false, not_false_eq_true, bI_0, bI_1, Nat.reduceEqDiff, eq_self, nMax, nMin]; rw [hs.I (by decide)]
    have f8 : gI μ1 32 8 = nI (Z.c X.P) := by rw [hs2.I (by decide)]; simp (disch := first | omega | decide) only [nE_l, nE_r, nE_n, nLe_l, nLe_r, nLe_n, nLt_l, nLt_r, nLt_n, nA_l, nA_r, nI_add, nS_l, nS_n, nIn, nI_clamp, gI_I, gI_J, gI_D, gJ_J, gJ_I, gJ_D, true_and, and_true, false_and, and_false, if_true, if_false, false_implies, true_implies, not_true_eq_false, not_false_eq_true, bI_0, bI_1, Nat.reduceEqDiff, eq_self, nMax, nMin]
    have f9 : gJ μ1 32 9 = bz := by rw [hs2.J (by decide)]; simp (disch := first | omega | decide) only [nE_l, nE_r, nE_n, nLe_l, nLe_r, nLe_n, nLt_l, nLt_r, nLt_n, nA_l, nA_r, nI_add, nS_l, nS_n, nIn, nI_clamp, gI_I, gI_J, gI_D, gJ_J, gJ_I, gJ_D, true_and, and_true, false_and, and_false, if_true, if_false, false_implies, true_implies, not_true_eq_false, not_false_eq_true, bI_0, bI_1, Nat.reduceEqDiff, eq_self, nMax, nMin]
    rcases hk with ⟨k1, k2, k3⟩ | ⟨k1, k2, k3⟩
    · refine hA k1 k2 μ1 Z hs3 f6 f7 (zFin_of hz (hq k1 k2) k3) ⟨f8, ?_, ha⟩
      rw [f9]
      by_cases q : Z.b X.P = 0
      · rw [hb0 q, q]; rfl
      · rw [hb1 q, lO_pos q]
    · refine hB k1 μ1 hs3 f6 f7 ⟨by rw [f8, k2], ?_, ?_⟩
      · rw [f9]
        by_cases q : Z.b X.P = 0
        · rw [hb0 q]; rfl
        · rw [hb1 q, lO_pos q, show Z.b X.P - 1 = 0 by omega]
      · rw [k2] at ha
        intro j hj
        have : j = 0 := by omega
        subst this
        exact ha 0 (by omega)
  -- the beginnings
  have loop : ∀ r i μ' Z x, i + r = X.P → gSm [33, 34, 35, 36] μ μ' → cZ X.P Z μ' → zOk X.P (xQ X) (xD X) Z X.P 0 → ((a = true ∧ bl = false ∧ uC Z.e X.P ≤ r) ∨ (¬ (a = true ∧ bl = false) ∧ Z.c X.P = 0 ∧ Z.b X.P ≤ 1)) → gWp none 42 (6, [some (.ref 32), some (.int (nI i)), x], [], μ') 0 P := by
    intro r
    induction r with
    | zero =>
      intro i μ' Z x hr hs hc hz hk
      have hi : i = X.P := by omega
      subst hi
      have g29 : gI μ' 29 3 = nI X.P := by rw [hs.I (by decide)]; exact hx.1
      have g1 := hc.1 X.P (Nat.le_refl _)
      have g2 := hc.2.1 X.P (by omega)
      have hbP := zOk_bd hz (xD_le X) X.P X.P (Nat.le_refl _) (Nat.le_refl _)
      have hk' : (a = true ∧ bl = false ∧ ∀ v, v < X.P → Z.e v = true) ∨ ((a = false ∨ bl = true ∨ X.P = 0) ∧ Z.c X.P = 0 ∧ Z.b X.P ≤ 1) := by
        rcases hk with ⟨k1, k2, k3⟩ | ⟨k1, k2⟩
        · exact Or.inl ⟨k1, k2, uC_0 X.P (by omega)⟩
        · refine Or.inr ⟨?_, k2⟩
          cases a
          · exact Or.inl rfl
          · cases bl
            · exact absurd ⟨rfl, rfl⟩ k1
            · exact Or.inr (Or.inl rfl)
      refine gWp_up (vc_42_6 ?_) (by (repeat (first | exact gUp.nil | refine gUp.cs ?_ | refine gUp.cn ?_)))
      simp (disch := first | omega | decide) only [g29, Nat.le_refl, show X.P < 51 by omega, g1, g2, lO_none (show Z.b X.P < 2 ^ 62 by omega), nE_l, nE_r, nE_n, nLe_l, nLe_r, nLe_n, nLt_l, nLt_r, nLt_n, nA_l, nA_r, nI_add, nS_l, nS_n, nIn, nI_clamp, gI_I, gI_J, gI_D, gJ_J, gJ_I, gJ_D, true_and, and_true, false_and, and_false, if_true, if_false, false_implies, true_implies, not_true_eq_false, not_false_eq_true, bI_0, bI_1, Nat.reduceEqDiff, eq_self, nMax, nMin]
      refine ⟨fun q => ?_, fun q => ?_⟩
      · exact fin μ' Z _ hs hc hz (fun _ => rfl) (fun q2 => absurd q2 q) hk'
      · exact fin μ' Z _ hs hc hz (fun q2 => absurd q q2) (fun _ => rfl) hk'
    | succ r ih =>
      intro i μ' Z x hr hs hc hz hk
      have g29 : gI μ' 29 3 = nI X.P := by rw [hs.I (by decide)]; exact hx.1
      have g1 := hc.1 X.P (Nat.le_refl _)
      have g2 := hc.2.1 X.P (by omega)
      have g4 : gI μ' 29 4 = bI bl := by rw [hs.I (by decide)]; exact h4
      have hbP := zOk_bd hz (xD_le X) X.P X.P (Nat.le_refl _) (Nat.le_refl _)
      refine gWp_up (vc_42_6 ?_) (by (repeat (first | exact gUp.nil | refine gUp.cs ?_ | refine gUp.cn ?_)))
      simp (disch := first | omega | decide) only [g29, show ¬ X.P ≤ i by omega, nE_l, nE_r, nE_n, nLe_l, nLe_r, nLe_n, nLt_l, nLt_r, nLt_n, nA_l, nA_r, nI_add, nS_l, nS_n, nIn, nI_clamp, gI_I, gI_J, gI_D, gJ_J, gJ_I, gJ_D, true_and, and_true, false_and, and_false, if_true, if_false, false_implies, true_implies, not_true_eq_false, not_false_eq_true, bI_0, bI_1, Nat.reduceEqDiff, eq_self, nMax, nMin]
      refine s_26 (b := a) (by rw [hs.I (by decide)]; exact h7) ⟨_, rfl, ?_⟩
      simp (disch := first | omega | decide) only [g29, g4, show X.P < 51 by omega, g1, g2, lO_none (show Z.b X.P < 2 ^ 62 by omega), Bool.not_eq_false, nE_l, nE_r, nE_n, nLe_l, nLe_r, nLe_n, nLt_l, nLt_r, nLt_n, nA_l, nA_r, nI_add, nS_l, nS_n, nIn, nI_clamp, gI_I, gI_J, gI_D, gJ_J, gJ_I, gJ_D, true_and, and_true, false_and, and_false, if_true, if_false, false_implies, true_implies, not_true_eq_false, not_false_eq_true, bI_0, bI_1, Nat.reduceEqDiff, eq_self, nMax, nMin]
      refine ⟨fun ha => ?_, fun ha => ⟨fun hbl => ?_, fun hbl => ?_⟩⟩
      · rcases hk with ⟨k1, -, -⟩ | ⟨-, k2⟩
        · rw [ha] at k1; cases k1
        · refine ⟨fun q => ?_, fun q => ?_⟩
          · exact fin μ' Z _ hs hc hz (fun _ => rfl) (fun q2 => absurd q2 q) (Or.inr ⟨Or.inl ha, k2⟩)
          · exact fin μ' Z _ hs hc hz (fun q2 => absurd q q2) (fun _ => rfl) (Or.inr ⟨Or.inl ha, k2⟩)
      · rcases hk with ⟨-, k1, -⟩ | ⟨-, k2⟩
        · rw [hbl] at k1; cases k1
        · refine ⟨fun q => ?_, fun q => ?_⟩
          · exact fin μ' Z _ hs hc hz (fun _ => rfl) (fun q2 => absurd q2 q) (Or.inr ⟨Or.inr (Or.inl hbl), k2⟩)
          · exact fin μ' Z _ hs hc hz (fun q2 => absurd q q2) (fun _ => rfl) (Or.inr ⟨Or.inr (Or.inl hbl), k2⟩)
      · have hx' : cX X μ' := hx.sm hs (by decide) (by decide) (by decide) (by decide) (by decide) (by decide)
        have h6' : gI μ' 32 6 = nI X.W := by rw [hs.I (by decide), h6]
        rcases hk with ⟨k1, k2, k3⟩ | ⟨k1, -⟩
        · refine s_27 hX hx' hz hc (fun u u1 u2 u3 u4 => ⟨_, rfl, ?_⟩) (fun hn => ⟨_, rfl, ?_⟩)
          · have e3 : ¬ nI u = -1 := nI_nm1 (by omega)
            obtain ⟨m1, m2, m3⟩ := zOk_mark hz u1 u3 u4 u2
            have hs1 : gSm [33, 34, 35, 36] μ (gsI μ' 36 u (bI true)) := hs.i 36 _ _ (by decide)
            simp (disch := first | omega | decide) only [e3, show u < 51 by omega, nNb1, nE_l, nE_r, nE_n, nLe_l, nLe_r, nLe_n, nLt_l, nLt_r, nLt_n, nA_l, nA_r, nI_add, nS_l, nS_n, nIn, nI_clamp, gI_I, gI_J, gI_D, gJ_J, gJ_I, gJ_D, true_and, and_true, false_and, and_false, if_true, if_false, false_implies, true_implies, not_true_eq_false, not_false_eq_true, bI_0, bI_1, Nat.reduceEqDiff, eq_self, nMax, nMin]
            refine s_38 hX (hx.sm hs1 (by decide) (by decide) (by decide) (by decide) (by decide) (by decide)) (by simp (disch := first | omega | decide) only [h6', nE_l, nE_r, nE_n, nLe_l, nLe_r, nLe_n, nLt_l, nLt_r, nLt_n, nA_l, nA_r, nI_add, nS_l, nS_n, nIn, nI_clamp, gI_I, gI_J, gI_D, gJ_J, gJ_I, gJ_D, true_and, and_true, false_and, and_false, if_true, if_false, false_implies, true_implies, not_true_eq_false, not_false_eq_true, bI_0, bI_1, Nat.reduceEqDiff, eq_self, nMax, nMin]) m1 m2 m3 (cZ_mark hc) (fun μ2 Z2 hs2 hc2 hz2 he2 => ⟨rfl, ?_⟩)
            refine ih (i + 1) μ2 Z2 _ (by omega) (hs1.tr (hs2.up (by decide))) hc2 hz2 (Or.inl ⟨k1, k2, ?_⟩)
            · rw [he2]
              have := (uC_mark Z.e u X.P).2 u1 u2
              show uC (upN Z.e u true) X.P ≤ r
              omega
          · simp (disch := first | omega | decide) only [nE_l, nE_r, nE_n, nLe_l, nLe_r, nLe_n, nLt_l, nLt_r, nLt_n, nA_l, nA_r, nI_add, nS_l, nS_n, nIn, nI_clamp, gI_I, gI_J, gI_D, gJ_J, gJ_I, gJ_D, true_and, and_true, false_and, and_false, if_true, if_false, false_implies, true_implies, not_true_eq_false, not_false_eq_true, bI_0, bI_1, Nat.reduceEqDiff, eq_self, nMax, nMin]
            refine ih (i + 1) μ' Z _ (by omega) hs hc hz (Or.inl ⟨k1, k2, ?_⟩)
            have hall := zOk_all hz (hq k1 k2) hn
            have e0 : ∀ n, n ≤ X.P → uC Z.e n = 0 := by
              intro n
              induction n with
              | zero => intro _; rfl
              | succ n ihn =>
                intro hn2
                show uC Z.e n + (if Z.e n = true then 0 else 1) = 0
                rw [ihn (by omega), if_pos (hall n (by omega))]
            rw [e0 X.P (Nat.le_refl _)]
            omega
        · exact absurd ⟨ha, hbl⟩ k1
  refine vc_42 (s_40 hX hx (fun μ1 hs1 hc1 => ⟨rfl, ?_⟩))
  refine loop X.P 0 μ1 z00 none (by omega) hs1 hc1 (z00_ok _ _ _) ?_
  by_cases q : a = true ∧ bl = false
  · exact Or.inl ⟨q.1, q.2, uC_le _ _⟩
  · refine Or.inr ⟨q, rfl, ?_⟩
    show (if X.P = 0 then 1 else 0) ≤ 1
    split <;> omega
