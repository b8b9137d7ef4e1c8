/-! JUSTIFICATION AND PLACES, as the class finds them -/
theorem iDiv {d k : Nat} (hd : d < 2 ^ 30) (h0 : 0 < k) (hk : k < 2 ^ 30) : nI d / nI k = nI (d / k) := by
  have h1 : nI k ≠ -1 := nI_nm1 (by omega)
  have h2 := Nat.div_le_self d k
  rw [← Int32.toInt_inj, Int32.toInt_div_of_ne_right _ _ h1, nI_toInt (by omega), nI_toInt (by omega), nI_toInt (by omega)]
  rfl
theorem iDivN {d k : Nat} (hd : d < 2 ^ 30) (h0 : 0 < k) (hk : k < 2 ^ 30) : -nI d / nI k = -nI (d / k) := by
  have h1 : nI k ≠ -1 := nI_nm1 (by omega)
  have h2 := Nat.div_le_self d k
  rw [← Int32.toInt_inj, Int32.toInt_div_of_ne_right _ _ h1, sb_negT (by omega), nI_toInt (by omega), sb_negT (by omega), Int.neg_tdiv]
  rfl
theorem iMul (a b : Nat) : nI a * nI b = nI (a * b) := (Int32.ofNat_mul a b).symm
theorem iRem {d k : Nat} : nI d - nI (d / k) * nI k = nI (d % k) := by
  rw [iMul, nS_n (Nat.div_mul_le_self d k)]
  have := Nat.div_add_mod d k
  rw [Nat.mul_comm k] at this
  rw [show d - d / k * k = d % k by omega]
theorem iRemN {d k : Nat} : -nI d - -nI (d / k) * nI k = -nI (d % k) := by
  rw [Int32.neg_mul, ← iRem (d := d) (k := k), Int32.neg_sub]
  rw [Int32.sub_eq_add_neg, Int32.neg_neg, Int32.sub_eq_add_neg, Int32.add_comm]
theorem iAbsN {r : Nat} (h : r < 2 ^ 30) : (if 0 ≤ -nI r then -nI r else 0 - -nI r) = nI r := by
  by_cases h0 : r = 0
  · subst h0
    decide
  · rw [if_neg (by rw [nZ_ge (by omega) h]; exact not_false), nZ_nn]
theorem iAbs {r : Nat} (h : r < 2 ^ 30) : (if 0 ≤ nI r then nI r else 0 - nI r) = nI r := if_pos (nI_pos' (by omega))
theorem iRest (R c : Nat) : nI R - nI c + (-1 : Int32) = nI R - nI (c + 1) := by
  rw [← nI_1]
  simp only [Int32.sub_eq_add_neg, Int32.neg_add, Int32.add_assoc]
theorem s_51 {X : xX} {ls : Nat → Nat} {C l : Nat} {μ : gMu} {P : gMu → gRes → Prop} (hX : xOk X) (hx : cX X μ) (h37 : gAr μ 37 (C + 1) ls) (hl : l ≤ C) (hC : C ≤ X.P) (hp : ls l ≤ X.P) (h : P μ (.inl (some (.int (nI (X.pp (ls l))))))) : gCl' 51 [.ref 38, .int (nI l)] μ P := by
  have h1 := hX.P
  have h2 := hX.G
  have g1 := h37 l (by omega)
  have g2 := hx.2.2.2.2.1 (ls l) (by omega)
  refine vc_51 ?_
  simp (disch := first | omega | decide) only [g1, g2, show l < 51 by omega, show ls l < 51 by omega, nE_l, nE_r, nE_n, nLe_l, nLe_r, nLe_n, nLt_l, nLt_r, nLt_n, nA_l, nA_r, nI_add, nS_l, nS_n, nIn, nI_clamp, gI_I, gI_J, gI_D, gJ_J, gJ_I, gJ_D, true_and, and_true, false_and, and_false, if_true, if_false, false_implies, true_implies, not_true_eq_false, not_false_eq_true, bI_0, bI_1, Nat.reduceEqDiff, eq_self, nMax, nMin]
  exact h
theorem s_47 {X : xX} {ls : Nat → Nat} {C l : Nat} {μ : gMu} {P : gMu → gRes → Prop} (hX : xOk X) (hx : cX X μ) (h37 : gAr μ 37 (C + 1) ls) (hl : l < C) (hC : C ≤ X.P) (hp0 : 0 < ls (l + 1)) (hp : ls (l + 1) ≤ X.P) (h : P μ (.inl (some (.int (nI (X.pe (ls (l + 1) - 1))))))) : gCl' 47 [.ref 38, .int (nI l)] μ P := by
  have h1 := hX.P
  have h2 := hX.G
  have g1 := h37 (l + 1) (by omega)
  have g2 := hx.2.2.2.2.2 (ls (l + 1) - 1) (by omega)
  refine vc_47 ?_
  simp (disch := first | omega | decide) only [g1, g2, show l + 1 < 51 by omega, show ls (l + 1) - 1 < 50 by omega, show ¬ ls (l + 1) ≤ 0 by omega, nE_l, nE_r, nE_n, nLe_l, nLe_r, nLe_n, nLt_l, nLt_r, nLt_n, nA_l, nA_r, nI_add, nS_l, nS_n, nIn, nI_clamp, gI_I, gI_J, gI_D, gJ_J, gJ_I, gJ_D, true_and, and_true, false_and, and_false, if_true, if_false, false_implies, true_implies, not_true_eq_false, not_false_eq_true, bI_0, bI_1, Nat.reduceEqDiff, eq_self, nMax, nMin]
  exact h
/-- the lines' beginnings, by parts -/
def lOk (X : xX) (C : Nat) (ls : Nat → Nat) : Prop := C ≤ X.P ∧ (∀ l, l < C → ls l < ls (l + 1)) ∧ (∀ l, l ≤ C → ls l ≤ X.P)
def lnS (X : xX) (ls : Nat → Nat) (l : Nat) : Nat := X.pp (ls l)
def lnE (X : xX) (ls : Nat → Nat) (l : Nat) : Nat := X.pe (ls (l + 1) - 1)
theorem lnSE {X : xX} {C l : Nat} {ls : Nat → Nat} (hX : xOk X) (hl : lOk X C ls) (h : l < C) : lnS X ls l ≤ lnE X ls l ∧ lnE X ls l ≤ lnS X ls (l + 1) ∧ lnS X ls (l + 1) ≤ X.G := by
  have a := hl.2.1 l h
  have b := hl.2.2 (l + 1) (by omega)
  have c := hX.pij a b
  have d := hX.pe (ls (l + 1) - 1) (by omega)
  have e := hX.pG b
  rw [show ls (l + 1) - 1 + 1 = ls (l + 1) by omega] at d
  exact ⟨c.1, d.2, e⟩
theorem s_53 {X : xX} {ls gw : Nat → Nat} {C l : Nat} {μ : gMu} {P : gMu → gRes → Prop} (hX : xOk X) (hx : cX X μ) (h37 : gAr μ 37 (C + 1) ls) (hL : lOk X C ls) (hl : l < C) (h26 : gAr μ 26 X.G gw) (h : ∀ μ', gSm [1] μ μ' → (∀ g, g < lnS X ls l ∨ lnE X ls l ≤ g → gI μ' 1 g = gI μ 1 g) → (∀ g, lnS X ls l ≤ g → g < lnE X ls l → gI μ' 1 g = nI (gw g)) → P μ' (.inl none)) : gCl' 53 [.ref 38, .int (nI l)] μ P := by
  have hse := lnSE hX hL hl
  have hG := hX.G
  have a := hL.2.1 l hl
  have b := hL.2.2 (l + 1) (by omega)
  have loop : ∀ r i μ', i + r = lnE X ls l → lnS X ls l ≤ i → gSm [1] μ μ' → (∀ g, g < lnS X ls l ∨ lnE X ls l ≤ g → gI μ' 1 g = gI μ 1 g) → (∀ g, lnS X ls l ≤ g → g < i → gI μ' 1 g = nI (gw g)) → gWp none 53 (6, [some (.ref 38), some (.int (nI l)), some (.int (nI i))], [], μ') 0 P := by
    intro r
    induction r with
    | zero =>
      intro i μ' hr hi hs hout hin
      refine vc_53_6 (s_47 hX (hx.sm hs (by decide) (by decide) (by decide) (by decide) (by decide) (by decide)) (h37.sm hs (by decide)) hl hL.1 (by omega) b ⟨_, rfl, ?_⟩)
      have e : X.pe (ls (l + 1) - 1) = lnE X ls l := rfl
      rw [e]
      simp (disch := first | omega | decide) only [show lnE X ls l ≤ i by omega, nE_l, nE_r, nE_n, nLe_l, nLe_r, nLe_n, nLt_l, nLt_r, nLt_n, nA_l, nA_r, nI_add, nS_l, nS_n, nIn, nI_clamp, gI_I, gI_J, gI_D, gJ_J, gJ_I, gJ_D, true_and, and_true, false_and, and_false, if_true, if_false, false_implies, true_implies, not_true_eq_false, not_false_eq_true, bI_0, bI_1, Nat.reduceEqDiff, eq_self, nMax, nMin]
      exact h μ' hs hout (fun g g1 g2 => hin g g1 (by omega))
    | succ r ih =>
      intro i μ' hr hi hs hout hin
      have g1 : gI μ' 26 i = nI (gw i) := by rw [hs.I (by decide), h26 i (by omega)]
      refine vc_53_6 (s_47 hX (hx.sm hs (by decide) (by decide) (by decide) (by decide) (by decide) (by decide)) (h37.sm hs (by decide)) hl hL.1 (by omega) b ⟨_, rfl, ?_⟩)
      have e : X.pe (ls (l + 1) - 1) = lnE X ls l := rfl
      rw [e]
      simp (disch := first | omega | decide) only [show ¬ lnE X ls l ≤ i by omega, show i < 50 by omega, g1, nE_l, nE_r, nE_n, nLe_l, nLe_r, nLe_n, nLt_l, nLt_r, nLt_n, nA_l, nA_r, nI_add, nS_l, nS_n, nIn, nI_clamp, gI_I, gI_J, gI_D, gJ_J, gJ_I, gJ_D, true_and, and_true, false_and, and_false, if_true, if_false, false_implies, true_implies, not_true_eq_false, not_false_eq_true, bI_0, bI_1, Nat.reduceEqDiff, eq_self, nMax, nMin]
      refine ih (i + 1) _ (by omega) (by omega) (hs.i 1 _ _ (by decide)) (fun g hg => ?_) (fun g g1 g2 => ?_)
      · simp (disch := first | omega | decide) only [show ¬ g = i by omega, nE_l, nE_r, nE_n, nLe_l, nLe_r, nLe_n, nLt_l, nLt_r, nLt_n, nA_l, nA_r, nI_add, nS_l, nS_n, nIn, nI_clamp, gI_I, gI_J, gI_D, gJ_J, gJ_I, gJ_D, true_and, and_true, false_and, and_false, if_true, if_false, false_implies, true_implies, not_true_eq_false, not_false_eq_true, bI_0, bI_1, Nat.reduceEqDiff, eq_self, nMax, nMin]
        exact hout g hg
      · rw [gI_I]
        by_cases c : g = i
        · rw [if_pos ⟨rfl, c⟩, c]
        · rw [if_neg (fun q => c q.2)]
          exact hin g g1 (by omega)
  refine vc_53 (s_51 hX hx h37 (by omega) hL.1 (by omega) ⟨_, rfl, ?_⟩)
  exact loop (lnE X ls l - lnS X ls l) (lnS X ls l) μ (by omega) (Nat.le_refl _) (gSm.rf _ _) (fun g _ => rfl) (fun g g1 g2 => by omega)
/-- by how much the c-th space changes -/
def byN (D k c : Nat) : Nat := D / k + (if c < D % k then 1 else 0)
def dfN (W n : Nat) : Nat := if W < n then n - W else W - n
def wdN (W n w q : Nat) : Nat := if W < n then w - q else w + q
def spB (nu o : Nat → Nat) (y : Nat) : Bool := nu (o y) == 32
/-- the width, stretched or shrunk, of who stands at x -/
def jwN (X : xX) (gw o : Nat → Nat) (i j s x : Nat) : Nat := if X.nu (o x) = 32 then wdN X.W (xN X i j) (gw (o x)) (byN (dfN X.W (xN X i j)) (xK X i j) (cnt (spB X.nu o) s (x - s))) else gw (o x)
theorem s_52_36 {X : xX} {ls gw o : Nat → Nat} {C l i j : Nat} {E one y2 y3 : Int32} {μ : gMu} {P : gMu → gRes → Prop} (hX : xOk X) (hx : cX X μ) (h37 : gAr μ 37 (C + 1) ls) (hL : lOk X C ls) (hl : l < C) (ho : ∀ x, lnS X ls l ≤ x → x < lnE X ls l → gI μ 40 x = nI (o x)) (hoi : ∀ x, lnS X ls l ≤ x → x < lnE X ls l → lnS X ls l ≤ o x ∧ o x < lnE X ls l) (hinj : ∀ x y, lnS X ls l ≤ x → x < lnE X ls l → lnS X ls l ≤ y → y < lnE X ls l → o x = o y → x = y) (hw : ∀ g, lnS X ls l ≤ g → g < lnE X ls l → gI μ 1 g = nI (gw g)) (hw40 : ∀ g, g < X.G → gw g ≤ 40) (hw1 : ∀ g, g < X.G → 1 ≤ gw g) (hR : dfN X.W (xN X i j) % xK X i j < 5000)
    (hE0 : ∀ w, 1 ≤ w → w ≤ 40 → nI w + E = nI (wdN X.W (xN X i j) w (dfN X.W (xN X i j) / xK X i j))) (hE1 : 0 < dfN X.W (xN X i j) % xK X i j → ∀ w, 1 ≤ w → w ≤ 40 → nI w + (E + one) = nI (wdN X.W (xN X i j) w (dfN X.W (xN X i j) / xK X i j + 1)))
    (h : ∀ μ', gSm [1] μ μ' → (∀ g, g < lnS X ls l ∨ lnE X ls l ≤ g → gI μ' 1 g = gI μ 1 g) → (∀ x, lnS X ls l ≤ x → x < lnE X ls l → gI μ' 1 (o x) = nI (jwN X gw o i j (lnS X ls l) x)) → P μ' (.inl none)) : gWp none 52 (36, [some (.ref 38), some (.int (nI l)), some (.int y2), some (.int y3), some (.int E), some (.int one), some (.int (nI (dfN X.W (xN X i j) % xK X i j) - nI 0)), some (.int (nI (lnS X ls l)))], [], μ) 0 P := by
  have hse := lnSE hX hL hl
  have hG := hX.G
  have a := hL.2.1 l hl
  have b := hL.2.2 (l + 1) (by omega)
  generalize hRR : dfN X.W (xN X i j) % xK X i j = R at hR hE1
  have hcb : ∀ n, cnt (spB X.nu o) (lnS X ls l) n ≤ n := by
    intro n
    induction n with
    | zero => exact Nat.le_refl 0
    | succ n ih =>
      show cnt (spB X.nu o) (lnS X ls l) n + (if spB X.nu o (lnS X ls l + n) = true then 1 else 0) ≤ n + 1
      split <;> omega
  have loop : ∀ r x μ', x + r = lnE X ls l → lnS X ls l ≤ x → gSm [1] μ μ' → (∀ g, g < lnS X ls l ∨ lnE X ls l ≤ g → gI μ' 1 g = gI μ 1 g) → (∀ z, lnS X ls l ≤ z → z < lnE X ls l → gI μ' 1 (o z) = nI (if z < x then jwN X gw o i j (lnS X ls l) z else gw (o z))) → gWp none 52 (36, [some (.ref 38), some (.int (nI l)), some (.int y2), some (.int y3), some (.int E), some (.int one), some (.int (nI R - nI (cnt (spB X.nu o) (lnS X ls l) (x - lnS X ls l)))), some (.int (nI x))], [], μ') 0 P := by
    intro r
    induction r with
    | zero =>
      intro x μ' hr hi hs hout hin
      refine vc_52_36 (s_47 hX (hx.sm hs (by decide) (by decide) (by decide) (by decide) (by decide) (by decide)) (h37.sm hs (by decide)) hl hL.1 (by omega) b ⟨_, rfl, ?_⟩)
      have e : X.pe (ls (l + 1) - 1) = lnE X ls l := rfl
      rw [e]
      refine ⟨fun _ => h μ' hs hout (fun z z1 z2 => by rw [hin z z1 z2, if_pos (by omega)]), fun q => ?_⟩
      exfalso
      apply q
      rw [nLe_n (by omega) (by omega)]
      omega
    | succ r ih =>
      intro x μ' hr hi hs hout hin
      have g0 : gI μ' 40 x = nI (o x) := by rw [hs.I (by decide), ho x hi (by omega)]
      have g1 := hoi x hi (by omega)
      have g2 := hin x hi (by omega)
      rw [if_neg (by omega)] at g2
      have g3 : gI μ' 23 (o x) = nI (X.nu (o x)) := by rw [hs.I (by decide), hx.2.1 (o x) (by omega)]
      have g4 := hX.nu (o x) (by omega)
      have g5 := hw40 (o x) (by omega)
      have g6 := hw1 (o x) (by omega)
      have ec : cnt (spB X.nu o) (lnS X ls l) (x + 1 - lnS X ls l) = cnt (spB X.nu o) (lnS X ls l) (x - lnS X ls l) + (if X.nu (o x) = 32 then 1 else 0) := by
        rw [show x + 1 - lnS X ls l = (x - lnS X ls l) + 1 by omega]
        show _ + (if spB X.nu o (lnS X ls l + (x - lnS X ls l)) = true then 1 else 0) = _
        rw [show lnS X ls l + (x - lnS X ls l) = x by omega]
        unfold spB
        by_cases q : X.nu (o x) = 32
        · rw [if_pos q, if_pos (by simpa using q)]
        · rw [if_neg q, if_neg (by simpa using q)]
      have ejw : jwN X gw o i j (lnS X ls l) x = if X.nu (o x) = 32 then wdN X.W (xN X i j) (gw (o x)) (dfN X.W (xN X i j) / xK X i j + (if cnt (spB X.nu o) (lnS X ls l) (x - lnS X ls l) < R then 1 else 0)) else gw (o x) := by
        rw [← hRR]
        rfl
      have hc := hcb (x - lnS X ls l)
      generalize cnt (spB X.nu o) (lnS X ls l) (x - lnS X ls l) = c at ec ejw hc ⊢
      have next : ∀ μ2, gSm [1] μ μ2 → (∀ g, g ≠ o x → gI μ2 1 g = gI μ' 1 g) → gI μ2 1 (o x) = nI (jwN X gw o i j (lnS X ls l) x) → gWp none 52 (36, [some (.ref 38), some (.int (nI l)), some (.int y2), some (.int y3), some (.int E), some (.int one), some (.int (nI R - nI (cnt (spB X.nu o) (lnS X ls l) (x + 1 - lnS X ls l)))), some (.int (nI (x + 1)))], [], μ2) 0 P := by
        intro μ2 hs2 hne heq
        refine ih (x + 1) μ2 (by omega) (by omega) hs2 (fun g hg => ?_) (fun z z1 z2 => ?_)
        · rw [hne g (by omega), hout g hg]
        · by_cases q : z = x
          · rw [q, heq, if_pos (by omega)]
          · rw [hne (o z) (fun q2 => q (hinj z x z1 z2 hi (by omega) q2)), hin z z1 z2]
            by_cases q3 : z < x
            · rw [if_pos q3, if_pos (by omega)]
            · rw [if_neg q3, if_neg (by omega)]
      rw [ec] at next
      refine vc_52_36 (s_47 hX (hx.sm hs (by decide) (by decide) (by decide) (by decide) (by decide) (by decide)) (h37.sm hs (by decide)) hl hL.1 (by omega) b ⟨_, rfl, ?_⟩)
      have e : X.pe (ls (l + 1) - 1) = lnE X ls l := rfl
      rw [e]
      refine ⟨fun q => ?_, fun _ => ⟨vp_in_nI (by omega) (by decide), ?_⟩⟩
      · exfalso
        rw [nLe_n (by omega) (by omega)] at q
        omega
      · rw [nI_clamp (show x < 2 ^ 31 by omega), g0]
        refine s_10 g3 (by omega) (by omega) ⟨_, rfl, ?_⟩
        rw [g0, bI_0, nI_clamp (show o x < 2 ^ 31 by omega), g2]
        refine ⟨fun q => ?_, fun q => ⟨vp_in_nI (by omega) (by decide), vp_in_nI (by omega) (by decide), ?_⟩⟩
        · have q : X.nu (o x) ≠ 32 := by simpa using q
          rw [if_neg q] at next ejw
          rw [nI_1]
          exact next μ' hs (fun g _ => rfl) (by rw [g2, ejw])
        · have q : X.nu (o x) = 32 := by simpa using q
          rw [if_pos q] at next ejw
          rw [nI_1, iRest, dZ_le (by omega) (by omega)]
          refine ⟨fun q2 => ⟨vp_in_nI (by omega) (by decide), ?_⟩, fun q2 => ⟨vp_in_nI (by omega) (by decide), ?_⟩⟩
          · rw [if_neg (by omega), Nat.add_zero] at ejw
            rw [hE0 _ g6 g5, ← ejw]
            exact next _ (hs.i 1 _ _ (by decide)) (fun g hg => by rw [gI_I, if_neg (fun z => hg z.2)]) (by rw [gI_I, if_pos ⟨rfl, rfl⟩])
          · rw [if_pos (by omega)] at ejw
            rw [hE1 (by omega) _ g6 g5, ← ejw]
            exact next _ (hs.i 1 _ _ (by decide)) (fun g hg => by rw [gI_I, if_neg (fun z => hg z.2)]) (by rw [gI_I, if_pos ⟨rfl, rfl⟩])
  have e0 := loop (lnE X ls l - lnS X ls l) (lnS X ls l) μ (by omega) (Nat.le_refl _) (gSm.rf _ _) (fun g _ => rfl) (fun z z1 z2 => by
    rw [if_neg (by omega)]
    exact hw (o z) (hoi z z1 z2).1 (hoi z z1 z2).2)
  rw [Nat.sub_self] at e0
  exact e0
theorem s_52 {X : xX} {ls gw o : Nat → Nat} {C l i j : Nat} {μ : gMu} {P : gMu → gRes → Prop} (hX : xOk X) (hx : cX X μ) (h37 : gAr μ 37 (C + 1) ls) (hL : lOk X C ls) (hl : l < C) (ho : ∀ x, lnS X ls l ≤ x → x < lnE X ls l → gI μ 40 x = nI (o x)) (hoi : ∀ x, lnS X ls l ≤ x → x < lnE X ls l → lnS X ls l ≤ o x ∧ o x < lnE X ls l) (hinj : ∀ x y, lnS X ls l ≤ x → x < lnE X ls l → lnS X ls l ≤ y → y < lnE X ls l → o x = o y → x = y) (hw : ∀ g, lnS X ls l ≤ g → g < lnE X ls l → gI μ 1 g = nI (gw g)) (hw40 : ∀ g, g < X.G → gw g ≤ 40) (hw1 : ∀ g, g < X.G → 1 ≤ gw g) (hij : i < j) (hj : j ≤ X.P) (hk : 0 < xK X i j) (hq : xN X i j ≤ X.W + xK X i j)
    (h : ∀ μ', gSm [1] μ μ' → (∀ g, g < lnS X ls l ∨ lnE X ls l ≤ g → gI μ' 1 g = gI μ 1 g) → (∀ x, lnS X ls l ≤ x → x < lnE X ls l → gI μ' 1 (o x) = nI (jwN X gw o i j (lnS X ls l) x)) → P μ' (.inl none)) : gCl' 52 [.ref 38, .int (nI l), .int (nI X.W - nI (xN X i j)), .int (nI (xK X i j))] μ P := by
  have g1 := xN_le hX hij hj
  have g2 := xK_le hX hij hj
  have g3 := hX.W
  have a := hL.2.1 l hl
  have b := hL.2.2 (l + 1) (by omega)
  have hk0 : ¬ nI (xK X i j) = 0 := nI_ne0 hk (by omega)
  have hkp : (0 : Int32) < nI (xK X i j) := by
    have := nI_lt (a := 0) hk (by omega)
    exact this
  refine vc_52 ⟨fun _ => ⟨hk0, ?_⟩, fun q => absurd hkp q⟩
  by_cases hn : X.W < xN X i j
  · have hneg : ¬ 0 ≤ nI X.W - nI (xN X i j) := by rw [dZ_ge (by omega) (by omega)]; omega
    refine ⟨fun q => absurd q hneg, fun _ => ⟨hk0, ?_⟩⟩
    have eD : dfN X.W (xN X i j) = xN X i j - X.W := if_pos hn
    have hd : dfN X.W (xN X i j) ≤ xK X i j := by omega
    rw [dZ_neg (by omega) (by omega) (by omega), ← eD, iDivN (by omega) hk (by omega), iRemN, iAbsN (by have := Nat.mod_le (dfN X.W (xN X i j)) (xK X i j); omega)]
    refine s_51 hX hx h37 (by omega) hL.1 (by omega) ⟨_, rfl, ?_⟩
    have hq1 : dfN X.W (xN X i j) / xK X i j ≤ 1 := by
      rcases Nat.lt_or_ge (dfN X.W (xN X i j)) (xK X i j) with c | c
      · rw [Nat.div_eq_of_lt c]; omega
      · rw [show dfN X.W (xN X i j) = xK X i j by omega, Nat.div_self hk]; omega
    have e0 := s_52_36 (i := i) (j := j) (E := -nI (dfN X.W (xN X i j) / xK X i j)) (one := -1) (y2 := -nI (dfN X.W (xN X i j))) (y3 := nI (xK X i j)) hX hx h37 hL hl ho hoi hinj hw hw40 hw1 (by have := Nat.mod_le (dfN X.W (xN X i j)) (xK X i j); omega) (fun w w1 w2 => by
      unfold wdN
      rw [if_pos hn, ← Int32.sub_eq_add_neg, nS_n (by omega)]) (fun hR w w1 w2 => by
      have c : dfN X.W (xN X i j) < xK X i j := by
        rcases Nat.lt_or_ge (dfN X.W (xN X i j)) (xK X i j) with c | c
        · exact c
        · rw [show dfN X.W (xN X i j) = xK X i j by omega, Nat.mod_self] at hR
          omega
      unfold wdN
      rw [if_pos hn, Nat.div_eq_of_lt c, show (-nI 0 + (-1 : Int32)) = -nI 1 by decide, ← Int32.sub_eq_add_neg, nS_n w1]) h
    have ez : nI (dfN X.W (xN X i j) % xK X i j) - nI 0 = nI (dfN X.W (xN X i j) % xK X i j) := nS_n (Nat.zero_le _)
    rw [ez] at e0
    exact e0
  · have hpos : 0 ≤ nI X.W - nI (xN X i j) := by rw [dZ_ge (by omega) (by omega)]; omega
    refine ⟨fun _ => ⟨hk0, ?_⟩, fun q => absurd hpos q⟩
    have eD : dfN X.W (xN X i j) = X.W - xN X i j := if_neg hn
    rw [nS_n (show xN X i j ≤ X.W by omega), ← eD, iDiv (by omega) hk (by omega), iRem, iAbs (by have := Nat.mod_le (dfN X.W (xN X i j)) (xK X i j); omega)]
    refine s_51 hX hx h37 (by omega) hL.1 (by omega) ⟨_, rfl, ?_⟩
    have e0 := s_52_36 (i := i) (j := j) (E := nI (dfN X.W (xN X i j) / xK X i j)) (one := 1) (y2 := nI (dfN X.W (xN X i j))) (y3 := nI (xK X i j)) hX hx h37 hL hl ho hoi hinj hw hw40 hw1 (by have := Nat.mod_le (dfN X.W (xN X i j)) (xK X i j); omega) (fun w w1 w2 => by
      unfold wdN
      rw [if_neg hn, nI_add]) (fun hR w w1 w2 => by
      unfold wdN
      rw [if_neg hn, nI_1, nI_add]) h
    have ez : nI (dfN X.W (xN X i j) % xK X i j) - nI 0 = nI (dfN X.W (xN X i j) % xK X i j) := nS_n (Nat.zero_le _)
    rw [ez] at e0
    exact e0
def smF (f : Nat → Nat) (s : Nat) : Nat → Nat
  | 0 => 0
  | n + 1 => smF f s n + f (s + n)
/-- whether the line of the parts i to j is justified -/
def lnJ (X : xX) (i j : Nat) : Bool := decide (0 < xK X i j ∧ (X.W < xN X i j ∨ j < X.P))
def fwN (X : xX) (gw o : Nat → Nat) (i j s x : Nat) : Nat := if lnJ X i j = true then jwN X gw o i j s x else gw (o x)
def p0N (X : xX) (b i j : Nat) : Nat := if lnJ X i j = true then 0 else if b = 0 then 0 else X.W - xN X i j
theorem byN_le {D k c : Nat} : byN D k c ≤ D + 1 := by
  have := Nat.div_le_self D k
  unfold byN
  split <;> omega
theorem fwN_le {X : xX} {gw o : Nat → Nat} {i j s x : Nat} (hX : xOk X) (hij : i < j) (hj : j ≤ X.P) (hw : gw (o x) ≤ 40) : fwN X gw o i j s x ≤ 3000 := by
  have g1 := xN_le hX hij hj
  have g3 := hX.W
  have g4 := byN_le (D := dfN X.W (xN X i j)) (k := xK X i j) (c := cnt (spB X.nu o) s (x - s))
  have g5 : dfN X.W (xN X i j) ≤ 2000 := by unfold dfN; split <;> omega
  unfold fwN jwN wdN
  split
  · split
    · split <;> omega
    · omega
  · omega
theorem smF_le {f : Nat → Nat} {s c : Nat} : ∀ n, (∀ x, s ≤ x → x < s + n → f x ≤ c) → smF f s n ≤ c * n
  | 0, _ => Nat.le_refl _
  | n + 1, h => by
    have h1 := smF_le (f := f) (s := s) (c := c) n (fun x x1 x2 => h x x1 (by omega))
    have h2 := h (s + n) (by omega) (by omega)
    show smF f s n + f (s + n) ≤ c * (n + 1)
    rw [Nat.mul_succ]
    omega
theorem s_54 {X : xX} {ls gw o : Nat → Nat} {C l b : Nat} {μ : gMu} {P : gMu → gRes → Prop} (hX : xOk X) (hx : cX X μ) (h6 : gI μ 32 6 = nI X.W) (h37 : gAr μ 37 (C + 1) ls) (hL : lOk X C ls) (hl : l < C) (h26 : gAr μ 26 X.G gw) (hb : b ≤ 1) (ho : ∀ x, lnS X ls l ≤ x → x < lnE X ls l → gI μ 40 x = nI (o x)) (hoi : ∀ x, lnS X ls l ≤ x → x < lnE X ls l → lnS X ls l ≤ o x ∧ o x < lnE X ls l) (hinj : ∀ x y, lnS X ls l ≤ x → x < lnE X ls l → lnS X ls l ≤ y → y < lnE X ls l → o x = o y → x = y) (hsur : ∀ g, lnS X ls l ≤ g → g < lnE X ls l → ∃ x, lnS X ls l ≤ x ∧ x < lnE X ls l ∧ o x = g) (hw40 : ∀ g, g < X.G → gw g ≤ 40) (hw1 : ∀ g, g < X.G → 1 ≤ gw g) (hq : xQ X (ls l) (ls (l + 1)) = true)
    (h : ∀ μ', gSm [42, 1] μ μ' → (∀ g, g < lnS X ls l ∨ lnE X ls l ≤ g → gI μ' 42 g = gI μ 42 g ∧ gI μ' 1 g = gI μ 1 g) → (∀ x, lnS X ls l ≤ x → x < lnE X ls l → gI μ' 1 (o x) = nI (fwN X gw o (ls l) (ls (l + 1)) (lnS X ls l) x) ∧ gI μ' 42 (o x) = nI (p0N X b (ls l) (ls (l + 1)) + smF (fwN X gw o (ls l) (ls (l + 1)) (lnS X ls l)) (lnS X ls l) (x - lnS X ls l))) → P μ' (.inl none)) : gCl' 54 [.ref 38, .int (nI l), .int (nI b)] μ P := by
  have hse := lnSE hX hL hl
  have hG := hX.G
  have hXP := hX.P
  have hij := hL.2.1 l hl
  have hj := hL.2.2 (l + 1) (by omega)
  have hCP := hL.1
  have n1 := xN_le hX hij hj
  have n2 := xK_le hX hij hj
  have n3 := hX.W
  have hq' : xN X (ls l) (ls (l + 1)) ≤ X.W + xK X (ls l) (ls (l + 1)) := of_decide_eq_true hq
  -- the last loop: the places
  have loop : ∀ (y3 y4 y5 y6 y7 : Int32) r x μ', x + r = lnE X ls l → lnS X ls l ≤ x → gSm [42, 1] μ μ' → (∀ g, g < lnS X ls l ∨ lnE X ls l ≤ g → gI μ' 42 g = gI μ 42 g ∧ gI μ' 1 g = gI μ 1 g) → (∀ z, lnS X ls l ≤ z → z < lnE X ls l → gI μ' 1 (o z) = nI (fwN X gw o (ls l) (ls (l + 1)) (lnS X ls l) z)) → (∀ z, lnS X ls l ≤ z → z < x → gI μ' 42 (o z) = nI (p0N X b (ls l) (ls (l + 1)) + smF (fwN X gw o (ls l) (ls (l + 1)) (lnS X ls l)) (lnS X ls l) (z - lnS X ls l))) → gWp none 54 (119, [some (.ref 38), some (.int (nI l)), some (.int (nI b)), some (.int y3), some (.int y4), some (.int y5), some (.int y6), some (.int y7), some (.int (nI (p0N X b (ls l) (ls (l + 1)) + smF (fwN X gw o (ls l) (ls (l + 1)) (lnS X ls l)) (lnS X ls l) (x - lnS X ls l)))), some (.int (nI x))], [], μ') 0 P := by
    intro y3 y4 y5 y6 y7 r
    induction r with
    | zero =>
      intro x μ' hr hi hs hout hwd hpl
      refine vc_54_119 (s_47 hX (hx.sm hs (by decide) (by decide) (by decide) (by decide) (by decide) (by decide)) (h37.sm hs (by decide)) hl hL.1 (by omega) hj ⟨_, rfl, ?_⟩)
      have e : X.pe (ls (l + 1) - 1) = lnE X ls l := rfl
      rw [e]
      simp (disch := first | omega | decide) only [show lnE X ls l ≤ x by omega, nE_l, nE_r, nE_n, nLe_l, nLe_r, nLe_n, nLt_l, nLt_r, nLt_n, nA_l, nA_r, nI_add, nS_l, nS_n, nIn, nI_clamp, gI_I, gI_J, gI_D, gJ_J, gJ_I, gJ_D, true_and, and_true, false_and, and_false, if_true, if_false, false_implies, true_implies, not_true_eq_false, not_false_eq_true, bI_0, bI_1, Nat.reduceEqDiff, eq_self, nMax, nMin]
      exact h μ' hs hout (fun z z1 z2 => ⟨hwd z z1 z2, hpl z z1 (by omega)⟩)
    | succ r ih =>
      intro x μ' hr hi hs hout hwd hpl
      have g0 : gI μ' 40 x = nI (o x) := by rw [hs.I (by decide), ho x hi (by omega)]
      have g1 := hoi x hi (by omega)
      have g2 := hwd x hi (by omega)
      have ec : smF (fwN X gw o (ls l) (ls (l + 1)) (lnS X ls l)) (lnS X ls l) (x + 1 - lnS X ls l) = smF (fwN X gw o (ls l) (ls (l + 1)) (lnS X ls l)) (lnS X ls l) (x - lnS X ls l) + fwN X gw o (ls l) (ls (l + 1)) (lnS X ls l) x := by
        rw [show x + 1 - lnS X ls l = (x - lnS X ls l) + 1 by omega]
        show _ + fwN X gw o (ls l) (ls (l + 1)) (lnS X ls l) (lnS X ls l + (x - lnS X ls l)) = _
        rw [show lnS X ls l + (x - lnS X ls l) = x by omega]
      have go := ih (x + 1) (gsI μ' 42 (o x) (nI (p0N X b (ls l) (ls (l + 1)) + smF (fwN X gw o (ls l) (ls (l + 1)) (lnS X ls l)) (lnS X ls l) (x - lnS X ls l)))) (by omega) (by omega) (hs.i 42 _ _ (by decide)) (fun g hg => by
        simp (disch := first | omega | decide) only [show ¬ g = o x by omega, nE_l, nE_r, nE_n, nLe_l, nLe_r, nLe_n, nLt_l, nLt_r, nLt_n, nA_l, nA_r, nI_add, nS_l, nS_n, nIn, nI_clamp, gI_I, gI_J, gI_D, gJ_J, gJ_I, gJ_D, true_and, and_true, false_and, and_false, if_true, if_false, false_implies, true_implies, not_true_eq_false, not_false_eq_true, bI_0, bI_1, Nat.reduceEqDiff, eq_self, nMax, nMin]
        exact hout g hg) (fun z z1 z2 => by
        simp (disch := first | omega | decide) only [nE_l, nE_r, nE_n, nLe_l, nLe_r, nLe_n, nLt_l, nLt_r, nLt_n, nA_l, nA_r, nI_add, nS_l, nS_n, nIn, nI_clamp, gI_I, gI_J, gI_D, gJ_J, gJ_I, gJ_D, true_and, and_true, false_and, and_false, if_true, if_false, false_implies, true_implies, not_true_eq_false, not_false_eq_true, bI_0, bI_1, Nat.reduceEqDiff, eq_self, nMax, nMin]
        exact hwd z z1 z2) (fun z z1 z2 => by
        rw [gI_I]
        by_cases q : z = x
        · rw [q, if_pos ⟨rfl, rfl⟩]
        · rw [if_neg (fun q2 => q (hinj z x z1 (by omega) hi (by omega) q2.2))]
          exact hpl z z1 (by omega))
      rw [ec, ← Nat.add_assoc] at go
      refine vc_54_119 (s_47 hX (hx.sm hs (by decide) (by decide) (by decide) (by decide) (by decide) (by decide)) (h37.sm hs (by decide)) hl hL.1 (by omega) hj ⟨_, rfl, ?_⟩)
      have e : X.pe (ls (l + 1) - 1) = lnE X ls l := rfl
      rw [e]
      simp (disch := first | omega | decide) only [show ¬ lnE X ls l ≤ x by omega, show x < 50 by omega, g0, show o x < 50 by omega, g2, nE_l, nE_r, nE_n, nLe_l, nLe_r, nLe_n, nLt_l, nLt_r, nLt_n, nA_l, nA_r, nI_add, nS_l, nS_n, nIn, nI_clamp, gI_I, gI_J, gI_D, gJ_J, gJ_I, gJ_D, true_and, and_true, false_and, and_false, if_true, if_false, false_implies, true_implies, not_true_eq_false, not_false_eq_true, bI_0, bI_1, Nat.reduceEqDiff, eq_self, nMax, nMin]
      exact go
  have start : ∀ (y3 y4 y5 y6 y7 : Int32) μ', gSm [42, 1] μ μ' → (∀ g, g < lnS X ls l ∨ lnE X ls l ≤ g → gI μ' 42 g = gI μ 42 g ∧ gI μ' 1 g = gI μ 1 g) → (∀ z, lnS X ls l ≤ z → z < lnE X ls l → gI μ' 1 (o z) = nI (fwN X gw o (ls l) (ls (l + 1)) (lnS X ls l) z)) → gCl' 51 [.ref 38, .int (nI l)] μ' (fun μ1 r => ∃ v, r = .inl (some (.int v)) ∧ gWp none 54 (119, [some (.ref 38), some (.int (nI l)), some (.int (nI b)), some (.int y3), some (.int y4), some (.int y5), some (.int y6), some (.int y7), some (.int (nI (p0N X b (ls l) (ls (l + 1))))), some (.int v)], [], μ1) 0 P) := by
    intro y3 y4 y5 y6 y7 μ' hs hout hwd
    refine s_51 hX (hx.sm hs (by decide) (by decide) (by decide) (by decide) (by decide) (by decide)) (h37.sm hs (by decide)) (by omega) hL.1 (by omega) ⟨_, rfl, ?_⟩
    have e0 := loop y3 y4 y5 y6 y7 (lnE X ls l - lnS X ls l) (lnS X ls l) μ' (by omega) (Nat.le_refl _) hs hout hwd (fun z z1 z2 => by omega)
    rw [Nat.sub_self] at e0
    exact e0
  -- not justified
  have plain : lnJ X (ls l) (ls (l + 1)) = false → ∀ (Q : gMu → gRes → Prop), (∀ μ', gSm [42, 1] μ μ' → (∀ g, g < lnS X ls l ∨ lnE X ls l ≤ g → gI μ' 42 g = gI μ 42 g ∧ gI μ' 1 g = gI μ 1 g) → (∀ z, lnS X ls l ≤ z → z < lnE X ls l → gI μ' 1 (o z) = nI (fwN X gw o (ls l) (ls (l + 1)) (lnS X ls l) z)) → Q μ' (.inl none)) → gCl' 53 [.ref 38, .int (nI l)] μ Q := by
    intro hJ Q hQ
    refine s_53 hX hx h37 hL hl h26 (fun μ1 hs1 hout1 hin1 => ?_)
    refine hQ μ1 (hs1.up (by decide)) (fun g hg => ⟨by rw [hs1.I (by decide)], hout1 g hg⟩) (fun z z1 z2 => ?_)
    have := hoi z z1 z2
    unfold fwN
    rw [if_neg (by rw [hJ]; decide), hin1 (o z) this.1 this.2]
  have just : lnJ X (ls l) (ls (l + 1)) = true → ∀ (Q : gMu → gRes → Prop), (∀ μ', gSm [42, 1] μ μ' → (∀ g, g < lnS X ls l ∨ lnE X ls l ≤ g → gI μ' 42 g = gI μ 42 g ∧ gI μ' 1 g = gI μ 1 g) → (∀ z, lnS X ls l ≤ z → z < lnE X ls l → gI μ' 1 (o z) = nI (fwN X gw o (ls l) (ls (l + 1)) (lnS X ls l) z)) → Q μ' (.inl none)) → gCl' 53 [.ref 38, .int (nI l)] μ (fun μ1 r => r = .inl none ∧ gCl' 52 [.ref 38, .int (nI l), .int (nI X.W - nI (xN X (ls l) (ls (l + 1)))), .int (nI (xK X (ls l) (ls (l + 1))))] μ1 Q) := by
    intro hJ Q hQ
    have hk : 0 < xK X (ls l) (ls (l + 1)) := (of_decide_eq_true hJ).1
    refine s_53 hX hx h37 hL hl h26 (fun μ1 hs1 hout1 hin1 => ⟨rfl, ?_⟩)
    refine s_52 (gw := gw) (o := o) hX (hx.sm hs1 (by decide) (by decide) (by decide) (by decide) (by decide) (by decide)) (h37.sm hs1 (by decide)) hL hl (fun x x1 x2 => by rw [hs1.I (by decide), ho x x1 x2]) hoi hinj hin1 hw40 hw1 hij hj hk hq' (fun μ2 hs2 hout2 hin2 => ?_)
    refine hQ μ2 ((hs1.tr hs2).up (by decide)) (fun g hg => ⟨by rw [hs2.I (by decide), hs1.I (by decide)], by rw [hout2 g hg, hout1 g hg]⟩) (fun z z1 z2 => ?_)
    unfold fwN
    rw [if_pos hJ, hin2 z z1 z2]
  have g1 := h37 l (by omega)
  have g2 := h37 (l + 1) (by omega)
  have a1 := hL.2.2 l (by omega)
  have i10 : ((1 : Int32) = 0) = False := eq_false (by decide)
  refine vc_54 ⟨vp_in_nI (by omega) (by decide), ?_⟩
  rw [nI_1, nI_clamp (show l < 2 ^ 31 by omega), nI_clamp (show l + 1 < 2 ^ 31 by omega), g1, g2]
  refine ⟨vp_in_nI (by omega) (by decide), s_29 hX hx hij hj h6 ⟨_, rfl, s_30 hX hx hij hj ⟨_, rfl, ?_⟩⟩⟩
  rw [show (nI (xK X (ls l) (ls (l + 1))) ≤ 0) = (xK X (ls l) (ls (l + 1)) ≤ 0) from nLe_l (n := 0) (by omega) (by decide), dZ_lt (by omega) (by omega), hx.1, nLe_n (by omega) (by omega)]
  have ep : lnJ X (ls l) (ls (l + 1)) = false → ¬ X.W < xN X (ls l) (ls (l + 1)) → nI X.W - nI (xN X (ls l) (ls (l + 1))) = nI (X.W - xN X (ls l) (ls (l + 1))) := fun _ hn => nS_n (by omega)
  unfold p0N at start
  simp only [i10, eq_self, not_true_eq_false, not_false_eq_true, false_implies, true_implies, and_true, true_and]
  refine ⟨fun c1 => ?_, fun c1 => ⟨fun c2 => ?_, fun c2 => ⟨fun c3 => ?_, fun c3 => ?_⟩⟩⟩
  · have hJ : lnJ X (ls l) (ls (l + 1)) = false := decide_eq_false (by omega)
    refine plain hJ _ (fun μ1 hs1 hout1 hwd1 => ⟨rfl, ?_⟩)
    rw [show (nI b = 0) = (b = 0) from nE_l (n := 0) (by omega) (by decide)]
    refine ⟨fun c4 => ?_, fun c4 => ?_⟩
    · have st := start
      rw [if_neg (by rw [hJ]; decide), if_neg c4] at st
      rw [ep hJ (by omega)]
      exact st _ _ _ _ _ μ1 hs1 hout1 hwd1
    · have st := start
      rw [if_neg (by rw [hJ]; decide), if_pos c4] at st
      exact st _ _ _ _ _ μ1 hs1 hout1 hwd1
  · have hJ : lnJ X (ls l) (ls (l + 1)) = true := decide_eq_true ⟨by omega, Or.inl c2⟩
    have st := start
    rw [if_pos hJ] at st
    exact just hJ _ (fun μ1 hs1 hout1 hwd1 => ⟨rfl, st _ _ _ _ _ μ1 hs1 hout1 hwd1⟩)
  · have hJ : lnJ X (ls l) (ls (l + 1)) = false := decide_eq_false (by omega)
    refine plain hJ _ (fun μ1 hs1 hout1 hwd1 => ⟨rfl, ?_⟩)
    rw [show (nI b = 0) = (b = 0) from nE_l (n := 0) (by omega) (by decide)]
    refine ⟨fun c4 => ?_, fun c4 => ?_⟩
    · have st := start
      rw [if_neg (by rw [hJ]; decide), if_neg c4] at st
      rw [ep hJ (by omega)]
      exact st _ _ _ _ _ μ1 hs1 hout1 hwd1
    · have st := start
      rw [if_neg (by rw [hJ]; decide), if_pos c4] at st
      exact st _ _ _ _ _ μ1 hs1 hout1 hwd1
  · have hJ : lnJ X (ls l) (ls (l + 1)) = true := decide_eq_true ⟨by omega, Or.inr (by omega)⟩
    have st := start
    rw [if_pos hJ] at st
    exact just hJ _ (fun μ1 hs1 hout1 hwd1 => ⟨rfl, st _ _ _ _ _ μ1 hs1 hout1 hwd1⟩)
