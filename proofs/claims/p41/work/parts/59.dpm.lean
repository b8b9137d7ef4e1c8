/-! THE LINES FROM BEHIND, and the parts as the lines know them -/
/-- the best end of a line that begins with i, of those up to i + m: where, its sum, its number of lines -/
def mJ (Q : Nat → Nat → Bool) (D : Nat → Nat → Nat) (L K : Nat → Nat) (i : Nat) : Nat → Nat × Nat × Nat
  | 0 => (0, 0, 0)
  | m + 1 => if Q i (i + m + 1) = true ∧ ((mJ Q D L K i m).1 = 0 ∨ D i (i + m + 1) + L (i + m + 1) < (mJ Q D L K i m).2.1 ∨ (D i (i + m + 1) + L (i + m + 1) = (mJ Q D L K i m).2.1 ∧ 1 + K (i + m + 1) < (mJ Q D L K i m).2.2)) then (i + m + 1, D i (i + m + 1) + L (i + m + 1), 1 + K (i + m + 1)) else mJ Q D L K i m
def mT (Q : Nat → Nat → Bool) (D : Nat → Nat → Nat) (P : Nat) : Nat → (Nat → Nat) × (Nat → Nat) × (Nat → Nat)
  | 0 => (fun _ => 0, fun _ => 0, fun _ => 0)
  | d + 1 => (upN (mT Q D P d).1 (P - (d + 1)) (mJ Q D (mT Q D P d).2.1 (mT Q D P d).2.2 (P - (d + 1)) (d + 1)).1, upN (mT Q D P d).2.1 (P - (d + 1)) (mJ Q D (mT Q D P d).2.1 (mT Q D P d).2.2 (P - (d + 1)) (d + 1)).2.1, upN (mT Q D P d).2.2 (P - (d + 1)) (mJ Q D (mT Q D P d).2.1 (mT Q D P d).2.2 (P - (d + 1)) (d + 1)).2.2)
theorem mJ_ok (Q : Nat → Nat → Bool) (D : Nat → Nat → Nat) (L K : Nat → Nat) (i : Nat) : ∀ m, ((mJ Q D L K i m).1 = 0 ∧ ∀ j, i < j → j ≤ i + m → Q i j = false) ∨ (i < (mJ Q D L K i m).1 ∧ (mJ Q D L K i m).1 ≤ i + m ∧ Q i (mJ Q D L K i m).1 = true ∧ (mJ Q D L K i m).2.1 = D i (mJ Q D L K i m).1 + L (mJ Q D L K i m).1 ∧ (mJ Q D L K i m).2.2 = 1 + K (mJ Q D L K i m).1 ∧ ∀ j, i < j → j ≤ i + m → Q i j = true → ((mJ Q D L K i m).2.1 < D i j + L j ∨ ((mJ Q D L K i m).2.1 = D i j + L j ∧ ((mJ Q D L K i m).2.2 < 1 + K j ∨ ((mJ Q D L K i m).2.2 = 1 + K j ∧ (mJ Q D L K i m).1 ≤ j)))))
  | 0 => Or.inl ⟨rfl, fun j h1 h2 => by omega⟩
  | m + 1 => by
    have ih := mJ_ok Q D L K i m
    have e : mJ Q D L K i (m + 1) = if Q i (i + m + 1) = true ∧ ((mJ Q D L K i m).1 = 0 ∨ D i (i + m + 1) + L (i + m + 1) < (mJ Q D L K i m).2.1 ∨ (D i (i + m + 1) + L (i + m + 1) = (mJ Q D L K i m).2.1 ∧ 1 + K (i + m + 1) < (mJ Q D L K i m).2.2)) then (i + m + 1, D i (i + m + 1) + L (i + m + 1), 1 + K (i + m + 1)) else mJ Q D L K i m := rfl
    rw [e]
    generalize mJ Q D L K i m = p at ih ⊢
    obtain ⟨p1, p2, p3⟩ := p
    dsimp only at ih ⊢
    by_cases c : Q i (i + m + 1) = true ∧ (p1 = 0 ∨ D i (i + m + 1) + L (i + m + 1) < p2 ∨ (D i (i + m + 1) + L (i + m + 1) = p2 ∧ 1 + K (i + m + 1) < p3))
    · rw [if_pos c]
      dsimp only
      refine Or.inr ⟨by omega, by omega, c.1, rfl, rfl, fun j h1 h2 hq => ?_⟩
      by_cases q : j = i + m + 1
      · rw [q]
        exact Or.inr ⟨rfl, Or.inr ⟨rfl, Nat.le_refl _⟩⟩
      · rcases ih with ⟨i1, i2⟩ | ⟨i1, i2, i3, i4, i5, i6⟩
        · have := i2 j h1 (by omega)
          rw [hq] at this
          cases this
        · have := i6 j h1 (by omega) hq
          omega
    · rw [if_neg c]
      dsimp only
      rcases ih with ⟨i1, i2⟩ | ⟨i1, i2, i3, i4, i5, i6⟩
      · refine Or.inl ⟨i1, fun j h1 h2 => ?_⟩
        by_cases q : j = i + m + 1
        · rw [q]
          cases hq : Q i (i + m + 1) with
          | false => rfl
          | true => exact absurd ⟨hq, Or.inl i1⟩ c
        · exact i2 j h1 (by omega)
      · refine Or.inr ⟨i1, by omega, i3, i4, i5, fun j h1 h2 hq => ?_⟩
        by_cases q : j = i + m + 1
        · subst q
          by_cases c2 : D i (i + m + 1) + L (i + m + 1) < p2 ∨ (D i (i + m + 1) + L (i + m + 1) = p2 ∧ 1 + K (i + m + 1) < p3)
          · exact absurd ⟨hq, Or.inr c2⟩ c
          · omega
        · exact i6 j h1 (by omega) hq
theorem mT_fin {Q : Nat → Nat → Bool} {D : Nat → Nat → Nat} {P : Nat} (hq : ∀ i, i < P → Q i (i + 1) = true) : mFin P Q D (mT Q D P P).1 (mT Q D P P).2.1 (mT Q D P P).2.2 := by
  have key : ∀ d, d ≤ P → ((mT Q D P d).2.1 P = 0 ∧ (mT Q D P d).2.2 P = 0) ∧ (∀ i, P - d ≤ i → i < P → i < (mT Q D P d).1 i ∧ (mT Q D P d).1 i ≤ P ∧ Q i ((mT Q D P d).1 i) = true ∧ (mT Q D P d).2.1 i = D i ((mT Q D P d).1 i) + (mT Q D P d).2.1 ((mT Q D P d).1 i) ∧ (mT Q D P d).2.2 i = 1 + (mT Q D P d).2.2 ((mT Q D P d).1 i)) ∧ (∀ i j, P - d ≤ i → i < j → j ≤ P → Q i j = true → ((mT Q D P d).2.1 i < D i j + (mT Q D P d).2.1 j ∨ ((mT Q D P d).2.1 i = D i j + (mT Q D P d).2.1 j ∧ ((mT Q D P d).2.2 i < 1 + (mT Q D P d).2.2 j ∨ ((mT Q D P d).2.2 i = 1 + (mT Q D P d).2.2 j ∧ (mT Q D P d).1 i ≤ j))))) := by
    intro d
    induction d with
    | zero => intro _; exact ⟨⟨rfl, rfl⟩, fun i h1 h2 => by omega, fun i j h1 h2 h3 => by omega⟩
    | succ d ih =>
      intro hd
      obtain ⟨⟨a1, a2⟩, a3, a4⟩ := ih (by omega)
      have b := mJ_ok Q D (mT Q D P d).2.1 (mT Q D P d).2.2 (P - (d + 1)) (d + 1)
      have e : mT Q D P (d + 1) = (upN (mT Q D P d).1 (P - (d + 1)) (mJ Q D (mT Q D P d).2.1 (mT Q D P d).2.2 (P - (d + 1)) (d + 1)).1, upN (mT Q D P d).2.1 (P - (d + 1)) (mJ Q D (mT Q D P d).2.1 (mT Q D P d).2.2 (P - (d + 1)) (d + 1)).2.1, upN (mT Q D P d).2.2 (P - (d + 1)) (mJ Q D (mT Q D P d).2.1 (mT Q D P d).2.2 (P - (d + 1)) (d + 1)).2.2) := rfl
      rw [e]
      generalize mJ Q D (mT Q D P d).2.1 (mT Q D P d).2.2 (P - (d + 1)) (d + 1) = p at b ⊢
      obtain ⟨p1, p2, p3⟩ := p
      generalize mT Q D P d = t at a1 a2 a3 a4 b ⊢
      obtain ⟨N, L, K⟩ := t
      dsimp only at a1 a2 a3 a4 b ⊢
      have b : P - (d + 1) < p1 ∧ p1 ≤ P ∧ Q (P - (d + 1)) p1 = true ∧ p2 = D (P - (d + 1)) p1 + L p1 ∧ p3 = 1 + K p1 ∧ ∀ j, P - (d + 1) < j → j ≤ P → Q (P - (d + 1)) j = true → (p2 < D (P - (d + 1)) j + L j ∨ (p2 = D (P - (d + 1)) j + L j ∧ (p3 < 1 + K j ∨ (p3 = 1 + K j ∧ p1 ≤ j)))) := by
        rcases b with ⟨-, b⟩ | ⟨b1, b2, b3, b4, b5, b6⟩
        · have x := b (P - (d + 1) + 1) (by omega) (by omega)
          rw [hq (P - (d + 1)) (by omega)] at x
          cases x
        · exact ⟨b1, by omega, b3, b4, b5, fun j j1 j2 j3 => b6 j j1 (by omega) j3⟩
      obtain ⟨b1, b2, b3, b4, b5, b6⟩ := b
      refine ⟨⟨by rw [upN_ne (by omega)]; exact a1, by rw [upN_ne (by omega)]; exact a2⟩, fun i h1 h2 => ?_, fun i j h1 h2 h3 h4 => ?_⟩
      · by_cases q : i = P - (d + 1)
        · subst q
          rw [upN_eq, upN_eq, upN_eq, upN_ne (by omega), upN_ne (by omega)]
          exact ⟨b1, b2, b3, b4, b5⟩
        · rw [upN_ne q, upN_ne q, upN_ne q]
          obtain ⟨c1, c2, c3, c4, c5⟩ := a3 i (by omega) h2
          rw [upN_ne (by omega), upN_ne (by omega)]
          exact ⟨c1, c2, c3, c4, c5⟩
      · rw [upN_ne (show j ≠ P - (d + 1) by omega), upN_ne (show j ≠ P - (d + 1) by omega)]
        by_cases q : i = P - (d + 1)
        · subst q
          rw [upN_eq, upN_eq, upN_eq]
          exact b6 j h2 h3 h4
        · rw [upN_ne q, upN_ne q, upN_ne q]
          exact a4 i j (by omega) h2 h3 h4
  obtain ⟨a1, a2, a3⟩ := key P (Nat.le_refl P)
  exact ⟨a1, fun i hi => a2 i (by omega) hi, fun i j hij hj hQ => a3 i j (by omega) hij hj hQ⟩
def kN (X : xX) : Nat → Nat := (mT (xQ X) (xD X) X.P X.P).1
def kL (X : xX) : Nat → Nat := (mT (xQ X) (xD X) X.P X.P).2.1
def kK (X : xX) : Nat → Nat := (mT (xQ X) (xD X) X.P X.P).2.2
/-- the first part of the line l -/
def kS (X : xX) (l : Nat) : Nat := itN (kN X) l 0
theorem kFin {X : xX} (hq : ∀ i, i < X.P → xQ X i (i + 1) = true) : mFin X.P (xQ X) (xD X) (kN X) (kL X) (kK X) := mT_fin hq
theorem kS_ok {X : xX} (hq : ∀ i, i < X.P → xQ X i (i + 1) = true) : ∀ l, l ≤ kK X 0 → kS X l ≤ X.P ∧ kK X (kS X l) = kK X 0 - l := by
  have h := kFin hq
  intro l
  induction l with
  | zero => intro _; exact ⟨Nat.zero_le _, rfl⟩
  | succ l ih =>
    intro hl
    obtain ⟨i1, i2⟩ := ih (by omega)
    have e : kS X (l + 1) = kN X (kS X l) := itN_one _ _ _
    have hlt : kS X l < X.P := by
      rcases Nat.lt_or_ge (kS X l) X.P with q | q
      · exact q
      · have : kS X l = X.P := by omega
        rw [this, h.1.2] at i2
        omega
    obtain ⟨a1, a2, a3, a4, a5⟩ := h.2.1 (kS X l) hlt
    rw [e]
    exact ⟨a2, by omega⟩
theorem kS_lt {X : xX} (hq : ∀ i, i < X.P → xQ X i (i + 1) = true) {l : Nat} (hl : l < kK X 0) : kS X l < X.P ∧ kS X l < kS X (l + 1) ∧ kS X (l + 1) ≤ X.P ∧ xQ X (kS X l) (kS X (l + 1)) = true ∧ kS X (l + 1) = kN X (kS X l) := by
  have h := kFin hq
  obtain ⟨i1, i2⟩ := kS_ok hq l (by omega)
  have e : kS X (l + 1) = kN X (kS X l) := itN_one _ _ _
  have hlt : kS X l < X.P := by
    rcases Nat.lt_or_ge (kS X l) X.P with q | q
    · exact q
    · have : kS X l = X.P := by omega
      rw [this, h.1.2] at i2
      omega
  obtain ⟨a1, a2, a3, a4, a5⟩ := h.2.1 (kS X l) hlt
  rw [e]
  exact ⟨hlt, a1, a2, a3, rfl⟩
theorem kS_end {X : xX} (hq : ∀ i, i < X.P → xQ X i (i + 1) = true) : kS X (kK X 0) = X.P := by
  have h := kFin hq
  obtain ⟨i1, i2⟩ := kS_ok hq (kK X 0) (Nat.le_refl _)
  rcases Nat.lt_or_ge (kS X (kK X 0)) X.P with q | q
  · have := (h.2.1 (kS X (kK X 0)) q).2.2.2.2
    omega
  · omega
theorem kK_le {X : xX} (hq : ∀ i, i < X.P → xQ X i (i + 1) = true) : kK X 0 ≤ X.P := by
  have key : ∀ l, l ≤ kK X 0 → l ≤ kS X l := by
    intro l
    induction l with
    | zero => intro _; exact Nat.zero_le _
    | succ l ih =>
      intro hl
      have := ih (by omega)
      have := kS_lt hq (show l < kK X 0 by omega)
      omega
  have := key (kK X 0) (Nat.le_refl _)
  rw [kS_end hq] at this
  exact this
theorem k_lOk {X : xX} (hq : ∀ i, i < X.P → xQ X i (i + 1) = true) : lOk X (kK X 0) (kS X) := ⟨kK_le hq, fun l hl => (kS_lt hq hl).2.1, fun l hl => (kS_ok hq l hl).1⟩
/-- what the class finds is that -/
theorem k_same {X : xX} {Z : gZ} (hP : X.P < 64) (hq : ∀ i, i < X.P → xQ X i (i + 1) = true) (hz : zFin X.P (xQ X) (xD X) Z) : Z.b X.P - 1 = kL X 0 ∧ Z.c X.P = kK X 0 ∧ ∀ l, l ≤ kK X 0 → itN Z.f (Z.c X.P - l) X.P = kS X l := by
  obtain ⟨a, b, c⟩ := dp_same hP hz (kFin hq)
  exact ⟨by omega, b, fun l hl => by rw [b]; exact c l hl⟩
/-! the parts -/
theorem tPx (nu : Nat → Nat) : ∀ g, (∀ j, j < tPc nu g → tPp nu g j < g) ∧ (∀ i j, i < j → j < tPc nu g → tPp nu g i < tPp nu g j) ∧ (∀ j, j < tPc nu g → tPp nu g j ≤ tPe nu g j ∧ tPe nu g j ≤ (if j + 1 < tPc nu g then tPp nu g (j + 1) else g)) ∧ (0 < tPc nu g → tPp nu g 0 = 0) ∧ (∀ j, j < tPc nu g → (∀ x, tPe nu g j ≤ x → x < (if j + 1 < tPc nu g then tPp nu g (j + 1) else g) → nu x = 32) ∧ (tPe nu g j = tPp nu g j ∨ nu (tPe nu g j - 1) ≠ 32)) ∧ (∀ j, 0 < j → j < tPc nu g → nu (tPp nu g j) ≠ 32)
  | 0 => ⟨fun j h => absurd h (Nat.not_lt_zero j), fun i j _ h => absurd h (Nat.not_lt_zero j), fun j h => absurd h (Nat.not_lt_zero j), fun h => absurd h (Nat.lt_irrefl 0), fun j h => absurd h (Nat.not_lt_zero j), fun j _ h => absurd h (Nat.not_lt_zero j)⟩
  | g + 1 => by
    obtain ⟨h1, h2, h3, h4, h5, h6⟩ := tPx nu g
    have ep : tPe nu (g + 1) = if nu g = 32 then tPh nu (tPe nu g) g else upN (tPh nu (tPe nu g) g) (tPc nu (g + 1) - 1) (g + 1) := rfl
    by_cases hb : tPb nu g = true
    · have e1 : tPc nu (g + 1) = tPc nu g + 1 := if_pos hb
      have e2 : tPp nu (g + 1) = upN (tPp nu g) (tPc nu g) g := if_pos hb
      have e3 : tPh nu (tPe nu g) g = upN (tPe nu g) (tPc nu g) g := if_pos hb
      have pe1 : ∀ j, j < tPc nu g → tPe nu (g + 1) j = tPe nu g j := by
        intro j hj
        rw [ep, e3, e1]
        split
        · rw [upN_ne (by omega)]
        · rw [upN_ne (by omega), upN_ne (by omega)]
      have pe2 : tPe nu (g + 1) (tPc nu g) = if nu g = 32 then g else g + 1 := by
        rw [ep, e3, e1, Nat.add_sub_cancel]
        split
        · rw [upN_eq]
        · rw [upN_eq]
      have pp1 : ∀ j, j < tPc nu g → tPp nu (g + 1) j = tPp nu g j := fun j hj => by rw [e2, upN_ne (by omega)]
      have pp2 : tPp nu (g + 1) (tPc nu g) = g := by rw [e2, upN_eq]
      have nx : ∀ j, j < tPc nu g → (if j + 1 < tPc nu g + 1 then tPp nu (g + 1) (j + 1) else g + 1) = (if j + 1 < tPc nu g then tPp nu g (j + 1) else g) := by
        intro j hj
        rw [if_pos (by omega)]
        by_cases c : j + 1 < tPc nu g
        · rw [if_pos c, pp1 _ c]
        · rw [if_neg c, show j + 1 = tPc nu g by omega, pp2]
      rw [e1]
      refine ⟨fun j hj => ?_, fun i j hij hj => ?_, fun j hj => ?_, fun _ => ?_, fun j hj => ?_, fun j hj0 hj => ?_⟩
      · by_cases c : j = tPc nu g
        · rw [c, pp2]; omega
        · rw [pp1 j (by omega)]
          have := h1 j (by omega)
          omega
      · rw [pp1 i (by omega)]
        by_cases c : j = tPc nu g
        · rw [c, pp2]; exact h1 i (by omega)
        · rw [pp1 j (by omega)]
          exact h2 i j hij (by omega)
      · by_cases c : j = tPc nu g
        · subst c
          rw [pp2, pe2, if_neg (show ¬ tPc nu g + 1 < tPc nu g + 1 by omega)]
          split <;> omega
        · rw [pp1 j (by omega), pe1 j (by omega), nx j (by omega)]
          exact h3 j (by omega)
      · by_cases c : tPc nu g = 0
        · have hg : g = 0 := by
            rcases Nat.eq_zero_or_pos g with z | z
            · exact z
            · obtain ⟨k, rfl⟩ : ∃ k, g = k + 1 := ⟨g - 1, by omega⟩
              have := tPc_pos nu k
              omega
          rw [← c, pp2, c]
          exact hg
        · rw [pp1 0 (by omega)]
          exact h4 (by omega)
      · by_cases c : j = tPc nu g
        · subst c
          rw [pe2, pp2, if_neg (show ¬ tPc nu g + 1 < tPc nu g + 1 by omega)]
          by_cases c2 : nu g = 32
          · rw [if_pos c2]
            exact ⟨fun x x1 x2 => by rw [show x = g by omega]; exact c2, Or.inl rfl⟩
          · rw [if_neg c2]
            exact ⟨fun x x1 x2 => by omega, Or.inr (by rw [Nat.add_sub_cancel]; exact c2)⟩
        · rw [pp1 j (by omega), pe1 j (by omega), nx j (by omega)]
          exact h5 j (by omega)
      · by_cases c : j = tPc nu g
        · rw [c, pp2]
          rw [c] at hj0
          have hg : g ≠ 0 := fun z => by rw [z] at hj0; exact absurd hj0 (Nat.lt_irrefl 0)
          unfold tPb tBk at hb
          intro z
          rw [z] at hb
          simp [hg] at hb
        · rw [pp1 j (by omega)]
          exact h6 j hj0 (by omega)
    · have e1 : tPc nu (g + 1) = tPc nu g := if_neg hb
      have e2 : tPp nu (g + 1) = tPp nu g := if_neg hb
      have e3 : tPh nu (tPe nu g) g = tPe nu g := if_neg hb
      have hg : 0 < g := by
        rcases Nat.eq_zero_or_pos g with z | z
        · exact absurd (by rw [z]; rfl) hb
        · exact z
      have hp : 0 < tPc nu g := by
        obtain ⟨k, rfl⟩ : ∃ k, g = k + 1 := ⟨g - 1, by omega⟩
        exact tPc_pos nu k
      have pe1 : ∀ j, j + 1 < tPc nu g → tPe nu (g + 1) j = tPe nu g j := by
        intro j hj
        rw [ep, e3, e1]
        split
        · rfl
        · rw [upN_ne (by omega)]
      have pe2 : tPe nu (g + 1) (tPc nu g - 1) = if nu g = 32 then tPe nu g (tPc nu g - 1) else g + 1 := by
        rw [ep, e3, e1]
        split
        · rfl
        · rw [upN_eq]
      rw [e1, e2]
      refine ⟨fun j hj => by have := h1 j hj; omega, h2, fun j hj => ?_, h4, fun j hj => ?_, h6⟩
      · by_cases c : j + 1 < tPc nu g
        · rw [pe1 j c, if_pos c]
          have := h3 j hj
          rw [if_pos c] at this
          exact this
        · rw [if_neg c, show j = tPc nu g - 1 by omega, pe2]
          have a := h3 (tPc nu g - 1) (by omega)
          rw [if_neg (by omega)] at a
          have b := h1 (tPc nu g - 1) (by omega)
          split <;> omega
      · by_cases c : j + 1 < tPc nu g
        · rw [pe1 j c, if_pos c]
          have := h5 j hj
          rw [if_pos c] at this
          exact this
        · rw [if_neg c, show j = tPc nu g - 1 by omega, pe2]
          have a := h5 (tPc nu g - 1) (by omega)
          rw [if_neg (by omega)] at a
          by_cases c2 : nu g = 32
          · rw [if_pos c2]
            refine ⟨fun x x1 x2 => ?_, a.2⟩
            by_cases c3 : x = g
            · rw [c3]; exact c2
            · exact a.1 x x1 (by omega)
          · rw [if_neg c2]
            exact ⟨fun x x1 x2 => by omega, Or.inr (by rw [Nat.add_sub_cancel]; exact c2)⟩
/-- the parts of G glyphs with the numbers nu and the widths gw, as lines of the width W know them -/
def xOf (G W : Nat) (nu gw : Nat → Nat) : xX := (G, tPc nu G, W, nu, tPs gw, tPs (fun g => spN (nu g)), upN (tPp nu G) (tPc nu G) G, tPe nu G)
theorem spN_le (x : Nat) : spN x ≤ 1 := by unfold spN; split <;> omega
theorem xOf_ok {G W : Nat} {nu gw : Nat → Nat} (hG : G ≤ 50) (hW : 10 ≤ W ∧ W ≤ 200) (hnu : ∀ g, g < G → nu g < 1000) (hw : ∀ g, g < G → gw g ≤ 40) : xOk (xOf G W nu gw) := by
  obtain ⟨h1, h2, h3, h4, h5, h6⟩ := tPx nu G
  have p1 : ∀ j, j < tPc nu G → upN (tPp nu G) (tPc nu G) G j = tPp nu G j := fun j hj => upN_ne (by omega)
  have p2 : upN (tPp nu G) (tPc nu G) G (tPc nu G) = G := upN_eq _ _ _
  have nx : ∀ j, j < tPc nu G → upN (tPp nu G) (tPc nu G) G (j + 1) = (if j + 1 < tPc nu G then tPp nu G (j + 1) else G) := by
    intro j hj
    by_cases c : j + 1 < tPc nu G
    · rw [if_pos c, p1 _ c]
    · rw [if_neg c, show j + 1 = tPc nu G by omega, p2]
  refine ⟨hG, tPc_le nu G, hW, hnu, fun i j hij _ => tPs_mono hij, fun j hj => ?_, fun i j hij _ => tPs_mono hij, fun j hj => ?_, fun i j hij hj => ?_, p2, fun j hj => ?_, fun h0 => ?_⟩
  · have hj : j ≤ G := hj
    have := tPs_le (f := gw) (c := 40) j (fun x hx => hw x (by omega))
    show tPs gw j ≤ 2000
    omega
  · have hj : j ≤ G := hj
    have := tPs_le (f := fun g => spN (nu g)) (c := 1) j (fun x hx => spN_le _)
    show tPs (fun g => spN (nu g)) j ≤ 50
    omega
  · show upN (tPp nu G) (tPc nu G) G i < upN (tPp nu G) (tPc nu G) G j
    have hj : j ≤ tPc nu G := hj
    rw [p1 i (by omega)]
    by_cases c : j = tPc nu G
    · rw [c, p2]; exact h1 i (by omega)
    · rw [p1 j (by omega)]; exact h2 i j hij (by omega)
  · have hj : j < tPc nu G := hj
    show upN (tPp nu G) (tPc nu G) G j ≤ tPe nu G j ∧ tPe nu G j ≤ upN (tPp nu G) (tPc nu G) G (j + 1)
    rw [p1 j hj, nx j hj]
    exact h3 j hj
  · have h0 : 0 < tPc nu G := h0
    show upN (tPp nu G) (tPc nu G) G 0 = 0
    rw [p1 0 h0]
    exact h4 h0
theorem tBl_iff (nu : Nat → Nat) : ∀ g, tBl nu g = true ↔ ∀ x, x < g → nu x = 32
  | 0 => ⟨fun _ x hx => absurd hx (Nat.not_lt_zero x), fun _ => rfl⟩
  | g + 1 => by
    have ih := tBl_iff nu g
    show (tBl nu g && nu g == 32) = true ↔ _
    rw [Bool.and_eq_true, ih, beq_iff_eq]
    constructor
    · rintro ⟨a, b⟩ x hx
      by_cases c : x = g
      · rw [c]; exact b
      · exact a x (by omega)
    · intro a
      exact ⟨fun x hx => a x (by omega), a g (by omega)⟩
