/-! VISUAL ORDER: reversing, and the second way -/
def rS (lv : Nat → Nat) (v s : Nat) : Nat → Nat
  | 0 => s
  | r + 1 => if v ≤ lv (s + r) then rS lv v s r else s + r + 1
def rE (lv : Nat → Nat) (v e : Nat) : Nat → Nat
  | 0 => e - 1
  | r + 1 => if v ≤ lv (e - 1 - r) then rE lv v e r else e - 1 - (r + 1)
/-- where the place j goes when the sequences of level v or higher in [s, e) are reversed -/
def mir (lv : Nat → Nat) (v s e j : Nat) : Nat := if v ≤ lv j then rS lv v s (j - s) + rE lv v e (e - 1 - j) - j else j
theorem rS_run {lv : Nat → Nat} {v s a : Nat} (hs : s ≤ a) (ha : a = s ∨ lv (a - 1) < v) : ∀ n, (∀ x, a ≤ x → x < a + n → v ≤ lv x) → rS lv v s (a + n - s) = a
  | 0, _ => by
    rcases Nat.lt_or_ge s a with h | h
    · rw [show a + 0 - s = (a - 1 - s) + 1 by omega]
      show (if v ≤ lv (s + (a - 1 - s)) then _ else s + (a - 1 - s) + 1) = a
      rw [show s + (a - 1 - s) = a - 1 by omega, if_neg (by omega)]
      omega
    · have : a = s := by omega
      subst this
      rw [Nat.add_zero, Nat.sub_self]
      rfl
  | n + 1, hall => by
    rw [show a + (n + 1) - s = (a + n - s) + 1 by omega]
    show (if v ≤ lv (s + (a + n - s)) then rS lv v s (a + n - s) else _) = a
    rw [if_pos (by rw [show s + (a + n - s) = a + n by omega]; exact hall (a + n) (by omega) (by omega))]
    exact rS_run hs ha n (fun x h1 h2 => hall x h1 (by omega))
theorem rE_run {lv : Nat → Nat} {v e b : Nat} (hb : b ≤ e) (hbe : b = e ∨ lv b < v) : ∀ n, n < b → (∀ x, b - 1 - n ≤ x → x < b → v ≤ lv x) → rE lv v e (e - 1 - (b - 1 - n)) = b - 1
  | 0, hn, _ => by
    rcases Nat.lt_or_ge b e with h | h
    · rw [show e - 1 - (b - 1 - 0) = (e - 1 - b) + 1 by omega]
      show (if v ≤ lv (e - 1 - (e - 1 - b)) then _ else e - 1 - ((e - 1 - b) + 1)) = b - 1
      rw [show e - 1 - (e - 1 - b) = b by omega, if_neg (by omega)]
      omega
    · have : b = e := by omega
      subst this
      rw [show b - 1 - (b - 1 - 0) = 0 by omega]
      rfl
  | n + 1, hn, hall => by
    rw [show e - 1 - (b - 1 - (n + 1)) = (e - 1 - (b - 1 - n)) + 1 by omega]
    show (if v ≤ lv (e - 1 - (e - 1 - (b - 1 - n))) then rE lv v e (e - 1 - (b - 1 - n)) else _) = b - 1
    rw [if_pos (by rw [show e - 1 - (e - 1 - (b - 1 - n)) = b - 1 - n by omega]; exact hall (b - 1 - n) (by omega) (by omega))]
    exact rE_run hb hbe n (by omega) (fun x h1 h2 => hall x (by omega) h2)
theorem mir_run {lv : Nat → Nat} {v s e a b j : Nat} (hs : s ≤ a) (ha : a = s ∨ lv (a - 1) < v) (hb : b ≤ e) (hbe : b = e ∨ lv b < v) (hall : ∀ x, a ≤ x → x < b → v ≤ lv x) (h1 : a ≤ j) (h2 : j < b) : mir lv v s e j = a + (b - 1) - j := by
  unfold mir
  rw [if_pos (hall j h1 h2)]
  have e1 := rS_run hs ha (j - a) (fun x h3 h4 => hall x h3 (by omega))
  have e2 := rE_run hb hbe (b - 1 - j) (by omega) (fun x h3 h4 => hall x (by omega) h4)
  rw [show a + (j - a) - s = j - s by omega] at e1
  rw [show b - 1 - (b - 1 - j) = j by omega] at e2
  rw [e1, e2]
/-- the maximal sequence round j -/
theorem run_ex {lv : Nat → Nat} {v s e j : Nat} (h1 : s ≤ j) (h2 : j < e) (hv : v ≤ lv j) : ∃ a b, s ≤ a ∧ (a = s ∨ lv (a - 1) < v) ∧ b ≤ e ∧ (b = e ∨ lv b < v) ∧ (∀ x, a ≤ x → x < b → v ≤ lv x) ∧ a ≤ j ∧ j < b := by
  have hl : ∀ n, n ≤ j - s → (∀ x, j - n ≤ x → x ≤ j → v ≤ lv x) → ∃ a, s ≤ a ∧ a ≤ j ∧ (a = s ∨ lv (a - 1) < v) ∧ ∀ x, a ≤ x → x ≤ j → v ≤ lv x := by
    intro n hn
    generalize hr : j - s - n = r
    induction r generalizing n with
    | zero =>
      intro hall
      exact ⟨j - n, by omega, by omega, Or.inl (by omega), hall⟩
    | succ r ih =>
      intro hall
      by_cases q : v ≤ lv (j - n - 1)
      · exact ih (n + 1) (by omega) (by omega) (fun x h3 h4 => by
          by_cases q2 : x = j - n - 1
          · rw [q2]; exact q
          · exact hall x (by omega) h4)
      · exact ⟨j - n, by omega, by omega, Or.inr (by omega), hall⟩
  have hr : ∀ n, n ≤ e - 1 - j → (∀ x, j ≤ x → x ≤ j + n → v ≤ lv x) → ∃ b, b ≤ e ∧ j < b ∧ (b = e ∨ lv b < v) ∧ ∀ x, j ≤ x → x < b → v ≤ lv x := by
    intro n hn
    generalize hr : e - 1 - j - n = r
    induction r generalizing n with
    | zero =>
      intro hall
      exact ⟨j + n + 1, by omega, by omega, Or.inl (by omega), fun x h3 h4 => hall x h3 (by omega)⟩
    | succ r ih =>
      intro hall
      by_cases q : v ≤ lv (j + n + 1)
      · exact ih (n + 1) (by omega) (by omega) (fun x h3 h4 => by
          by_cases q2 : x = j + n + 1
          · rw [q2]; exact q
          · exact hall x h3 (by omega))
      · exact ⟨j + n + 1, by omega, by omega, Or.inr (by omega), fun x h3 h4 => hall x h3 (by omega)⟩
  obtain ⟨a, a1, a2, a3, a4⟩ := hl 0 (Nat.zero_le _) (fun x h3 h4 => by
    have : x = j := by omega
    rw [this]; exact hv)
  obtain ⟨b, b1, b2, b3, b4⟩ := hr 0 (Nat.zero_le _) (fun x h3 h4 => by
    have : x = j := by omega
    rw [this]; exact hv)
  exact ⟨a, b, a1, a3, b1, b3, fun x h3 h4 => by
    rcases Nat.lt_or_ge x j with q | q
    · exact a4 x h3 (by omega)
    · exact b4 x q h4, a2, b2⟩
theorem mir_low {lv : Nat → Nat} {v s e j : Nat} (h : lv j < v) : mir lv v s e j = j := if_neg (by omega)
theorem mir_in {lv : Nat → Nat} {v s e j : Nat} (h1 : s ≤ j) (h2 : j < e) : s ≤ mir lv v s e j ∧ mir lv v s e j < e := by
  by_cases hv : v ≤ lv j
  · obtain ⟨a, b, a1, a2, a3, a4, a5, a6, a7⟩ := run_ex h1 h2 hv
    rw [mir_run a1 a2 a3 a4 a5 a6 a7]
    omega
  · rw [mir_low (by omega)]
    exact ⟨h1, h2⟩
theorem mir_mir {lv : Nat → Nat} {v s e j : Nat} (h1 : s ≤ j) (h2 : j < e) : mir lv v s e (mir lv v s e j) = j := by
  by_cases hv : v ≤ lv j
  · obtain ⟨a, b, a1, a2, a3, a4, a5, a6, a7⟩ := run_ex h1 h2 hv
    rw [mir_run a1 a2 a3 a4 a5 a6 a7, mir_run a1 a2 a3 a4 a5 (by omega) (by omega)]
    omega
  · have e0 : mir lv v s e j = j := mir_low (by omega)
    rw [e0, e0]
/-- all between j and where it goes is as high -/
theorem mir_btw {lv : Nat → Nat} {v s e j : Nat} (h1 : s ≤ j) (h2 : j < e) : mir lv v s e j = j ∨ ∀ x, (j ≤ x ∧ x ≤ mir lv v s e j) ∨ (mir lv v s e j ≤ x ∧ x ≤ j) → v ≤ lv x := by
  by_cases hv : v ≤ lv j
  · obtain ⟨a, b, a1, a2, a3, a4, a5, a6, a7⟩ := run_ex h1 h2 hv
    rw [mir_run a1 a2 a3 a4 a5 a6 a7]
    exact Or.inr (fun x hx => a5 x (by omega) (by omega))
  · exact Or.inl (mir_low (by omega))
theorem mir_lv {lv : Nat → Nat} {v s e j : Nat} (h1 : s ≤ j) (h2 : j < e) (w : Nat) (hw : w ≤ v) : (w ≤ lv (mir lv v s e j)) ↔ (w ≤ lv j) := by
  rcases mir_btw (lv := lv) (v := v) h1 h2 with h | h
  · rw [h]
  · have a := h j (by omega)
    have b := h (mir lv v s e j) (by omega)
    omega
/-- two places of one sequence change sides -/
theorem mir_flip {lv : Nat → Nat} {v s e j k : Nat} (h1 : s ≤ j) (h2 : j < e) (h3 : s ≤ k) (h4 : k < e) (hall : ∀ x, (j ≤ x ∧ x ≤ k) ∨ (k ≤ x ∧ x ≤ j) → v ≤ lv x) : (mir lv v s e j < mir lv v s e k) ↔ k < j := by
  have hv := hall j (by omega)
  obtain ⟨a, b, a1, a2, a3, a4, a5, a6, a7⟩ := run_ex h1 h2 hv
  have hk : a ≤ k ∧ k < b := by
    constructor
    · rcases Nat.lt_or_ge k a with q | q
      · rcases a2 with r | r
        · omega
        · have := hall (a - 1) (by omega)
          omega
      · exact q
    · rcases Nat.lt_or_ge k b with q | q
      · exact q
      · rcases a4 with r | r
        · omega
        · have := hall b (by omega)
          omega
  rw [mir_run a1 a2 a3 a4 a5 a6 a7, mir_run a1 a2 a3 a4 a5 hk.1 hk.2]
  omega
/-- which stands at the place j, and where g stands, behind d steps down from the level t -/
def oF (lv : Nat → Nat) (s e t : Nat) : Nat → Nat → Nat
  | 0, j => j
  | d + 1, j => oF lv s e t d (mir lv (t - d) s e j)
def pF (lv : Nat → Nat) (s e t : Nat) : Nat → Nat → Nat
  | 0, g => g
  | d + 1, g => mir lv (t - d) s e (pF lv s e t d g)
theorem oF_in {lv : Nat → Nat} {s e t : Nat} : ∀ d j, s ≤ j → j < e → s ≤ oF lv s e t d j ∧ oF lv s e t d j < e
  | 0, _, h1, h2 => ⟨h1, h2⟩
  | d + 1, j, h1, h2 => by
    have h := mir_in (lv := lv) (v := t - d) h1 h2
    exact oF_in d _ h.1 h.2
theorem pF_in {lv : Nat → Nat} {s e t : Nat} : ∀ d g, s ≤ g → g < e → s ≤ pF lv s e t d g ∧ pF lv s e t d g < e
  | 0, _, h1, h2 => ⟨h1, h2⟩
  | d + 1, g, h1, h2 => by
    have h := pF_in (lv := lv) (t := t) d g h1 h2
    exact mir_in h.1 h.2
theorem oF_pF {lv : Nat → Nat} {s e t : Nat} : ∀ d g, s ≤ g → g < e → oF lv s e t d (pF lv s e t d g) = g
  | 0, _, _, _ => rfl
  | d + 1, g, h1, h2 => by
    have h := pF_in (lv := lv) (t := t) d g h1 h2
    show oF lv s e t d (mir lv (t - d) s e (mir lv (t - d) s e (pF lv s e t d g))) = g
    rw [mir_mir h.1 h.2]
    exact oF_pF d g h1 h2
theorem pF_oF {lv : Nat → Nat} {s e t : Nat} : ∀ d j, s ≤ j → j < e → pF lv s e t d (oF lv s e t d j) = j
  | 0, _, _, _ => rfl
  | d + 1, j, h1, h2 => by
    have h := mir_in (lv := lv) (v := t - d) h1 h2
    show mir lv (t - d) s e (pF lv s e t d (oF lv s e t d (mir lv (t - d) s e j))) = j
    rw [pF_oF d _ h.1 h.2, mir_mir h1 h2]
theorem oF_lv {lv : Nat → Nat} {s e t : Nat} : ∀ d j, s ≤ j → j < e → ∀ w, w ≤ t - (d - 1) → (w ≤ lv (oF lv s e t d j) ↔ w ≤ lv j)
  | 0, _, _, _, _, _ => Iff.rfl
  | d + 1, j, h1, h2, w, hw => by
    have h := mir_in (lv := lv) (v := t - d) h1 h2
    show w ≤ lv (oF lv s e t d (mir lv (t - d) s e j)) ↔ _
    rw [oF_lv d _ h.1 h.2 w (by omega), mir_lv h1 h2 w (by omega)]
/-- nothing leaves its sequence -/
theorem pF_btw {lv : Nat → Nat} {s e t : Nat} : ∀ d g, s ≤ g → g < e → pF lv s e t d g = g ∨ (0 < d ∧ ∀ x, (g ≤ x ∧ x ≤ pF lv s e t d g) ∨ (pF lv s e t d g ≤ x ∧ x ≤ g) → t - (d - 1) ≤ lv x)
  | 0, _, _, _ => Or.inl rfl
  | d + 1, g, h1, h2 => by
    have hi := pF_in (lv := lv) (t := t) d g h1 h2
    have ih := pF_btw (lv := lv) (s := s) (e := e) (t := t) d g h1 h2
    have hm := mir_btw (lv := lv) (v := t - d) hi.1 hi.2
    show mir lv (t - d) s e (pF lv s e t d g) = g ∨ (0 < d + 1 ∧ ∀ x, (g ≤ x ∧ x ≤ mir lv (t - d) s e (pF lv s e t d g)) ∨ (mir lv (t - d) s e (pF lv s e t d g) ≤ x ∧ x ≤ g) → t - (d + 1 - 1) ≤ lv x)
    rw [Nat.add_sub_cancel]
    by_cases q : mir lv (t - d) s e (pF lv s e t d g) = g
    · exact Or.inl q
    · refine Or.inr ⟨by omega, fun x hx => ?_⟩
      rcases hm with hm | hm
      · rw [hm] at q hx
        rcases ih with ih | ⟨ih0, ih⟩
        · exact absurd ih q
        · have := ih x hx
          omega
      · rcases ih with ih | ⟨ih0, ih⟩
        · rw [ih] at hm hx
          exact hm x hx
        · by_cases c1 : (g ≤ x ∧ x ≤ pF lv s e t d g) ∨ (pF lv s e t d g ≤ x ∧ x ≤ g)
          · have := ih x c1
            omega
          · exact hm x (by omega)
/-- what is parted by a lower one stays parted -/
theorem pF_part {lv : Nat → Nat} {s e t d h g x : Nat} (h1 : s ≤ h) (h2 : h < g) (h3 : g < e) (hx1 : h ≤ x) (hx2 : x ≤ g) (hx : d = 0 ∨ lv x < t - (d - 1)) : pF lv s e t d h < pF lv s e t d g := by
  have a := pF_btw (lv := lv) (s := s) (e := e) (t := t) d h h1 (by omega)
  have b := pF_btw (lv := lv) (s := s) (e := e) (t := t) d g (by omega) h3
  have a' : pF lv s e t d h = h ∨ pF lv s e t d h < x := by
    rcases a with a | ⟨a0, a⟩
    · exact Or.inl a
    · refine Or.inr ?_
      rcases Nat.lt_or_ge (pF lv s e t d h) x with q | q
      · exact q
      · have := a x (by omega)
        omega
  have b' : pF lv s e t d g = g ∨ x < pF lv s e t d g := by
    rcases b with b | ⟨b0, b⟩
    · exact Or.inl b
    · refine Or.inr ?_
      rcases Nat.lt_or_ge x (pF lv s e t d g) with q | q
      · exact q
      · have := b x (by omega)
        omega
  omega
/-- the least level in [h, h + n] -/
def mnL (lv : Nat → Nat) (h : Nat) : Nat → Nat
  | 0 => lv h
  | n + 1 => mnN (lv (h + n + 1)) (mnL lv h n)
theorem mnL_le (lv : Nat → Nat) (h : Nat) : ∀ n x, h ≤ x → x ≤ h + n → mnL lv h n ≤ lv x
  | 0, x, h1, h2 => by
    have : x = h := by omega
    subst this
    exact Nat.le_refl _
  | n + 1, x, h1, h2 => by
    unfold mnL mnN
    by_cases q : x = h + n + 1
    · subst q
      split <;> omega
    · have := mnL_le lv h n x h1 (by omega)
      split <;> omega
theorem mnL_at (lv : Nat → Nat) (h : Nat) : ∀ n, ∃ x, h ≤ x ∧ x ≤ h + n ∧ lv x = mnL lv h n
  | 0 => ⟨h, Nat.le_refl h, Nat.le_refl h, rfl⟩
  | n + 1 => by
    unfold mnL mnN
    split
    · exact ⟨h + n + 1, by omega, by omega, rfl⟩
    · obtain ⟨x, h1, h2, h3⟩ := mnL_at lv h n
      exact ⟨x, h1, by omega, h3⟩
theorem pF_inj {lv : Nat → Nat} {s e t d g h : Nat} (h1 : s ≤ g) (h2 : g < e) (h3 : s ≤ h) (h4 : h < e) (hh : pF lv s e t d g = pF lv s e t d h) : g = h := by
  have a := oF_pF (lv := lv) (s := s) (e := e) (t := t) d g h1 h2
  have b := oF_pF (lv := lv) (s := s) (e := e) (t := t) d h h3 h4
  rw [hh, b] at a
  exact a.symm
/-- the second way: sides change once for each level that all between have -/
theorem pF_side {lv : Nat → Nat} {s e t h g : Nat} (h1 : s ≤ h) (h2 : h < g) (h3 : g < e) (hm : mnL lv h (g - h) ≤ t) : ∀ d, d ≤ t → ((t - d < mnL lv h (g - h) → (pF lv s e t d h < pF lv s e t d g ↔ (mnL lv h (g - h) - (t - d)) % 2 = 0)) ∧ (mnL lv h (g - h) ≤ t - d → pF lv s e t d h < pF lv s e t d g))
  | 0, _ => by
    refine ⟨fun q => by omega, fun _ => h2⟩
  | d + 1, hd => by
    obtain ⟨i1, i2⟩ := pF_side h1 h2 h3 hm d (by omega)
    have a1 := pF_in (lv := lv) (t := t) d h h1 (by omega : h < e)
    have a2 := pF_in (lv := lv) (t := t) d g (by omega : s ≤ g) h3
    refine ⟨fun q => ?_, fun q => ?_⟩
    · -- both lie in one sequence
      have hall : ∀ x, (pF lv s e t d h ≤ x ∧ x ≤ pF lv s e t d g) ∨ (pF lv s e t d g ≤ x ∧ x ≤ pF lv s e t d h) → t - d ≤ lv x := by
        intro x hx
        by_cases c : h ≤ x ∧ x ≤ g
        · have := mnL_le lv h (g - h) x c.1 (by omega)
          omega
        · rcases pF_btw (lv := lv) (s := s) (e := e) (t := t) d h h1 (by omega) with b1 | ⟨b0, b1⟩
          · rcases pF_btw (lv := lv) (s := s) (e := e) (t := t) d g (by omega) h3 with c1 | ⟨c0, c1⟩
            · omega
            · have := c1 x (by omega)
              omega
          · by_cases c2 : (h ≤ x ∧ x ≤ pF lv s e t d h) ∨ (pF lv s e t d h ≤ x ∧ x ≤ h)
            · have := b1 x c2
              omega
            · rcases pF_btw (lv := lv) (s := s) (e := e) (t := t) d g (by omega) h3 with c1 | ⟨c0, c1⟩
              · omega
              · have := c1 x (by omega)
                omega
      have fl := mir_flip (lv := lv) (v := t - d) a1.1 a1.2 a2.1 a2.2 hall
      show (mir lv (t - d) s e (pF lv s e t d h) < mir lv (t - d) s e (pF lv s e t d g)) ↔ _
      rw [fl]
      have hne : pF lv s e t d h ≠ pF lv s e t d g := fun q2 => by
        have := pF_inj h1 (by omega) (by omega) h3 q2
        omega
      by_cases c : t - d < mnL lv h (g - h)
      · have := i1 c
        omega
      · have := i2 (by omega)
        omega
    · obtain ⟨x, x1, x2, x3⟩ := mnL_at lv h (g - h)
      exact pF_part h1 h2 h3 x1 (by omega) (Or.inr (by omega))
theorem pF_even {lv : Nat → Nat} {s e t h g : Nat} (h1 : s ≤ h) (h2 : h < g) (h3 : g < e) (hm : mnL lv h (g - h) ≤ t) : (pF lv s e t t h < pF lv s e t t g) ↔ isOd (mnL lv h (g - h)) = false := by
  obtain ⟨a, b⟩ := pF_side h1 h2 h3 hm t (Nat.le_refl t)
  rw [Nat.sub_self] at a b
  unfold isOd
  by_cases q : 0 < mnL lv h (g - h)
  · rw [a q, Nat.sub_zero]
    by_cases c : mnL lv h (g - h) % 2 = 0
    · rw [c]; simp
    · rw [show mnL lv h (g - h) % 2 = 1 by omega]; simp
  · have e0 : mnL lv h (g - h) = 0 := by omega
    have := b (by omega)
    rw [e0]
    simp [this]
def cnt (f : Nat → Bool) (s : Nat) : Nat → Nat
  | 0 => 0
  | n + 1 => cnt f s n + (if f (s + n) = true then 1 else 0)
theorem cnt_eq {f g : Nat → Bool} {s : Nat} : ∀ n, (∀ x, s ≤ x → x < s + n → f x = g x) → cnt f s n = cnt g s n
  | 0, _ => rfl
  | n + 1, h => by
    show cnt f s n + _ = cnt g s n + _
    rw [cnt_eq n (fun x h1 h2 => h x h1 (by omega)), h (s + n) (by omega) (by omega)]
theorem cnt_app (f : Nat → Bool) (s a : Nat) : ∀ b, cnt f s (a + b) = cnt f s a + cnt f (s + a) b
  | 0 => rfl
  | b + 1 => by
    show cnt f s (a + b) + (if f (s + (a + b)) = true then 1 else 0) = cnt f s a + (cnt f (s + a) b + (if f (s + a + b) = true then 1 else 0))
    rw [cnt_app f s a b, show s + (a + b) = s + a + b by omega]
    omega
theorem cnt_one {f : Nat → Bool} {s a : Nat} : ∀ n, (∀ x, s ≤ x → x < s + n → (f x = true ↔ x = a)) → cnt f s n = if s ≤ a ∧ a < s + n then 1 else 0
  | 0, _ => by
    rw [if_neg (by omega)]
    rfl
  | n + 1, h => by
    show cnt f s n + _ = _
    rw [cnt_one n (fun x h1 h2 => h x h1 (by omega))]
    have q := h (s + n) (by omega) (by omega)
    by_cases c : s + n = a
    · rw [if_neg (by omega), if_pos (q.mpr c), if_pos (by omega)]
    · rw [if_neg (fun z => c (q.mp z))]
      by_cases c2 : s ≤ a ∧ a < s + n
      · rw [if_pos c2, if_pos (by omega)]
      · rw [if_neg c2, if_neg (by omega)]
/-- as many stand before the place j as there are places before it -/
theorem cnt_pF {lv : Nat → Nat} {s e t d : Nat} (hse : s ≤ e) : ∀ j, s + j ≤ e → cnt (fun h => decide (pF lv s e t d h < s + j)) s (e - s) = j
  | 0, _ => by
    have key : ∀ n, n ≤ e - s → cnt (fun h => decide (pF lv s e t d h < s + 0)) s n = 0 := by
      intro n
      induction n with
      | zero => intro _; rfl
      | succ n ih =>
        intro hn
        have := pF_in (lv := lv) (t := t) d (s + n) (by omega : s ≤ s + n) (by omega : s + n < e)
        show cnt _ s n + _ = 0
        rw [ih (by omega), if_neg (by simp only [decide_eq_true_eq]; omega)]
    exact key _ (Nat.le_refl _)
  | j + 1, hj => by
    have ih := cnt_pF (lv := lv) (t := t) (d := d) hse j (by omega)
    have ho := oF_in (lv := lv) (t := t) d (s + j) (by omega : s ≤ s + j) (by omega : s + j < e)
    have h1 : cnt (fun h => decide (pF lv s e t d h = s + j)) s (e - s) = 1 := by
      rw [cnt_one (a := oF lv s e t d (s + j)) (e - s) (fun x h1 h2 => ?_), if_pos (by omega)]
      rw [decide_eq_true_eq]
      constructor
      · intro q
        rw [← q, oF_pF d x h1 (by omega)]
      · intro q
        rw [q, pF_oF d _ (by omega) (by omega)]
    have key : ∀ n, cnt (fun h => decide (pF lv s e t d h < s + (j + 1))) s n = cnt (fun h => decide (pF lv s e t d h < s + j)) s n + cnt (fun h => decide (pF lv s e t d h = s + j)) s n := by
      intro n
      induction n with
      | zero => rfl
      | succ n ih2 =>
        show cnt _ s n + _ = (cnt _ s n + _) + (cnt _ s n + _)
        rw [ih2]
        simp only [decide_eq_true_eq]
        by_cases c1 : pF lv s e t d (s + n) < s + j
        · rw [if_pos c1, if_pos (by omega), if_neg (by omega)]
          omega
        · by_cases c2 : pF lv s e t d (s + n) = s + j
          · rw [if_neg c1, if_pos c2, if_pos (by omega)]
            omega
          · rw [if_neg c1, if_neg c2, if_neg (by omega)]
            omega
    rw [key, ih, h1]
/-- the rank by counting: ahead those with an even lowest level, behind those with an odd one -/
theorem rank_cnt {lv : Nat → Nat} {s e t g : Nat} (h1 : s ≤ g) (h2 : g < e) (ht : ∀ x, s ≤ x → x < e → lv x ≤ t) : cnt (fun h => !isOd (mnL lv h (g - h))) s (g - s) + cnt (fun h => isOd (mnL lv g (h - g))) (g + 1) (e - 1 - g) = pF lv s e t t g - s := by
  have hp := pF_in (lv := lv) (t := t) t g h1 h2
  have h3 := cnt_pF (lv := lv) (s := s) (e := e) (t := t) (d := t) (by omega) (pF lv s e t t g - s) (by omega)
  rw [show s + (pF lv s e t t g - s) = pF lv s e t t g by omega, show e - s = (g - s) + (1 + (e - 1 - g)) by omega, cnt_app, cnt_app] at h3
  rw [show s + (g - s) = g by omega] at h3
  have h4 : cnt (fun h => decide (pF lv s e t t h < pF lv s e t t g)) g 1 = 0 := by
    show 0 + (if decide (pF lv s e t t (g + 0) < pF lv s e t t g) = true then 1 else 0) = 0
    rw [Nat.add_zero, if_neg (by simp)]
  rw [h4] at h3
  have h5 : cnt (fun h => !isOd (mnL lv h (g - h))) s (g - s) = cnt (fun h => decide (pF lv s e t t h < pF lv s e t t g)) s (g - s) := by
    refine cnt_eq _ (fun x x1 x2 => ?_)
    have hm := mnL_le lv x (g - x) x (Nat.le_refl x) (by omega)
    have hx := ht x x1 (by omega)
    have q := pF_even (lv := lv) (t := t) x1 (by omega : x < g) h2 (by omega)
    cases hc : isOd (mnL lv x (g - x)) with
    | false => rw [decide_eq_true (q.mpr hc)]; rfl
    | true => rw [decide_eq_false (fun z => by rw [q.mp z] at hc; cases hc)]; rfl
  have h6 : cnt (fun h => isOd (mnL lv g (h - g))) (g + 1) (e - 1 - g) = cnt (fun h => decide (pF lv s e t t h < pF lv s e t t g)) (g + 1) (e - 1 - g) := by
    refine cnt_eq _ (fun x x1 x2 => ?_)
    have hm := mnL_le lv g (x - g) g (Nat.le_refl g) (by omega)
    have hx := ht g h1 h2
    have q := pF_even (lv := lv) (t := t) h1 (by omega : g < x) (by omega : x < e) (by omega)
    have hne : pF lv s e t t g ≠ pF lv s e t t x := fun z => by
      have := pF_inj h1 h2 (by omega) (by omega) z
      omega
    cases hc : isOd (mnL lv g (x - g)) with
    | false =>
      have := q.mpr hc
      rw [decide_eq_false (by omega)]
    | true =>
      have : ¬ pF lv s e t t g < pF lv s e t t x := fun z => by rw [q.mp z] at hc; cases hc
      rw [decide_eq_true (by omega)]
  rw [h5, h6]
  omega
