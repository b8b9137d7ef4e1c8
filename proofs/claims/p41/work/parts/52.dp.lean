/-! THE LEAST DEMERITS: two ways to the same lines -/
def le3 (s c y s' c' y' : Nat) : Prop := s < s' ∨ (s = s' ∧ (c < c' ∨ (c = c' ∧ y ≤ y')))
def yF (f : Nat → Nat) : Nat → Nat → Nat
  | 0, _ => 0
  | n + 1, t => if t = 0 then 0 else yF f n (f t) * 64 + t
def yN (f : Nat → Nat) (t : Nat) : Nat := yF f t t
theorem yF_eq {f : Nat → Nat} (hf : ∀ s, 0 < s → f s < s) : ∀ n m t, t ≤ n → t ≤ m → yF f n t = yF f m t
  | 0, 0, _, _, _ => rfl
  | 0, m + 1, t, h, _ => by
    have : t = 0 := by omega
    subst this
    rfl
  | n + 1, 0, t, _, h => by
    have : t = 0 := by omega
    subst this
    rfl
  | n + 1, m + 1, t, h1, h2 => by
    unfold yF
    by_cases h : t = 0
    · rw [if_pos h, if_pos h]
    · have h3 := hf t (by omega)
      rw [if_neg h, if_neg h, yF_eq hf n m (f t) (by omega) (by omega)]
theorem yN_step {f : Nat → Nat} (hf : ∀ s, 0 < s → f s < s) {t : Nat} (h : 0 < t) : yN f t = yN f (f t) * 64 + t := by
  obtain ⟨s, rfl⟩ : ∃ s, t = s + 1 := ⟨t - 1, by omega⟩
  have h3 := hf (s + 1) h
  show (if s + 1 = 0 then 0 else yF f s (f (s + 1)) * 64 + (s + 1)) = _
  rw [if_neg (by omega), yF_eq hf s (f (s + 1)) (f (s + 1)) (by omega) (Nat.le_refl _)]
  rfl
/-- the best beginnings that are known: their sums plus 1 (0: none), their numbers of lines, the parts before, and which are extended -/
def gZ : Type := (Nat → Nat) × (Nat → Nat) × (Nat → Nat) × (Nat → Bool)
def gZ.b (Z : gZ) : Nat → Nat := Z.1
def gZ.c (Z : gZ) : Nat → Nat := Z.2.1
def gZ.f (Z : gZ) : Nat → Nat := Z.2.2.1
def gZ.e (Z : gZ) : Nat → Bool := Z.2.2.2
def zOk (P : Nat) (Q : Nat → Nat → Bool) (D : Nat → Nat → Nat) (Z : gZ) (u T : Nat) : Prop :=
  (Z.b 0 = 1 ∧ Z.c 0 = 0 ∧ Z.f 0 = 0) ∧
  (∀ s, 0 < s → Z.f s < s) ∧
  (∀ t, 0 < t → t ≤ P → Z.b t = 0 ∨ (Z.e (Z.f t) = true ∧ Q (Z.f t) t = true ∧ Z.b t = Z.b (Z.f t) + D (Z.f t) t ∧ Z.c t = Z.c (Z.f t) + 1)) ∧
  (∀ v t, v < t → t ≤ P → Z.e v = true → Q v t = true → (v ≠ u ∨ t < T) → Z.b t ≠ 0 ∧ le3 (Z.b t) (Z.c t) (yN Z.f t) (Z.b v + D v t) (Z.c v + 1) (yN Z.f v * 64 + t)) ∧
  (∀ v t, Z.e v = true → Z.e t = false → t < P → Z.b t ≠ 0 → Z.b v ≤ Z.b t) ∧
  (∀ v, Z.e v = true → Z.b v ≠ 0 ∧ v < P)
def zMark (Z : gZ) (u : Nat) : gZ := (Z.b, Z.c, Z.f, upN Z.e u true)
theorem zOk_mark {P : Nat} {Q : Nat → Nat → Bool} {D : Nat → Nat → Nat} {Z : gZ} (h : zOk P Q D Z P 0) {u : Nat} (hu : u < P) (hb : Z.b u ≠ 0) (hm : ∀ t, t < P → Z.e t = false → Z.b t ≠ 0 → Z.b u ≤ Z.b t) (hx : Z.e u = false) : zOk P Q D (zMark Z u) u (u + 1) ∧ (∀ v, (zMark Z u).e v = true → (zMark Z u).b v ≤ (zMark Z u).b u) ∧ (zMark Z u).e u = true := by
  obtain ⟨h1, h2, h3, h4, h5, h6⟩ := h
  have hE : ∀ v, upN Z.e u true v = true → v = u ∨ Z.e v = true := by
    intro v hv
    unfold upN at hv
    split at hv
    · rename_i q; exact Or.inl q
    · exact Or.inr hv
  have hE2 : ∀ v, Z.e v = true → upN Z.e u true v = true := by
    intro v hv
    unfold upN
    split
    · rfl
    · exact hv
  have hE3 : ∀ v, upN Z.e u true v = false → Z.e v = false ∧ v ≠ u := by
    intro v hv
    unfold upN at hv
    split at hv
    · cases hv
    · rename_i q; exact ⟨hv, q⟩
  refine ⟨⟨h1, h2, fun t ht htP => ?_, fun v t hvt htP hv hq hh => ?_, fun v t hv ht htP hbt => ?_, fun v hv => ?_⟩, fun v hv => ?_, ?_⟩
  · rcases h3 t ht htP with q | ⟨q1, q2⟩
    · exact Or.inl q
    · exact Or.inr ⟨hE2 _ q1, q2⟩
  · rcases hE v hv with q | q
    · exfalso
      subst q
      rcases hh with q2 | q2
      · exact q2 rfl
      · omega
    · have := (h6 v q).2
      exact h4 v t hvt htP q hq (Or.inl (by omega))
  · obtain ⟨q1, q2⟩ := hE3 t ht
    rcases hE v hv with q | q
    · rw [q]; exact hm t htP q1 hbt
    · exact h5 v t q q1 htP hbt
  · rcases hE v hv with q | q
    · rw [q]; exact ⟨hb, hu⟩
    · exact h6 v q
  · rcases hE v hv with q | q
    · rw [q]; exact Nat.le_refl _
    · exact h5 v u q hx hu hb
  · exact upN_eq _ _ _
/-- a better beginning of t by u -/
def zBt (D : Nat → Nat → Nat) (Z : gZ) (u t : Nat) : Prop := Z.b t = 0 ∨ Z.b u + D u t < Z.b t ∨ (Z.b u + D u t = Z.b t ∧ (Z.c u + 1 < Z.c t ∨ (Z.c u + 1 = Z.c t ∧ yN Z.f u < yN Z.f (Z.f t))))
def zPut (D : Nat → Nat → Nat) (Z : gZ) (u t : Nat) : gZ := (upN Z.b t (Z.b u + D u t), upN Z.c t (Z.c u + 1), upN Z.f t u, Z.e)
theorem zOk_no {P : Nat} {Q : Nat → Nat → Bool} {D : Nat → Nat → Nat} {Z : gZ} {u t : Nat} (h : zOk P Q D Z u t) (hq : Q u t = false) : zOk P Q D Z u (t + 1) := by
  obtain ⟨h1, h2, h3, h4, h5, h6⟩ := h
  refine ⟨h1, h2, h3, fun v t' hvt htP hv hQ hh => ?_, h5, h6⟩
  by_cases q : v = u ∧ t' = t
  · obtain ⟨rfl, rfl⟩ := q
    rw [hq] at hQ
    cases hQ
  · exact h4 v t' hvt htP hv hQ (by omega)
theorem zOk_worse {P : Nat} {Q : Nat → Nat → Bool} {D : Nat → Nat → Nat} {Z : gZ} {u t : Nat} (h : zOk P Q D Z u t) (hut : u < t) (hw : ¬ zBt D Z u t) : zOk P Q D Z u (t + 1) := by
  obtain ⟨h1, h2, h3, h4, h5, h6⟩ := h
  refine ⟨h1, h2, h3, fun v t' hvt htP hv hQ hh => ?_, h5, h6⟩
  by_cases q : v = u ∧ t' = t
  · obtain ⟨rfl, rfl⟩ := q
    have e := yN_step h2 (t := t') (by omega)
    unfold zBt at hw
    unfold le3
    rw [e]
    omega
  · exact h4 v t' hvt htP hv hQ (by omega)
theorem yN_put {P : Nat} {Q : Nat → Nat → Bool} {D : Nat → Nat → Nat} {Z : gZ} {u t u' T : Nat} (h : zOk P Q D Z u' T) (hut : u < t) (ht : Z.e t = false) : ∀ n v, v ≤ n → Z.e v = true → yN (upN Z.f t u) v = yN Z.f v := by
  obtain ⟨h1, h2, h3, h4, h5, h6⟩ := h
  have h2' : ∀ s, 0 < s → upN Z.f t u s < s := by
    intro s hs
    unfold upN
    split
    · rename_i q; omega
    · exact h2 s hs
  intro n
  induction n with
  | zero =>
    intro v hv _
    have : v = 0 := by omega
    subst this
    rfl
  | succ n ih =>
    intro v hv he
    by_cases h0 : v = 0
    · subst h0; rfl
    · have hne : v ≠ t := fun q => by rw [q, ht] at he; cases he
      have hb := h6 v he
      rcases h3 v (by omega) (by omega) with q | ⟨q, -⟩
      · exact absurd q hb.1
      · rw [yN_step h2' (by omega), yN_step h2 (by omega), upN_ne hne]
        have := h2 v (by omega)
        rw [ih (Z.f v) (by omega) q]
theorem zOk_put {P : Nat} {Q : Nat → Nat → Bool} {D : Nat → Nat → Nat} {Z : gZ} {u t : Nat} (hD : ∀ i j, 0 < D i j) (h : zOk P Q D Z u t) (hut : u < t) (htP : t ≤ P) (hq : Q u t = true) (hu : Z.e u = true) (hmax : ∀ v, Z.e v = true → Z.b v ≤ Z.b u) (hw : zBt D Z u t) : zOk P Q D (zPut D Z u t) u (t + 1) ∧ (∀ v, (zPut D Z u t).e v = true → (zPut D Z u t).b v ≤ (zPut D Z u t).b u) ∧ (zPut D Z u t).e u = true ∧ Z.e t = false := by
  have hh := h
  obtain ⟨h1, h2, h3, h4, h5, h6⟩ := h
  have hd := hD u t
  have ht : Z.e t = false := by
    cases hc : Z.e t with
    | false => rfl
    | true =>
      exfalso
      have a := hmax t hc
      have b := (h6 t hc).1
      unfold zBt at hw
      omega
  have hne : ∀ v, Z.e v = true → v ≠ t := fun v hv q => by rw [q, ht] at hv; cases hv
  have hY : ∀ v, Z.e v = true → yN (upN Z.f t u) v = yN Z.f v := fun v hv => yN_put hh hut ht v v (Nat.le_refl v) hv
  have h2' : ∀ s, 0 < s → upN Z.f t u s < s := by
    intro s hs
    unfold upN
    split
    · rename_i q; omega
    · exact h2 s hs
  have hbu : upN Z.b t (Z.b u + D u t) u = Z.b u := upN_ne (hne u hu)
  refine ⟨⟨?_, h2', fun s hs hsP => ?_, fun v s hvs hsP hv hQ hc => ?_, fun v s hv hs hsP hbs => ?_, fun v hv => ?_⟩, fun v hv => ?_, hu, ht⟩
  · exact ⟨by show upN _ _ _ _ = _; rw [upN_ne (by omega)]; exact h1.1, by show upN _ _ _ _ = _; rw [upN_ne (by omega)]; exact h1.2.1, by show upN _ _ _ _ = _; rw [upN_ne (by omega)]; exact h1.2.2⟩
  · show upN Z.b t (Z.b u + D u t) s = 0 ∨ (Z.e (upN Z.f t u s) = true ∧ Q (upN Z.f t u s) s = true ∧ upN Z.b t (Z.b u + D u t) s = upN Z.b t (Z.b u + D u t) (upN Z.f t u s) + D (upN Z.f t u s) s ∧ upN Z.c t (Z.c u + 1) s = upN Z.c t (Z.c u + 1) (upN Z.f t u s) + 1)
    by_cases hst : s = t
    · subst hst
      rw [upN_eq, upN_eq, upN_eq, upN_ne (hne u hu), upN_ne (hne u hu)]
      exact Or.inr ⟨hu, hq, rfl, rfl⟩
    · rw [upN_ne hst, upN_ne hst, upN_ne hst]
      rcases h3 s hs hsP with q | ⟨q1, q2, q3, q4⟩
      · exact Or.inl q
      · rw [upN_ne (hne _ q1), upN_ne (hne _ q1)]
        exact Or.inr ⟨q1, q2, q3, q4⟩
  · show upN Z.b t (Z.b u + D u t) s ≠ 0 ∧ le3 (upN Z.b t (Z.b u + D u t) s) (upN Z.c t (Z.c u + 1) s) (yN (upN Z.f t u) s) (upN Z.b t (Z.b u + D u t) v + D v s) (upN Z.c t (Z.c u + 1) v + 1) (yN (upN Z.f t u) v * 64 + s)
    have hv' : Z.e v = true := hv
    rw [hY v hv', upN_ne (hne v hv'), upN_ne (hne v hv')]
    by_cases hst : s = t
    · subst hst
      rw [upN_eq, upN_eq, yN_step h2' (by omega), upN_eq, hY u hu]
      refine ⟨by omega, ?_⟩
      by_cases hvu : v = u
      · subst hvu
        unfold le3
        omega
      · have q := h4 v s hvs hsP hv' hQ (Or.inl hvu)
        obtain ⟨q1, q2⟩ := q
        have e := yN_step h2 (t := s) (by omega)
        unfold zBt at hw
        unfold le3 at q2 ⊢
        omega
    · rw [upN_ne hst, upN_ne hst]
      have q := h4 v s hvs hsP hv' hQ (by omega)
      refine ⟨q.1, ?_⟩
      have e : yN (upN Z.f t u) s = yN Z.f s := by
        rcases h3 s (by omega) hsP with q1 | ⟨q1, -⟩
        · exact absurd q1 q.1
        · rw [yN_step h2' (by omega), yN_step h2 (by omega), upN_ne hst, hY _ q1]
      rw [e]
      exact q.2
  · show upN Z.b t (Z.b u + D u t) v ≤ upN Z.b t (Z.b u + D u t) s
    have hv' : Z.e v = true := hv
    rw [upN_ne (hne v hv')]
    by_cases hst : s = t
    · subst hst
      rw [upN_eq]
      have := hmax v hv'
      omega
    · rw [upN_ne hst]
      have hbs' : upN Z.b t (Z.b u + D u t) s ≠ 0 := hbs
      rw [upN_ne hst] at hbs'
      exact h5 v s hv' hs hsP hbs'
  · have hv' : Z.e v = true := hv
    show upN Z.b t (Z.b u + D u t) v ≠ 0 ∧ v < P
    rw [upN_ne (hne v hv')]
    exact h6 v hv'
  · show upN Z.b t (Z.b u + D u t) v ≤ upN Z.b t (Z.b u + D u t) u
    have hv' : Z.e v = true := hv
    rw [upN_ne (hne v hv'), hbu]
    exact hmax v hv'
theorem zOk_full {P : Nat} {Q : Nat → Nat → Bool} {D : Nat → Nat → Nat} {Z : gZ} {u : Nat} (h : zOk P Q D Z u (P + 1)) : zOk P Q D Z P 0 := by
  obtain ⟨h1, h2, h3, h4, h5, h6⟩ := h
  exact ⟨h1, h2, h3, fun v t hvt htP hv hQ _ => h4 v t hvt htP hv hQ (Or.inr (by omega)), h5, h6⟩
/-- what stands at the end -/
def zFin (P : Nat) (Q : Nat → Nat → Bool) (D : Nat → Nat → Nat) (Z : gZ) : Prop :=
  (Z.b 0 = 1 ∧ Z.c 0 = 0 ∧ Z.f 0 = 0) ∧
  (∀ s, 0 < s → Z.f s < s) ∧
  (∀ t, 0 < t → t ≤ P → Z.b t ≠ 0 ∧ Q (Z.f t) t = true ∧ Z.b t = Z.b (Z.f t) + D (Z.f t) t ∧ Z.c t = Z.c (Z.f t) + 1) ∧
  (∀ v t, v < t → t ≤ P → Q v t = true → le3 (Z.b t) (Z.c t) (yN Z.f t) (Z.b v + D v t) (Z.c v + 1) (yN Z.f v * 64 + t))
theorem zFin_of {P : Nat} {Q : Nat → Nat → Bool} {D : Nat → Nat → Nat} {Z : gZ} (h : zOk P Q D Z P 0) (hq : ∀ i, i < P → Q i (i + 1) = true) (hall : ∀ v, v < P → Z.e v = true) : zFin P Q D Z := by
  obtain ⟨h1, h2, h3, h4, h5, h6⟩ := h
  refine ⟨h1, h2, fun t ht htP => ?_, fun v t hvt htP hQ => (h4 v t hvt htP (hall v (by omega)) hQ (Or.inl (by omega))).2⟩
  obtain ⟨s, rfl⟩ : ∃ s, t = s + 1 := ⟨t - 1, by omega⟩
  have hb := (h4 s (s + 1) (by omega) htP (hall s (by omega)) (hq s (by omega)) (Or.inl (by omega))).1
  rcases h3 (s + 1) ht htP with q | q
  · exact absurd q hb
  · exact ⟨hb, q.2⟩
/-- where nothing is left to extend, all is extended -/
theorem zOk_all {P : Nat} {Q : Nat → Nat → Bool} {D : Nat → Nat → Nat} {Z : gZ} (h : zOk P Q D Z P 0) (hq : ∀ i, i < P → Q i (i + 1) = true) (hn : ∀ t, t < P → Z.e t = true ∨ Z.b t = 0) : ∀ v, v < P → Z.e v = true := by
  obtain ⟨h1, h2, h3, h4, h5, h6⟩ := h
  intro v
  induction v with
  | zero =>
    intro hv
    rcases hn 0 hv with q | q
    · exact q
    · rw [h1.1] at q; cases q
  | succ v ih =>
    intro hv
    rcases hn (v + 1) hv with q | q
    · exact q
    · exact absurd q (h4 v (v + 1) (by omega) (by omega) (ih (by omega)) (hq v (by omega)) (Or.inl (by omega))).1
def uC (e : Nat → Bool) : Nat → Nat
  | 0 => 0
  | t + 1 => uC e t + (if e t = true then 0 else 1)
theorem uC_mark (e : Nat → Bool) (u : Nat) : ∀ n, (n ≤ u → uC (upN e u true) n = uC e n) ∧ (u < n → e u = false → uC (upN e u true) n + 1 = uC e n)
  | 0 => ⟨fun _ => rfl, fun h => absurd h (Nat.not_lt_zero u)⟩
  | n + 1 => by
    obtain ⟨i1, i2⟩ := uC_mark e u n
    refine ⟨fun h => ?_, fun h he => ?_⟩
    · show uC (upN e u true) n + (if upN e u true n = true then 0 else 1) = uC e n + (if e n = true then 0 else 1)
      rw [i1 (by omega), upN_ne (show n ≠ u by omega)]
    · show uC (upN e u true) n + (if upN e u true n = true then 0 else 1) + 1 = uC e n + (if e n = true then 0 else 1)
      by_cases q : n = u
      · subst q
        rw [i1 (Nat.le_refl n), upN_eq, if_pos rfl, if_neg (by rw [he]; decide)]
      · rw [upN_ne q]
        have := i2 (by omega) he
        omega
theorem uC_0 {e : Nat → Bool} : ∀ n, uC e n = 0 → ∀ v, v < n → e v = true
  | 0, _, v, hv => absurd hv (Nat.not_lt_zero v)
  | n + 1, h, v, hv => by
    have h' : uC e n + (if e n = true then 0 else 1) = 0 := h
    by_cases q : v = n
    · subst q
      cases hc : e v with
      | true => rfl
      | false => rw [hc] at h'; simp at h'
    · exact uC_0 n (by omega) v (by omega)
theorem uC_le (e : Nat → Bool) : ∀ n, uC e n ≤ n
  | 0 => Nat.le_refl 0
  | n + 1 => by
    have := uC_le e n
    show uC e n + (if e n = true then 0 else 1) ≤ n + 1
    split <;> omega
/-! the other way: from behind -/
def mFin (P : Nat) (Q : Nat → Nat → Bool) (D : Nat → Nat → Nat) (N L K : Nat → Nat) : Prop :=
  (L P = 0 ∧ K P = 0) ∧
  (∀ i, i < P → i < N i ∧ N i ≤ P ∧ Q i (N i) = true ∧ L i = D i (N i) + L (N i) ∧ K i = 1 + K (N i)) ∧
  (∀ i j, i < j → j ≤ P → Q i j = true → (L i < D i j + L j ∨ (L i = D i j + L j ∧ (K i < 1 + K j ∨ (K i = 1 + K j ∧ N i ≤ j)))))
def Pt (P : Nat) (Q : Nat → Nat → Bool) : Nat → List Nat → Prop
  | i, [] => i = P
  | i, j :: l => i < j ∧ Q i j = true ∧ Pt P Q j l
def sD (D : Nat → Nat → Nat) : Nat → List Nat → Nat
  | _, [] => 0
  | i, j :: l => D i j + sD D j l
def yL : List Nat → Nat
  | [] => 0
  | j :: l => j * 64 ^ l.length + yL l
def mP (N : Nat → Nat) : Nat → Nat → List Nat
  | 0, _ => []
  | n + 1, i => N i :: mP N n (N i)
theorem Pt_le {P : Nat} {Q : Nat → Nat → Bool} : ∀ (l : List Nat) (i : Nat), Pt P Q i l → i ≤ P
  | [], i, h => Nat.le_of_eq h
  | j :: l, i, h => by
    have := Pt_le l j h.2.2
    have := h.1
    omega
theorem yL_lt {P : Nat} {Q : Nat → Nat → Bool} (hP : P < 64) : ∀ (l : List Nat) (i : Nat), Pt P Q i l → yL l < 64 ^ l.length
  | [], _, _ => Nat.one_pos
  | j :: l, i, h => by
    have h1 := yL_lt hP l j h.2.2
    have h2 := Pt_le l j h.2.2
    have h3 : (j + 1) * 64 ^ l.length ≤ 64 * 64 ^ l.length := Nat.mul_le_mul_right _ (by omega)
    show j * 64 ^ l.length + yL l < 64 ^ (l.length + 1)
    rw [Nat.pow_succ, Nat.mul_comm (64 ^ l.length) 64]
    rw [Nat.succ_mul] at h3
    omega
theorem mP_len (N : Nat → Nat) : ∀ n i, (mP N n i).length = n
  | 0, _ => rfl
  | n + 1, i => by show (mP N n (N i)).length + 1 = n + 1; rw [mP_len N n]
theorem mP_pt {P : Nat} {Q : Nat → Nat → Bool} {D : Nat → Nat → Nat} {N L K : Nat → Nat} (h : mFin P Q D N L K) : ∀ n i, K i = n → i ≤ P → Pt P Q i (mP N n i) ∧ sD D i (mP N n i) = L i
  | 0, i, hn, hi => by
    by_cases q : i = P
    · subst q
      exact ⟨rfl, h.1.1.symm⟩
    · have := (h.2.1 i (by omega)).2.2.2.2
      omega
  | n + 1, i, hn, hi => by
    by_cases q : i = P
    · subst q
      rw [h.1.2] at hn
      cases hn
    · obtain ⟨a1, a2, a3, a4, a5⟩ := h.2.1 i (by omega)
      obtain ⟨b1, b2⟩ := mP_pt h n (N i) (by omega) a2
      refine ⟨⟨a1, a3, b1⟩, ?_⟩
      show D i (N i) + sD D (N i) (mP N n (N i)) = L i
      rw [b2, a4]
theorem m_opt {P : Nat} {Q : Nat → Nat → Bool} {D : Nat → Nat → Nat} {N L K : Nat → Nat} (hP : P < 64) (h : mFin P Q D N L K) : ∀ (l : List Nat) (i : Nat), Pt P Q i l → le3 (L i) (K i) (yL (mP N (K i) i)) (sD D i l) l.length (yL l)
  | [], i, hp => by
    have hp : i = P := hp
    subst hp
    rw [h.1.1, h.1.2]
    exact Or.inr ⟨rfl, Or.inr ⟨rfl, Nat.le_refl _⟩⟩
  | j :: l, i, hp => by
    have ih := m_opt hP h l j hp.2.2
    have hj := Pt_le l j hp.2.2
    obtain ⟨a1, a2, a3, a4, a5⟩ := h.2.1 i (by have := hp.1; omega)
    have b := h.2.2 i j hp.1 hj hp.2.1
    show le3 (L i) (K i) (yL (mP N (K i) i)) (D i j + sD D j l) (l.length + 1) (j * 64 ^ l.length + yL l)
    have e : yL (mP N (K i) i) = N i * 64 ^ K (N i) + yL (mP N (K (N i)) (N i)) := by
      rw [a5, Nat.add_comm 1]
      show N i * 64 ^ (mP N (K (N i)) (N i)).length + _ = _
      rw [mP_len]
    have f := yL_lt hP _ _ (mP_pt h _ (N i) rfl a2).1
    rw [mP_len] at f
    rw [e]
    unfold le3 at ih ⊢
    by_cases c1 : L i = D i j + sD D j l ∧ K i = l.length + 1
    · refine Or.inr ⟨c1.1, Or.inr ⟨c1.2, ?_⟩⟩
      have c2 : K (N i) = l.length := by omega
      rcases (show N i < j ∨ N i = j by omega) with c3 | c3
      · have g : (N i + 1) * 64 ^ l.length ≤ j * 64 ^ l.length := Nat.mul_le_mul_right _ c3
        rw [Nat.succ_mul] at g
        rw [c2] at f ⊢
        omega
      · rw [c3] at c2 ⊢
        rw [c2] at ih ⊢
        have : yL (mP N l.length j) ≤ yL l := by omega
        omega
    · omega
theorem c_opt {P : Nat} {Q : Nat → Nat → Bool} {D : Nat → Nat → Nat} {Z : gZ} (h : zFin P Q D Z) : ∀ (l : List Nat) (i s c y : Nat), Pt P Q i l → le3 (Z.b i) (Z.c i) (yN Z.f i) s c y → le3 (Z.b P) (Z.c P) (yN Z.f P) (s + sD D i l) (c + l.length) (y * 64 ^ l.length + yL l)
  | [], i, s, c, y, hp, hl => by
    have hp : i = P := hp
    subst hp
    show le3 _ _ _ (s + 0) (c + 0) (y * 1 + 0)
    rw [Nat.mul_one]
    exact hl
  | j :: l, i, s, c, y, hp, hl => by
    have hj := Pt_le l j hp.2.2
    have b := h.2.2.2 i j hp.1 hj hp.2.1
    have ih := c_opt h l j (s + D i j) (c + 1) (y * 64 + j) hp.2.2 (by
      unfold le3 at b hl ⊢
      omega)
    show le3 _ _ _ (s + (D i j + sD D j l)) (c + (l.length + 1)) (y * 64 ^ (l.length + 1) + (j * 64 ^ l.length + yL l))
    have e : y * 64 ^ (l.length + 1) + (j * 64 ^ l.length + yL l) = (y * 64 + j) * 64 ^ l.length + yL l := by
      rw [Nat.pow_succ, Nat.add_mul, Nat.mul_comm (64 ^ l.length) 64, ← Nat.mul_assoc, Nat.add_assoc]
    rw [e, ← Nat.add_assoc, show c + (l.length + 1) = c + 1 + l.length by omega]
    exact ih
def cL (f : Nat → Nat) : Nat → Nat → List Nat → List Nat
  | 0, _, acc => acc
  | n + 1, t, acc => cL f n (f t) (t :: acc)
theorem cL_len (f : Nat → Nat) : ∀ n t acc, (cL f n t acc).length = n + acc.length
  | 0, _, acc => (Nat.zero_add _).symm
  | n + 1, t, acc => by
    show (cL f n (f t) (t :: acc)).length = _
    rw [cL_len f n, List.length_cons]
    omega
theorem cL_pt {P : Nat} {Q : Nat → Nat → Bool} {D : Nat → Nat → Nat} {Z : gZ} (h : zFin P Q D Z) : ∀ n t acc, Z.c t = n → t ≤ P → Pt P Q t acc → Pt P Q 0 (cL Z.f n t acc) ∧ 1 + sD D 0 (cL Z.f n t acc) = Z.b t + sD D t acc ∧ yL (cL Z.f n t acc) = yN Z.f t * 64 ^ acc.length + yL acc
  | 0, t, acc, hn, ht, hp => by
    have h0 : t = 0 := by
      by_cases q : t = 0
      · exact q
      · have := (h.2.2.1 t (by omega) ht).2.2.2
        omega
    subst h0
    refine ⟨hp, ?_, ?_⟩
    · show 1 + sD D 0 acc = _
      rw [h.1.1]
    · show yL acc = 0 * _ + yL acc
      rw [Nat.zero_mul, Nat.zero_add]
  | n + 1, t, acc, hn, ht, hp => by
    by_cases q : t = 0
    · subst q
      rw [h.1.2.1] at hn
      cases hn
    · obtain ⟨a1, a2, a3, a4⟩ := h.2.2.1 t (by omega) ht
      have a5 := h.2.1 t (by omega)
      obtain ⟨b1, b2, b3⟩ := cL_pt h n (Z.f t) (t :: acc) (by omega) (by omega) ⟨a5, a2, hp⟩
      refine ⟨b1, ?_, ?_⟩
      · show 1 + sD D 0 (cL Z.f n (Z.f t) (t :: acc)) = _
        rw [b2]
        show Z.b (Z.f t) + (D (Z.f t) t + sD D t acc) = _
        omega
      · show yL (cL Z.f n (Z.f t) (t :: acc)) = _
        rw [b3, yN_step h.2.1 (show 0 < t by omega), Nat.add_mul, Nat.mul_assoc]
        show yN Z.f (Z.f t) * 64 ^ (acc.length + 1) + (t * 64 ^ acc.length + yL acc) = _
        rw [Nat.pow_succ, Nat.mul_comm (64 ^ acc.length) 64, Nat.add_assoc]
theorem yL_inj {P : Nat} {Q : Nat → Nat → Bool} (hP : P < 64) : ∀ (l l' : List Nat) (i i' : Nat), Pt P Q i l → Pt P Q i' l' → l.length = l'.length → yL l = yL l' → l = l'
  | [], [], _, _, _, _, _, _ => rfl
  | [], _ :: _, _, _, _, _, h, _ => by cases h
  | _ :: _, [], _, _, _, _, h, _ => by cases h
  | j :: l, j' :: l', i, i', h1, h2, hl, hy => by
    have hl2 : l.length = l'.length := by simpa using hl
    have f1 := yL_lt hP l j h1.2.2
    have f2 := yL_lt hP l' j' h2.2.2
    have hy : j * 64 ^ l.length + yL l = j' * 64 ^ l'.length + yL l' := hy
    rw [← hl2] at hy f2
    have hj : j = j' := by
      rcases Nat.lt_trichotomy j j' with q | q | q
      · have g : (j + 1) * 64 ^ l.length ≤ j' * 64 ^ l.length := Nat.mul_le_mul_right _ q
        rw [Nat.succ_mul] at g
        omega
      · exact q
      · have g : (j' + 1) * 64 ^ l.length ≤ j * 64 ^ l.length := Nat.mul_le_mul_right _ q
        rw [Nat.succ_mul] at g
        omega
    subst hj
    rw [yL_inj hP l l' j j h1.2.2 h2.2.2 hl2 (by omega)]
def itN (N : Nat → Nat) : Nat → Nat → Nat
  | 0, i => i
  | n + 1, i => itN N n (N i)
theorem mP_get (N : Nat → Nat) : ∀ n i l, l < n → (mP N n i)[l]? = some (itN N (l + 1) i)
  | 0, _, l, h => absurd h (Nat.not_lt_zero l)
  | n + 1, i, 0, _ => rfl
  | n + 1, i, l + 1, h => by
    show (mP N n (N i))[l]? = _
    rw [mP_get N n (N i) l (by omega)]
    rfl
theorem cL_acc (f : Nat → Nat) : ∀ n t acc k, (cL f n t acc)[n + k]? = acc[k]?
  | 0, _, acc, k => by rw [Nat.zero_add]; rfl
  | n + 1, t, acc, k => by
    show (cL f n (f t) (t :: acc))[n + 1 + k]? = _
    rw [show n + 1 + k = n + (k + 1) by omega, cL_acc f n]
    rfl
theorem cL_get (f : Nat → Nat) : ∀ n t acc l, l < n → (cL f n t acc)[l]? = some (itN f (n - 1 - l) t)
  | 0, _, _, l, h => absurd h (Nat.not_lt_zero l)
  | n + 1, t, acc, l, h => by
    show (cL f n (f t) (t :: acc))[l]? = _
    by_cases q : l = n
    · subst q
      have e := cL_acc f l (f t) (t :: acc) 0
      rw [Nat.add_zero] at e
      rw [e, show l + 1 - 1 - l = 0 by omega]
      rfl
    · rw [cL_get f n (f t) (t :: acc) l (by omega), show n + 1 - 1 - l = (n - 1 - l) + 1 by omega]
      rfl
/-- both ways find the same lines -/
theorem dp_same {P : Nat} {Q : Nat → Nat → Bool} {D : Nat → Nat → Nat} {N L K : Nat → Nat} {Z : gZ} (hP : P < 64) (hz : zFin P Q D Z) (hm : mFin P Q D N L K) : Z.b P = L 0 + 1 ∧ Z.c P = K 0 ∧ ∀ l, l ≤ K 0 → itN Z.f (K 0 - l) P = itN N l 0 := by
  obtain ⟨c1, c2, c3⟩ := cL_pt hz (Z.c P) P [] rfl (Nat.le_refl P) rfl
  obtain ⟨m1, m2⟩ := mP_pt hm (K 0) 0 rfl (Nat.zero_le P)
  have a := m_opt hP hm _ _ c1
  have b := c_opt hz _ 0 1 0 0 m1 (by
    rw [hz.1.1, hz.1.2.1]
    exact Or.inr ⟨rfl, Or.inr ⟨rfl, Nat.le_refl _⟩⟩)
  rw [cL_len, List.length_nil, Nat.add_zero, c3, List.length_nil, Nat.pow_zero, Nat.mul_one] at a
  rw [mP_len, m2, Nat.zero_add, Nat.zero_mul, Nat.zero_add] at b
  have c2 : 1 + sD D 0 (cL Z.f (Z.c P) P []) = Z.b P + 0 := c2
  have c4 : yL ([] : List Nat) = 0 := rfl
  rw [c4, Nat.add_zero] at a
  unfold le3 at a b
  have e1 : Z.b P = L 0 + 1 := by omega
  have e2 : Z.c P = K 0 := by omega
  have e3 : yL (mP N (K 0) 0) = yN Z.f P := by omega
  refine ⟨e1, e2, fun l hl => ?_⟩
  have e4 : cL Z.f (Z.c P) P [] = mP N (K 0) 0 := yL_inj hP _ _ 0 0 c1 m1 (by rw [cL_len, mP_len, List.length_nil]; omega) (by rw [c3, e3, List.length_nil, Nat.pow_zero, Nat.mul_one, c4, Nat.add_zero])
  cases l with
  | zero =>
    show itN Z.f (K 0) P = 0
    -- the beginning is 0
    have key : ∀ n t, Z.c t = n → t ≤ P → itN Z.f n t = 0 := by
      intro n
      induction n with
      | zero =>
        intro t ht htP
        by_cases q : t = 0
        · exact q
        · have := (hz.2.2.1 t (by omega) htP).2.2.2
          omega
      | succ n ih =>
        intro t ht htP
        by_cases q : t = 0
        · subst q
          rw [hz.1.2.1] at ht
          cases ht
        · have h1 := (hz.2.2.1 t (by omega) htP).2.2.2
          have h2 := hz.2.1 t (by omega)
          exact ih (Z.f t) (by omega) (by omega)
    exact key (K 0) P e2 (Nat.le_refl P)
  | succ l =>
    have g1 := cL_get Z.f (Z.c P) P [] l (by omega)
    rw [e4, mP_get N (K 0) 0 l (by omega)] at g1
    have g2 := Option.some.inj g1
    rw [g2, show Z.c P - 1 - l = K 0 - (l + 1) by omega]
