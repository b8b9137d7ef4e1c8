/-! SLOTS AND GLYPHS: what the model counts by characters the class counts by glyphs -/
section
theorem tLg_lt {T : gS} (hk : gOk T) {k : Nat} (h : tLg (tRlT T) (tRnT T) (tSg T) k ≠ 0) : 0 < k ∧ isLt (tSg T k) = true ∧ (isLt (tCu (tRlT T) (tRnT T) (tSg T) (k - 1)) = true ∨ 200 ≤ tCu (tRlT T) (tRnT T) (tSg T) (k - 1)) := by
  cases k with
  | zero => exact absurd rfl h
  | succ k =>
    have e : tLg (tRlT T) (tRnT T) (tSg T) (k + 1) = if tRnT T (k + 1) = tRnT T k then tRlT T (tCu (tRlT T) (tRnT T) (tSg T) k) (tSg T (k + 1)) else 0 := rfl
    rw [e] at h
    by_cases q : tRnT T (k + 1) = tRnT T k
    · rw [if_pos q] at h
      rcases tRlF_ge T.lf T.ls (tCu (tRlT T) (tRnT T) (tSg T) k) (tSg T (k + 1)) T.ln 0 with z | ⟨j, j1, j2, j3, j4, j5⟩
      · exact absurd z h
      · refine ⟨by omega, ?_, ?_⟩
        · rw [← j5]; exact hk.ls j (by omega)
        · rw [Nat.add_sub_cancel, ← j4]
          rcases hk.lf j (by omega) with z | z
          · exact Or.inl z
          · exact Or.inr z.1
    · rw [if_neg q] at h
      exact absurd rfl h
theorem tLg_ge {T : gS} {k : Nat} (h : tLg (tRlT T) (tRnT T) (tSg T) k ≠ 0) : 200 ≤ tLg (tRlT T) (tRnT T) (tSg T) k := by
  cases k with
  | zero => exact absurd rfl h
  | succ k =>
    have e : tLg (tRlT T) (tRnT T) (tSg T) (k + 1) = if tRnT T (k + 1) = tRnT T k then tRlT T (tCu (tRlT T) (tRnT T) (tSg T) k) (tSg T (k + 1)) else 0 := rfl
    rw [e] at h ⊢
    by_cases q : tRnT T (k + 1) = tRnT T k
    · rw [if_pos q] at h ⊢
      rcases tRlF_ge T.lf T.ls (tCu (tRlT T) (tRnT T) (tSg T) k) (tSg T (k + 1)) T.ln 0 with z | ⟨j, j1, j2, j3, j4, j5⟩
      · exact absurd z h
      · show 200 ≤ tRlF T.lf T.ls _ _ T.ln 0
        rw [j3]; omega
    · rw [if_neg q] at h
      exact absurd rfl h
/-- how many glyphs begin before a character -/
def gc (T : gS) (k : Nat) : Nat := tGc (tRlT T) (tRnT T) (tSg T) k
def lgT (T : gS) (k : Nat) : Nat := tLg (tRlT T) (tRnT T) (tSg T) k
theorem gc_mono (T : gS) {a b : Nat} (h : a ≤ b) : gc T a ≤ gc T b := tGc_mono _ _ _ h
theorem gc_new {T : gS} {k : Nat} (h : lgT T k = 0) : gc T (k + 1) = gc T k + 1 := if_pos h
theorem gc_old {T : gS} {k : Nat} (h : lgT T k ≠ 0) : gc T (k + 1) = gc T k := if_neg h
theorem gc_M (T : gS) : gc T (tMn T) = tGT T := rfl
theorem ow_gc (T : gS) (n : Nat) : tOw T n = gc T (n + 1) - 1 := rfl
/-- the glyph round a character -/
theorem gly_ex {T : gS} {n : Nat} (h : n < tMn T) : ∃ k e, k ≤ n ∧ n < e ∧ e ≤ tMn T ∧ lgT T k = 0 ∧ (∀ j, k < j → j < e → lgT T j ≠ 0) ∧ (e < tMn T → lgT T e = 0) := by
  have dn : ∀ d, d ≤ n → (∀ j, n - d < j → j ≤ n → lgT T j ≠ 0) → ∃ k, k ≤ n ∧ lgT T k = 0 ∧ ∀ j, k < j → j ≤ n → lgT T j ≠ 0 := by
    intro d hd
    generalize hr : n - d = r
    induction r generalizing d with
    | zero =>
      intro hall
      exact ⟨0, Nat.zero_le n, rfl, fun j j1 j2 => hall j (by omega) j2⟩
    | succ r ih =>
      intro hall
      by_cases q : lgT T (r + 1) = 0
      · exact ⟨r + 1, by omega, q, hall⟩
      · exact ih (d + 1) (by omega) (by omega) (fun j j1 j2 => by
          by_cases c : j = r + 1
          · rw [c]; exact q
          · exact hall j (by omega) j2)
  have up : ∀ r e, e + r = tMn T → n < e → (∀ j, n < j → j < e → lgT T j ≠ 0) → ∃ e, n < e ∧ e ≤ tMn T ∧ (∀ j, n < j → j < e → lgT T j ≠ 0) ∧ (e < tMn T → lgT T e = 0) := by
    intro r
    induction r with
    | zero =>
      intro e he hne hall
      exact ⟨e, hne, by omega, hall, fun z => by omega⟩
    | succ r ih =>
      intro e he hne hall
      by_cases q : lgT T e = 0
      · exact ⟨e, hne, by omega, hall, fun _ => q⟩
      · exact ih (e + 1) (by omega) (by omega) (fun j j1 j2 => by
          by_cases c : j = e
          · rw [c]; exact q
          · exact hall j j1 (by omega))
  obtain ⟨k, k1, k2, k3⟩ := dn 0 (Nat.zero_le n) (fun j j1 j2 => by omega)
  obtain ⟨e, e1, e2, e3, e4⟩ := up (tMn T - (n + 1)) (n + 1) (by omega) (by omega) (fun j j1 j2 => by omega)
  exact ⟨k, e, k1, e1, e2, k2, fun j j1 j2 => by
    rcases Nat.lt_or_ge n j with c | c
    · exact e3 j c j2
    · exact k3 j j1 c, e4⟩
theorem notLt_32 : isLt 32 = false := by decide
theorem notLt_45 : isLt 45 = false := by decide
/-- a character that is no letter is a glyph of its own -/
theorem own_glyph {T : gS} (hk : gOk T) {n : Nat} (hn : n < tMn T) (hl : isLt (tSg T n) = false) : lgT T n = 0 ∧ tNu T (tOw T n) = tSg T n := by
  have h0 : lgT T n = 0 := by
    by_cases q : lgT T n = 0
    · exact q
    · have := (tLg_lt hk q).2.1
      rw [hl] at this
      cases this
  have h1 : n + 1 < tMn T → lgT T (n + 1) = 0 := by
    intro _
    by_cases q : lgT T (n + 1) = 0
    · exact q
    · exfalso
      have z := (tLg_lt hk q).2.2
      rw [Nat.add_sub_cancel] at z
      have e : tCu (tRlT T) (tRnT T) (tSg T) n = tSg T n := by
        rw [tCu_lg]
        exact if_pos h0
      rw [e] at z
      have := tSg_lt hk hn
      rcases z with z | z
      · rw [hl] at z; cases z
      · omega
  obtain ⟨r1, r2, r3⟩ := gly_run (M := tMn T) (show n < n + 1 by omega) (by omega) h0 (fun j j1 j2 => by omega) h1
  refine ⟨h0, ?_⟩
  have e1 : tOw T n = tGc (tRlT T) (tRnT T) (tSg T) n := r1 n (Nat.le_refl n) (by omega)
  show tGn (tRlT T) (tRnT T) (tSg T) (tMn T) (tOw T n) = tSg T n
  rw [e1, r3, Nat.add_sub_cancel, tCu_lg]
  exact if_pos h0
theorem nu_slot {T : gS} (hk : gOk T) {n c : Nat} (hn : n < tMn T) (hc : isLt c = false) (hc2 : c < 128) : (tNu T (tOw T n) = c) ↔ (tSg T n = c) := by
  constructor
  · intro h
    obtain ⟨k, e, k1, e1, e2, k2, k3, k4⟩ := gly_ex hn
    obtain ⟨r1, r2, r3⟩ := gly_run (M := tMn T) (show k < e by omega) e2 k2 k3 k4
    have e3 : tOw T n = tGc (tRlT T) (tRnT T) (tSg T) k := r1 n k1 e1
    have h : tGn (tRlT T) (tRnT T) (tSg T) (tMn T) (tOw T n) = c := h
    rw [e3, r3, tCu_lg] at h
    by_cases q : tLg (tRlT T) (tRnT T) (tSg T) (e - 1) = 0
    · rw [if_pos q] at h
      have : e - 1 = k := by
        rcases Nat.lt_or_ge k (e - 1) with z | z
        · exact absurd q (k3 (e - 1) z (by omega))
        · omega
      rw [show n = e - 1 by omega]
      exact h
    · rw [if_neg q] at h
      have := tLg_ge q
      omega
  · intro h
    have := (own_glyph hk hn (by rw [h]; exact hc)).2
    rw [this, h]
theorem nu_32 {T : gS} (hk : gOk T) {n : Nat} (hn : n < tMn T) : (tNu T (tOw T n) = 32) ↔ (tSg T n = 32) := nu_slot hk hn notLt_32 (by decide)
theorem nu_45 {T : gS} (hk : gOk T) {n : Nat} (hn : n < tMn T) : (tNu T (tOw T n) = 45) ↔ (tSg T n = 45) := nu_slot hk hn notLt_45 (by decide)
theorem ow_start {T : gS} {k : Nat} (h : lgT T k = 0) : tOw T k = gc T k := by
  rw [ow_gc, gc_new h]
  omega
theorem gc_pos (T : gS) (k : Nat) : 0 < gc T (k + 1) := tGc_pos _ _ _ k
theorem gc_0 (T : gS) : gc T 0 = 0 := rfl
/-- where glyphs begin -/
theorem gs_start (T : gS) : ∀ k g, g < gc T k → tGs (tRlT T) (tRnT T) (tSg T) k g < k ∧ lgT T (tGs (tRlT T) (tRnT T) (tSg T) k g) = 0 ∧ gc T (tGs (tRlT T) (tRnT T) (tSg T) k g) = g
  | 0, g, h => absurd h (Nat.not_lt_zero g)
  | k + 1, g, h => by
    have ih := gs_start T k
    have e2 : tGs (tRlT T) (tRnT T) (tSg T) (k + 1) = if tLg (tRlT T) (tRnT T) (tSg T) k = 0 then upN (tGs (tRlT T) (tRnT T) (tSg T) k) (tGc (tRlT T) (tRnT T) (tSg T) k) k else tGs (tRlT T) (tRnT T) (tSg T) k := rfl
    rw [e2]
    by_cases q : lgT T k = 0
    · rw [gc_new q] at h
      have q' : tLg (tRlT T) (tRnT T) (tSg T) k = 0 := q
      rw [if_pos q']
      by_cases c : g = gc T k
      · have c' : g = tGc (tRlT T) (tRnT T) (tSg T) k := c
        rw [c', upN_eq]
        exact ⟨by omega, q, rfl⟩
      · have c' : g ≠ tGc (tRlT T) (tRnT T) (tSg T) k := c
        rw [upN_ne c']
        have := ih g (by omega)
        exact ⟨by omega, this.2⟩
    · rw [gc_old q] at h
      have q' : ¬ tLg (tRlT T) (tRnT T) (tSg T) k = 0 := q
      rw [if_neg q']
      have := ih g h
      exact ⟨by omega, this.2⟩
theorem gsT_ok {T : gS} {g : Nat} (h : g < tGT T) : tGsT T g < tMn T ∧ lgT T (tGsT T g) = 0 ∧ gc T (tGsT T g) = g := gs_start T (tMn T) g h
theorem gs_of {T : gS} {k : Nat} (hk : k < tMn T) (h : lgT T k = 0) : tGsT T (gc T k) = k := by
  have hg : gc T k < tGT T := by
    have := gc_mono T (show k + 1 ≤ tMn T by omega)
    rw [gc_new h, gc_M] at this
    omega
  obtain ⟨a1, a2, a3⟩ := gsT_ok hg
  rcases Nat.lt_trichotomy (tGsT T (gc T k)) k with z | z | z
  · have := gc_mono T (show tGsT T (gc T k) + 1 ≤ k by omega)
    rw [gc_new a2] at this
    omega
  · exact z
  · have := gc_mono T (show k + 1 ≤ tGsT T (gc T k) by omega)
    rw [gc_new h] at this
    omega
theorem gsT_slot {T : gS} {n : Nat} (hn : n < tMn T) : (tGsT T (tOw T n) = n) ↔ lgT T n = 0 := by
  constructor
  · intro h
    have := (gsT_ok (tOw_lt hn)).2.1
    rw [h] at this
    exact this
  · intro h
    rw [ow_start h]
    exact gs_of hn h
/-- a glyph between two characters begins between them -/
theorem gs_btw {T : gS} {g e f : Nat} (hg : g < tGT T) (h1 : gc T e ≤ g) (h2 : g < gc T f) : e ≤ tGsT T g ∧ tGsT T g < f := by
  obtain ⟨a1, a2, a3⟩ := gsT_ok hg
  constructor
  · rcases Nat.lt_or_ge (tGsT T g) e with z | z
    · have := gc_mono T (show tGsT T g + 1 ≤ e by omega)
      rw [gc_new a2] at this
      omega
    · exact z
  · rcases Nat.lt_or_ge (tGsT T g) f with z | z
    · exact z
    · have := gc_mono T z
      omega
theorem ow_gs {T : gS} {g : Nat} (hg : g < tGT T) : tOw T (tGsT T g) = g := by
  obtain ⟨a1, a2, a3⟩ := gsT_ok hg
  rw [ow_start a2, a3]
/-! breaks and parts -/
theorem brk_old {T : gS} (hk : gOk T) {k : Nat} (hkM : k < tMn T) (h : lgT T k ≠ 0) : mBk (tSg T) k = false := by
  obtain ⟨h1, h2, h3⟩ := tLg_lt hk h
  have h4 : isLt (tSg T (k - 1)) = true := by
    by_cases q : lgT T (k - 1) = 0
    · have e : tCu (tRlT T) (tRnT T) (tSg T) (k - 1) = tSg T (k - 1) := by
        rw [tCu_lg]
        exact if_pos q
      rw [e] at h3
      have := tSg_lt hk (show k - 1 < tMn T by omega)
      rcases h3 with z | z
      · exact z
      · omega
    · exact (tLg_lt hk q).2.1
  have n1 : tSg T (k - 1) ≠ 32 := fun z => by rw [z] at h4; cases h4
  have n2 : tSg T (k - 1) ≠ 45 := fun z => by rw [z] at h4; cases h4
  unfold mBk
  rw [show (tSg T (k - 1) == 32) = false by simpa using n1, show (tSg T (k - 1) == 45) = false by simpa using n2]
  simp
theorem brk_new {T : gS} (hk : gOk T) {k : Nat} (hkM : k < tMn T) (h : lgT T k = 0) : tPb (tNu T) (gc T k) = (k == 0 || mBk (tSg T) k) := by
  by_cases h0 : k = 0
  · subst h0
    rfl
  · obtain ⟨k', rfl⟩ : ∃ k', k = k' + 1 := ⟨k - 1, by omega⟩
    have hp := gc_pos T k'
    have a := nu_32 hk hkM
    have b := nu_32 hk (show k' < tMn T by omega)
    have c := nu_45 hk (show k' < tMn T by omega)
    rw [ow_start h] at a
    rw [ow_gc] at b c
    have e1 : (tNu T (gc T (k' + 1)) != 32) = (tSg T (k' + 1) != 32) := by
      by_cases q : tSg T (k' + 1) = 32
      · rw [a.mpr q, q]
      · rw [show (tSg T (k' + 1) != 32) = true by simpa using q, show (tNu T (gc T (k' + 1)) != 32) = true by simpa using fun z => q (a.mp z)]
    have e2 : (tNu T (gc T (k' + 1) - 1) == 32) = (tSg T k' == 32) := by
      by_cases q : tSg T k' = 32
      · rw [b.mpr q, q]
      · rw [show (tSg T k' == 32) = false by simpa using q, show (tNu T (gc T (k' + 1) - 1) == 32) = false by simpa using fun z => q (b.mp z)]
    have e3 : (tNu T (gc T (k' + 1) - 1) == 45) = (tSg T k' == 45) := by
      by_cases q : tSg T k' = 45
      · rw [c.mpr q, q]
      · rw [show (tSg T k' == 45) = false by simpa using q, show (tNu T (gc T (k' + 1) - 1) == 45) = false by simpa using fun z => q (c.mp z)]
    unfold tPb tBk mBk
    rw [e1, e2, e3, show (gc T (k' + 1) == 0) = false by simpa using (by omega : gc T (k' + 1) ≠ 0), show (k' + 1 == 0) = false by simp, decide_eq_true (show 0 < k' + 1 by omega), Nat.add_sub_cancel]
    simp
theorem part_rel {T : gS} (hk : gOk T) : ∀ k, k ≤ tMn T → 0 < k → tPc (tNu T) (gc T k) = mPc (tSg T) k + 1 ∧ ∀ j, j < mPc (tSg T) k + 1 → mPp (tSg T) k j < k ∧ lgT T (mPp (tSg T) k j) = 0 ∧ tPp (tNu T) (gc T k) j = gc T (mPp (tSg T) k j)
  | 0, _, h => absurd h (Nat.lt_irrefl 0)
  | k + 1, hkM, _ => by
    have e1 : mPc (tSg T) (k + 1) = if mBk (tSg T) k = true then mPc (tSg T) k + 1 else mPc (tSg T) k := rfl
    have e2 : mPp (tSg T) (k + 1) = if mBk (tSg T) k = true then upN (mPp (tSg T) k) (mPc (tSg T) k + 1) k else mPp (tSg T) k := rfl
    by_cases h0 : k = 0
    · subst h0
      have hb : mBk (tSg T) 0 = false := by simp [mBk]
      have hb' : ¬ mBk (tSg T) 0 = true := by rw [hb]; decide
      have hg : gc T (0 + 1) = 0 + 1 := gc_new (show lgT T 0 = 0 from rfl)
      rw [e1, e2, if_neg hb', if_neg hb', hg]
      refine ⟨rfl, fun j hj => ?_⟩
      have hj0 : j = 0 := by
        have hj : j < 0 + 1 := hj
        omega
      subst hj0
      exact ⟨by show (0 : Nat) < 0 + 1; omega, rfl, rfl⟩
    · obtain ⟨i1, i2⟩ := part_rel hk k (by omega) (by omega)
      by_cases q : lgT T k = 0
      · have hb := brk_new hk (show k < tMn T by omega) q
        rw [show (k == 0) = false by simpa using h0, Bool.false_or] at hb
        rw [gc_new q]
        have f1 : tPc (tNu T) (gc T k + 1) = if tPb (tNu T) (gc T k) = true then tPc (tNu T) (gc T k) + 1 else tPc (tNu T) (gc T k) := rfl
        have f2 : tPp (tNu T) (gc T k + 1) = if tPb (tNu T) (gc T k) = true then upN (tPp (tNu T) (gc T k)) (tPc (tNu T) (gc T k)) (gc T k) else tPp (tNu T) (gc T k) := rfl
        rw [hb] at f1 f2
        rw [f1, f2, e1, e2]
        by_cases c : mBk (tSg T) k = true
        · rw [if_pos c, if_pos c, if_pos c, if_pos c]
          refine ⟨by omega, fun j hj => ?_⟩
          by_cases cj : j = mPc (tSg T) k + 1
          · rw [cj, upN_eq, i1, upN_eq]
            exact ⟨by omega, q, rfl⟩
          · rw [upN_ne cj, i1, upN_ne cj]
            have := i2 j (by omega)
            exact ⟨by omega, this.2⟩
        · rw [if_neg c, if_neg c, if_neg c, if_neg c]
          refine ⟨i1, fun j hj => ?_⟩
          have := i2 j hj
          exact ⟨by omega, this.2⟩
      · have hb := brk_old hk (show k < tMn T by omega) q
        have hb' : ¬ mBk (tSg T) k = true := by rw [hb]; decide
        rw [gc_old q, e1, e2, if_neg hb', if_neg hb']
        refine ⟨i1, fun j hj => ?_⟩
        have := i2 j hj
        exact ⟨by omega, this.2⟩
def mPnT (T : gS) : Nat := mPn (tSg T) (tMn T)
def mPtT (T : gS) : Nat → Nat := mPt (tSg T) (tMn T)
theorem mPn_eq {T : gS} (hk : gOk T) : mPnT T = (tXx T).P := by
  show mPn (tSg T) (tMn T) = tPc (tNu T) (tGT T)
  by_cases h0 : tMn T = 0
  · have hg : tGT T = 0 := by
      have := tGT_le T
      omega
    rw [hg]
    exact if_pos h0
  · have := (part_rel hk (tMn T) (Nat.le_refl _) (by omega)).1
    rw [gc_M] at this
    rw [this]
    exact if_neg h0
theorem mPt_ok {T : gS} (hk : gOk T) {p : Nat} (hp : p ≤ (tXx T).P) : mPtT T p ≤ tMn T ∧ gc T (mPtT T p) = (tXx T).pp p ∧ (p < (tXx T).P → mPtT T p < tMn T ∧ lgT T (mPtT T p) = 0) := by
  have hn := mPn_eq hk
  have e : (tXx T).P = tPc (tNu T) (tGT T) := rfl
  by_cases q : p = (tXx T).P
  · have e1 : mPtT T p = tMn T := by
      show upN (mPp (tSg T) (tMn T)) (mPn (tSg T) (tMn T)) (tMn T) p = tMn T
      rw [q, ← hn]
      exact upN_eq _ _ _
    rw [e1, gc_M, q]
    exact ⟨Nat.le_refl _, (tXx_ok hk).pP.symm, fun z => absurd z (Nat.lt_irrefl _)⟩
  · have hlt : p < (tXx T).P := by omega
    have h0 : tMn T ≠ 0 := by
      intro z
      have e3 : mPnT T = 0 := if_pos z
      omega
    have r := part_rel hk (tMn T) (Nat.le_refl _) (by omega)
    rw [gc_M] at r
    have r2 := r.2 p (by omega)
    have e1 : mPtT T p = mPp (tSg T) (tMn T) p := by
      show upN (mPp (tSg T) (tMn T)) (mPn (tSg T) (tMn T)) (tMn T) p = _
      have hn' : mPn (tSg T) (tMn T) = (tXx T).P := hn
      rw [hn', upN_ne q]
    have e2 : (tXx T).pp p = tPp (tNu T) (tGT T) p := by
      show upN (tPp (tNu T) (tGT T)) (tPc (tNu T) (tGT T)) (tGT T) p = _
      rw [upN_ne (by omega)]
    rw [e1, e2]
    exact ⟨by omega, r2.2.2.symm, fun _ => ⟨r2.1, r2.2.1⟩⟩
theorem mPt_lt {T : gS} (hk : gOk T) {i j : Nat} (hij : i < j) (hj : j ≤ (tXx T).P) : mPtT T i < mPtT T j := by
  have a := (mPt_ok hk (show i ≤ (tXx T).P by omega)).2.1
  have b := (mPt_ok hk hj).2.1
  have c := (tXx_ok hk).pl i j hij hj
  rcases Nat.lt_or_ge (mPtT T i) (mPtT T j) with z | z
  · exact z
  · have := gc_mono T z
    omega
/-! the last character of a line -/
def laF (sg : Nat → Nat) (lo : Nat) : Nat → Nat → Nat
  | 0, h => h
  | r + 1, h => if lo < h ∧ sg (h - 1) = 32 then laF sg lo r (h - 1) else h
theorem laF_ok {sg : Nat → Nat} {lo : Nat} : ∀ r h, lo ≤ h → h ≤ lo + r → lo ≤ laF sg lo r h ∧ laF sg lo r h ≤ h ∧ (∀ n, laF sg lo r h ≤ n → n < h → sg n = 32) ∧ (laF sg lo r h = lo ∨ sg (laF sg lo r h - 1) ≠ 32)
  | 0, h, h1, h2 => ⟨h1, Nat.le_refl h, fun n n1 n2 => by have n1 : h ≤ n := n1; omega, Or.inl (by show h = lo; omega)⟩
  | r + 1, h, h1, h2 => by
    unfold laF
    by_cases q : lo < h ∧ sg (h - 1) = 32
    · rw [if_pos q]
      obtain ⟨i1, i2, i3, i4⟩ := laF_ok (sg := sg) (lo := lo) r (h - 1) (by omega) (by omega)
      refine ⟨i1, by omega, fun n n1 n2 => ?_, i4⟩
      by_cases c : n = h - 1
      · rw [c]; exact q.2
      · exact i3 n n1 (by omega)
    · rw [if_neg q]
      refine ⟨h1, Nat.le_refl h, fun n n1 n2 => by omega, ?_⟩
      by_cases c : h = lo
      · exact Or.inl c
      · exact Or.inr (fun z => q ⟨by omega, z⟩)
def mLa (T : gS) (i j : Nat) : Nat := laF (tSg T) (mPtT T i) (mPtT T j) (mPtT T j)
theorem mLa_ok {T : gS} (hk : gOk T) {i j : Nat} (hij : i < j) (hj : j ≤ (tXx T).P) : mPtT T i ≤ mLa T i j ∧ mLa T i j ≤ mPtT T j ∧ gc T (mLa T i j) = (tXx T).pe (j - 1) := by
  have hX := tXx_ok hk
  have hlt := mPt_lt hk hij hj
  obtain ⟨l1, l2, l3, l4⟩ := laF_ok (sg := tSg T) (lo := mPtT T i) (mPtT T j) (mPtT T j) (by omega) (by omega)
  have l1 : mPtT T i ≤ mLa T i j := l1
  have l2 : mLa T i j ≤ mPtT T j := l2
  have l3 : ∀ n, mLa T i j ≤ n → n < mPtT T j → tSg T n = 32 := l3
  have l4 : mLa T i j = mPtT T i ∨ tSg T (mLa T i j - 1) ≠ 32 := l4
  refine ⟨l1, l2, ?_⟩
  have pi := mPt_ok hk (show i ≤ (tXx T).P by omega)
  have pj := mPt_ok hk hj
  have pj1 := mPt_ok hk (show j - 1 ≤ (tXx T).P by omega)
  obtain ⟨t1, t2, t3, t4, t5, t6⟩ := tPx (tNu T) (tGT T)
  have hj' : j ≤ tPc (tNu T) (tGT T) := hj
  have q5 := t5 (j - 1) (by omega)
  have q3 := t3 (j - 1) (by omega)
  have ppj : (if j - 1 + 1 < tPc (tNu T) (tGT T) then tPp (tNu T) (tGT T) (j - 1 + 1) else tGT T) = (tXx T).pp j := by
    rw [show j - 1 + 1 = j by omega]
    show _ = upN (tPp (tNu T) (tGT T)) (tPc (tNu T) (tGT T)) (tGT T) j
    by_cases c : j = tPc (tNu T) (tGT T)
    · rw [if_neg (by omega), c, upN_eq]
    · rw [if_pos (by omega), upN_ne c]
  have ppj1 : tPp (tNu T) (tGT T) (j - 1) = (tXx T).pp (j - 1) := by
    show _ = upN (tPp (tNu T) (tGT T)) (tPc (tNu T) (tGT T)) (tGT T) (j - 1)
    rw [upN_ne (by omega)]
  have hpe : tPe (tNu T) (tGT T) (j - 1) = (tXx T).pe (j - 1) := rfl
  rw [ppj, hpe] at q5 q3
  rw [ppj1] at q5 q3
  have hppG := hX.pG hj
  have hppG' : (tXx T).pp j ≤ tGT T := hppG
  have hpij := hX.ple (show i ≤ j - 1 by omega) (show j - 1 ≤ (tXx T).P by omega)
  -- glyphs behind the last character are spaces
  have sp : ∀ g, gc T (mLa T i j) ≤ g → g < (tXx T).pp j → tNu T g = 32 := by
    intro g g1 g2
    have hg : g < tGT T := by omega
    have b := gs_btw (e := mLa T i j) (f := mPtT T j) hg g1 (by rw [pj.2.1]; exact g2)
    have c := (nu_32 hk (gsT_ok hg).1).mpr (l3 _ b.1 b.2)
    rw [ow_gs hg] at c
    exact c
  rcases Nat.lt_trichotomy (gc T (mLa T i j)) ((tXx T).pe (j - 1)) with z | z | z
  · exfalso
    have s1 := sp ((tXx T).pe (j - 1) - 1) (by omega) (by omega)
    rcases q5.2 with w | w
    · have hl := hX.pl (j - 1) j (by omega) hj
      have s2 := sp ((tXx T).pp (j - 1)) (by omega) hl
      by_cases c : j - 1 = 0
      · rw [c, hX.p0 (by omega)] at w
        rw [c, w] at z
        omega
      · have := t6 (j - 1) (by omega) (by omega)
        rw [ppj1] at this
        exact this s2
    · exact w s1
  · exact z
  · exfalso
    have hne : mLa T i j ≠ mPtT T i := by
      intro c
      rw [c, pi.2.1] at z
      omega
    have l5 : tSg T (mLa T i j - 1) ≠ 32 := by
      rcases l4 with w | w
      · exact absurd w hne
      · exact w
    have hm0 : 0 < mLa T i j := by omega
    have hmM : mLa T i j - 1 < tMn T := by have := pj.1; omega
    have o : tOw T (mLa T i j - 1) = gc T (mLa T i j) - 1 := by
      rw [ow_gc, show mLa T i j - 1 + 1 = mLa T i j by omega]
    have hgc := gc_mono T l2
    rw [pj.2.1] at hgc
    have s1 := q5.1 (gc T (mLa T i j) - 1) (by omega) (by omega)
    rw [← o] at s1
    exact l5 ((nu_32 hk hmM).mp s1)
/-! sums by characters -/
theorem wid_slot {T : gS} {n : Nat} (hn : n < tMn T) : tPs (tGw T) (gc T (n + 1)) = tPs (tGw T) (gc T n) + (if tGsT T (tOw T n) = n then tGw T (tOw T n) else 0) := by
  by_cases q : lgT T n = 0
  · rw [if_pos ((gsT_slot hn).mpr q), gc_new q, ow_start q]
    rfl
  · rw [if_neg (fun z => q ((gsT_slot hn).mp z)), gc_old q, Nat.add_zero]
theorem spc_slot {T : gS} (hk : gOk T) {n : Nat} (hn : n < tMn T) : tPs (fun g => spN (tNu T g)) (gc T (n + 1)) = tPs (fun g => spN (tNu T g)) (gc T n) + (if tSg T n = 32 then 1 else 0) := by
  have a := nu_32 hk hn
  by_cases q : lgT T n = 0
  · rw [gc_new q]
    rw [ow_start q] at a
    show tPs (fun g => spN (tNu T g)) (gc T n) + spN (tNu T (gc T n)) = _
    unfold spN
    by_cases c : tSg T n = 32
    · rw [if_pos c, if_pos (a.mpr c)]
    · rw [if_neg c, if_neg (fun z => c (a.mp z))]
  · have c : tSg T n ≠ 32 := fun z => by
      have := (own_glyph hk hn (by rw [z]; exact notLt_32)).1
      exact q this
    rw [if_neg c, gc_old q, Nat.add_zero]
theorem bl_slot {T : gS} (hk : gOk T) : tBlT T = true ↔ ∀ n, n < tMn T → tSg T n = 32 := by
  rw [show tBlT T = tBl (tNu T) (tGT T) from rfl, tBl_iff]
  constructor
  · intro h n hn
    exact (nu_32 hk hn).mp (h _ (tOw_lt hn))
  · intro h g hg
    have b := gsT_ok hg
    have c := (nu_32 hk b.1).mpr (h _ b.1)
    rw [ow_gs hg] at c
    exact c
theorem hy_slot {T : gS} (hk : gOk T) {j : Nat} (hj : j ≤ (tXx T).P) : xH (tXx T) j = (decide (0 < mPtT T j) && tSg T (mPtT T j - 1) == 45) := by
  have p := mPt_ok hk hj
  show (decide (0 < (tXx T).pp j) && tNu T ((tXx T).pp j - 1) == 45) = _
  rw [← p.2.1]
  by_cases q : 0 < mPtT T j
  · have hg : 0 < gc T (mPtT T j) := by
      have := gc_pos T (mPtT T j - 1)
      rw [show mPtT T j - 1 + 1 = mPtT T j by omega] at this
      exact this
    have hlt : mPtT T j - 1 < tMn T := by have := p.1; omega
    have a := nu_45 hk hlt
    rw [ow_gc, show mPtT T j - 1 + 1 = mPtT T j by omega] at a
    rw [decide_eq_true q, decide_eq_true hg]
    by_cases c : tSg T (mPtT T j - 1) = 45
    · rw [c, a.mpr c]
    · rw [show (tSg T (mPtT T j - 1) == 45) = false by simpa using c, show (tNu T (gc T (mPtT T j) - 1) == 45) = false by simpa using fun z => c (a.mp z)]
  · have e : mPtT T j = 0 := by omega
    rw [e, gc_0]
    rfl
end
