/-! THE SMALL MACHINE AND THE MACHINE: how a memory of the one lies in the heap of the other -/
def gTr (ad : Nat → Nat) : Value → Value
  | .ref a => .ref (ad a)
  | v => v
theorem gTr_cat (ad : Nat → Nat) (v : Value) : (gTr ad v).category = v.category := by cases v <;> rfl
def gCell (cA : Nat → ClassId) (ad : Nat → Nat) (μ : gMu) (a : Nat) : gC → va_E
  | .inl (ci, ks) => .inr (ci, ks.mapIdx (fun j kd => gTr ad (gFa μ a j kd)))
  | .inr (t, n) => .inl (cA t, n, if t = 4 then .inr (.inr (.inr (.inl (μ.2.2 a)))) else if t = 3 then .inr (.inl (μ.2.1 a)) else .inl (μ.1 a))
def gWd (cA : Nat → ClassId) (ad : Nat → Nat) (μ : gMu) : va_W := gSh.mapIdx (fun a x => (ad a, gCell cA ad μ a x))
abbrev gTys (cA : Nat → ClassId) : List (ClassId × FieldType) := [(cA 0, .int), (cA 1, .char), (cA 2, .boolean), (cA 3, .long), (cA 4, .byte)]
def gAsc (ad : Nat → Nat) (l : gL) : List (Nat × Value) := (List.range l.length).filterMap (fun i => match l[i]? with
  | some (some v) => some (i, gTr ad v)
  | _ => none)
theorem gAsc_mem {ad : Nat → Nat} {l : gL} {q : Nat × Value} : q ∈ gAsc ad l ↔ ∃ v, l[q.1]? = some (some v) ∧ q.2 = gTr ad v := by
  unfold gAsc
  rw [List.mem_filterMap]
  constructor
  · rintro ⟨i, -, h⟩
    split at h
    · rename_i v hv
      cases h
      exact ⟨v, hv, rfl⟩
    · cases h
  · rintro ⟨v, h1, h2⟩
    refine ⟨q.1, List.mem_range.mpr (List.getElem?_eq_some_iff.mp h1).1, ?_⟩
    rw [h1]
    show some (q.1, gTr ad v) = some q
    rw [← h2]
def gLh (ls : Array Slot) (nL : Nat) (ad : Nat → Nat) (l : gL) : Prop := lv_has ls nL (gAsc ad l)
theorem gLh_at {ls : Array Slot} {nL : Nat} {ad : Nat → Nat} {l : gL} (h : gLh ls nL ad l) {i : Nat} {v : Value} (hi : l[i]? = some (some v)) : ls[i]? = some (.val (gTr ad v)) := h.2.2 (i, gTr ad v) (gAsc_mem.mpr ⟨v, hi, rfl⟩)
theorem gKill_get {l : gL} {i j : Nat} {w : Value} (h : (gKill l i)[j]? = some (some w)) : l[j]? = some (some w) ∧ ¬ (j + 1 = i ∧ w.category = 2) := by
  unfold gKill at h
  split at h
  · exact ⟨h, fun q => by omega⟩
  · rename_i i'
    split at h
    · rename_i v hv
      split at h
      · rename_i hc
        by_cases hj : j = i'
        · subst hj
          have hl := (List.getElem?_eq_some_iff.mp hv).1
          rw [List.getElem?_set_self hl] at h
          cases h
        · rw [List.getElem?_set_ne (Ne.symm hj)] at h
          exact ⟨h, fun q => hj (by omega)⟩
      · rename_i hc
        refine ⟨h, fun q => ?_⟩
        have e : j = i' := by omega
        subst e
        rw [hv] at h
        cases h
        exact hc q.2
    · rename_i hn
      refine ⟨h, fun q => ?_⟩
      have e : j = i' := by omega
      subst e
      exact hn w h
theorem gLh_st1 {ls : Array Slot} {nL : Nat} {ad : Nat → Nat} {l : gL} {i : Nat} {v : Value} (h : lv_has ls nL ((i, gTr ad v) :: (gAsc ad l).filter (fun q => !(q.1 == i) && !(q.1 + 1 == i && q.2.category == 2)))) : gLh ls nL ad (gSt1 l i v) := by
  refine ⟨h.1, h.2.1, fun q hq => h.2.2 q ?_⟩
  obtain ⟨w, h1, h2⟩ := gAsc_mem.mp hq
  obtain ⟨j, x⟩ := q
  dsimp only at h1 h2
  subst h2
  unfold gSt1 at h1
  by_cases hj : j = i
  · subst hj
    have hl : j < (gKill l j).length := by
      have := (List.getElem?_eq_some_iff.mp h1).1
      rwa [List.length_set] at this
    rw [List.getElem?_set_self hl] at h1
    cases h1
    exact List.mem_cons_self
  · rw [List.getElem?_set_ne (Ne.symm hj)] at h1
    obtain ⟨h3, h4⟩ := gKill_get h1
    refine List.mem_cons_of_mem _ (List.mem_filter.mpr ⟨gAsc_mem.mpr ⟨w, h3, rfl⟩, ?_⟩)
    rw [gTr_cat]
    simp only [Bool.and_eq_true, Bool.not_eq_true', beq_eq_false_iff_ne, ne_eq, Bool.and_eq_false_iff]
    refine ⟨hj, ?_⟩
    by_cases h5 : j + 1 = i
    · exact Or.inr (fun h6 => h4 ⟨h5, h6⟩)
    · exact Or.inl h5
theorem gLh_st2 {ls : Array Slot} {nL : Nat} {ad : Nat → Nat} {l : gL} {i : Nat} {v : Value} (h : lv_has ls nL ((i, gTr ad v) :: (gAsc ad l).filter (fun q => !(q.1 == i) && (!(q.1 == i + 1) && !(q.1 + 1 == i && q.2.category == 2))))) : gLh ls nL ad (gSt2 l i v) := by
  refine ⟨h.1, h.2.1, fun q hq => h.2.2 q ?_⟩
  obtain ⟨w, h1, h2⟩ := gAsc_mem.mp hq
  obtain ⟨j, x⟩ := q
  dsimp only at h1 h2
  subst h2
  unfold gSt2 at h1
  by_cases hj1 : j = i + 1
  · subst hj1
    have hl := (List.getElem?_eq_some_iff.mp h1).1
    rw [List.length_set] at hl
    rw [List.getElem?_set_self hl] at h1
    cases h1
  · rw [List.getElem?_set_ne (Ne.symm hj1)] at h1
    by_cases hj : j = i
    · subst hj
      have hl : j < (gKill l j).length := by
        have := (List.getElem?_eq_some_iff.mp h1).1
        rwa [List.length_set] at this
      rw [List.getElem?_set_self hl] at h1
      cases h1
      exact List.mem_cons_self
    · rw [List.getElem?_set_ne (Ne.symm hj)] at h1
      obtain ⟨h3, h4⟩ := gKill_get h1
      refine List.mem_cons_of_mem _ (List.mem_filter.mpr ⟨gAsc_mem.mpr ⟨w, h3, rfl⟩, ?_⟩)
      rw [gTr_cat]
      simp only [Bool.and_eq_true, Bool.not_eq_true', beq_eq_false_iff_ne, ne_eq, Bool.and_eq_false_iff]
      refine ⟨hj, hj1, ?_⟩
      by_cases h5 : j + 1 = i
      · exact Or.inr (fun h6 => h4 ⟨h5, h6⟩)
      · exact Or.inl h5
theorem gLh_hnd {ls : Array Slot} {nL : Nat} {ad : Nat → Nat} {l : gL} {i : Nat} {v : Value} (h : lv_has ls nL ((i, v) :: (gAsc ad l).filter (fun q => !(q.1 == i) && !(q.1 + 1 == i && q.2.category == 2)))) : gLh ls nL ad ((gKill l i).set i none) := by
  refine ⟨h.1, h.2.1, fun q hq => h.2.2 q ?_⟩
  obtain ⟨w, h1, h2⟩ := gAsc_mem.mp hq
  obtain ⟨j, x⟩ := q
  dsimp only at h1 h2
  subst h2
  by_cases hj : j = i
  · subst hj
    have hl : j < (gKill l j).length := by
      have := (List.getElem?_eq_some_iff.mp h1).1
      rwa [List.length_set] at this
    rw [List.getElem?_set_self hl] at h1
    cases h1
  · rw [List.getElem?_set_ne (Ne.symm hj)] at h1
    obtain ⟨h3, h4⟩ := gKill_get h1
    refine List.mem_cons_of_mem _ (List.mem_filter.mpr ⟨gAsc_mem.mpr ⟨w, h3, rfl⟩, ?_⟩)
    rw [gTr_cat]
    simp only [Bool.and_eq_true, Bool.not_eq_true', beq_eq_false_iff_ne, ne_eq, Bool.and_eq_false_iff]
    refine ⟨hj, ?_⟩
    by_cases h5 : j + 1 = i
    · exact Or.inr (fun h6 => h4 ⟨h5, h6⟩)
    · exact Or.inl h5
theorem gWd_get {cA : Nat → ClassId} {ad : Nat → Nat} {μ : gMu} {q : Nat} {x : gC} (h : gSh[q]? = some x) : (gWd cA ad μ)[q]? = some (ad q, gCell cA ad μ q x) := by
  unfold gWd
  rw [List.getElem?_mapIdx, h]
  rfl
theorem gWd_inv {cA : Nat → ClassId} {ad : Nat → Nat} {μ : gMu} {q : Nat} {y : Nat × va_E} (h : (gWd cA ad μ)[q]? = some y) : ∃ x, gSh[q]? = some x ∧ y = (ad q, gCell cA ad μ q x) := by
  unfold gWd at h
  rw [List.getElem?_mapIdx] at h
  cases hx : gSh[q]? with
  | none => rw [hx] at h; cases h
  | some x => rw [hx] at h; exact ⟨x, rfl, (Option.some.inj h).symm⟩
theorem gCell_congr {cA : Nat → ClassId} {ad : Nat → Nat} {μ μ' : gMu} {a : Nat} (h1 : μ'.1 a = μ.1 a) (h2 : μ'.2.1 a = μ.2.1 a) (h3 : μ'.2.2 a = μ.2.2 a) (x : gC) : gCell cA ad μ' a x = gCell cA ad μ a x := by
  have hf : ∀ (j : Nat) (kd : Nat × Nat), gFa μ' a j kd = gFa μ a j kd := by
    intro j kd
    unfold gFa
    rw [h1, h2]
  rcases x with ⟨ci, ks⟩ | ⟨t, n⟩
  · unfold gCell
    simp only [hf]
  · unfold gCell
    simp only [h1, h2, h3]
theorem gWd_set {cA : Nat → ClassId} {ad : Nat → Nat} {μ μ' : gMu} {q : Nat} {x : gC} (h : gSh[q]? = some x) (ho : ∀ a, a ≠ q → μ'.1 a = μ.1 a ∧ μ'.2.1 a = μ.2.1 a ∧ μ'.2.2 a = μ.2.2 a) : (gWd cA ad μ).set q (ad q, gCell cA ad μ' q x) = gWd cA ad μ' := by
  apply List.ext_getElem?
  intro i
  by_cases hi : i = q
  · subst hi
    have hl := (List.getElem?_eq_some_iff.mp (gWd_get (cA := cA) (ad := ad) (μ := μ) h)).1
    rw [List.getElem?_set_self hl, gWd_get h]
  · rw [List.getElem?_set_ne (Ne.symm hi)]
    cases hx : gSh[i]? with
    | none =>
      unfold gWd
      rw [List.getElem?_mapIdx, List.getElem?_mapIdx, hx]
      rfl
    | some y =>
      obtain ⟨a1, a2, a3⟩ := ho i hi
      rw [gWd_get hx, gWd_get hx, gCell_congr a1 a2 a3]
theorem gsI_off {μ : gMu} {q j : Nat} {v : Int32} {a : Nat} (h : a ≠ q) : (gsI μ q j v).1 a = μ.1 a ∧ (gsI μ q j v).2.1 a = μ.2.1 a ∧ (gsI μ q j v).2.2 a = μ.2.2 a := ⟨by unfold gsI va_up; simp [h], rfl, rfl⟩
theorem gsJ_off {μ : gMu} {q j : Nat} {v : Int64} {a : Nat} (h : a ≠ q) : (gsJ μ q j v).1 a = μ.1 a ∧ (gsJ μ q j v).2.1 a = μ.2.1 a ∧ (gsJ μ q j v).2.2 a = μ.2.2 a := ⟨rfl, by unfold gsJ va_up; simp [h], rfl⟩
theorem gsD_off {μ : gMu} {q j : Nat} {v : UInt64} {a : Nat} (h : a ≠ q) : (gsD μ q j v).1 a = μ.1 a ∧ (gsD μ q j v).2.1 a = μ.2.1 a ∧ (gsD μ q j v).2.2 a = μ.2.2 a := ⟨rfl, rfl, by unfold gsD va_up; simp [h]⟩
theorem gsI_at {μ : gMu} {q j : Nat} {v : Int32} : (gsI μ q j v).1 q = upd (μ.1 q) j v := by unfold gsI va_up; simp
theorem gsJ_at {μ : gMu} {q j : Nat} {v : Int64} : (gsJ μ q j v).2.1 q = vp_updL (μ.2.1 q) j v := by unfold gsJ va_up; simp
theorem gsD_at {μ : gMu} {q j : Nat} {v : UInt64} : (gsD μ q j v).2.2 q = vf_upd (μ.2.2 q) j v := by unfold gsD va_up; simp
/-- the addresses of two worlds of one shape are the same -/
theorem gWd_D {A : Nat → Prop} {cA : Nat → ClassId} {ad : Nat → Nat} {μ μ' : gMu} (h : va_D A (gWd cA ad μ)) : va_D A (gWd cA ad μ') := by
  have key : ∀ (k : Nat) (q : Nat × va_E), (gWd cA ad μ')[k]? = some q → ∃ q', (gWd cA ad μ)[k]? = some q' ∧ q'.1 = q.1 := by
    intro k q hk
    obtain ⟨x, h1, h2⟩ := gWd_inv hk
    subst h2
    exact ⟨_, gWd_get h1, rfl⟩
  refine ⟨fun i j x y hi hj hxy => ?_, fun k q hk => ?_⟩
  · obtain ⟨x', a1, a2⟩ := key i x hi
    obtain ⟨y', b1, b2⟩ := key j y hj
    exact h.1 i j x' y' a1 b1 (by rw [a2, b2, hxy])
  · obtain ⟨q', a1, a2⟩ := key k q hk
    rw [← a2]
    exact h.2 k q' a1
/-- the cells that a method may change -/
def gA (ad : Nat → Nat) (sz : Nat) : Nat → Prop := fun q => (∃ k, k < gSh.length ∧ q = ad k) ∨ sz ≤ q
theorem gA_D {A : Nat → Prop} {cA : Nat → ClassId} {ad : Nat → Nat} {μ : gMu} {sz : Nat} (h : va_D A (gWd cA ad μ)) : va_D (gA ad sz) (gWd cA ad μ) := ⟨h.1, fun k q hk => by
  obtain ⟨x, h1, h2⟩ := gWd_inv hk
  subst h2
  exact Or.inl ⟨k, (List.getElem?_eq_some_iff.mp h1).1, rfl⟩⟩
theorem gA_sub {A : Nat → Prop} {cA : Nat → ClassId} {ad : Nat → Nat} {μ : gMu} {sz : Nat} (h : va_D A (gWd cA ad μ)) (hA : ∀ q, sz ≤ q → A q) : ∀ q, gA ad sz q → A q := by
  rintro q (⟨k, hk, rfl⟩ | hq)
  · have h1 : gSh[k]? = some gSh[k] := List.getElem?_eq_getElem hk
    exact h.2 k _ (gWd_get h1)
  · exact hA q hq
/-- the words that go from frame to frame -/
def gG : List Cond := lw_tbl.filter goodWord
theorem gG_W {w : Cond} {pos : Nat} (h : gW pos = some w) (hg : goodWord w = true) : w ∈ gG := List.mem_filter.mpr ⟨List.mem_append_right _ (List.mem_of_getElem? h), hg⟩
theorem gG_Ma {w : Cond} (h : w ∈ ([.static Lib.Math.max.name, .static Lib.Math.min.name, .static Lib.Math.abs.name, .static Lib.MathLoose.min_long.x, .initialized "java/lang/Math", .code Lib.Math.max.name Lib.Math.max.code 2 (some .int), .code Lib.Math.min.name Lib.Math.min.code 2 (some .int), .code Lib.Math.abs.name Lib.Math.abs.code 1 (some .int), .code Lib.MathLoose.min_long.x Lib.MathLoose.min_long.code 4 (some .long)] : List Cond)) : w ∈ gG := List.mem_filter.mpr ⟨List.mem_append_right _ (gMa w h).1, (gMa w h).2⟩
