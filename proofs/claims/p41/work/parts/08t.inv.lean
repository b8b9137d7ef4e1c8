/-! ONE INSTRUCTION -/
/-- what holds all along a frame of the method k -/
def gX (k : Nat) (p : Program) (l : Launch) (e : Env) (R : Room) (s : State) (m : MethodId) (args : Array Value) (meth : Method) (c : Code) (cA : Nat → ClassId) (ad : Nat → Nat) (dC : Nat → ClassId) (dI : Nat → Nat → Nat) (A : Nat → Prop) (scr : gScr) : Prop :=
  p.tables.exec = Jvm.exec ∧ c.code = mBy k ∧ c.maxLocals = mML k ∧ s.vm.findClass (mOw k) = some m.cls ∧ (∀ w ∈ gG, w.before args s = true) ∧ va_K (dC, dI) gCl (gTys cA) s ∧ (∀ q, s.heap.size ≤ q → A q) ∧
  ∀ L xs, scr = some (L, xs) → va_X (ad gSC) L xs s s.heap ∧ ad gSC < s.heap.size ∧ ¬ A (ad gSC) ∧ L < 2 ^ 31 ∧ (∃ va, sF (ad 1002) va A s s.heap) ∧ vk_R "GlyphmillLaw" 224 "aabbcnA AB 1 2-,.[{}} - " (ad 1002) s
/-- a memory in the heap -/
def gM (cA : Nat → ClassId) (ad : Nat → Nat) (dC : Nat → ClassId) (dI : Nat → Nat → Nat) (A : Nat → Prop) (s : State) (μ : gMu) (H : Heap) (locs : List Loc) : Prop :=
  va_P (dC, dI) gCl (gWd cA ad μ) H ∧ va_D A (gWd cA ad μ) ∧ va_S A s.heap H locs
theorem gII_inv {f f' : gF} {cs : List Prop} {h : Int32 → Int32 → Value × List Prop} (hs : gII f h = some (f', cs)) : ∃ pc l x y r μ, f = (pc, l, .int y :: .int x :: r, μ) ∧ f' = (pc + 1, l, (h x y).1 :: r, μ) ∧ cs = (h x y).2 := by
  unfold gII at hs
  split at hs
  · cases hs; exact ⟨_, _, _, _, _, _, rfl, rfl, rfl⟩
  · cases hs
theorem gJJ_inv {f f' : gF} {cs : List Prop} {h : Int64 → Int64 → Value × List Prop} (hs : gJJ f h = some (f', cs)) : ∃ pc l x y r μ, f = (pc, l, .long y :: .long x :: r, μ) ∧ f' = (pc + 1, l, (h x y).1 :: r, μ) ∧ cs = (h x y).2 := by
  unfold gJJ at hs
  split at hs
  · cases hs; exact ⟨_, _, _, _, _, _, rfl, rfl, rfl⟩
  · cases hs
theorem gI1_inv {f f' : gF} {cs : List Prop} {h : Int32 → Value} (hs : gI1 f h = some (f', cs)) : ∃ pc l x r μ, f = (pc, l, .int x :: r, μ) ∧ f' = (pc + 1, l, h x :: r, μ) := by
  unfold gI1 at hs
  split at hs
  · cases hs; exact ⟨_, _, _, _, _, rfl, rfl⟩
  · cases hs
theorem gJ1_inv {f f' : gF} {cs : List Prop} {h : Int64 → Value} (hs : gJ1 f h = some (f', cs)) : ∃ pc l x r μ, f = (pc, l, .long x :: r, μ) ∧ f' = (pc + 1, l, h x :: r, μ) := by
  unfold gJ1 at hs
  split at hs
  · cases hs; exact ⟨_, _, _, _, _, rfl, rfl⟩
  · cases hs
theorem gArr_inv {q t n : Nat} (h : gArr q = some (t, n)) : gSh[q]? = some (.inr (t, n)) := by
  unfold gArr at h
  split at h
  · rename_i x hx
    cases h
    exact hx
  · cases h
theorem gObj_inv {q : Nat} {x : Nat × List (Nat × Nat)} (h : gObj q = some x) : gSh[q]? = some (.inl x) := by
  unfold gObj at h
  split at h
  · rename_i y hy
    cases h
    exact hy
  · cases h
theorem gALd_inv {t : Nat} {f f' : gF} {cs : List Prop} (hs : gALd none t f = some (f', cs)) : ∃ pc l i q r μ n, f = (pc, l, .int i :: .ref q :: r, μ) ∧ gSh[q]? = some (.inr (t, n)) ∧ f' = (pc + 1, l, (if t = 4 then .double (μ.2.2 q i.toNatClampNeg) else if t = 3 then .long (μ.2.1 q i.toNatClampNeg) else .int (μ.1 q i.toNatClampNeg)) :: r, μ) ∧ cs = [vp_in i n] := by
  unfold gALd at hs
  split at hs
  · split at hs
    · cases hs
    · split at hs
      · rename_i t' n hn
        split at hs
        · rename_i ht
          subst ht
          cases hs
          exact ⟨_, _, _, _, _, _, n, rfl, gArr_inv hn, rfl, rfl⟩
        · cases hs
      · cases hs
  · cases hs
theorem gIst_inv {t : Nat} {g : Int32 → Int32} {f f' : gF} {cs : List Prop} (hs : gIst t g f = some (f', cs)) : ∃ pc l x i q r μ n, f = (pc, l, .int x :: .int i :: .ref q :: r, μ) ∧ gSh[q]? = some (.inr (t, n)) ∧ f' = (pc + 1, l, r, gsI μ q i.toNatClampNeg (g x)) ∧ cs = [vp_in i n] := by
  unfold gIst at hs
  split at hs
  · split at hs
    · cases hs
    · split at hs
      · rename_i t' n hn
        split at hs
        · rename_i ht
          subst ht
          cases hs
          exact ⟨_, _, _, _, _, _, _, n, rfl, gArr_inv hn, rfl, rfl⟩
        · cases hs
      · cases hs
  · cases hs
theorem gTyN {ci : Nat} {q : vw_C} (h : gCl[ci]? = some q) : (∀ w ∈ u_ws q.1 q.2.1 q.2.2, w ∈ gG) ∧ (∀ a, a < q.2.2 → ∀ b, b < q.2.2 → a ≠ b → (q.2.1 a).2.1 ≠ (q.2.1 b).2.1) ∧ ∃ ty : Nat → FieldType, ∀ k, k < q.2.2 → parseFieldDescriptor (q.2.1 k).2.2.1 = some (ty k) := by
  have hm := List.mem_of_getElem? h
  have key : ∀ (C : String) (T : u_T) (N : Nat), (∀ w ∈ u_ws C T N, w ∈ tables_1) → ((u_ws C T N).all goodWord = true) → ∀ w ∈ u_ws C T N, w ∈ gG := fun C T N h1 h2 w hw => List.mem_filter.mpr ⟨List.mem_append_right _ (h1 w hw), List.all_eq_true.mp h2 w hw⟩
  simp only [gCl, List.mem_cons, List.not_mem_nil, or_false] at hm
  rcases hm with rfl | rfl | rfl | rfl | rfl | rfl | rfl | rfl | rfl | rfl
  · exact ⟨key _ _ _ (by decide +kernel) (by decide +kernel), nmX0, _, tyX0_ok⟩
  · exact ⟨key _ _ _ (by decide +kernel) (by decide +kernel), nmX1, _, tyX1_ok⟩
  · exact ⟨key _ _ _ (by decide +kernel) (by decide +kernel), nmX2, _, tyX2_ok⟩
  · exact ⟨key _ _ _ (by decide +kernel) (by decide +kernel), nmX3, _, tyX3_ok⟩
  · exact ⟨key _ _ _ (by decide +kernel) (by decide +kernel), nmX4, _, tyX4_ok⟩
  · exact ⟨key _ _ _ (by decide +kernel) (by decide +kernel), nmX5, _, tyX5_ok⟩
  · exact ⟨key _ _ _ (by decide +kernel) (by decide +kernel), nmX6, _, tyX6_ok⟩
  · exact ⟨key _ _ _ (by decide +kernel) (by decide +kernel), nmX7, _, tyX7_ok⟩
  · exact ⟨key _ _ _ (by decide +kernel) (by decide +kernel), nmX8, _, tyX8_ok⟩
  · exact ⟨key _ _ _ (by decide +kernel) (by decide +kernel), nmX9, _, tyX9_ok⟩
