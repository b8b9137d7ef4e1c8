/-! THE LAW'S ENTRY (written by wip/p41/entry.py) -/
def gMu0 : gMu := (fun a => if a = 5 then (fun _ => 4) else if a = 0 then (fun j => if j = 9 then 60 else if j = 11 then 1 else 0) else if a = 29 then (fun j => if j = 4 then 1 else 0) else if a = 32 then (fun j => if j = 7 then -1 else 0) else (fun _ => 0), fun _ _ => 0, fun _ _ => 0)
def gWx (cA : Nat → ClassId) (ad : Nat → Nat) : va_W := [(ad 0, .inr (9, [.ref (ad 2), .ref (ad 4), .ref (ad 9), .ref (ad 15), .ref (ad 18), .ref (ad 21), .ref (ad 29), .ref (ad 32), .ref (ad 38), .int 60, .int 0, .int 1])), (ad 1, .inl (cA 0, 50, .inl (fun _ => 0))), (ad 2, .inr (8, [.ref (ad 3), .int 0])), (ad 3, .inl (cA 1, 50, .inl (fun _ => 0))), (ad 4, .inr (0, [.ref (ad 5), .ref (ad 6), .ref (ad 7), .ref (ad 8), .int 0])), (ad 5, .inl (cA 0, 128, .inl (fun _ => 4))), (ad 6, .inl (cA 0, 20, .inl (fun _ => 0))), (ad 7, .inl (cA 1, 20, .inl (fun _ => 0))), (ad 8, .inl (cA 0, 20, .inl (fun _ => 0))), (ad 9, .inr (7, [.ref (ad 10), .ref (ad 11), .ref (ad 12), .ref (ad 13), .ref (ad 14), .int 0])), (ad 10, .inl (cA 0, 50, .inl (fun _ => 0))), (ad 11, .inl (cA 0, 50, .inl (fun _ => 0))), (ad 12, .inl (cA 1, 50, .inl (fun _ => 0))), (ad 13, .inl (cA 0, 50, .inl (fun _ => 0))), (ad 14, .inl (cA 0, 6, .inl (fun _ => 0))), (ad 15, .inr (2, [.ref (ad 9), .ref (ad 16), .ref (ad 17)])), (ad 16, .inl (cA 0, 50, .inl (fun _ => 0))), (ad 17, .inl (cA 0, 50, .inl (fun _ => 0))), (ad 18, .inr (6, [.ref (ad 9), .ref (ad 15), .ref (ad 19), .ref (ad 20), .int 0])), (ad 19, .inl (cA 0, 50, .inl (fun _ => 0))), (ad 20, .inl (cA 0, 50, .inl (fun _ => 0))), (ad 21, .inr (1, [.ref (ad 9), .ref (ad 15), .ref (ad 18), .ref (ad 22), .ref (ad 23), .ref (ad 24), .ref (ad 25), .ref (ad 26), .ref (ad 27), .ref (ad 28), .int 0])), (ad 22, .inl (cA 0, 50, .inl (fun _ => 0))), (ad 23, .inl (cA 0, 50, .inl (fun _ => 0))), (ad 24, .inl (cA 0, 50, .inl (fun _ => 0))), (ad 25, .inl (cA 0, 50, .inl (fun _ => 0))), (ad 26, .inl (cA 0, 50, .inl (fun _ => 0))), (ad 27, .inl (cA 0, 51, .inl (fun _ => 0))), (ad 28, .inl (cA 0, 51, .inl (fun _ => 0))), (ad 29, .inr (4, [.ref (ad 21), .ref (ad 30), .ref (ad 31), .int 0, .int 1])), (ad 30, .inl (cA 0, 51, .inl (fun _ => 0))), (ad 31, .inl (cA 0, 50, .inl (fun _ => 0))), (ad 32, .inr (3, [.ref (ad 29), .ref (ad 33), .ref (ad 34), .ref (ad 35), .ref (ad 36), .ref (ad 37), .int 0, .int (-1), .int 0, .long 0, .long 0, .int 0])), (ad 33, .inl (cA 3, 51, .inr (.inl (fun _ => 0)))), (ad 34, .inl (cA 0, 51, .inl (fun _ => 0))), (ad 35, .inl (cA 0, 51, .inl (fun _ => 0))), (ad 36, .inl (cA 2, 51, .inl (fun _ => 0))), (ad 37, .inl (cA 0, 51, .inl (fun _ => 0))), (ad 38, .inr (5, [.ref (ad 21), .ref (ad 29), .ref (ad 32), .ref (ad 39), .ref (ad 40), .ref (ad 41), .ref (ad 42), .ref (ad 1)])), (ad 39, .inl (cA 0, 50, .inl (fun _ => 0))), (ad 40, .inl (cA 0, 50, .inl (fun _ => 0))), (ad 41, .inl (cA 0, 50, .inl (fun _ => 0))), (ad 42, .inl (cA 0, 50, .inl (fun _ => 0)))]
theorem gWy_0 (cA : Nat → ClassId) (ad : Nat → Nat) : gCell cA ad gMu0 0 (.inl (9, [(2, 2), (2, 4), (2, 9), (2, 15), (2, 18), (2, 21), (2, 29), (2, 32), (2, 38), (0, 0), (0, 0), (0, 1)])) = .inr (9, [.ref (ad 2), .ref (ad 4), .ref (ad 9), .ref (ad 15), .ref (ad 18), .ref (ad 21), .ref (ad 29), .ref (ad 32), .ref (ad 38), .int 60, .int 0, .int 1]) := rfl
theorem gWy_1 (cA : Nat → ClassId) (ad : Nat → Nat) : gCell cA ad gMu0 1 (.inr (0, 50)) = .inl (cA 0, 50, .inl (fun _ => 0)) := by
  simp only [gCell, List.mapIdx_cons, List.mapIdx_nil]
  rfl
theorem gWy_2 (cA : Nat → ClassId) (ad : Nat → Nat) : gCell cA ad gMu0 2 (.inl (8, [(2, 3), (0, 0)])) = .inr (8, [.ref (ad 3), .int 0]) := rfl
theorem gWy_3 (cA : Nat → ClassId) (ad : Nat → Nat) : gCell cA ad gMu0 3 (.inr (1, 50)) = .inl (cA 1, 50, .inl (fun _ => 0)) := rfl
theorem gWy_4 (cA : Nat → ClassId) (ad : Nat → Nat) : gCell cA ad gMu0 4 (.inl (0, [(2, 5), (2, 6), (2, 7), (2, 8), (0, 0)])) = .inr (0, [.ref (ad 5), .ref (ad 6), .ref (ad 7), .ref (ad 8), .int 0]) := rfl
theorem gWy_5 (cA : Nat → ClassId) (ad : Nat → Nat) : gCell cA ad gMu0 5 (.inr (0, 128)) = .inl (cA 0, 128, .inl (fun _ => 4)) := rfl
theorem gWy_6 (cA : Nat → ClassId) (ad : Nat → Nat) : gCell cA ad gMu0 6 (.inr (0, 20)) = .inl (cA 0, 20, .inl (fun _ => 0)) := rfl
theorem gWy_7 (cA : Nat → ClassId) (ad : Nat → Nat) : gCell cA ad gMu0 7 (.inr (1, 20)) = .inl (cA 1, 20, .inl (fun _ => 0)) := rfl
theorem gWy_8 (cA : Nat → ClassId) (ad : Nat → Nat) : gCell cA ad gMu0 8 (.inr (0, 20)) = .inl (cA 0, 20, .inl (fun _ => 0)) := rfl
theorem gWy_9 (cA : Nat → ClassId) (ad : Nat → Nat) : gCell cA ad gMu0 9 (.inl (7, [(2, 10), (2, 11), (2, 12), (2, 13), (2, 14), (0, 0)])) = .inr (7, [.ref (ad 10), .ref (ad 11), .ref (ad 12), .ref (ad 13), .ref (ad 14), .int 0]) := rfl
theorem gWy_10 (cA : Nat → ClassId) (ad : Nat → Nat) : gCell cA ad gMu0 10 (.inr (0, 50)) = .inl (cA 0, 50, .inl (fun _ => 0)) := rfl
theorem gWy_11 (cA : Nat → ClassId) (ad : Nat → Nat) : gCell cA ad gMu0 11 (.inr (0, 50)) = .inl (cA 0, 50, .inl (fun _ => 0)) := rfl
theorem gWy_12 (cA : Nat → ClassId) (ad : Nat → Nat) : gCell cA ad gMu0 12 (.inr (1, 50)) = .inl (cA 1, 50, .inl (fun _ => 0)) := rfl
theorem gWy_13 (cA : Nat → ClassId) (ad : Nat → Nat) : gCell cA ad gMu0 13 (.inr (0, 50)) = .inl (cA 0, 50, .inl (fun _ => 0)) := rfl
theorem gWy_14 (cA : Nat → ClassId) (ad : Nat → Nat) : gCell cA ad gMu0 14 (.inr (0, 6)) = .inl (cA 0, 6, .inl (fun _ => 0)) := rfl
theorem gWy_15 (cA : Nat → ClassId) (ad : Nat → Nat) : gCell cA ad gMu0 15 (.inl (2, [(2, 9), (2, 16), (2, 17)])) = .inr (2, [.ref (ad 9), .ref (ad 16), .ref (ad 17)]) := rfl
theorem gWy_16 (cA : Nat → ClassId) (ad : Nat → Nat) : gCell cA ad gMu0 16 (.inr (0, 50)) = .inl (cA 0, 50, .inl (fun _ => 0)) := rfl
theorem gWy_17 (cA : Nat → ClassId) (ad : Nat → Nat) : gCell cA ad gMu0 17 (.inr (0, 50)) = .inl (cA 0, 50, .inl (fun _ => 0)) := rfl
theorem gWy_18 (cA : Nat → ClassId) (ad : Nat → Nat) : gCell cA ad gMu0 18 (.inl (6, [(2, 9), (2, 15), (2, 19), (2, 20), (0, 0)])) = .inr (6, [.ref (ad 9), .ref (ad 15), .ref (ad 19), .ref (ad 20), .int 0]) := rfl
theorem gWy_19 (cA : Nat → ClassId) (ad : Nat → Nat) : gCell cA ad gMu0 19 (.inr (0, 50)) = .inl (cA 0, 50, .inl (fun _ => 0)) := rfl
theorem gWy_20 (cA : Nat → ClassId) (ad : Nat → Nat) : gCell cA ad gMu0 20 (.inr (0, 50)) = .inl (cA 0, 50, .inl (fun _ => 0)) := rfl
theorem gWy_21 (cA : Nat → ClassId) (ad : Nat → Nat) : gCell cA ad gMu0 21 (.inl (1, [(2, 9), (2, 15), (2, 18), (2, 22), (2, 23), (2, 24), (2, 25), (2, 26), (2, 27), (2, 28), (0, 0)])) = .inr (1, [.ref (ad 9), .ref (ad 15), .ref (ad 18), .ref (ad 22), .ref (ad 23), .ref (ad 24), .ref (ad 25), .ref (ad 26), .ref (ad 27), .ref (ad 28), .int 0]) := rfl
theorem gWy_22 (cA : Nat → ClassId) (ad : Nat → Nat) : gCell cA ad gMu0 22 (.inr (0, 50)) = .inl (cA 0, 50, .inl (fun _ => 0)) := rfl
theorem gWy_23 (cA : Nat → ClassId) (ad : Nat → Nat) : gCell cA ad gMu0 23 (.inr (0, 50)) = .inl (cA 0, 50, .inl (fun _ => 0)) := rfl
theorem gWy_24 (cA : Nat → ClassId) (ad : Nat → Nat) : gCell cA ad gMu0 24 (.inr (0, 50)) = .inl (cA 0, 50, .inl (fun _ => 0)) := rfl
theorem gWy_25 (cA : Nat → ClassId) (ad : Nat → Nat) : gCell cA ad gMu0 25 (.inr (0, 50)) = .inl (cA 0, 50, .inl (fun _ => 0)) := rfl
theorem gWy_26 (cA : Nat → ClassId) (ad : Nat → Nat) : gCell cA ad gMu0 26 (.inr (0, 50)) = .inl (cA 0, 50, .inl (fun _ => 0)) := rfl
theorem gWy_27 (cA : Nat → ClassId) (ad : Nat → Nat) : gCell cA ad gMu0 27 (.inr (0, 51)) = .inl (cA 0, 51, .inl (fun _ => 0)) := rfl
theorem gWy_28 (cA : Nat → ClassId) (ad : Nat → Nat) : gCell cA ad gMu0 28 (.inr (0, 51)) = .inl (cA 0, 51, .inl (fun _ => 0)) := rfl
theorem gWy_29 (cA : Nat → ClassId) (ad : Nat → Nat) : gCell cA ad gMu0 29 (.inl (4, [(2, 21), (2, 30), (2, 31), (0, 0), (0, 1)])) = .inr (4, [.ref (ad 21), .ref (ad 30), .ref (ad 31), .int 0, .int 1]) := rfl
theorem gWy_30 (cA : Nat → ClassId) (ad : Nat → Nat) : gCell cA ad gMu0 30 (.inr (0, 51)) = .inl (cA 0, 51, .inl (fun _ => 0)) := rfl
theorem gWy_31 (cA : Nat → ClassId) (ad : Nat → Nat) : gCell cA ad gMu0 31 (.inr (0, 50)) = .inl (cA 0, 50, .inl (fun _ => 0)) := rfl
theorem gWy_32 (cA : Nat → ClassId) (ad : Nat → Nat) : gCell cA ad gMu0 32 (.inl (3, [(2, 29), (2, 33), (2, 34), (2, 35), (2, 36), (2, 37), (0, 0), (0, 0), (0, 0), (1, 0), (1, 0), (0, 0)])) = .inr (3, [.ref (ad 29), .ref (ad 33), .ref (ad 34), .ref (ad 35), .ref (ad 36), .ref (ad 37), .int 0, .int (-1), .int 0, .long 0, .long 0, .int 0]) := rfl
theorem gWy_33 (cA : Nat → ClassId) (ad : Nat → Nat) : gCell cA ad gMu0 33 (.inr (3, 51)) = .inl (cA 3, 51, .inr (.inl (fun _ => 0))) := rfl
theorem gWy_34 (cA : Nat → ClassId) (ad : Nat → Nat) : gCell cA ad gMu0 34 (.inr (0, 51)) = .inl (cA 0, 51, .inl (fun _ => 0)) := rfl
theorem gWy_35 (cA : Nat → ClassId) (ad : Nat → Nat) : gCell cA ad gMu0 35 (.inr (0, 51)) = .inl (cA 0, 51, .inl (fun _ => 0)) := rfl
theorem gWy_36 (cA : Nat → ClassId) (ad : Nat → Nat) : gCell cA ad gMu0 36 (.inr (2, 51)) = .inl (cA 2, 51, .inl (fun _ => 0)) := rfl
theorem gWy_37 (cA : Nat → ClassId) (ad : Nat → Nat) : gCell cA ad gMu0 37 (.inr (0, 51)) = .inl (cA 0, 51, .inl (fun _ => 0)) := rfl
theorem gWy_38 (cA : Nat → ClassId) (ad : Nat → Nat) : gCell cA ad gMu0 38 (.inl (5, [(2, 21), (2, 29), (2, 32), (2, 39), (2, 40), (2, 41), (2, 42), (2, 1)])) = .inr (5, [.ref (ad 21), .ref (ad 29), .ref (ad 32), .ref (ad 39), .ref (ad 40), .ref (ad 41), .ref (ad 42), .ref (ad 1)]) := rfl
theorem gWy_39 (cA : Nat → ClassId) (ad : Nat → Nat) : gCell cA ad gMu0 39 (.inr (0, 50)) = .inl (cA 0, 50, .inl (fun _ => 0)) := rfl
theorem gWy_40 (cA : Nat → ClassId) (ad : Nat → Nat) : gCell cA ad gMu0 40 (.inr (0, 50)) = .inl (cA 0, 50, .inl (fun _ => 0)) := rfl
theorem gWy_41 (cA : Nat → ClassId) (ad : Nat → Nat) : gCell cA ad gMu0 41 (.inr (0, 50)) = .inl (cA 0, 50, .inl (fun _ => 0)) := rfl
theorem gWy_42 (cA : Nat → ClassId) (ad : Nat → Nat) : gCell cA ad gMu0 42 (.inr (0, 50)) = .inl (cA 0, 50, .inl (fun _ => 0)) := rfl
set_option maxRecDepth 100000 in
theorem gW3 (cA : Nat → ClassId) (ad : Nat → Nat) : ∀ (k : Nat) (x : gC), gSh[k]? = some x → (gWx cA ad)[k]? = some (ad k, gCell cA ad gMu0 k x)
  | 0, _, h => by cases h; rw [gWy_0]; rfl
  | 1, _, h => by cases h; rw [gWy_1]; rfl
  | 2, _, h => by cases h; rw [gWy_2]; rfl
  | 3, _, h => by cases h; rw [gWy_3]; rfl
  | 4, _, h => by cases h; rw [gWy_4]; rfl
  | 5, _, h => by cases h; rw [gWy_5]; rfl
  | 6, _, h => by cases h; rw [gWy_6]; rfl
  | 7, _, h => by cases h; rw [gWy_7]; rfl
  | 8, _, h => by cases h; rw [gWy_8]; rfl
  | 9, _, h => by cases h; rw [gWy_9]; rfl
  | 10, _, h => by cases h; rw [gWy_10]; rfl
  | 11, _, h => by cases h; rw [gWy_11]; rfl
  | 12, _, h => by cases h; rw [gWy_12]; rfl
  | 13, _, h => by cases h; rw [gWy_13]; rfl
  | 14, _, h => by cases h; rw [gWy_14]; rfl
  | 15, _, h => by cases h; rw [gWy_15]; rfl
  | 16, _, h => by cases h; rw [gWy_16]; rfl
  | 17, _, h => by cases h; rw [gWy_17]; rfl
  | 18, _, h => by cases h; rw [gWy_18]; rfl
  | 19, _, h => by cases h; rw [gWy_19]; rfl
  | 20, _, h => by cases h; rw [gWy_20]; rfl
  | 21, _, h => by cases h; rw [gWy_21]; rfl
  | 22, _, h => by cases h; rw [gWy_22]; rfl
  | 23, _, h => by cases h; rw [gWy_23]; rfl
  | 24, _, h => by cases h; rw [gWy_24]; rfl
  | 25, _, h => by cases h; rw [gWy_25]; rfl
  | 26, _, h => by cases h; rw [gWy_26]; rfl
  | 27, _, h => by cases h; rw [gWy_27]; rfl
  | 28, _, h => by cases h; rw [gWy_28]; rfl
  | 29, _, h => by cases h; rw [gWy_29]; rfl
  | 30, _, h => by cases h; rw [gWy_30]; rfl
  | 31, _, h => by cases h; rw [gWy_31]; rfl
  | 32, _, h => by cases h; rw [gWy_32]; rfl
  | 33, _, h => by cases h; rw [gWy_33]; rfl
  | 34, _, h => by cases h; rw [gWy_34]; rfl
  | 35, _, h => by cases h; rw [gWy_35]; rfl
  | 36, _, h => by cases h; rw [gWy_36]; rfl
  | 37, _, h => by cases h; rw [gWy_37]; rfl
  | 38, _, h => by cases h; rw [gWy_38]; rfl
  | 39, _, h => by cases h; rw [gWy_39]; rfl
  | 40, _, h => by cases h; rw [gWy_40]; rfl
  | 41, _, h => by cases h; rw [gWy_41]; rfl
  | 42, _, h => by cases h; rw [gWy_42]; rfl
  | k + 43, _, h => by cases h
theorem gW4 (cA : Nat → ClassId) (ad : Nat → Nat) : gWd cA ad gMu0 = gWx cA ad := by
  apply List.ext_getElem?
  intro k
  cases hx : gSh[k]? with
  | some x => rw [gWd_get hx, gW3 cA ad k x hx]
  | none =>
    have h1 : gSh.length ≤ k := List.getElem?_eq_none_iff.mp hx
    rw [List.getElem?_eq_none_iff.mpr (by unfold gWd; rw [List.length_mapIdx]; exact h1), List.getElem?_eq_none_iff.mpr (show (gWx cA ad).length ≤ k from h1)]
theorem kd_law_0 : decode code 0 = .ok (.new 8, 3) := by decide +kernel
theorem kd_law_3 : decode code 3 = .ok (.dup, 1) := by decide +kernel
theorem kd_law_4 : decode code 4 = .ok (.invokespecial 187, 3) := by decide +kernel
theorem kd_law_7 : decode code 7 = .ok (.astore_n 1, 1) := by decide +kernel
theorem gE_no {args : Array Value} {s : State} (hgv : (Jvm.Cond.and given_1 narrow_1).before args s = true) : ∀ a b, a < 5 → b < 5 → a ≠ b → va_Nc (gEx a) (gEx b) s := by
  have hs := flat_of_before _ hgv
  intro a b ha hb hab
  have key : ∀ a, a < 5 → ∀ b, b < 5 → a ≠ b → Cond.not (.castable (gEx a) (gEx b)) ∈ flatC (Jvm.Cond.and given_1 narrow_1) := by decide +kernel
  exact va_Nc.of (hs _ (key a ha b hb hab))
theorem gE_str {args : Array Value} {s : State} (hgv : (Jvm.Cond.and given_1 narrow_1).before args s = true) (hts : ∀ w ∈ lw_tbl, w.before args s = true) {k : Nat} {tx : String} (h1 : Cond.exactly (.string "Glyphmill" k) "java/lang/String" ∈ flatC (Jvm.Cond.and given_1 narrow_1)) (h2 : Cond.stringRef "Glyphmill" k tx ∈ lw_tbl) : ∃ sa, vk_R "Glyphmill" k tx sa s := by
  have hs := flat_of_before _ hgv
  obtain ⟨a, c, cA, kA, q1, q2, q3, q4, q5, q6, -⟩ := Cond.exactly_spec (args := args) (first := s) (o := none) (s := s) (idx := []) (t := .string "Glyphmill" k) (cls := "java/lang/String") (hs _ h1)
  have h3 := hts _ h2
  refine ⟨a, ?_, ?_⟩
  · first
      | exact va_tabs rfl rfl h3
      | (simp only [Cond.before, Cond.holds, Cond.value, State.names, State.poolOf?, State.resolvedAt?] at h3 ⊢; exact h3)
  · exact (Term.string_eval_of_vm (args := args) (args' := #[]) (U := s) (V := s) rfl).trans q1
theorem gE_fx {args : Array Value} {s : State} (hgv : (Jvm.Cond.and given_1 narrow_1).before args s = true) (hts : ∀ w ∈ lw_tbl, w.before args s = true) : gFx s := by
  refine ⟨fun w hw => ?_, fun w hw => ?_, gE_no hgv, fun a ha => ?_, fun q hq => ?_⟩
  · obtain ⟨x, rfl⟩ := gDe_form w hw
    have key : ∀ w ∈ gDe, w ∈ lw_tbl := by decide +kernel
    exact va_Nw.of rfl (hts _ (key _ hw))
  · obtain ⟨a, i, x, h9, rfl⟩ := gNe_form w hw
    have key : ∀ w ∈ gNe, w ∈ lw_tbl := by decide +kernel
    exact va_Nw.of rfl (hts _ (key _ hw))
  · have key : ∀ a, a < 5 → Cond.castable (gEx a) (gEx a) ∈ lw_tbl := by decide +kernel
    exact va_Nw.of rfl (hts _ (key a ha))
  · have key : ∀ q ∈ gThr, Cond.exactly (.string "Glyphmill" q.2.2.2.2.1) "java/lang/String" ∈ flatC (Jvm.Cond.and given_1 narrow_1) ∧ Cond.stringRef "Glyphmill" q.2.2.2.2.1 q.2.2.2.2.2.2.2 ∈ lw_tbl := by decide +kernel
    exact gE_str hgv hts (key q hq).1 (key q hq).2
theorem gE_th {args : Array Value} {s : State} (hgv : (Jvm.Cond.and given_1 narrow_1).before args s = true) (hts : ∀ w ∈ lw_tbl, w.before args s = true) : gTh (fun q => s.heap.size ≤ q) s s.heap := by
  have hs := flat_of_before _ hgv
  refine ⟨vx_Zqof (hts _ (by decide +kernel)) (hts _ (by decide +kernel)) (hs _ (by decide +kernel)) (fun a h => Nat.not_le.mpr h), vx_Zqof (hts _ (by decide +kernel)) (hts _ (by decide +kernel)) (hs _ (by decide +kernel)) (fun a h => Nat.not_le.mpr h)⟩
set_option maxHeartbeats 1000000 in
theorem gE_K {args : Array Value} {s : State} (hts : ∀ w ∈ lw_tbl, w.before args s = true) : ∃ (dC : Nat → ClassId) (dI : Nat → Nat → Nat) (cA : Nat → ClassId), va_K (dC, dI) gCl (gTys cA) s := by
  have hg : ∀ w ∈ gG, w.before args s = true := fun w hw => hts w (List.mem_filter.mp hw).1
  have h1 : ∀ k : Nat, ∃ (cC : ClassId) (iS : Nat → Nat), ∀ q, gCl[k]? = some q → u_Kn s q.1 q.2.1 q.2.2 cC iS := by
    intro k
    cases hq : gCl[k]? with
    | none => exact ⟨0, fun _ => 0, fun q h => by cases h⟩
    | some q =>
      have key : ∀ q ∈ gCl, Cond.instantiable q.1 q.2.2 ∈ lw_tbl := by
        intro q hq
        simp only [gCl, List.mem_cons, List.not_mem_nil, or_false] at hq
        rcases hq with rfl | rfl | rfl | rfl | rfl | rfl | rfl | rfl | rfl | rfl | rfl <;> decide +kernel
      obtain ⟨cC, iS, h⟩ := u_known (C := q.1) (T := q.2.1) (N := q.2.2) (n := q.2.2) hg (gTyN hq).1 (hts _ (key q (List.mem_of_getElem? hq)))
      exact ⟨cC, iS, fun q9 h9 => by cases h9; exact h⟩
  have h2 : ∀ ty : FieldType, (∀ C, ty ≠ .object C) → Cond.arrayClass ty ∈ lw_tbl → ∃ c : ClassId, ArrOfT s c ty ∧ va_RA s c ty := by
    intro ty hty hm
    obtain ⟨cA, kA, comp, h1, h2, h3⟩ := Cond.arrayClass_spec (hts _ hm)
    refine ⟨cA, fun n z => ⟨fun k h => (by cases h), kA, h2, comp, h3⟩, ?_⟩
    cases ty <;> first | exact h1 | exact absurd rfl (hty _)
  obtain ⟨c0, e0⟩ := h2 .int (fun _ h => by cases h) (by decide +kernel)
  obtain ⟨c1, e1⟩ := h2 .char (fun _ h => by cases h) (by decide +kernel)
  obtain ⟨c2, e2⟩ := h2 .boolean (fun _ h => by cases h) (by decide +kernel)
  obtain ⟨c3, e3⟩ := h2 .long (fun _ h => by cases h) (by decide +kernel)
  obtain ⟨c4, e4⟩ := h2 .byte (fun _ h => by cases h) (by decide +kernel)
  refine ⟨fun k => Classical.choose (h1 k), fun k => Classical.choose (Classical.choose_spec (h1 k)), fun k => [c0, c1, c2, c3, c4].getD k c0, fun k q hq => Classical.choose_spec (Classical.choose_spec (h1 k)) q hq, fun k q hq => ?_⟩
  match k, hq with
  | 0, hq => cases hq; exact e0
  | 1, hq => cases hq; exact e1
  | 2, hq => cases hq; exact e2
  | 3, hq => cases hq; exact e3
  | 4, hq => cases hq; exact e4
def rf_room : Room := { frames := 23, cells := 8000, slots := 50000, locals := 10954 }
def rf_Qc : Array Value → State → Outcome → State → Prop := fun _ st _ t => st.heap.size + 449 ≤ t.heap.size
theorem gE_ret {r : gR} {f : gF} {cnt : Nat} {μ : gMu} {v : Int32} (h : gEnd 166 r f cnt = some (μ, .inl (some (.int v)))) : r.1 = .ireturn ∧ f.2.2.1 = [.int v] ∧ narrow .boolean (.int v) = .int v := by
  have h166 : mRt 166 = some .boolean := rfl
  unfold gEnd at h
  split at h
  · rw [h166] at h
    cases h
  · rename_i hr
    split at h
    · rename_i x hx
      unfold gIf at h
      split at h
      · rename_i h1
        cases h
        rw [h166] at h1
        exact ⟨hr, hx, h1⟩
      · cases h
    · cases h
  · rw [h166] at h
    cases h
  · rw [h166] at h
    cases h
  · rw [h166] at h
    cases h
  · split at h
    · split at h
      · cases h
      · cases h
    · cases h
  · cases h
theorem gE_sF {args : Array Value} {s : State} (hgv : (Jvm.Cond.and given_1 narrow_1).before args s = true) (hts : ∀ w ∈ lw_tbl, w.before args s = true) : ∃ sa va, sF sa va (fun q : Nat => s.heap.size ≤ q) s s.heap ∧ vk_R "GlyphmillLaw" 224 "aabbcnA AB 1 2-,.[{}} - " sa s := by
  have hs := flat_of_before _ hgv
  have hA : ∀ a : Nat, a < s.heap.size → ¬ (fun q : Nat => s.heap.size ≤ q) a := fun a h => Nat.not_le.mpr h
  have key : ∀ j, j < 24 → Cond.eq (.elem (.field (.string "GlyphmillLaw" 224) "java/lang/String" "value" "[B") (.int (Int32.ofNat j))) (.int (gSg.getD j 0)) ∈ flatC (Jvm.Cond.and given_1 narrow_1) := by decide +kernel
  obtain ⟨adK, adV, h1, h2⟩ := vk_Sof (args := args) (s := s) (N := 1) (tm := fun _ => .string "GlyphmillLaw" 224) (len := [24]) (byt := [gSg]) (A := fun q : Nat => s.heap.size ≤ q)
    (fun i hi => by have e : i = 0 := by omega
                    subst e; decide) (fun i _ => hs _ (by decide +kernel)) (fun i _ => hs _ (by decide +kernel)) (fun i _ => hs _ (by decide +kernel))
    (fun i hi => by have e : i = 0 := by omega
                    subst e; exact hs _ (by decide +kernel))
    (fun i hi j hj => by have e : i = 0 := by omega
                         subst e; exact hs _ (key j hj))
    (fun i j hi hj hne => absurd (show i = j by omega) hne) hA
  obtain ⟨g1, g2, g3, g4⟩ := h1.1 0 (by omega)
  refine ⟨adK 0, adV 0, ⟨g1, g2, g3, g4, va_Zof (hts _ (by decide +kernel)) (hts _ (by decide +kernel)) (va_eqt (hs _ (by decide +kernel))) hA, va_Zqof (hts _ (by decide +kernel)) (hts _ (by decide +kernel)) (hs _ (by decide +kernel)) hA⟩, ?_⟩
  refine ⟨?_, ?_⟩
  · have h3 : (Cond.stringRef "GlyphmillLaw" 224 "aabbcnA AB 1 2-,.[{}} - ").before args s = true := hts _ (by decide +kernel)
    simp only [Cond.before, Cond.holds, Cond.value, State.names, State.poolOf?, State.resolvedAt?] at h3 ⊢
    exact h3
  · exact (Term.string_eval_of_vm (args := args) (args' := #[]) (U := s) (V := s) rfl).trans (h2 0 (by omega))
theorem gNi_form : ∀ w ∈ gNi, ∃ a i x h, w = Cond.methodLinkNest a i x h := by
  intro w hw
  simp only [gNi, List.mem_cons, List.not_mem_nil, or_false] at hw
  rcases hw with rfl | rfl <;> exact ⟨_, _, _, _, rfl⟩
theorem gNi_warm {s U : State} (hW : s.WarmedH U.vm) : ∀ w ∈ gNi, va_Nw w s → va_Nw w U := by
  intro w hw h
  obtain ⟨a, i, x, h9, rfl⟩ := gNi_form w hw
  exact va_Nw.warmM hW h
theorem gNi_same {u U : State} (hv : U.vm = u.vm) : ∀ w ∈ gNi, va_Nw w u → va_Nw w U := gNi_warm (by rw [hv]; exact State.WarmedH.refl u)
set_option maxHeartbeats 8000000 in
set_option maxRecDepth 100000 in
theorem rf_enter {p : Program} {e : Env} {s : State} {m : MethodId} {below : List Frame} {meth : Method} {c : Code} (l : Launch) (hflags : l.flags = flags0) {b L : Nat} {xs : Nat → Int32} (hx : p.tables.exec = Jvm.exec) (hb : c.code = code) (hr0 : meth.sig.returnType = ret) (hml : c.maxLocals = 13) (hown : s.vm.findClass "GlyphmillLaw" = some m.cls) (hts : ∀ w ∈ lw_tbl, w.before #[Value.ref b] s = true) (hXs : va_X b L xs s s.heap) (hbl : b < s.heap.size) (hlocks : meth.locks = false) (hgv : (Jvm.Cond.and given_1 narrow_1).before #[Value.ref b] s = true) (hL31 : L < 2 ^ 31) (hpure : gWp (some (L, xs)) 166 (8, gL8, [], gMu0) 0 (fun μ r => ∃ v, r = .inl (some (.int v)) ∧ 449 ≤ gGh μ)) : W p l e rf_room s m #[Value.ref b] below meth c s.heap [] 0 0 (MQ below rf_Qc #[Value.ref b] s 8000 50000 (fun q : Nat => s.heap.size ≤ q)) (entryFrame m ([Value.ref b] : List Value).toArray 13) := by
  have hfl : l.stackTraces = false := by
    unfold Launch.stackTraces
    rw [hflags]
    decide +kernel
  have hg : ∀ w ∈ gG, w.before #[Value.ref b] s = true := fun w hw => hts w (List.mem_filter.mp hw).1
  have hA : ∀ q : Nat, s.heap.size ≤ q → (fun q : Nat => s.heap.size ≤ q) q := fun _ h => h
  obtain ⟨dC, dI, cA, hK⟩ := gE_K hts
  obtain ⟨sa, va, hSF, hSR⟩ := gE_sF hgv hts
  have hNi : ∀ w ∈ gNi, va_Nw w s := fun w hw => by
    have key : ∀ w ∈ gNi, w ∈ lw_tbl := by decide +kernel
    have h9 := hts _ (key _ hw)
    obtain ⟨a, i, x, h9, rfl⟩ := gNi_form w hw
    exact va_Nw.of rfl (hts _ (key _ hw))
  have hS : va_S (fun q : Nat => s.heap.size ≤ q) s.heap s.heap [] := va_S.rf
  have hP : va_P (dC, dI) gCl [] s.heap := fun k q h => by simp at h
  have hD : va_D (fun q : Nat => s.heap.size ≤ q) [] := ⟨fun i j p q h => by simp at h, fun k q h => by simp at h⟩
  have hl := lv_entry ([.ref b]) (n := 13) (Nat.le_of_ble_eq_true rfl)
  rw [lg_entry_eq]
  generalize (lg_sl ([.ref b]) ++ List.replicate (13 - (lg_sl ([.ref b])).length) Slot.unset).toArray = ls at hl ⊢
  have hl : lv_has ls 13 [(0, .ref b)] := hl
  refine va_new (ci := 9) (fs := [.null, .null, .null, .null, .null, .null, .null, .null, .null, .int 0, .int 0, .int 0]) (C := RX9) (T := TX9) (N := 12) hx hb hg (gTyN (ci := 9) rfl).1 tyX9 tyX9_ok hown (hg _ (gG_P (pos := 65) (by decide +kernel) rfl)) (hg _ (gG_P (pos := 66) (by decide +kernel) rfl)) (hg _ (gG_P (pos := 39) (by decide +kernel) rfl)) hK hP hD hS hA rfl (fun j hj => by
    rcases (show j = 0 ∨ j = 1 ∨ j = 2 ∨ j = 3 ∨ j = 4 ∨ j = 5 ∨ j = 6 ∨ j = 7 ∨ j = 8 ∨ j = 9 ∨ j = 10 ∨ j = 11 by omega) with rfl | rfl | rfl | rfl | rfl | rfl | rfl | rfl | rfl | rfl | rfl | rfl <;> rfl) (Nat.le_of_ble_eq_true rfl) (Nat.le_of_ble_eq_true rfl) kd_law_0 (fun x0 H hP hD hS => ?_)
  have hP : va_P (dC, dI) gCl [(x0, .inr (9, [.null, .null, .null, .null, .null, .null, .null, .null, .null, .int 0, .int 0, .int 0]))] H := hP
  have hD : va_D (fun q : Nat => s.heap.size ≤ q) [(x0, .inr (9, [.null, .null, .null, .null, .null, .null, .null, .null, .null, .int 0, .int 0, .int 0]))] := hD
  refine W.widen (k := 1) (n := 12) (Nat.le_of_ble_eq_true rfl) (Nat.le_of_ble_eq_true rfl) ?_
  refine lv_dup hx hb kd_law_3 rfl ?_
  have hPc := hP.sub (ws' := [(x0, .inr (9, [.null, .null, .null, .null, .null, .null, .null, .null, .null, .int 0, .int 0, .int 0]))]) [0] rfl
  have hDc := hD.sub (ws' := [(x0, .inr (9, [.null, .null, .null, .null, .null, .null, .null, .null, .null, .int 0, .int 0, .int 0]))]) [0] (by decide) rfl
  have hFc := va_free (wc := [(x0, .inr (9, [.null, .null, .null, .null, .null, .null, .null, .null, .null, .int 0, .int 0, .int 0]))]) hD hS hA [0] rfl
  refine va_callv (va_runI (As := []) (rest := [.ref x0]) ⟨hx, hb, hml, hown, hg⟩ (ki_Glyphmill l dC dI cA x0 H.size) ⟨callB_of 0 hg (gG_in ki_ws_Glyphmill) rfl rfl rfl (hg _ (gG_P (pos := 39) (by decide +kernel) rfl)) (hg _ (gG_P (pos := 67) (by decide +kernel) rfl)) ⟨by decide, by decide, by decide +kernel⟩ ⟨Nat.le_of_ble_eq_true rfl, Nat.le_of_ble_eq_true rfl⟩, rfl, (hg _ (gG_P (pos := 68) (by decide +kernel) rfl))⟩ ⟨fun a U g mk q => by obtain ⟨q0, q1, qP, qK, qD, qN⟩ := q; exact ⟨q0, q1, qP, va_K.moved (u := U) (U := U.calling g mk a) (Vm.Alike.refl U.vm) qK, qD, fun w hw => gNi_same (u := U) (U := U.calling g mk a) rfl w hw (qN w hw)⟩, fun U hU hW => ⟨rfl, by rw [hU], by rw [hU]; exact hPc, va_K.moved hW.alike hK, hDc.weaken (fun _ _ _ _ => trivial), fun w hw => gNi_warm hW w hw (hNi w hw)⟩⟩ rfl rfl hl.1 rfl (lv_room (Nat.le_of_ble_eq_true rfl)) kd_law_4 ⟨Nat.le_of_ble_eq_true rfl, Nat.le_of_ble_eq_true rfl⟩) hS (fun q _ h => hFc q h) hFc (fun u t H1 locs ht hvm hw hB hz1 hk1 hS => ?_)
  obtain ⟨n1, q1, n2, q2, q3, q4, q5, n3, q6, q7, q8, q9, q10, n4, q11, q12, n5, q13, q14, n6, q15, q16, q17, q18, q19, q20, q21, n7, q22, q23, n8, q24, q25, q26, q27, q28, n9, q29, q30, q31, q32, q33, hP1, hD1⟩ := hB
  rw [ht] at hP1
  obtain ⟨hP, hD⟩ := va_join (wr := []) (w1 := [(x0, .inr (9, [.ref n1, .ref n2, .ref n3, .ref n4, .ref n5, .ref n6, .ref n7, .ref n8, .ref n9, .int 60, .int 0, .int 1])), (n1, .inr (8, [.ref q1, .int 0])), (q1, .inl (cA 1, 50, .inl (fun _ => 0))), (n2, .inr (0, [.ref q2, .ref q3, .ref q4, .ref q5, .int 0])), (q2, .inl (cA 0, 128, .inl (fun _ => 4))), (q3, .inl (cA 0, 20, .inl (fun _ => 0))), (q4, .inl (cA 1, 20, .inl (fun _ => 0))), (q5, .inl (cA 0, 20, .inl (fun _ => 0))), (n3, .inr (7, [.ref q6, .ref q7, .ref q8, .ref q9, .ref q10, .int 0])), (q6, .inl (cA 0, 50, .inl (fun _ => 0))), (q7, .inl (cA 0, 50, .inl (fun _ => 0))), (q8, .inl (cA 1, 50, .inl (fun _ => 0))), (q9, .inl (cA 0, 50, .inl (fun _ => 0))), (q10, .inl (cA 0, 6, .inl (fun _ => 0))), (n4, .inr (2, [.ref n3, .ref q11, .ref q12])), (q11, .inl (cA 0, 50, .inl (fun _ => 0))), (q12, .inl (cA 0, 50, .inl (fun _ => 0))), (n5, .inr (6, [.ref n3, .ref n4, .ref q13, .ref q14, .int 0])), (q13, .inl (cA 0, 50, .inl (fun _ => 0))), (q14, .inl (cA 0, 50, .inl (fun _ => 0))), (n6, .inr (1, [.ref n3, .ref n4, .ref n5, .ref q15, .ref q16, .ref q17, .ref q18, .ref q19, .ref q20, .ref q21, .int 0])), (q15, .inl (cA 0, 50, .inl (fun _ => 0))), (q16, .inl (cA 0, 50, .inl (fun _ => 0))), (q17, .inl (cA 0, 50, .inl (fun _ => 0))), (q18, .inl (cA 0, 50, .inl (fun _ => 0))), (q19, .inl (cA 0, 50, .inl (fun _ => 0))), (q20, .inl (cA 0, 51, .inl (fun _ => 0))), (q21, .inl (cA 0, 51, .inl (fun _ => 0))), (n7, .inr (4, [.ref n6, .ref q22, .ref q23, .int 0, .int 1])), (q22, .inl (cA 0, 51, .inl (fun _ => 0))), (q23, .inl (cA 0, 50, .inl (fun _ => 0))), (n8, .inr (3, [.ref n7, .ref q24, .ref q25, .ref q26, .ref q27, .ref q28, .int 0, .int (-1), .int 0, .long 0, .long 0, .int 0])), (q24, .inl (cA 3, 51, .inr (.inl (fun _ => 0)))), (q25, .inl (cA 0, 51, .inl (fun _ => 0))), (q26, .inl (cA 0, 51, .inl (fun _ => 0))), (q27, .inl (cA 2, 51, .inl (fun _ => 0))), (q28, .inl (cA 0, 51, .inl (fun _ => 0))), (n9, .inr (5, [.ref n6, .ref n7, .ref n8, .ref q29, .ref q30, .ref q31, .ref q32, .ref q33])), (q29, .inl (cA 0, 50, .inl (fun _ => 0))), (q30, .inl (cA 0, 50, .inl (fun _ => 0))), (q31, .inl (cA 0, 50, .inl (fun _ => 0))), (q32, .inl (cA 0, 50, .inl (fun _ => 0))), (q33, .inl (cA 0, 50, .inl (fun _ => 0)))]) hP hD [0] [] rfl rfl (by decide) (by decide) hk1 hFc hP1 hD1
  generalize H1 = H at hP hS ⊢
  have hP : va_P (dC, dI) gCl [(x0, .inr (9, [.ref n1, .ref n2, .ref n3, .ref n4, .ref n5, .ref n6, .ref n7, .ref n8, .ref n9, .int 60, .int 0, .int 1])), (n1, .inr (8, [.ref q1, .int 0])), (q1, .inl (cA 1, 50, .inl (fun _ => 0))), (n2, .inr (0, [.ref q2, .ref q3, .ref q4, .ref q5, .int 0])), (q2, .inl (cA 0, 128, .inl (fun _ => 4))), (q3, .inl (cA 0, 20, .inl (fun _ => 0))), (q4, .inl (cA 1, 20, .inl (fun _ => 0))), (q5, .inl (cA 0, 20, .inl (fun _ => 0))), (n3, .inr (7, [.ref q6, .ref q7, .ref q8, .ref q9, .ref q10, .int 0])), (q6, .inl (cA 0, 50, .inl (fun _ => 0))), (q7, .inl (cA 0, 50, .inl (fun _ => 0))), (q8, .inl (cA 1, 50, .inl (fun _ => 0))), (q9, .inl (cA 0, 50, .inl (fun _ => 0))), (q10, .inl (cA 0, 6, .inl (fun _ => 0))), (n4, .inr (2, [.ref n3, .ref q11, .ref q12])), (q11, .inl (cA 0, 50, .inl (fun _ => 0))), (q12, .inl (cA 0, 50, .inl (fun _ => 0))), (n5, .inr (6, [.ref n3, .ref n4, .ref q13, .ref q14, .int 0])), (q13, .inl (cA 0, 50, .inl (fun _ => 0))), (q14, .inl (cA 0, 50, .inl (fun _ => 0))), (n6, .inr (1, [.ref n3, .ref n4, .ref n5, .ref q15, .ref q16, .ref q17, .ref q18, .ref q19, .ref q20, .ref q21, .int 0])), (q15, .inl (cA 0, 50, .inl (fun _ => 0))), (q16, .inl (cA 0, 50, .inl (fun _ => 0))), (q17, .inl (cA 0, 50, .inl (fun _ => 0))), (q18, .inl (cA 0, 50, .inl (fun _ => 0))), (q19, .inl (cA 0, 50, .inl (fun _ => 0))), (q20, .inl (cA 0, 51, .inl (fun _ => 0))), (q21, .inl (cA 0, 51, .inl (fun _ => 0))), (n7, .inr (4, [.ref n6, .ref q22, .ref q23, .int 0, .int 1])), (q22, .inl (cA 0, 51, .inl (fun _ => 0))), (q23, .inl (cA 0, 50, .inl (fun _ => 0))), (n8, .inr (3, [.ref n7, .ref q24, .ref q25, .ref q26, .ref q27, .ref q28, .int 0, .int (-1), .int 0, .long 0, .long 0, .int 0])), (q24, .inl (cA 3, 51, .inr (.inl (fun _ => 0)))), (q25, .inl (cA 0, 51, .inl (fun _ => 0))), (q26, .inl (cA 0, 51, .inl (fun _ => 0))), (q27, .inl (cA 2, 51, .inl (fun _ => 0))), (q28, .inl (cA 0, 51, .inl (fun _ => 0))), (n9, .inr (5, [.ref n6, .ref n7, .ref n8, .ref q29, .ref q30, .ref q31, .ref q32, .ref q33])), (q29, .inl (cA 0, 50, .inl (fun _ => 0))), (q30, .inl (cA 0, 50, .inl (fun _ => 0))), (q31, .inl (cA 0, 50, .inl (fun _ => 0))), (q32, .inl (cA 0, 50, .inl (fun _ => 0))), (q33, .inl (cA 0, 50, .inl (fun _ => 0)))] H := hP
  have hD : va_D (fun q : Nat => s.heap.size ≤ q) [(x0, .inr (9, [.ref n1, .ref n2, .ref n3, .ref n4, .ref n5, .ref n6, .ref n7, .ref n8, .ref n9, .int 60, .int 0, .int 1])), (n1, .inr (8, [.ref q1, .int 0])), (q1, .inl (cA 1, 50, .inl (fun _ => 0))), (n2, .inr (0, [.ref q2, .ref q3, .ref q4, .ref q5, .int 0])), (q2, .inl (cA 0, 128, .inl (fun _ => 4))), (q3, .inl (cA 0, 20, .inl (fun _ => 0))), (q4, .inl (cA 1, 20, .inl (fun _ => 0))), (q5, .inl (cA 0, 20, .inl (fun _ => 0))), (n3, .inr (7, [.ref q6, .ref q7, .ref q8, .ref q9, .ref q10, .int 0])), (q6, .inl (cA 0, 50, .inl (fun _ => 0))), (q7, .inl (cA 0, 50, .inl (fun _ => 0))), (q8, .inl (cA 1, 50, .inl (fun _ => 0))), (q9, .inl (cA 0, 50, .inl (fun _ => 0))), (q10, .inl (cA 0, 6, .inl (fun _ => 0))), (n4, .inr (2, [.ref n3, .ref q11, .ref q12])), (q11, .inl (cA 0, 50, .inl (fun _ => 0))), (q12, .inl (cA 0, 50, .inl (fun _ => 0))), (n5, .inr (6, [.ref n3, .ref n4, .ref q13, .ref q14, .int 0])), (q13, .inl (cA 0, 50, .inl (fun _ => 0))), (q14, .inl (cA 0, 50, .inl (fun _ => 0))), (n6, .inr (1, [.ref n3, .ref n4, .ref n5, .ref q15, .ref q16, .ref q17, .ref q18, .ref q19, .ref q20, .ref q21, .int 0])), (q15, .inl (cA 0, 50, .inl (fun _ => 0))), (q16, .inl (cA 0, 50, .inl (fun _ => 0))), (q17, .inl (cA 0, 50, .inl (fun _ => 0))), (q18, .inl (cA 0, 50, .inl (fun _ => 0))), (q19, .inl (cA 0, 50, .inl (fun _ => 0))), (q20, .inl (cA 0, 51, .inl (fun _ => 0))), (q21, .inl (cA 0, 51, .inl (fun _ => 0))), (n7, .inr (4, [.ref n6, .ref q22, .ref q23, .int 0, .int 1])), (q22, .inl (cA 0, 51, .inl (fun _ => 0))), (q23, .inl (cA 0, 50, .inl (fun _ => 0))), (n8, .inr (3, [.ref n7, .ref q24, .ref q25, .ref q26, .ref q27, .ref q28, .int 0, .int (-1), .int 0, .long 0, .long 0, .int 0])), (q24, .inl (cA 3, 51, .inr (.inl (fun _ => 0)))), (q25, .inl (cA 0, 51, .inl (fun _ => 0))), (q26, .inl (cA 0, 51, .inl (fun _ => 0))), (q27, .inl (cA 2, 51, .inl (fun _ => 0))), (q28, .inl (cA 0, 51, .inl (fun _ => 0))), (n9, .inr (5, [.ref n6, .ref n7, .ref n8, .ref q29, .ref q30, .ref q31, .ref q32, .ref q33])), (q29, .inl (cA 0, 50, .inl (fun _ => 0))), (q30, .inl (cA 0, 50, .inl (fun _ => 0))), (q31, .inl (cA 0, 50, .inl (fun _ => 0))), (q32, .inl (cA 0, 50, .inl (fun _ => 0))), (q33, .inl (cA 0, 50, .inl (fun _ => 0)))] := hD
  refine W.widen (k := 43) (n := 1671) (Nat.le_of_ble_eq_true rfl) (Nat.le_of_ble_eq_true rfl) ?_
  refine lv_astore_n (lv' := [(1, .ref x0), (0, .ref b)]) hx hb kd_law_7 rfl hl (by decide) rfl (fun ls hl => ?_)
  refine W.widen (k := 43) (n := 1671) (Nat.le_of_ble_eq_true rfl) (Nat.le_of_ble_eq_true rfl) ?_
  have hP9 := hP.sub (ws' := [(x0, .inr (9, [.ref n1, .ref n2, .ref n3, .ref n4, .ref n5, .ref n6, .ref n7, .ref n8, .ref n9, .int 60, .int 0, .int 1])), (q33, .inl (cA 0, 50, .inl (fun _ => 0))), (n1, .inr (8, [.ref q1, .int 0])), (q1, .inl (cA 1, 50, .inl (fun _ => 0))), (n2, .inr (0, [.ref q2, .ref q3, .ref q4, .ref q5, .int 0])), (q2, .inl (cA 0, 128, .inl (fun _ => 4))), (q3, .inl (cA 0, 20, .inl (fun _ => 0))), (q4, .inl (cA 1, 20, .inl (fun _ => 0))), (q5, .inl (cA 0, 20, .inl (fun _ => 0))), (n3, .inr (7, [.ref q6, .ref q7, .ref q8, .ref q9, .ref q10, .int 0])), (q6, .inl (cA 0, 50, .inl (fun _ => 0))), (q7, .inl (cA 0, 50, .inl (fun _ => 0))), (q8, .inl (cA 1, 50, .inl (fun _ => 0))), (q9, .inl (cA 0, 50, .inl (fun _ => 0))), (q10, .inl (cA 0, 6, .inl (fun _ => 0))), (n4, .inr (2, [.ref n3, .ref q11, .ref q12])), (q11, .inl (cA 0, 50, .inl (fun _ => 0))), (q12, .inl (cA 0, 50, .inl (fun _ => 0))), (n5, .inr (6, [.ref n3, .ref n4, .ref q13, .ref q14, .int 0])), (q13, .inl (cA 0, 50, .inl (fun _ => 0))), (q14, .inl (cA 0, 50, .inl (fun _ => 0))), (n6, .inr (1, [.ref n3, .ref n4, .ref n5, .ref q15, .ref q16, .ref q17, .ref q18, .ref q19, .ref q20, .ref q21, .int 0])), (q15, .inl (cA 0, 50, .inl (fun _ => 0))), (q16, .inl (cA 0, 50, .inl (fun _ => 0))), (q17, .inl (cA 0, 50, .inl (fun _ => 0))), (q18, .inl (cA 0, 50, .inl (fun _ => 0))), (q19, .inl (cA 0, 50, .inl (fun _ => 0))), (q20, .inl (cA 0, 51, .inl (fun _ => 0))), (q21, .inl (cA 0, 51, .inl (fun _ => 0))), (n7, .inr (4, [.ref n6, .ref q22, .ref q23, .int 0, .int 1])), (q22, .inl (cA 0, 51, .inl (fun _ => 0))), (q23, .inl (cA 0, 50, .inl (fun _ => 0))), (n8, .inr (3, [.ref n7, .ref q24, .ref q25, .ref q26, .ref q27, .ref q28, .int 0, .int (-1), .int 0, .long 0, .long 0, .int 0])), (q24, .inl (cA 3, 51, .inr (.inl (fun _ => 0)))), (q25, .inl (cA 0, 51, .inl (fun _ => 0))), (q26, .inl (cA 0, 51, .inl (fun _ => 0))), (q27, .inl (cA 2, 51, .inl (fun _ => 0))), (q28, .inl (cA 0, 51, .inl (fun _ => 0))), (n9, .inr (5, [.ref n6, .ref n7, .ref n8, .ref q29, .ref q30, .ref q31, .ref q32, .ref q33])), (q29, .inl (cA 0, 50, .inl (fun _ => 0))), (q30, .inl (cA 0, 50, .inl (fun _ => 0))), (q31, .inl (cA 0, 50, .inl (fun _ => 0))), (q32, .inl (cA 0, 50, .inl (fun _ => 0)))]) [0, 42, 1, 2, 3, 4, 5, 6, 7, 8, 9, 10, 11, 12, 13, 14, 15, 16, 17, 18, 19, 20, 21, 22, 23, 24, 25, 26, 27, 28, 29, 30, 31, 32, 33, 34, 35, 36, 37, 38, 39, 40, 41] rfl
  have hD9 := hD.sub (ws' := [(x0, .inr (9, [.ref n1, .ref n2, .ref n3, .ref n4, .ref n5, .ref n6, .ref n7, .ref n8, .ref n9, .int 60, .int 0, .int 1])), (q33, .inl (cA 0, 50, .inl (fun _ => 0))), (n1, .inr (8, [.ref q1, .int 0])), (q1, .inl (cA 1, 50, .inl (fun _ => 0))), (n2, .inr (0, [.ref q2, .ref q3, .ref q4, .ref q5, .int 0])), (q2, .inl (cA 0, 128, .inl (fun _ => 4))), (q3, .inl (cA 0, 20, .inl (fun _ => 0))), (q4, .inl (cA 1, 20, .inl (fun _ => 0))), (q5, .inl (cA 0, 20, .inl (fun _ => 0))), (n3, .inr (7, [.ref q6, .ref q7, .ref q8, .ref q9, .ref q10, .int 0])), (q6, .inl (cA 0, 50, .inl (fun _ => 0))), (q7, .inl (cA 0, 50, .inl (fun _ => 0))), (q8, .inl (cA 1, 50, .inl (fun _ => 0))), (q9, .inl (cA 0, 50, .inl (fun _ => 0))), (q10, .inl (cA 0, 6, .inl (fun _ => 0))), (n4, .inr (2, [.ref n3, .ref q11, .ref q12])), (q11, .inl (cA 0, 50, .inl (fun _ => 0))), (q12, .inl (cA 0, 50, .inl (fun _ => 0))), (n5, .inr (6, [.ref n3, .ref n4, .ref q13, .ref q14, .int 0])), (q13, .inl (cA 0, 50, .inl (fun _ => 0))), (q14, .inl (cA 0, 50, .inl (fun _ => 0))), (n6, .inr (1, [.ref n3, .ref n4, .ref n5, .ref q15, .ref q16, .ref q17, .ref q18, .ref q19, .ref q20, .ref q21, .int 0])), (q15, .inl (cA 0, 50, .inl (fun _ => 0))), (q16, .inl (cA 0, 50, .inl (fun _ => 0))), (q17, .inl (cA 0, 50, .inl (fun _ => 0))), (q18, .inl (cA 0, 50, .inl (fun _ => 0))), (q19, .inl (cA 0, 50, .inl (fun _ => 0))), (q20, .inl (cA 0, 51, .inl (fun _ => 0))), (q21, .inl (cA 0, 51, .inl (fun _ => 0))), (n7, .inr (4, [.ref n6, .ref q22, .ref q23, .int 0, .int 1])), (q22, .inl (cA 0, 51, .inl (fun _ => 0))), (q23, .inl (cA 0, 50, .inl (fun _ => 0))), (n8, .inr (3, [.ref n7, .ref q24, .ref q25, .ref q26, .ref q27, .ref q28, .int 0, .int (-1), .int 0, .long 0, .long 0, .int 0])), (q24, .inl (cA 3, 51, .inr (.inl (fun _ => 0)))), (q25, .inl (cA 0, 51, .inl (fun _ => 0))), (q26, .inl (cA 0, 51, .inl (fun _ => 0))), (q27, .inl (cA 2, 51, .inl (fun _ => 0))), (q28, .inl (cA 0, 51, .inl (fun _ => 0))), (n9, .inr (5, [.ref n6, .ref n7, .ref n8, .ref q29, .ref q30, .ref q31, .ref q32, .ref q33])), (q29, .inl (cA 0, 50, .inl (fun _ => 0))), (q30, .inl (cA 0, 50, .inl (fun _ => 0))), (q31, .inl (cA 0, 50, .inl (fun _ => 0))), (q32, .inl (cA 0, 50, .inl (fun _ => 0)))]) [0, 42, 1, 2, 3, 4, 5, 6, 7, 8, 9, 10, 11, 12, 13, 14, 15, 16, 17, 18, 19, 20, 21, 22, 23, 24, 25, 26, 27, 28, 29, 30, 31, 32, 33, 34, 35, 36, 37, 38, 39, 40, 41] (by decide) rfl
  obtain ⟨ad, had⟩ : ∃ ad : Nat → Nat, ad = fun k => if k = 1002 then sa else ([x0, q33, n1, q1, n2, q2, q3, q4, q5, n3, q6, q7, q8, q9, q10, n4, q11, q12, n5, q13, q14, n6, q15, q16, q17, q18, q19, q20, q21, n7, q22, q23, n8, q24, q25, q26, q27, q28, n9, q29, q30, q31, q32] : List Nat).getD k b := ⟨_, rfl⟩
  have hsc : ad gSC = b := by rw [had]; rfl
  have hst : ad 1002 = sa := by rw [had]; rfl
  have e0 : ad 0 = x0 := by rw [had]; rfl
  have e1 : ad 1 = q33 := by rw [had]; rfl
  have e2 : ad 2 = n1 := by rw [had]; rfl
  have e3 : ad 3 = q1 := by rw [had]; rfl
  have e4 : ad 4 = n2 := by rw [had]; rfl
  have e5 : ad 5 = q2 := by rw [had]; rfl
  have e6 : ad 6 = q3 := by rw [had]; rfl
  have e7 : ad 7 = q4 := by rw [had]; rfl
  have e8 : ad 8 = q5 := by rw [had]; rfl
  have e9 : ad 9 = n3 := by rw [had]; rfl
  have e10 : ad 10 = q6 := by rw [had]; rfl
  have e11 : ad 11 = q7 := by rw [had]; rfl
  have e12 : ad 12 = q8 := by rw [had]; rfl
  have e13 : ad 13 = q9 := by rw [had]; rfl
  have e14 : ad 14 = q10 := by rw [had]; rfl
  have e15 : ad 15 = n4 := by rw [had]; rfl
  have e16 : ad 16 = q11 := by rw [had]; rfl
  have e17 : ad 17 = q12 := by rw [had]; rfl
  have e18 : ad 18 = n5 := by rw [had]; rfl
  have e19 : ad 19 = q13 := by rw [had]; rfl
  have e20 : ad 20 = q14 := by rw [had]; rfl
  have e21 : ad 21 = n6 := by rw [had]; rfl
  have e22 : ad 22 = q15 := by rw [had]; rfl
  have e23 : ad 23 = q16 := by rw [had]; rfl
  have e24 : ad 24 = q17 := by rw [had]; rfl
  have e25 : ad 25 = q18 := by rw [had]; rfl
  have e26 : ad 26 = q19 := by rw [had]; rfl
  have e27 : ad 27 = q20 := by rw [had]; rfl
  have e28 : ad 28 = q21 := by rw [had]; rfl
  have e29 : ad 29 = n7 := by rw [had]; rfl
  have e30 : ad 30 = q22 := by rw [had]; rfl
  have e31 : ad 31 = q23 := by rw [had]; rfl
  have e32 : ad 32 = n8 := by rw [had]; rfl
  have e33 : ad 33 = q24 := by rw [had]; rfl
  have e34 : ad 34 = q25 := by rw [had]; rfl
  have e35 : ad 35 = q26 := by rw [had]; rfl
  have e36 : ad 36 = q27 := by rw [had]; rfl
  have e37 : ad 37 = q28 := by rw [had]; rfl
  have e38 : ad 38 = n9 := by rw [had]; rfl
  have e39 : ad 39 = q29 := by rw [had]; rfl
  have e40 : ad 40 = q30 := by rw [had]; rfl
  have e41 : ad 41 = q31 := by rw [had]; rfl
  have e42 : ad 42 = q32 := by rw [had]; rfl
  have hP8 : va_P (dC, dI) gCl (gWd cA ad gMu0) H := by rw [gW4]; unfold gWx; simp only [e0, e1, e2, e3, e4, e5, e6, e7, e8, e9, e10, e11, e12, e13, e14, e15, e16, e17, e18, e19, e20, e21, e22, e23, e24, e25, e26, e27, e28, e29, e30, e31, e32, e33, e34, e35, e36, e37, e38, e39, e40, e41, e42]; exact hP9
  have hD8 : va_D (fun q : Nat => s.heap.size ≤ q) (gWd cA ad gMu0) := by rw [gW4]; unfold gWx; simp only [e0, e1, e2, e3, e4, e5, e6, e7, e8, e9, e10, e11, e12, e13, e14, e15, e16, e17, e18, e19, e20, e21, e22, e23, e24, e25, e26, e27, e28, e29, e30, e31, e32, e33, e34, e35, e36, e37, e38, e39, e40, e41, e42]; exact hD9
  have hl8 : gLh ls 13 ad gL8 := by
    have h9 : gAsc ad gL8 = [(0, .ref (ad 1000)), (1, .ref (ad 0))] := rfl
    unfold gLh
    rw [h9, show ad 1000 = b from hsc, e0]
    exact lv_sub hl [1, 0] rfl
  obtain ⟨n, μ9, x9, hrun, v9, rfl, h449⟩ := hpure
  have hX : gX 166 p l e rf_room s m #[Value.ref b] meth c cA ad dC dI (fun q : Nat => s.heap.size ≤ q) (some (L, xs)) := ⟨hx, hb, hml, hown, hg, hK, hA, fun L1 xs1 h1 => by cases h1; rw [hsc, hst]; exact ⟨hXs, hbl, Nat.not_le.mpr hbl, hL31, ⟨va, hSF⟩, hSR⟩⟩
  have hz0 : gGh gMu0 = 0 := rfl
  have hP7 := hS.1
  refine g_frame (scr := some (L, xs)) (k := 166) (z := 0) (c0 := 43) (s0 := 1671) n (fun n9 _ k as μ res h1 h2 h3 => g_ct l hfl n9 k as μ res h1 h2 h3) hX (gE_fx hgv hts) (gE_th hgv hts) (by decide) (Or.inl rfl) ⟨rfl, rfl⟩ ⟨Nat.le_of_ble_eq_true rfl, Nat.le_of_ble_eq_true rfl⟩ (fun f cnt r H2 locs2 ls2 hr he hcnt hM2 hG2 hl2 => ?_) (fun μ2 x pc2 cnt H2 locs2 ls2 rest q9 ce hres hx6 hh hcnt hM2 hG2 hce hcv hcl => by cases hres) n (Nat.le_refl n) (8, gL8, [], gMu0) 0 H locs ls hrun (Nat.zero_le _) ⟨hP8, hD8, hS⟩ (by show s.heap.size + gGh gMu0 ≤ H.size + 0; rw [hz0]; exact hP7) (fun h => absurd h (by decide)) hl8
  obtain ⟨hr1, hr2, hr3⟩ := gE_ret he
  have hdec := (g_row hr).1
  have hmu := gEnd_gh he
  dsimp only at hmu
  rw [hr1] at hdec
  rw [hr2]
  have hend : s.heap.size + 449 ≤ H2.size := by rw [← hmu] at hG2; omega
  refine W.widen (k := 8000) (n := 50000) (by have h : mCo 166 = 7000 := rfl; omega) (by have h : mCo 166 = 7000 := rfl; omega) ?_
  exact W.zret hx hb hr0 hr3 (fun t ht _ => by show s.heap.size + 449 ≤ t.heap.size; rw [ht]; exact hend) hM2.2.2.2.2 hdec hlocks
