/-! ONE INSTRUCTION, case by case (written by wip/p41/stepgen.py) -/
theorem gTys_at {cA : Nat → ClassId} {q t n : Nat} (h : gArr q = some (t, n)) : ∃ (t0 : Nat) (ty : FieldType), (gTys cA)[t0]? = some (cA t, ty) := by
  have h1 : (gSh.all fun x => match x with | .inr y => decide (y.1 < 5) | .inl _ => true) = true := by decide
  have h2 : t < 5 := of_decide_eq_true (List.all_eq_true.mp h1 _ (List.mem_of_getElem? (gArr_inv h)))
  rcases (show t = 0 ∨ t = 1 ∨ t = 2 ∨ t = 3 ∨ t = 4 by omega) with rfl | rfl | rfl | rfl | rfl
  · exact ⟨0, _, rfl⟩
  · exact ⟨1, _, rfl⟩
  · exact ⟨2, _, rfl⟩
  · exact ⟨3, _, rfl⟩
  · exact ⟨4, _, rfl⟩
/-- the kinds in the shape are those of the classes' tables -/
theorem gKinds : ((List.range gSh.length).all fun q => match gSh[q]? with
    | some (.inl (ci, ks)) => (match gCl[ci]? with
      | some w => (List.range w.2.2).all fun j => (match ks[j]? with
        | some (0, 0) => decide ((w.2.1 j).2.2.1 = "I")
        | some (0, 1) => decide ((w.2.1 j).2.2.1 = "Z")
        | some (1, 0) => decide ((w.2.1 j).2.2.1 = "J")
        | _ => true)
      | none => false)
    | _ => true) = true := by decide +kernel
theorem gKind {q ci : Nat} {ks : List (Nat × Nat)} {w : vw_C} {j : Nat} {kd : Nat × Nat} (h : gSh[q]? = some (.inl (ci, ks))) (hw : gCl[ci]? = some w) (hj : j < w.2.2) (hk : ks[j]? = some kd) :
    (kd = (0, 0) → (w.2.1 j).2.2.1 = "I") ∧ (kd = (0, 1) → (w.2.1 j).2.2.1 = "Z") ∧ (kd = (1, 0) → (w.2.1 j).2.2.1 = "J") := by
  have h1 := List.all_eq_true.mp gKinds q (List.mem_range.mpr (List.getElem?_eq_some_iff.mp h).1)
  rw [h] at h1
  dsimp only at h1
  rw [hw] at h1
  dsimp only at h1
  have h2 := List.all_eq_true.mp h1 j (List.mem_range.mpr hj)
  rw [hk] at h2
  refine ⟨fun e => ?_, fun e => ?_, fun e => ?_⟩ <;> (subst e; exact of_decide_eq_true h2)
theorem gPut_inv {ad : Nat → Nat} {ci k : Nat} {f f' : gF} {cs : List Prop} (hs : gPut ci k f = some (f', cs)) (hcs : gAll cs) :
    ∃ (pc : Nat) (L : gL) (v : Value) (q : Nat) (st : List Value) (μ μ' : gMu) (ks : List (Nat × Nat)) (kd : Nat × Nat), f = (pc, L, v :: .ref q :: st, μ) ∧ f' = (pc + 3, L, st, μ') ∧ gSh[q]? = some (.inl (ci, ks)) ∧ ks[k]? = some kd ∧
      (∀ C T N, gCl[ci]? = some (C, T, N) → k < N → ∃ ty, parseFieldDescriptor (T k).2.2.1 = some ty ∧ narrow ty (gTr ad v) = gTr ad v ∧ fits ty (gTr ad v) = true) ∧
      (∀ a, a ≠ q → μ'.1 a = μ.1 a ∧ μ'.2.1 a = μ.2.1 a ∧ μ'.2.2 a = μ.2.2 a) ∧
      ks.mapIdx (fun j kd => gTr ad (gFa μ' q j kd)) = (ks.mapIdx (fun j kd => gTr ad (gFa μ q j kd))).set k (gTr ad v) := by
  have setI : ∀ (μ : gMu) (q : Nat) (ks : List (Nat × Nat)) (t : Nat) (x : Int32), ks[k]? = some (0, t) → ks.mapIdx (fun j kd => gTr ad (gFa (gsI μ q k x) q j kd)) = (ks.mapIdx (fun j kd => gTr ad (gFa μ q j kd))).set k (.int x) := by
    intro μ q ks t x hk
    apply List.ext_getElem?
    intro i
    by_cases hi : i = k
    · subst hi
      rw [List.getElem?_set_self (by rw [List.length_mapIdx]; exact (List.getElem?_eq_some_iff.mp hk).1), List.getElem?_mapIdx, hk]
      show some (gTr ad (.int ((gsI μ q i x).1 q i))) = _
      rw [gsI_at]
      simp [upd, gTr]
    · rw [List.getElem?_set_ne (Ne.symm hi), List.getElem?_mapIdx, List.getElem?_mapIdx]
      have e : ∀ kd, gFa (gsI μ q k x) q i kd = gFa μ q i kd := by
        intro kd
        unfold gFa
        rw [gsI_at]
        simp [upd, hi, gsI]
      simp only [e]
  have setJ : ∀ (μ : gMu) (q : Nat) (ks : List (Nat × Nat)) (t : Nat) (x : Int64), ks[k]? = some (1, t) → ks.mapIdx (fun j kd => gTr ad (gFa (gsJ μ q k x) q j kd)) = (ks.mapIdx (fun j kd => gTr ad (gFa μ q j kd))).set k (.long x) := by
    intro μ q ks t x hk
    apply List.ext_getElem?
    intro i
    by_cases hi : i = k
    · subst hi
      rw [List.getElem?_set_self (by rw [List.length_mapIdx]; exact (List.getElem?_eq_some_iff.mp hk).1), List.getElem?_mapIdx, hk]
      show some (gTr ad (.long ((gsJ μ q i x).2.1 q i))) = _
      rw [gsJ_at]
      simp [vp_updL, gTr]
    · rw [List.getElem?_set_ne (Ne.symm hi), List.getElem?_mapIdx, List.getElem?_mapIdx]
      have e : ∀ kd, gFa (gsJ μ q k x) q i kd = gFa μ q i kd := by
        intro kd
        unfold gFa
        rw [gsJ_at]
        simp [vp_updL, hi, gsJ]
      simp only [e]
  have pI : parseFieldDescriptor "I" = some .int := by decide +kernel
  have pZ : parseFieldDescriptor "Z" = some .boolean := by decide +kernel
  have pJ : parseFieldDescriptor "J" = some .long := by decide +kernel
  unfold gPut at hs
  split at hs
  · rename_i pc L x q st μ
    split at hs
    · cases hs
    · split at hs
      · rename_i ci' ks hks
        split at hs
        · rename_i hci
          subst hci
          have hq := gObj_inv hks
          split at hs
          · rename_i hkd
            cases hs
            refine ⟨pc, L, .int x, q, st, μ, _, ks, _, rfl, rfl, hq, hkd, fun C T N hw hj => ⟨.int, ?_, rfl, rfl⟩, fun a ha => gsI_off ha, setI μ q ks _ x hkd⟩
            have h9 := (gKind hq hw hj hkd).1 rfl
            dsimp only at h9
            rw [h9]
            exact pI
          · rename_i hkd
            cases hs
            have hx9 : x = 0 ∨ x = 1 := hcs
            refine ⟨pc, L, .int x, q, st, μ, _, ks, _, rfl, rfl, hq, hkd, fun C T N hw hj => ⟨.boolean, ?_, ?_, ?_⟩, fun a ha => gsI_off ha, setI μ q ks _ x hkd⟩
            · have h9 := (gKind hq hw hj hkd).2.1 rfl
              dsimp only at h9
              rw [h9]
              exact pZ
            · show narrow .boolean (.int x) = .int x
              rcases hx9 with rfl | rfl <;> decide
            · show fits .boolean (.int x) = true
              rcases hx9 with rfl | rfl <;> decide
          · cases hs
        · cases hs
      · cases hs
  · rename_i pc L x q st μ
    split at hs
    · cases hs
    · split at hs
      · rename_i ci' ks hks
        split at hs
        · rename_i hci
          subst hci
          have hq := gObj_inv hks
          split at hs
          · rename_i hkd
            cases hs
            refine ⟨pc, L, .long x, q, st, μ, _, ks, _, rfl, rfl, hq, hkd, fun C T N hw hj => ⟨.long, ?_, rfl, rfl⟩, fun a ha => gsJ_off ha, setJ μ q ks _ x hkd⟩
            have h9 := (gKind hq hw hj hkd).2.2 rfl
            dsimp only at h9
            rw [h9]
            exact pJ
          · cases hs
        · cases hs
      · cases hs
  · cases hs
section GSTEP
variable {p : Program} {l : Launch} {e : Env} {R : Room} {s : State} {m : MethodId} {args : Array Value} {below : List Frame} {meth : Method} {c : Code} {H : Heap} {locs : List Loc} {cells slots : Nat} {Q : State → Prop}
variable {k : Nat} {cA : Nat → ClassId} {ad : Nat → Nat} {dC : Nat → ClassId} {dI : Nat → Nat → Nat} {A : Nat → Prop} {scr : gScr} {ls : Array Slot}
set_option maxHeartbeats 4000000 in
set_option maxRecDepth 100000 in
theorem g_step {r : gR} {f f' : gF} {cs : List Prop} (X : gX k p l e R s m args meth c cA ad dC dI A scr) (hR : R.frames = (mFr k).1 ∧ R.locals = (mFr k).2) (hC : cells ≤ R.cells ∧ slots ≤ R.slots) (hr : gAt k f.1 = some r) (hs : gStp scr r f = some (f', cs)) (hcs : gAll cs) (hM : gM cA ad dC dI A s f.2.2.2 H locs) (hl : gLh ls (mML k) ad f.2.1)
    (kk : ∀ (H1 : Heap) (locs1 : List Loc) (ls1 : Array Slot), (gNst r.1 = true → H.size ≤ H1.size) → gM cA ad dC dI A s f'.2.2.2 H1 locs1 → gLh ls1 (mML k) ad f'.2.1 → W p l e R s m args below meth c H1 locs1 cells slots Q (F0 m f'.1 ls1 (f'.2.2.1.map (gTr ad)))) :
    W p l e R s m args below meth c H locs cells slots Q (F0 m f.1 ls (f.2.2.1.map (gTr ad))) := by
  obtain ⟨hx, hb, hml, hown, hts, hK, hA, hscr⟩ := X
  obtain ⟨hd, hc⟩ := g_row hr
  obtain ⟨ins, len, ⟨a1, a2, a3⟩, cv⟩ := r
  cases ins
  case iconst n =>
    obtain ⟨pc, L, st, μ⟩ := f
    have hs' : gPush (pc, L, st, μ) 1 cv = some (f', cs) := hs
    cases hs'
    have hc' := of_decide_eq_true hc
    dsimp only at hc'
    subst hc'
    exact lv_iconst hx hb hd rfl (kk H locs ls (fun _ => Nat.le_refl _) hM hl)
  case bipush n =>
    obtain ⟨pc, L, st, μ⟩ := f
    have hs' : gPush (pc, L, st, μ) 2 cv = some (f', cs) := hs
    cases hs'
    have hc' := of_decide_eq_true hc
    dsimp only at hc'
    subst hc'
    exact lv_bipush hx hb hd rfl (kk H locs ls (fun _ => Nat.le_refl _) hM hl)
  case sipush n =>
    obtain ⟨pc, L, st, μ⟩ := f
    have hs' : gPush (pc, L, st, μ) 3 cv = some (f', cs) := hs
    cases hs'
    have hc' := of_decide_eq_true hc
    dsimp only at hc'
    subst hc'
    exact lv_sipush hx hb hd rfl (kk H locs ls (fun _ => Nat.le_refl _) hM hl)
  case lconst n =>
    obtain ⟨pc, L, st, μ⟩ := f
    have hs' : gPush (pc, L, st, μ) 1 cv = some (f', cs) := hs
    cases hs'
    have hc' := of_decide_eq_true hc
    dsimp only at hc'
    subst hc'
    exact lv_lconst hx hb hd rfl (kk H locs ls (fun _ => Nat.le_refl _) hM hl)
  case fconst n =>
    obtain ⟨pc, L, st, μ⟩ := f
    have hs' : gPush (pc, L, st, μ) 1 cv = some (f', cs) := hs
    cases hs'
    have hc' := of_decide_eq_true hc
    obtain ⟨h0, h1⟩ := hc'
    subst h0
    dsimp only at h1
    subst h1
    exact lv_fconst0 hx hb hd (kk H locs ls (fun _ => Nat.le_refl _) hM hl)
  case dconst n =>
    obtain ⟨pc, L, st, μ⟩ := f
    have hs' : gPush (pc, L, st, μ) 1 cv = some (f', cs) := hs
    cases hs'
    have hc' := of_decide_eq_true hc
    obtain ⟨h0, h1⟩ := hc'
    subst h0
    dsimp only at h1
    subst h1
    exact lv_dconst0 hx hb hd (kk H locs ls (fun _ => Nat.le_refl _) hM hl)
  case ldc n =>
    obtain ⟨pc, L, st, μ⟩ := f
    cases cv
    case int v =>
      have hs' : gPush (pc, L, st, μ) 2 (.int v) = some (f', cs) := hs
      cases hs'
      have hc' : gW a3 = some _ := of_decide_eq_true hc
      exact lv_ldc hx hb hown (hts _ (gG_W hc' rfl)) hd (kk H locs ls (fun _ => Nat.le_refl _) hM hl)
    case ref q =>
      have hs' := hs
      unfold gStp at hs'
      dsimp only at hs'
      cases scr with
      | none => cases hs'
      | some sc =>
        obtain ⟨SL, xs⟩ := sc
        dsimp only at hs'
        split at hs'
        · rename_i hq
          subst hq
          cases hs'
          obtain ⟨hX1, hX2, hX3, hX4, ⟨va9, hX5⟩, hX6⟩ := hscr SL xs rfl
          have hc' : decide ((1002 : Nat) = 1002 ∧ mOw k = "GlyphmillLaw" ∧ n = 224 ∧ gW a3 = some (.stringRef "GlyphmillLaw" 224 "aabbcnA AB 1 2-,.[{}} - ")) = true := hc
          obtain ⟨-, c1, c2, -⟩ := of_decide_eq_true hc'
          subst c2
          exact va_ldcS hx hb (c1 ▸ hown) hX6 hd (kk H locs ls (fun _ => Nat.le_refl _) hM hl)
        · cases hs'
    all_goals (exact nomatch (show (none : gO) = some (f', cs) from hs))
  case ldc_w n =>
    obtain ⟨pc, L, st, μ⟩ := f
    cases cv
    case int v =>
      have hs' : gPush (pc, L, st, μ) 3 (.int v) = some (f', cs) := hs
      cases hs'
      have hc' : gW a3 = some _ := of_decide_eq_true hc
      exact lv_ldcw hx hb hown (hts _ (gG_W hc' rfl)) hd (kk H locs ls (fun _ => Nat.le_refl _) hM hl)
    all_goals (exact nomatch (show (none : gO) = some (f', cs) from hs))
  case ldc2_w n =>
    obtain ⟨pc, L, st, μ⟩ := f
    cases cv
    case long v =>
      have hs' : gPush (pc, L, st, μ) 3 (.long v) = some (f', cs) := hs
      cases hs'
      have hc' : gW a3 = some _ := of_decide_eq_true hc
      exact lv_ldc2 hx hb hown (hts _ (gG_W hc' rfl)) hd (kk H locs ls (fun _ => Nat.le_refl _) hM hl)
    all_goals (exact nomatch (show (none : gO) = some (f', cs) from hs))
  case iload_n n =>
    obtain ⟨pc, L, st, μ⟩ := f
    have hs' : gLdI (pc, L, st, μ) 1 a1 = some (f', cs) := hs
    unfold gLdI at hs'
    split at hs'
    · rename_i x h1
      cases hs'
      exact lv_iload_n hx hb hd (of_decide_eq_true hc) (gLh_at hl h1) (kk H locs ls (fun _ => Nat.le_refl _) hM hl)
    · cases hs'
  case iload n =>
    obtain ⟨pc, L, st, μ⟩ := f
    have hs' : gLdI (pc, L, st, μ) 2 a1 = some (f', cs) := hs
    unfold gLdI at hs'
    split at hs'
    · rename_i x h1
      cases hs'
      have e1 := of_decide_eq_true hc
      dsimp only at e1
      subst e1
      exact lv_iload hx hb hd (gLh_at hl h1) (kk H locs ls (fun _ => Nat.le_refl _) hM hl)
    · cases hs'
  case lload_n n =>
    obtain ⟨pc, L, st, μ⟩ := f
    have hs' : gLdJ (pc, L, st, μ) 1 a1 = some (f', cs) := hs
    unfold gLdJ at hs'
    split at hs'
    · rename_i x h1
      cases hs'
      exact lv_lload_n hx hb hd (of_decide_eq_true hc) (gLh_at hl h1) (kk H locs ls (fun _ => Nat.le_refl _) hM hl)
    · cases hs'
  case lload n =>
    obtain ⟨pc, L, st, μ⟩ := f
    have hs' : gLdJ (pc, L, st, μ) 2 a1 = some (f', cs) := hs
    unfold gLdJ at hs'
    split at hs'
    · rename_i x h1
      cases hs'
      have e1 := of_decide_eq_true hc
      dsimp only at e1
      subst e1
      exact lv_lload hx hb hd (gLh_at hl h1) (kk H locs ls (fun _ => Nat.le_refl _) hM hl)
    · cases hs'
  case fload n =>
    obtain ⟨pc, L, st, μ⟩ := f
    have hs' : gLdF (pc, L, st, μ) 2 a1 = some (f', cs) := hs
    unfold gLdF at hs'
    split at hs'
    · rename_i x h1
      cases hs'
      have e1 := of_decide_eq_true hc
      dsimp only at e1
      subst e1
      exact lv_fload hx hb hd (gLh_at hl h1) (kk H locs ls (fun _ => Nat.le_refl _) hM hl)
    · cases hs'
  case dload n =>
    obtain ⟨pc, L, st, μ⟩ := f
    have hs' : gLdD (pc, L, st, μ) 2 a1 = some (f', cs) := hs
    unfold gLdD at hs'
    split at hs'
    · rename_i x h1
      cases hs'
      have e1 := of_decide_eq_true hc
      dsimp only at e1
      subst e1
      exact lv_dload hx hb hd (gLh_at hl h1) (kk H locs ls (fun _ => Nat.le_refl _) hM hl)
    · cases hs'
  case aload_n n =>
    obtain ⟨pc, L, st, μ⟩ := f
    have hs' : gLdA (pc, L, st, μ) 1 a1 = some (f', cs) := hs
    unfold gLdA at hs'
    split at hs'
    · rename_i x h1
      cases hs'
      exact lv_aload_n hx hb hd (of_decide_eq_true hc) (gLh_at hl h1) (kk H locs ls (fun _ => Nat.le_refl _) hM hl)
    · cases hs'
  case aload n =>
    obtain ⟨pc, L, st, μ⟩ := f
    have hs' : gLdA (pc, L, st, μ) 2 a1 = some (f', cs) := hs
    unfold gLdA at hs'
    split at hs'
    · rename_i x h1
      cases hs'
      have e1 := of_decide_eq_true hc
      dsimp only at e1
      subst e1
      exact lv_aload hx hb hd (gLh_at hl h1) (kk H locs ls (fun _ => Nat.le_refl _) hM hl)
    · cases hs'
  case istore_n n =>
    obtain ⟨pc, L, st, μ⟩ := f
    have hc' := of_decide_eq_true hc
    rcases st with _ | ⟨v, st⟩
    · exact nomatch (show (none : gO) = some (f', cs) from hs)
    cases v
    case int x =>
      have hs' : some ((pc + 1, gSt1 L a1 (.int x), st, μ), []) = some (f', cs) := hs
      cases hs'
      obtain ⟨e1, e2⟩ := hc'
      dsimp only at e1 e2
      exact lv_istore_n hx hb hd e1 hl e2 rfl (fun ls1 h1 => kk H locs ls1 (fun _ => Nat.le_refl _) hM (gLh_st1 (v := .int x) h1))
    all_goals (exact nomatch (show (none : gO) = some (f', cs) from hs))
  case istore n =>
    obtain ⟨pc, L, st, μ⟩ := f
    have hc' := of_decide_eq_true hc
    rcases st with _ | ⟨v, st⟩
    · exact nomatch (show (none : gO) = some (f', cs) from hs)
    cases v
    case int x =>
      have hs' : some ((pc + 2, gSt1 L a1 (.int x), st, μ), []) = some (f', cs) := hs
      cases hs'
      obtain ⟨e1, e2⟩ := hc'
      dsimp only at e1 e2
      subst e1
      exact lv_istore hx hb hd hl e2 rfl (fun ls1 h1 => kk H locs ls1 (fun _ => Nat.le_refl _) hM (gLh_st1 (v := .int x) h1))
    all_goals (exact nomatch (show (none : gO) = some (f', cs) from hs))
  case lstore_n n =>
    obtain ⟨pc, L, st, μ⟩ := f
    have hc' := of_decide_eq_true hc
    rcases st with _ | ⟨v, st⟩
    · exact nomatch (show (none : gO) = some (f', cs) from hs)
    cases v
    case long x =>
      have hs' : some ((pc + 1, gSt2 L a1 (.long x), st, μ), []) = some (f', cs) := hs
      cases hs'
      obtain ⟨e1, e2⟩ := hc'
      dsimp only at e1 e2
      exact lv_lstore_n hx hb hd e1 hl e2 rfl (fun ls1 h1 => kk H locs ls1 (fun _ => Nat.le_refl _) hM (gLh_st2 (v := .long x) h1))
    all_goals (exact nomatch (show (none : gO) = some (f', cs) from hs))
  case lstore n =>
    obtain ⟨pc, L, st, μ⟩ := f
    have hc' := of_decide_eq_true hc
    rcases st with _ | ⟨v, st⟩
    · exact nomatch (show (none : gO) = some (f', cs) from hs)
    cases v
    case long x =>
      have hs' : some ((pc + 2, gSt2 L a1 (.long x), st, μ), []) = some (f', cs) := hs
      cases hs'
      obtain ⟨e1, e2⟩ := hc'
      dsimp only at e1 e2
      subst e1
      exact lv_lstore hx hb hd hl e2 rfl (fun ls1 h1 => kk H locs ls1 (fun _ => Nat.le_refl _) hM (gLh_st2 (v := .long x) h1))
    all_goals (exact nomatch (show (none : gO) = some (f', cs) from hs))
  case fstore n =>
    obtain ⟨pc, L, st, μ⟩ := f
    have hc' := of_decide_eq_true hc
    rcases st with _ | ⟨v, st⟩
    · exact nomatch (show (none : gO) = some (f', cs) from hs)
    cases v
    case float x =>
      have hs' : some ((pc + 2, gSt1 L a1 (.float x), st, μ), []) = some (f', cs) := hs
      cases hs'
      obtain ⟨e1, e2⟩ := hc'
      dsimp only at e1 e2
      subst e1
      exact lv_fstore hx hb hd hl e2 rfl (fun ls1 h1 => kk H locs ls1 (fun _ => Nat.le_refl _) hM (gLh_st1 (v := .float x) h1))
    all_goals (exact nomatch (show (none : gO) = some (f', cs) from hs))
  case dstore n =>
    obtain ⟨pc, L, st, μ⟩ := f
    have hc' := of_decide_eq_true hc
    rcases st with _ | ⟨v, st⟩
    · exact nomatch (show (none : gO) = some (f', cs) from hs)
    cases v
    case double x =>
      have hs' : some ((pc + 2, gSt2 L a1 (.double x), st, μ), []) = some (f', cs) := hs
      cases hs'
      obtain ⟨e1, e2⟩ := hc'
      dsimp only at e1 e2
      subst e1
      exact lv_dstore hx hb hd hl e2 rfl (fun ls1 h1 => kk H locs ls1 (fun _ => Nat.le_refl _) hM (gLh_st2 (v := .double x) h1))
    all_goals (exact nomatch (show (none : gO) = some (f', cs) from hs))
  case astore_n n =>
    obtain ⟨pc, L, st, μ⟩ := f
    have hc' := of_decide_eq_true hc
    rcases st with _ | ⟨v, st⟩
    · exact nomatch (show (none : gO) = some (f', cs) from hs)
    cases v
    case ref x =>
      have hs' : some ((pc + 1, gSt1 L a1 (.ref x), st, μ), []) = some (f', cs) := hs
      cases hs'
      obtain ⟨e1, e2⟩ := hc'
      dsimp only at e1 e2
      exact lv_astore_n hx hb hd e1 hl e2 rfl (fun ls1 h1 => kk H locs ls1 (fun _ => Nat.le_refl _) hM (gLh_st1 (v := .ref x) h1))
    all_goals (exact nomatch (show (none : gO) = some (f', cs) from hs))
  case astore n =>
    obtain ⟨pc, L, st, μ⟩ := f
    have hc' := of_decide_eq_true hc
    rcases st with _ | ⟨v, st⟩
    · exact nomatch (show (none : gO) = some (f', cs) from hs)
    cases v
    case ref x =>
      have hs' : some ((pc + 2, gSt1 L a1 (.ref x), st, μ), []) = some (f', cs) := hs
      cases hs'
      obtain ⟨e1, e2⟩ := hc'
      dsimp only at e1 e2
      subst e1
      exact lv_astore hx hb hd hl e2 rfl (fun ls1 h1 => kk H locs ls1 (fun _ => Nat.le_refl _) hM (gLh_st1 (v := .ref x) h1))
    all_goals (exact nomatch (show (none : gO) = some (f', cs) from hs))
  case iinc i n =>
    obtain ⟨pc, L, st, μ⟩ := f
    obtain ⟨e1, e2, e3⟩ := of_decide_eq_true hc
    dsimp only at e1 e2 e3
    subst e1
    subst e3
    have hs' : (match L[i]?, (Value.int (Int32.ofInt n)) with
        | some (some (.int x)), .int c => some ((pc + 3, gSt1 L i (.int (x + c)), st, μ), [])
        | _, _ => none) = some (f', cs) := hs
    split at hs'
    · rename_i x c9 h1 h2
      cases h2
      cases hs'
      have hm : (i, Value.int x) ∈ gAsc ad L := gAsc_mem.mpr ⟨.int x, h1, rfl⟩
      obtain ⟨j, hj⟩ := List.getElem?_of_mem hm
      exact lv_iinc hx hb hd hl hj rfl e2 rfl (fun ls1 h1 => kk H locs ls1 (fun _ => Nat.le_refl _) hM (gLh_st1 (v := .int _) h1))
    · cases hs'
  case dup =>
    obtain ⟨pc, L, st, μ⟩ := f
    rcases st with _ | ⟨v, st⟩
    · exact nomatch (show (none : gO) = some (f', cs) from hs)
    have hs' : some ((pc + 1, L, v :: v :: st, μ), [v.category = 1]) = some (f', cs) := hs
    cases hs'
    exact lv_dup hx hb hd (by rw [gTr_cat]; exact hcs) (kk H locs ls (fun _ => Nat.le_refl _) hM hl)
  case pop =>
    obtain ⟨pc, L, st, μ⟩ := f
    rcases st with _ | ⟨v, st⟩
    · exact nomatch (show (none : gO) = some (f', cs) from hs)
    have hs' : some ((pc + 1, L, st, μ), [v.category = 1]) = some (f', cs) := hs
    cases hs'
    exact lv_pop hx hb hd (by rw [gTr_cat]; exact hcs) (kk H locs ls (fun _ => Nat.le_refl _) hM hl)
  case dup2 =>
    obtain ⟨pc, L, st, μ⟩ := f
    rcases st with _ | ⟨v, _ | ⟨w, st⟩⟩
    · exact nomatch (show (none : gO) = some (f', cs) from hs)
    · exact nomatch (show (none : gO) = some (f', cs) from hs)
    have hs' : some ((pc + 1, L, v :: w :: v :: w :: st, μ), [v.category = 1, w.category = 1]) = some (f', cs) := hs
    cases hs'
    exact lv_dup2_11 hx hb hd (by rw [gTr_cat]; exact hcs.1) (by rw [gTr_cat]; exact hcs.2) (kk H locs ls (fun _ => Nat.le_refl _) hM hl)
  case iadd =>
    obtain ⟨pc, L, x, y, st, μ, rfl, rfl, rfl⟩ := gII_inv (h := fun x y => (.int (x + y), [])) hs
    exact lv_iadd hx hb hd (kk H locs ls (fun _ => Nat.le_refl _) hM hl)
  case isub =>
    obtain ⟨pc, L, x, y, st, μ, rfl, rfl, rfl⟩ := gII_inv (h := fun x y => (.int (x - y), [])) hs
    exact lv_isub hx hb hd (kk H locs ls (fun _ => Nat.le_refl _) hM hl)
  case imul =>
    obtain ⟨pc, L, x, y, st, μ, rfl, rfl, rfl⟩ := gII_inv (h := fun x y => (.int (x * y), [])) hs
    exact lv_imul hx hb hd (kk H locs ls (fun _ => Nat.le_refl _) hM hl)
  case iand =>
    obtain ⟨pc, L, x, y, st, μ, rfl, rfl, rfl⟩ := gII_inv (h := fun x y => (.int (x &&& y), [])) hs
    exact lv_iand hx hb hd (kk H locs ls (fun _ => Nat.le_refl _) hM hl)
  case ishl =>
    obtain ⟨pc, L, x, y, st, μ, rfl, rfl, rfl⟩ := gII_inv (h := fun x y => (.int (x <<< (y &&& 31)), [])) hs
    exact lv_ishl hx hb hd (kk H locs ls (fun _ => Nat.le_refl _) hM hl)
  case ishr =>
    obtain ⟨pc, L, x, y, st, μ, rfl, rfl, rfl⟩ := gII_inv (h := fun x y => (.int (x >>> (y &&& 31)), [])) hs
    exact lv_ishr hx hb hd (kk H locs ls (fun _ => Nat.le_refl _) hM hl)
  case idiv =>
    obtain ⟨pc, L, x, y, st, μ, rfl, rfl, rfl⟩ := gII_inv (h := fun x y => (.int (x / y), [¬ y = 0])) hs
    exact lv_idiv hx hb hd hcs (kk H locs ls (fun _ => Nat.le_refl _) hM hl)
  case irem =>
    obtain ⟨pc, L, x, y, st, μ, rfl, rfl, rfl⟩ := gII_inv (h := fun x y => (.int (x - x / y * y), [¬ y = 0])) hs
    exact lv_irem hx hb hd hcs (kk H locs ls (fun _ => Nat.le_refl _) hM hl)
  case iushr =>
    obtain ⟨pc, L, x, y, st, μ, rfl, rfl, rfl⟩ := gII_inv (h := fun x y => (.int ((x.toUInt32 >>> (y.toUInt32 &&& Int32.toUInt32 31)).toInt32), [])) hs
    exact lv_iushr hx hb hd rfl (kk H locs ls (fun _ => Nat.le_refl _) hM hl)
  case ladd =>
    obtain ⟨pc, L, x, y, st, μ, rfl, rfl, rfl⟩ := gJJ_inv (h := fun x y => (.long (x + y), [])) hs
    exact lv_ladd hx hb hd (kk H locs ls (fun _ => Nat.le_refl _) hM hl)
  case lmul =>
    obtain ⟨pc, L, x, y, st, μ, rfl, rfl, rfl⟩ := gJJ_inv (h := fun x y => (.long (x * y), [])) hs
    exact lv_lmul hx hb hd (kk H locs ls (fun _ => Nat.le_refl _) hM hl)
  case ldiv =>
    obtain ⟨pc, L, x, y, st, μ, rfl, rfl, rfl⟩ := gJJ_inv (h := fun x y => (.long (x / y), [¬ y = 0])) hs
    exact lv_ldiv hx hb hd hcs (kk H locs ls (fun _ => Nat.le_refl _) hM hl)
  case lcmp =>
    obtain ⟨pc, L, x, y, st, μ, rfl, rfl, rfl⟩ := gJJ_inv (h := fun x y => (.int (lg_cmp x y), [])) hs
    exact W.lcmp hx hb hd (kk H locs ls (fun _ => Nat.le_refl _) hM hl)
  case ineg =>
    obtain ⟨pc, L, x, st, μ, rfl, rfl⟩ := gI1_inv (h := fun x => .int (-x)) hs
    exact lv_ineg hx hb hd (kk H locs ls (fun _ => Nat.le_refl _) hM hl)
  case i2l =>
    obtain ⟨pc, L, x, st, μ, rfl, rfl⟩ := gI1_inv (h := fun x => .long x.toInt64) hs
    exact lv_i2l hx hb hd rfl (kk H locs ls (fun _ => Nat.le_refl _) hM hl)
  case l2i =>
    obtain ⟨pc, L, x, st, μ, rfl, rfl⟩ := gJ1_inv (h := fun x => .int x.toInt32) hs
    exact lv_l2i hx hb hd rfl (kk H locs ls (fun _ => Nat.le_refl _) hM hl)
  case i2c =>
    obtain ⟨pc, L, x, st, μ, rfl, rfl⟩ := gI1_inv (h := fun x => .int (x.toUInt32 % 65536).toInt32) hs
    exact lv_i2c hx hb hd rfl (kk H locs ls (fun _ => Nat.le_refl _) hM hl)
  case i2f =>
    obtain ⟨pc, L, x, st, μ, rfl, rfl⟩ := gI1_inv (h := fun x => .float (FP.i2f x)) hs
    exact lv_i2f hx hb hd (kk H locs ls (fun _ => Nat.le_refl _) hM hl)
  case i2d =>
    obtain ⟨pc, L, x, st, μ, rfl, rfl⟩ := gI1_inv (h := fun x => .double (FP.i2d x)) hs
    exact lv_i2d hx hb hd (kk H locs ls (fun _ => Nat.le_refl _) hM hl)
  case l2d =>
    obtain ⟨pc, L, x, st, μ, rfl, rfl⟩ := gJ1_inv (h := fun x => .double (FP.l2d x)) hs
    exact lv_l2d hx hb hd (kk H locs ls (fun _ => Nat.le_refl _) hM hl)
  case fdiv =>
    obtain ⟨pc, L, st, μ⟩ := f
    rcases st with _ | ⟨v, _ | ⟨w, st⟩⟩
    · exact nomatch (show (none : gO) = some (f', cs) from hs)
    · cases v <;> exact nomatch (show (none : gO) = some (f', cs) from hs)
    cases v
    case float y =>
      cases w
      case float x =>
        cases hs
        exact lv_fdiv hx hb hd hcs (kk H locs ls (fun _ => Nat.le_refl _) hM hl)
      all_goals (exact nomatch (show (none : gO) = some (f', cs) from hs))
    all_goals (exact nomatch (show (none : gO) = some (f', cs) from hs))
  case ddiv =>
    obtain ⟨pc, L, st, μ⟩ := f
    rcases st with _ | ⟨v, _ | ⟨w, st⟩⟩
    · exact nomatch (show (none : gO) = some (f', cs) from hs)
    · cases v <;> exact nomatch (show (none : gO) = some (f', cs) from hs)
    cases v
    case double y =>
      cases w
      case double x =>
        cases hs
        exact lv_ddiv hx hb hd hcs (kk H locs ls (fun _ => Nat.le_refl _) hM hl)
      all_goals (exact nomatch (show (none : gO) = some (f', cs) from hs))
    all_goals (exact nomatch (show (none : gO) = some (f', cs) from hs))
  case f2d =>
    obtain ⟨pc, L, st, μ⟩ := f
    rcases st with _ | ⟨v, st⟩
    · exact nomatch (show (none : gO) = some (f', cs) from hs)
    cases v
    case float y =>
      cases hs
      exact lv_f2d hx hb hd hcs (kk H locs ls (fun _ => Nat.le_refl _) hM hl)
    all_goals (exact nomatch (show (none : gO) = some (f', cs) from hs))
  case fcmp op =>
    obtain ⟨pc, L, st, μ⟩ := f
    rcases st with _ | ⟨v, _ | ⟨w, st⟩⟩
    · exact nomatch (show (none : gO) = some (f', cs) from hs)
    · cases v <;> exact nomatch (show (none : gO) = some (f', cs) from hs)
    cases v
    case float y =>
      cases w
      case float x =>
        cases hs
        exact lv_fcmp hx hb hd (kk H locs ls (fun _ => Nat.le_refl _) hM hl)
      all_goals (exact nomatch (show (none : gO) = some (f', cs) from hs))
    all_goals (exact nomatch (show (none : gO) = some (f', cs) from hs))
  case dcmp op =>
    obtain ⟨pc, L, st, μ⟩ := f
    rcases st with _ | ⟨v, _ | ⟨w, st⟩⟩
    · exact nomatch (show (none : gO) = some (f', cs) from hs)
    · cases v <;> exact nomatch (show (none : gO) = some (f', cs) from hs)
    cases v
    case double y =>
      cases w
      case double x =>
        cases hs
        exact lv_dcmp hx hb hd (kk H locs ls (fun _ => Nat.le_refl _) hM hl)
      all_goals (exact nomatch (show (none : gO) = some (f', cs) from hs))
    all_goals (exact nomatch (show (none : gO) = some (f', cs) from hs))
  case goto n =>
    obtain ⟨pc, L, st, μ⟩ := f
    have hs' : some ((a1, L, st, μ), []) = some (f', cs) := hs
    cases hs'
    exact lv_goto hx hb hd (of_decide_eq_true hc) (kk H locs ls (fun _ => Nat.le_refl _) hM hl)
  case ifCond cn off =>
    obtain ⟨pc, L, st, μ⟩ := f
    have hc' := of_decide_eq_true hc
    rcases st with _ | ⟨v, st⟩
    · exact nomatch (show (none : gO) = some (f', cs) from hs)
    cases v
    case int y =>
      have hs' : some ((if gCond cn y 0 = true then a1 else pc + 3, L, st, μ), []) = some (f', cs) := hs
      cases hs'
      have kt : gCond cn y 0 = true → W p l e R s m args below meth c H locs cells slots Q (F0 m a1 ls (st.map (gTr ad))) := fun h => by
        have h1 := kk H locs ls (fun _ => Nat.le_refl _) hM hl
        dsimp only at h1
        rw [if_pos h] at h1
        exact h1
      have kf : ¬ gCond cn y 0 = true → W p l e R s m args below meth c H locs cells slots Q (F0 m (pc + 3) ls (st.map (gTr ad))) := fun h => by
        have h1 := kk H locs ls (fun _ => Nat.le_refl _) hM hl
        dsimp only at h1
        rw [if_neg h] at h1
        exact h1
      cases cn
      case eq => exact lv_if_eq hx hb hd hc' (fun h => kt (decide_eq_true h)) (fun h => kf (fun h2 => h (of_decide_eq_true h2)))
      case ne => exact lv_if_ne hx hb hd hc' (fun h => kt (decide_eq_true h)) (fun h => kf (fun h2 => of_decide_eq_true h2 h))
      case lt => exact lv_if_lt hx hb hd hc' (fun h => kt (decide_eq_true h)) (fun h => kf (fun h2 => h (of_decide_eq_true h2)))
      case ge => exact lv_if_ge hx hb hd hc' (fun h => kt (decide_eq_true h)) (fun h => kf (fun h2 => h (of_decide_eq_true h2)))
      case gt => exact lv_if_gt hx hb hd hc' (fun h => kt (decide_eq_true h)) (fun h => kf (fun h2 => h (of_decide_eq_true h2)))
      case le => exact lv_if_le hx hb hd hc' (fun h => kt (decide_eq_true h)) (fun h => kf (fun h2 => h (of_decide_eq_true h2)))
    all_goals (exact nomatch (show (none : gO) = some (f', cs) from hs))
  case if_icmp cn off =>
    obtain ⟨pc, L, st, μ⟩ := f
    have hc' := of_decide_eq_true hc
    rcases st with _ | ⟨v, _ | ⟨w, st⟩⟩
    · exact nomatch (show (none : gO) = some (f', cs) from hs)
    · cases v <;> exact nomatch (show (none : gO) = some (f', cs) from hs)
    cases v
    case int y =>
      cases w
      case int x =>
        have hs' : some ((if gCond cn x y = true then a1 else pc + 3, L, st, μ), []) = some (f', cs) := hs
        cases hs'
        have kt : gCond cn x y = true → W p l e R s m args below meth c H locs cells slots Q (F0 m a1 ls (st.map (gTr ad))) := fun h => by
          have h1 := kk H locs ls (fun _ => Nat.le_refl _) hM hl
          dsimp only at h1
          rw [if_pos h] at h1
          exact h1
        have kf : ¬ gCond cn x y = true → W p l e R s m args below meth c H locs cells slots Q (F0 m (pc + 3) ls (st.map (gTr ad))) := fun h => by
          have h1 := kk H locs ls (fun _ => Nat.le_refl _) hM hl
          dsimp only at h1
          rw [if_neg h] at h1
          exact h1
        cases cn
        case eq => exact lv_icmp_eq hx hb hd hc' (fun h => kt (decide_eq_true h)) (fun h => kf (fun h2 => h (of_decide_eq_true h2)))
        case ne => exact lv_icmp_ne hx hb hd hc' (fun h => kt (decide_eq_true h)) (fun h => kf (fun h2 => of_decide_eq_true h2 h))
        case lt => exact lv_icmp_lt hx hb hd hc' (fun h => kt (decide_eq_true h)) (fun h => kf (fun h2 => h (of_decide_eq_true h2)))
        case ge => exact lv_icmp_ge hx hb hd hc' (fun h => kt (decide_eq_true h)) (fun h => kf (fun h2 => h (of_decide_eq_true h2)))
        case gt => exact lv_icmp_gt hx hb hd hc' (fun h => kt (decide_eq_true h)) (fun h => kf (fun h2 => h (of_decide_eq_true h2)))
        case le => exact lv_icmp_le hx hb hd hc' (fun h => kt (decide_eq_true h)) (fun h => kf (fun h2 => h (of_decide_eq_true h2)))
      all_goals (exact nomatch (show (none : gO) = some (f', cs) from hs))
    all_goals (exact nomatch (show (none : gO) = some (f', cs) from hs))
  case caload =>
    obtain ⟨pc, L, i, q, st, μ, n, rfl, hq, rfl, rfl⟩ := gALd_inv (t := 1) hs
    exact va_cald hx hb hK hM.1 q 1 (gWd_get hq) rfl hcs hd (kk H locs ls (fun _ => Nat.le_refl _) hM hl)
  case baload =>
    obtain ⟨pc, L, i, q, st, μ, n, rfl, hq, rfl, rfl⟩ := gALd_inv (t := 2) hs
    exact va_zald hx hb hK hM.1 q 2 (gWd_get hq) rfl hcs hd (kk H locs ls (fun _ => Nat.le_refl _) hM hl)
  case laload =>
    obtain ⟨pc, L, i, q, st, μ, n, rfl, hq, rfl, rfl⟩ := gALd_inv (t := 3) hs
    exact va_lald hx hb hK hM.1 q 3 (gWd_get hq) rfl hcs hd (kk H locs ls (fun _ => Nat.le_refl _) hM hl)
  case iaload =>
    cases scr with
    | none =>
      obtain ⟨pc, L, i, q, st, μ, n, rfl, hq, rfl, rfl⟩ := gALd_inv (t := 0) hs
      exact va_iald hx hb hK hM.1 q 0 (gWd_get hq) rfl hcs hd (kk H locs ls (fun _ => Nat.le_refl _) hM hl)
    | some sc =>
      obtain ⟨SL, xs⟩ := sc
      obtain ⟨hX1, hX2, hX3, hX4, ⟨va9, hX5⟩, hX6⟩ := hscr SL xs rfl
      have hs' : gALd (some (SL, xs)) 0 f = some (f', cs) := hs
      unfold gALd at hs'
      split at hs'
      · rename_i pc L i q st μ
        split at hs'
        · rename_i hq
          subst hq
          cases hs'
          exact va_sld hx hb hX1 hX2 hX3 hM.2.2 hcs hd (kk H locs ls (fun _ => Nat.le_refl _) hM hl)
        · split at hs'
          · rename_i t' n hn
            split at hs'
            · rename_i ht
              subst ht
              cases hs'
              exact va_iald hx hb hK hM.1 q 0 (gWd_get (gArr_inv hn)) rfl hcs hd (kk H locs ls (fun _ => Nat.le_refl _) hM hl)
            · cases hs'
          · cases hs'
      · cases hs'
  case arraylength =>
    have hs' : gALen scr f = some (f', cs) := hs
    unfold gALen at hs'
    split at hs'
    · rename_i pc L q st μ
      split at hs'
      · rename_i hq
        subst hq
        split at hs'
        · rename_i SL xs
          cases hs'
          obtain ⟨hX1, hX2, hX3, hX4, ⟨va9, hX5⟩, hX6⟩ := hscr SL xs rfl
          exact va_slen hx hb hX1 hX2 hX3 hM.2.2 hd (kk H locs ls (fun _ => Nat.le_refl _) hM hl)
        · cases hs'
      · split at hs'
        · rename_i t n hn
          cases hs'
          have ht : ∃ (t0 : Nat) (ty : FieldType), (gTys cA)[t0]? = some (cA t, ty) := gTys_at hn
          obtain ⟨t0, ty, ht⟩ := ht
          exact va_alen hx hb hK hM.1 q t0 (gWd_get (gArr_inv hn)) ht rfl hd (kk H locs ls (fun _ => Nat.le_refl _) hM hl)
        · cases hs'
    · cases hs'
  case iastore =>
    obtain ⟨pc, L, x, i, q, st, μ, n, rfl, hq, rfl, rfl⟩ := gIst_inv (t := 0) (g := fun x => x) hs
    refine va_iast hx hb hK hM.1 hM.2.1 hM.2.2 q 0 (gWd_get hq) rfl hcs hd (fun H1 locs1 hP hD hS => ?_)
    have e : (gWd cA ad μ).set q (ad q, gCell cA ad (gsI μ q i.toNatClampNeg ((fun x => x) x)) q (.inr (0, n))) = gWd cA ad (gsI μ q i.toNatClampNeg ((fun x => x) x)) := gWd_set hq (fun a ha => gsI_off ha)
    have e2 : gCell cA ad (gsI μ q i.toNatClampNeg ((fun x => x) x)) q (.inr (0, n)) = .inl (cA 0, n, .inl (upd (μ.1 q) i.toNatClampNeg ((fun x => x) x))) := by
      show (.inl (cA 0, n, .inl ((gsI μ q i.toNatClampNeg ((fun x => x) x)).1 q)) : va_E) = _
      rw [gsI_at]
    rw [e2] at e
    exact kk H1 locs1 ls (fun h9 => Bool.noConfusion (show false = true from h9)) ⟨e ▸ hP, e ▸ hD, hS⟩ hl
  case castore =>
    obtain ⟨pc, L, x, i, q, st, μ, n, rfl, hq, rfl, rfl⟩ := gIst_inv (t := 1) (g := vp_nar .char) hs
    refine va_cast hx hb hK hM.1 hM.2.1 hM.2.2 q 1 (gWd_get hq) rfl hcs hd (fun H1 locs1 hP hD hS => ?_)
    have e : (gWd cA ad μ).set q (ad q, gCell cA ad (gsI μ q i.toNatClampNeg ((vp_nar .char) x)) q (.inr (1, n))) = gWd cA ad (gsI μ q i.toNatClampNeg ((vp_nar .char) x)) := gWd_set hq (fun a ha => gsI_off ha)
    have e2 : gCell cA ad (gsI μ q i.toNatClampNeg ((vp_nar .char) x)) q (.inr (1, n)) = .inl (cA 1, n, .inl (upd (μ.1 q) i.toNatClampNeg ((vp_nar .char) x))) := by
      show (.inl (cA 1, n, .inl ((gsI μ q i.toNatClampNeg ((vp_nar .char) x)).1 q)) : va_E) = _
      rw [gsI_at]
    rw [e2] at e
    exact kk H1 locs1 ls (fun h9 => Bool.noConfusion (show false = true from h9)) ⟨e ▸ hP, e ▸ hD, hS⟩ hl
  case bastore =>
    obtain ⟨pc, L, x, i, q, st, μ, n, rfl, hq, rfl, rfl⟩ := gIst_inv (t := 2) (g := vp_nar .boolean) hs
    refine va_zast hx hb hK hM.1 hM.2.1 hM.2.2 q 2 (gWd_get hq) rfl hcs hd (fun H1 locs1 hP hD hS => ?_)
    have e : (gWd cA ad μ).set q (ad q, gCell cA ad (gsI μ q i.toNatClampNeg ((vp_nar .boolean) x)) q (.inr (2, n))) = gWd cA ad (gsI μ q i.toNatClampNeg ((vp_nar .boolean) x)) := gWd_set hq (fun a ha => gsI_off ha)
    have e2 : gCell cA ad (gsI μ q i.toNatClampNeg ((vp_nar .boolean) x)) q (.inr (2, n)) = .inl (cA 2, n, .inl (upd (μ.1 q) i.toNatClampNeg ((vp_nar .boolean) x))) := by
      show (.inl (cA 2, n, .inl ((gsI μ q i.toNatClampNeg ((vp_nar .boolean) x)).1 q)) : va_E) = _
      rw [gsI_at]
    rw [e2] at e
    exact kk H1 locs1 ls (fun h9 => Bool.noConfusion (show false = true from h9)) ⟨e ▸ hP, e ▸ hD, hS⟩ hl
  case lastore =>
    have hs' : gJst f = some (f', cs) := hs
    unfold gJst at hs'
    split at hs'
    · rename_i pc L x i q st μ
      split at hs'
      · cases hs'
      · split at hs'
        · rename_i t' n hn
          split at hs'
          · rename_i ht
            subst ht
            cases hs'
            have hq := gArr_inv hn
            refine va_last hx hb hK hM.1 hM.2.1 hM.2.2 q 3 (gWd_get hq) rfl hcs hd (fun H1 locs1 hP hD hS => ?_)
            have e : (gWd cA ad μ).set q (ad q, gCell cA ad (gsJ μ q i.toNatClampNeg x) q (.inr (3, n))) = gWd cA ad (gsJ μ q i.toNatClampNeg x) := gWd_set hq (fun a ha => gsJ_off ha)
            have e2 : gCell cA ad (gsJ μ q i.toNatClampNeg x) q (.inr (3, n)) = .inl (cA 3, n, .inr (.inl (vp_updL (μ.2.1 q) i.toNatClampNeg x))) := by
              show (.inl (cA 3, n, .inr (.inl ((gsJ μ q i.toNatClampNeg x).2.1 q))) : va_E) = _
              rw [gsJ_at]
            rw [e2] at e
            exact kk H1 locs1 ls (fun h9 => Bool.noConfusion (show false = true from h9)) ⟨e ▸ hP, e ▸ hD, hS⟩ hl
          · cases hs'
        · cases hs'
    · cases hs'
  case getfield n =>
    have hs' : gGet a1 a2 f = some (f', cs) := hs
    unfold gGet at hs'
    split at hs'
    · rename_i pc L q st μ
      split at hs'
      · cases hs'
      · split at hs'
        · rename_i ci ks hks
          split at hs'
          · rename_i hci
            subst hci
            split at hs'
            · rename_i kd hkd
              cases hs'
              have hc' : (match gCl[ci]? with
                | some q => decide (a2 < q.2.2 ∧ gW a3 = some (.fieldLink (mOw k) n (q.2.1 a2).1 (q.2.1 a2).2.1 (q.2.1 a2).2.2.1))
                | none => false) = true := hc
              split at hc'
              · rename_i w hw
                obtain ⟨h1, h2⟩ := of_decide_eq_true hc'
                obtain ⟨C9, T9, N9⟩ := w
                exact va_get hx hb hts (gTyN hw).1 hown hK hM.1 q (gWd_get (gObj_inv hks)) hw a2 h1 (hts _ (gG_W h2 rfl)) (fun _ h9 => h9) (v := gTr ad (gFa μ q a2 kd)) (by rw [List.getElem?_mapIdx, hkd]; rfl) hd (kk H locs ls (fun _ => Nat.le_refl _) hM hl)
              · cases hc'
            · cases hs'
          · cases hs'
        · cases hs'
    · cases hs'
  case putfield n =>
    have hs' : gPut a1 a2 f = some (f', cs) := hs
    obtain ⟨pc, L, v, q, st, μ, μ', ks, kd, hf, hf', hq, hkd, hty, hoff, hfv⟩ := gPut_inv (ad := ad) hs' hcs
    subst hf
    subst hf'
    have hc' : (match gCl[a1]? with
      | some q => decide (a2 < q.2.2 ∧ (q.2.1 a2).2.2.2 = false ∧ gW a3 = some (.fieldLink (mOw k) n (q.2.1 a2).1 (q.2.1 a2).2.1 (q.2.1 a2).2.2.1))
      | none => false) = true := hc
    split at hc'
    · rename_i w hw
      obtain ⟨h1, h2, h3⟩ := of_decide_eq_true hc'
      obtain ⟨C9, T9, N9⟩ := w
      obtain ⟨ty9, hty9⟩ := (gTyN hw).2.2
      have hl9 : a2 < (ks.mapIdx (fun j kd => gTr ad (gFa μ q j kd))).length := by
        rw [List.length_mapIdx]
        exact (List.getElem?_eq_some_iff.mp hkd).1
      obtain ⟨ty, hd1, hd2, hd3⟩ := hty C9 T9 N9 hw h1
      refine va_put hx hb hts (gTyN hw).1 ty9 hty9 (gTyN hw).2.1 hown hK hM.1 hM.2.1 hM.2.2 q (gWd_get hq) hw a2 h1 (hts _ (gG_W h3 rfl)) (fun _ h9 => h9) h2 hd1 hd2 hd3 hl9 hd (fun H1 locs1 hP hD hS => ?_)
      have e : (gWd cA ad μ).set q (ad q, gCell cA ad μ' q (.inl (a1, ks))) = gWd cA ad μ' := gWd_set hq hoff
      have e2 : gCell cA ad μ' q (.inl (a1, ks)) = .inr (a1, (ks.mapIdx (fun j kd => gTr ad (gFa μ q j kd))).set a2 (gTr ad v)) := by
        show (.inr (a1, ks.mapIdx (fun j kd => gTr ad (gFa μ' q j kd))) : va_E) = _
        rw [hfv]
      rw [e2] at e
      exact kk H1 locs1 ls (fun h9 => Bool.noConfusion (show false = true from h9)) ⟨e ▸ hP, e ▸ hD, hS⟩ hl
    · cases hc'
  case tableswitch d lo hi offs =>
    obtain ⟨pc, L, st, μ⟩ := f
    rcases st with _ | ⟨v, st⟩
    · exact nomatch (show (none : gO) = some (f', cs) from hs)
    cases v
    case int x =>
      have hs' : (match (if x.toInt < lo ∨ hi < x.toInt then some d else offs[(x.toInt - lo).toNat]?) with
          | some o => some ((((pc : Int) + o).toNat, L, st, μ), [0 ≤ (pc : Int) + o])
          | none => none) = some (f', cs) := hs
      split at hs'
      · rename_i o ho
        cases hs'
        have hcs' : 0 ≤ (pc : Int) + o := hcs
        split at ho
        · rename_i h1
          cases ho
          exact lv_tableOut hx hb hd h1 (by simp only; omega) (kk H locs ls (fun _ => Nat.le_refl _) hM hl)
        · rename_i h1
          rw [not_or] at h1
          exact lv_tableIn hx hb hd h1.1 h1.2 ho (by simp only; omega) (kk H locs ls (fun _ => Nat.le_refl _) hM hl)
      · cases hs'
    all_goals (exact nomatch (show (none : gO) = some (f', cs) from hs))
  case invokevirtual i =>
    have hW9 : ∀ st : List Value, ((st.map (gTr ad)).map fun v => v.category).sum = (st.map fun v => v.category).sum := fun st => by
      rw [List.map_map, show ((fun v : Value => v.category) ∘ gTr ad) = (fun v : Value => v.category) from funext (fun v => gTr_cat ad v)]
    have hz : c.maxLocals = ls.size := by rw [hml]; exact hl.1.symm
    have hs' : gStM scr a2 cv f = some (f', cs) := hs
    unfold gStM at hs'
    split at hs'
    · rename_i sc9 pc L q st μ
      split at hs'
      · rename_i hq
        subst hq
        obtain ⟨SL, xs⟩ := sc9
        cases hs'
        obtain ⟨hX1, hX2, hX3, hX4, ⟨va9, hX5⟩, hX6⟩ := hscr SL xs rfl
        have hc' : decide (gW a3 = some (.methodLink (mOw k) i ⟨"java/lang/String", "length", "()I"⟩) ∧ 10 ≤ (mFr k).1 ∧ 200 ≤ (mFr k).2 ∧ mOw k = "GlyphmillLaw") = true := hc
        obtain ⟨c1, c2, c3, c4⟩ := of_decide_eq_true hc'
        rw [c4] at c1 hown
        exact sp_length hx hb (hml.trans rfl) hown hts hl.1 hX5 hM.2.2 hA ⟨by rw [hR.1]; exact c2, by rw [hR.2]; exact c3⟩ hC (by rw [hW9]; exact hcs) c1 hd (fun H1 locs1 g1 g2 g3 => kk H1 locs1 ls (fun _ => g1) ⟨hM.1.kept (fun j z hj => g2 z.1 (hM.1 j z hj).lt), hM.2.1, g3⟩ hl)
      · cases hs'
    · rename_i sc9 pc L x9 q st μ
      split at hs'
      · rename_i hq
        subst hq
        obtain ⟨SL, xs⟩ := sc9
        cases hs'
        obtain ⟨hX1, hX2, hX3, hX4, ⟨va9, hX5⟩, hX6⟩ := hscr SL xs rfl
        have hc' : decide (gW a3 = some (.methodLink (mOw k) i ⟨"java/lang/String", "charAt", "(I)C"⟩) ∧ 10 ≤ (mFr k).1 ∧ 200 ≤ (mFr k).2 ∧ mOw k = "GlyphmillLaw") = true := hc
        obtain ⟨c1, c2, c3, c4⟩ := of_decide_eq_true hc'
        rw [c4] at c1 hown
        exact sp_charAt hx hb (hml.trans rfl) hown hts hl.1 hX5 hM.2.2 hA ⟨by rw [hR.1]; exact c2, by rw [hR.2]; exact c3⟩ hC (by rw [hW9]; exact hcs.1) hcs.2 c1 hd (fun H1 locs1 g1 g2 g3 => kk H1 locs1 ls (fun _ => g1) ⟨hM.1.kept (fun j z hj => g2 z.1 (hM.1 j z hj).lt), hM.2.1, g3⟩ hl)
      · cases hs'
    · cases hs'
  case invokestatic i =>
    by_cases h8 : cv = .int 8
    · subst h8
      have hs' : gAtS scr f = some (f', cs) := hs
      unfold gAtS at hs'
      split at hs'
      · rename_i SL xs pc L x9 q st μ
        split at hs'
        · rename_i hq
          subst hq
          cases hs'
          obtain ⟨hX1, hX2, hX3, hX4, ⟨va9, hX5⟩, hX6⟩ := hscr SL xs rfl
          have hW9 : ∀ st : List Value, ((st.map (gTr ad)).map fun v => v.category).sum = (st.map fun v => v.category).sum := fun st => by
            rw [List.map_map, show ((fun v : Value => v.category) ∘ gTr ad) = (fun v : Value => v.category) from funext (fun v => gTr_cat ad v)]
          have hc' : decide (gW a3 = some (.methodLink (mOw k) i ⟨"GlyphmillLaw", "at", "([II)I"⟩) ∧ 10 ≤ (mFr k).1 ∧ 200 ≤ (mFr k).2 ∧ mOw k = "GlyphmillLaw") = true := hc
          obtain ⟨c1, c2, c3, c4⟩ := of_decide_eq_true hc'
          rw [c4] at c1 hown
          exact sp_at hx hb (hml.trans rfl) hown hts hl.1 hX1 hX2 hX3 hX4 hM.2.2 hA ⟨by rw [hR.1]; exact c2, by rw [hR.2]; exact c3⟩ hC (by rw [hW9]; exact hcs.1) (Int32.not_lt.mpr hcs.2) c1 hd (fun H1 locs1 g1 g2 g3 => kk H1 locs1 ls (fun _ => g1) ⟨hM.1.kept (fun j z hj => g2 z.1 (hM.1 j z hj).lt), hM.2.1, g3⟩ hl)
        · cases hs'
      · cases hs'
    have hs' : gMath cv f = some (f', cs) := by
      have h9 := hs
      unfold gStp at h9
      dsimp only at h9
      split at h9
      · exact absurd rfl h8
      · exact h9
    unfold gMath at hs'
    have hW9 : ∀ st : List Value, ((st.map (gTr ad)).map fun v => v.category).sum = (st.map fun v => v.category).sum := fun st => by
      rw [List.map_map, show ((fun v : Value => v.category) ∘ gTr ad) = (fun v : Value => v.category) from funext (fun v => gTr_cat ad v)]
    have hz : c.maxLocals = ls.size := by rw [hml]; exact hl.1.symm
    split at hs'
    · rename_i pc L y x st μ
      cases hs'
      have hcs' : (st.map fun v => v.category).sum ≤ 8 := hcs
      obtain ⟨c1, c2, c3⟩ : gW a3 = some (.methodLink (mOw k) i Lib.Math.max.name) ∧ 1 ≤ (mFr k).1 ∧ 21 ≤ (mFr k).2 := of_decide_eq_true hc
      exact va_mmax hx hb hz hown (hts _ (gG_W c1 rfl)) (hts _ (gG_Ma (by simp))) (hts _ (gG_Ma (by simp))) (hts _ (gG_Ma (by simp))) (by rw [hR.1]; exact c2) (by rw [hW9, hR.2]; omega) hC.1 hC.2 hd (kk H locs ls (fun _ => Nat.le_refl _) hM hl)
    · rename_i pc L y x st μ
      cases hs'
      have hcs' : (st.map fun v => v.category).sum ≤ 8 := hcs
      obtain ⟨c1, c2, c3⟩ : gW a3 = some (.methodLink (mOw k) i Lib.Math.min.name) ∧ 1 ≤ (mFr k).1 ∧ 21 ≤ (mFr k).2 := of_decide_eq_true hc
      exact va_mmin hx hb hz hown (hts _ (gG_W c1 rfl)) (hts _ (gG_Ma (by simp))) (hts _ (gG_Ma (by simp))) (hts _ (gG_Ma (by simp))) (by rw [hR.1]; exact c2) (by rw [hW9, hR.2]; omega) hC.1 hC.2 hd (kk H locs ls (fun _ => Nat.le_refl _) hM hl)
    · rename_i pc L x st μ
      cases hs'
      have hcs' : (st.map fun v => v.category).sum ≤ 8 := hcs
      obtain ⟨c1, c2, c3⟩ : gW a3 = some (.methodLink (mOw k) i Lib.Math.abs.name) ∧ 1 ≤ (mFr k).1 ∧ 21 ≤ (mFr k).2 := of_decide_eq_true hc
      exact va_mabs hx hb hz hown (hts _ (gG_W c1 rfl)) (hts _ (gG_Ma (by simp))) (hts _ (gG_Ma (by simp))) (hts _ (gG_Ma (by simp))) (by rw [hR.1]; exact c2) (by rw [hW9, hR.2]; omega) hC.1 hC.2 hd (kk H locs ls (fun _ => Nat.le_refl _) hM hl)
    · rename_i pc L y x st μ
      cases hs'
      have hcs' : (st.map fun v => v.category).sum ≤ 8 := hcs
      obtain ⟨c1, c2, c3⟩ : gW a3 = some (.methodLink (mOw k) i Lib.MathLoose.min_long.x) ∧ 1 ≤ (mFr k).1 ∧ 23 ≤ (mFr k).2 := of_decide_eq_true hc
      exact va_mmin_long hx hb hz hown (hts _ (gG_W c1 rfl)) (hts _ (gG_Ma (by simp))) (hts _ (gG_Ma (by simp))) (hts _ (gG_Ma (by simp))) (by rw [hR.1]; exact c2) (by rw [hW9, hR.2]; omega) hC.1 hC.2 hd (kk H locs ls (fun _ => Nat.le_refl _) hM hl)
    · cases hs'
  all_goals (exact nomatch (show (none : gO) = some (f', cs) from hs))
end GSTEP
