/-! PURE RULES: how a run of the small machine is shown, from its end backwards -/
theorem gMath_0 (f : gF) : gMath (.int 0) f = none := by
  obtain ⟨pc, l, st, μ⟩ := f
  rcases st with _ | ⟨a, _ | ⟨b, st⟩⟩
  · rfl
  · cases a <;> rfl
  · cases a <;> cases b <;> rfl
theorem gMath_1 (f : gF) : gMath (.int 1) f = none := by
  obtain ⟨pc, l, st, μ⟩ := f
  rcases st with _ | ⟨a, _ | ⟨b, st⟩⟩
  · rfl
  · cases a <;> rfl
  · cases a <;> cases b <;> rfl
theorem gRun_plainI {n : Nat} {scr : gScr} {k : Nat} {r : gR} {f f' : gF} {cnt : Nat} {cs : List Prop} (hr : gAt k f.1 = some r) (hs : gStp scr r f = some (f', cs)) (hc : gAll cs) : gRun (n + 1) scr k f cnt = gRun n scr k f' cnt := by
  have key : (match gStp scr r f with
        | some (f', cs) => gIf (gAll cs) (gRun n scr k f' cnt) none
        | none => none) = gRun n scr k f' cnt := by
    rw [hs]
    show gIf (gAll cs) (gRun n scr k f' cnt) none = _
    unfold gIf
    exact if_pos hc
  rw [gRun, hr]
  obtain ⟨ins, len, ⟨a1, a2, a3⟩, cv⟩ := r
  cases ins
  case invokevirtual i =>
    have hs9 : gStM scr a2 cv f = some (f', cs) := hs
    unfold gStM at hs9
    split at hs9
    · exact (if_pos (Or.inr (Or.inr (Or.inr (show Value.int 6 ≠ Value.int 0 by decide))))).trans key
    · exact (if_pos (Or.inr (Or.inr (Or.inr (show Value.int 7 ≠ Value.int 0 by decide))))).trans key
    · cases hs9
  case invokestatic i =>
    dsimp only
    split
    · have hs' : gMath (.int 0) f = some (f', cs) := hs
      rw [gMath_0] at hs'
      cases hs'
    · have hs' : gMath (.int 1) f = some (f', cs) := hs
      rw [gMath_1] at hs'
      cases hs'
    · exact key
  case return_ => exact nomatch (show (none : gO) = some (f', cs) from hs)
  case ireturn => exact nomatch (show (none : gO) = some (f', cs) from hs)
  case lreturn => exact nomatch (show (none : gO) = some (f', cs) from hs)
  case freturn => exact nomatch (show (none : gO) = some (f', cs) from hs)
  case dreturn => exact nomatch (show (none : gO) = some (f', cs) from hs)
  case new i => exact nomatch (show (none : gO) = some (f', cs) from hs)
  all_goals exact key
theorem gRun_endI {n : Nat} {scr : gScr} {k : Nat} {r : gR} {f : gF} {cnt : Nat} {res : gMu × gRes} (hr : gAt k f.1 = some r) (he : gEnd k r f cnt = some res) : gRun (n + 1) scr k f cnt = some res := by
  rw [gRun, hr]
  obtain ⟨ins, len, ⟨a1, a2, a3⟩, cv⟩ := r
  cases ins
  case return_ => exact he
  case ireturn => exact he
  case lreturn => exact he
  case freturn => exact he
  case dreturn => exact he
  case new i => exact he
  all_goals exact nomatch (show (none : Option (gMu × gRes)) = some res from he)
theorem gRun_inv1 {n : Nat} {scr : gScr} {k : Nat} {r : gR} {f : gF} {cnt : Nat} {res : gMu × gRes} {na : Nat} (h : gInvP n scr k r f cnt res na) : (if (f.2.2.1.take na).reverse.length = na ∧ cnt + mCo r.2.2.1.1 ≤ mCo k ∧ ((f.2.2.1.drop na).map fun v => v.category).sum ≤ 8 ∧ r.2.2.1.1 < k ∧ (gEnt (f.2.2.1.take na).reverse (mML r.2.2.1.1)).length ≤ mML r.2.2.1.1 then
          (match gRun n none r.2.2.1.1 (0, gEnt (f.2.2.1.take na).reverse (mML r.2.2.1.1), [], f.2.2.2) 0 with
            | some (μ', .inl v) => gRun n scr k (f.1 + 3, f.2.1, v.toList ++ f.2.2.1.drop na, μ') (cnt + mCo r.2.2.1.1)
            | some (μ', .inr y) => (match mHh k with
              | [] => some (μ', .inr y)
              | _ => (match gHnd k f.1 y with
                | some i => (match (mHh k)[i]? with
                  | some h => (match gAt k h.2.2.1 with
                    | some (.astore_n _, _, (j, _), _) => gRun n scr k (h.2.2.1 + 1, (gKill f.2.1 j).set j none, [], gBm μ') (cnt + mCo r.2.2.1.1)
                    | some (.astore _, _, (j, _), _) => gRun n scr k (h.2.2.1 + 2, (gKill f.2.1 j).set j none, [], gBm μ') (cnt + mCo r.2.2.1.1)
                    | _ => none)
                  | none => none)
                | none => none))
            | none => none)
        else none) = some res := by
  obtain ⟨c1, c2, c3, c4, c5, μ', x, hx, h2⟩ := h
  rw [if_pos ⟨c1, c2, c3, c4, c5⟩, hx]
  rcases h2 with ⟨v, rfl, h3⟩ | ⟨y, rfl, hh, rfl⟩ | ⟨y, i, hh, r2, len, rfl, h3, h4, h5, h6, h7⟩
  · exact h3
  · dsimp only
    rw [hh]
  · dsimp only
    have hne : mHh k ≠ [] := fun e => by rw [e] at h4; cases h4
    split
    · rename_i e
      exact absurd e hne
    · rw [h3]
      dsimp only
      rw [h4]
      dsimp only
      rw [h5]
      obtain ⟨ins, len9, ⟨a1, a2, a3⟩, cv⟩ := r2
      rcases h6 with ⟨n9, e1, e2⟩ | ⟨n9, e1, e2⟩
      · dsimp only at e1
        subst e1
        subst e2
        exact h7
      · dsimp only at e1
        subst e1
        subst e2
        exact h7
theorem gRun_virtI {n : Nat} {scr : gScr} {k i q : Nat} {r : gR} {f : gF} {cnt : Nat} {res : gMu × gRes} (hr : gAt k f.1 = some r) (hi : r.1 = .invokevirtual i) (hq : (f.2.2.1.drop r.2.2.1.2.1).head? = some (.ref q)) (hci : (gObj q).map (fun x => x.1) = some (mCi r.2.2.1.1)) (hsc : q ≠ gSC) (hcv : r.2.2.2 = .int 0)
    (h : gInvP n scr k r f cnt res (r.2.2.1.2.1 + 1)) : gRun (n + 1) scr k f cnt = some res := by
  rw [gRun, hr]
  obtain ⟨ins, len, ⟨a1, a2, a3⟩, cv⟩ := r
  dsimp only at hi
  subst hi
  dsimp only at hq hci ⊢
  rw [hq]
  dsimp only
  rw [if_neg (by
    rintro (h1 | h1 | h1 | h1)
    · rw [h1] at hci; cases hci
    · exact hsc h1
    · exact h1 hci
    · exact h1 hcv)]
  exact gRun_inv1 h
theorem gRun_statI {n : Nat} {scr : gScr} {k i : Nat} {r : gR} {f : gF} {cnt : Nat} {res : gMu × gRes} (hr : gAt k f.1 = some r) (hi : r.1 = .invokestatic i) (h01 : r.2.2.2 = .int 0 ∨ r.2.2.2 = .int 1)
    (h : gInvP n scr k r f cnt res r.2.2.1.2.1) : gRun (n + 1) scr k f cnt = some res := by
  rw [gRun, hr]
  obtain ⟨ins, len, ⟨a1, a2, a3⟩, cv⟩ := r
  dsimp only at hi h01
  subst hi
  rcases h01 with rfl | rfl
  · exact gRun_inv1 h
  · exact gRun_inv1 h
theorem gObj_sc {q : Nat} {x : Nat} (h : (gObj q).map (fun x => x.1) = some x) : q ≠ gSC := by
  intro e
  subst e
  cases h
theorem gRun_mono1 : ∀ (n : Nat) {scr : gScr} {k : Nat} {f : gF} {cnt : Nat} {res : gMu × gRes}, gRun n scr k f cnt = some res → gRun (n + 1) scr k f cnt = some res
  | 0, _, _, _, _, _, h => by cases h
  | n + 1, scr, k, f, cnt, res, h => by
    obtain ⟨r, hr, h1⟩ := gRun_inv h
    have key : ∀ na, gInvP n scr k r f cnt res na → gInvP (n + 1) scr k r f cnt res na := by
      rintro na ⟨c1, c2, c3, c4, c5, μ', x, hx, h2⟩
      refine ⟨c1, c2, c3, c4, c5, μ', x, gRun_mono1 n hx, ?_⟩
      rcases h2 with ⟨v, e, h3⟩ | h3 | ⟨y, i, hh, r2, len, e1, e2, e3, e4, e5, h3⟩
      · exact Or.inl ⟨v, e, gRun_mono1 n h3⟩
      · exact Or.inr (Or.inl h3)
      · exact Or.inr (Or.inr ⟨y, i, hh, r2, len, e1, e2, e3, e4, e5, gRun_mono1 n h3⟩)
    rcases h1 with ⟨f', cs, hs, hcs, h2⟩ | h2 | ⟨i, q, hi, hq, hci, hcv, h2⟩ | ⟨i, hi, h01, h2⟩
    · rw [gRun_plainI hr hs hcs]
      exact gRun_mono1 n h2
    · exact gRun_endI hr h2
    · exact gRun_virtI hr hi hq hci (gObj_sc hci) hcv (key _ h2)
    · exact gRun_statI hr hi h01 (key _ h2)
theorem gRun_mono {n n' : Nat} {scr : gScr} {k : Nat} {f : gF} {cnt : Nat} {res : gMu × gRes} (hn : n ≤ n') (h : gRun n scr k f cnt = some res) : gRun n' scr k f cnt = some res := by
  induction hn with
  | refl => exact h
  | step _ ih => exact gRun_mono1 _ ih
/-- the frame comes to an end with P -/
def gWp (scr : gScr) (k : Nat) (f : gF) (cnt : Nat) (P : gMu → gRes → Prop) : Prop := ∃ n μ' x, gRun n scr k f cnt = some (μ', x) ∧ P μ' x
/-- a call of the method k -/
def gCl' (k : Nat) (as : List Value) (μ : gMu) (P : gMu → gRes → Prop) : Prop := gWp none k (0, gEnt as (mML k), [], μ) 0 P
theorem gWp_imp {scr : gScr} {k : Nat} {f : gF} {cnt : Nat} {P P' : gMu → gRes → Prop} (h : gWp scr k f cnt P) (hp : ∀ μ x, P μ x → P' μ x) : gWp scr k f cnt P' := by
  obtain ⟨n, μ', x, h1, h2⟩ := h
  exact ⟨n, μ', x, h1, hp _ _ h2⟩
def gSts (t : List (Nat × gR)) (scr : gScr) : Nat → gF → gO
  | 0, f => some (f, [])
  | n + 1, f => match gLk t f.1 with
    | none => none
    | some r => match gStp scr r f with
      | none => none
      | some (f', cs) => match gSts t scr n f' with
        | none => none
        | some (f2, cs2) => some (f2, cs ++ cs2)
theorem gAll_app : ∀ (a b : List Prop), gAll (a ++ b) → gAll a ∧ gAll b
  | [], _, h => ⟨trivial, h⟩
  | [p], [], h => ⟨h, trivial⟩
  | [p], q :: r, h => ⟨h.1, h.2⟩
  | p :: q :: r, b, h => by
    have h1 := gAll_app (q :: r) b h.2
    exact ⟨⟨h.1, h1.1⟩, h1.2⟩
theorem gWp_sts {t : List (Nat × gR)} {scr : gScr} {k : Nat} (ht : gCode[k]? = some t) : ∀ (n : Nat) {f f' : gF} {cnt : Nat} {cs : List Prop} {P : gMu → gRes → Prop}, gSts t scr n f = some (f', cs) → gAll cs → gWp scr k f' cnt P → gWp scr k f cnt P
  | 0, f, f', cnt, cs, P, hs, _, h => by
    cases hs
    exact h
  | n + 1, f, f', cnt, cs, P, hs, hc, h => by
    unfold gSts at hs
    split at hs
    · cases hs
    · rename_i r hr
      split at hs
      · cases hs
      · rename_i f1 cs1 h1
        split at hs
        · cases hs
        · rename_i f2 cs2 h2
          cases hs
          obtain ⟨a1, a2⟩ := gAll_app _ _ hc
          obtain ⟨m, μ', x, hm, hp⟩ := gWp_sts ht n h2 a2 h
          have hat : gAt k f.1 = some r := by unfold gAt; rw [ht]; exact hr
          exact ⟨m + 1, μ', x, by rw [gRun_plainI hat h1 a1]; exact hm, hp⟩
/-- a branch on one int -/
theorem gWp_if {t : List (Nat × gR)} {scr : gScr} {k : Nat} (ht : gCode[k]? = some t) {pc len a1 a2 a3 : Nat} {cn : Jvm.ClassFile.Cond} {off : Int} {l : gL} {x : Int32} {st : List Value} {μ : gMu} {cnt : Nat} {cv : Value} {P : gMu → gRes → Prop} (hr : gLk t pc = some (.ifCond cn off, len, (a1, a2, a3), cv))
    (h : (gCond cn x 0 = true → gWp scr k (a1, l, st, μ) cnt P) ∧ (¬ gCond cn x 0 = true → gWp scr k (pc + 3, l, st, μ) cnt P)) : gWp scr k (pc, l, .int x :: st, μ) cnt P := by
  have hat : gAt k pc = some (.ifCond cn off, len, (a1, a2, a3), cv) := by unfold gAt; rw [ht]; exact hr
  by_cases hc : gCond cn x 0 = true
  · obtain ⟨m, μ', y, hm, hp⟩ := h.1 hc
    refine ⟨m + 1, μ', y, ?_, hp⟩
    rw [gRun_plainI (f := (pc, l, .int x :: st, μ)) (f' := (a1, l, st, μ)) (cs := []) hat (by show some ((if gCond cn x 0 = true then a1 else pc + 3, l, st, μ), []) = _; rw [if_pos hc]) trivial]
    exact hm
  · obtain ⟨m, μ', y, hm, hp⟩ := h.2 hc
    refine ⟨m + 1, μ', y, ?_, hp⟩
    rw [gRun_plainI (f := (pc, l, .int x :: st, μ)) (f' := (pc + 3, l, st, μ)) (cs := []) hat (by show some ((if gCond cn x 0 = true then a1 else pc + 3, l, st, μ), []) = _; rw [if_neg hc]) trivial]
    exact hm
theorem gWp_icmp {t : List (Nat × gR)} {scr : gScr} {k : Nat} (ht : gCode[k]? = some t) {pc len a1 a2 a3 : Nat} {cn : Jvm.ClassFile.Cond} {off : Int} {l : gL} {x y : Int32} {st : List Value} {μ : gMu} {cnt : Nat} {cv : Value} {P : gMu → gRes → Prop} (hr : gLk t pc = some (.if_icmp cn off, len, (a1, a2, a3), cv))
    (h : (gCond cn x y = true → gWp scr k (a1, l, st, μ) cnt P) ∧ (¬ gCond cn x y = true → gWp scr k (pc + 3, l, st, μ) cnt P)) : gWp scr k (pc, l, .int y :: .int x :: st, μ) cnt P := by
  have hat : gAt k pc = some (.if_icmp cn off, len, (a1, a2, a3), cv) := by unfold gAt; rw [ht]; exact hr
  by_cases hc : gCond cn x y = true
  · obtain ⟨m, μ', z, hm, hp⟩ := h.1 hc
    refine ⟨m + 1, μ', z, ?_, hp⟩
    rw [gRun_plainI (f := (pc, l, .int y :: .int x :: st, μ)) (f' := (a1, l, st, μ)) (cs := []) hat (by show some ((if gCond cn x y = true then a1 else pc + 3, l, st, μ), []) = _; rw [if_pos hc]) trivial]
    exact hm
  · obtain ⟨m, μ', z, hm, hp⟩ := h.2 hc
    refine ⟨m + 1, μ', z, ?_, hp⟩
    rw [gRun_plainI (f := (pc, l, .int y :: .int x :: st, μ)) (f' := (pc + 3, l, st, μ)) (cs := []) hat (by show some ((if gCond cn x y = true then a1 else pc + 3, l, st, μ), []) = _; rw [if_neg hc]) trivial]
    exact hm
theorem gWp_end {t : List (Nat × gR)} {scr : gScr} {k : Nat} (ht : gCode[k]? = some t) {r : gR} {f : gF} {cnt : Nat} {μ' : gMu} {x : gRes} {P : gMu → gRes → Prop} (hr : gLk t f.1 = some r) (he : gEnd k r f cnt = some (μ', x)) (hp : P μ' x) : gWp scr k f cnt P := by
  have hat : gAt k f.1 = some r := by unfold gAt; rw [ht]; exact hr
  exact ⟨1, μ', x, gRun_endI hat he, hp⟩
theorem gEnd_int {k cnt : Nat} {a : Nat} {b : Nat × Nat × Nat} {cv : Value} {pc : Nat} {l : gL} {x : Int32} {μ : gMu} (h : gRok (mRt k) x) : gEnd k (.ireturn, a, b, cv) (pc, l, [.int x], μ) cnt = some (μ, .inl (some (.int x))) := by
  show gIf (gRok (mRt k) x) (some (μ, (Sum.inl (some (Value.int x)) : gRes))) none = _
  unfold gIf
  exact if_pos h
/-- what a frame owes behind a call: it goes on, or the exception leaves, or it is caught -/
def gAfter (scr : gScr) (k k' pc : Nat) (l : gL) (rest : List Value) (cnt : Nat) (P : gMu → gRes → Prop) : gMu → gRes → Prop := fun μ' x =>
  (∃ v, x = .inl v ∧ gWp scr k (pc + 3, l, v.toList ++ rest, μ') (cnt + mCo k') P) ∨
  (∃ y, x = .inr y ∧ mHh k = [] ∧ P μ' (.inr y)) ∨
  ∃ y i h r2 len, x = .inr y ∧ gHnd k pc y = some i ∧ (mHh k)[i]? = some h ∧ gAt k h.2.2.1 = some r2 ∧ ((∃ n9, r2.1 = .astore_n n9 ∧ len = 1) ∨ (∃ n9, r2.1 = .astore n9 ∧ len = 2)) ∧ gWp scr k (h.2.2.1 + len, (gKill l r2.2.2.1.1).set r2.2.2.1.1 none, [], gBm μ') (cnt + mCo k') P
theorem gInv_of {scr : gScr} {k : Nat} {r : gR} {f : gF} {cnt na : Nat} {as rest : List Value} {P : gMu → gRes → Prop} (has : (f.2.2.1.take na).reverse = as) (hrest : f.2.2.1.drop na = rest) (hlen : as.length = na)
    (hnum : cnt + mCo r.2.2.1.1 ≤ mCo k ∧ (rest.map fun v => v.category).sum ≤ 8 ∧ r.2.2.1.1 < k ∧ (gEnt as (mML r.2.2.1.1)).length ≤ mML r.2.2.1.1)
    (h : gCl' r.2.2.1.1 as f.2.2.2 (gAfter scr k r.2.2.1.1 f.1 f.2.1 rest cnt P)) : ∃ n μ' x, gInvP n scr k r f cnt (μ', x) na ∧ P μ' x := by
  obtain ⟨n1, μ1, x1, h1, h2⟩ := h
  subst has
  subst hrest
  rcases h2 with ⟨v, rfl, n2, μ2, x2, h3, h4⟩ | ⟨y, rfl, hh, hp⟩ | ⟨y, i, hh, r2, len, rfl, e1, e2, e3, e4, n2, μ2, x2, h3, h4⟩
  · exact ⟨max n1 n2, μ2, x2, ⟨hlen, hnum.1, hnum.2.1, hnum.2.2.1, hnum.2.2.2, μ1, _, gRun_mono (Nat.le_max_left _ _) h1, Or.inl ⟨v, rfl, gRun_mono (Nat.le_max_right _ _) h3⟩⟩, h4⟩
  · exact ⟨n1, μ1, _, ⟨hlen, hnum.1, hnum.2.1, hnum.2.2.1, hnum.2.2.2, μ1, _, h1, Or.inr (Or.inl ⟨y, rfl, hh, rfl⟩)⟩, hp⟩
  · exact ⟨max n1 n2, μ2, x2, ⟨hlen, hnum.1, hnum.2.1, hnum.2.2.1, hnum.2.2.2, μ1, _, gRun_mono (Nat.le_max_left _ _) h1, Or.inr (Or.inr ⟨y, i, hh, r2, len, rfl, e1, e2, e3, e4, gRun_mono (Nat.le_max_right _ _) h3⟩)⟩, h4⟩
theorem gWp_stat {t : List (Nat × gR)} {scr : gScr} {k : Nat} (ht : gCode[k]? = some t) {pc i len k' na a3 c01 : Nat} {l : gL} {as rest st : List Value} {μ : gMu} {cnt : Nat} {P : gMu → gRes → Prop} (hr : gLk t pc = some (.invokestatic i, len, (k', na, a3), .int (Int32.ofNat c01))) (h01 : c01 = 0 ∨ c01 = 1)
    (has : (st.take na).reverse = as) (hrest : st.drop na = rest) (hlen : as.length = na) (hnum : cnt + mCo k' ≤ mCo k ∧ (rest.map fun v => v.category).sum ≤ 8 ∧ k' < k ∧ (gEnt as (mML k')).length ≤ mML k')
    (h : gCl' k' as μ (gAfter scr k k' pc l rest cnt P)) : gWp scr k (pc, l, st, μ) cnt P := by
  have hat : gAt k pc = some (.invokestatic i, len, (k', na, a3), .int (Int32.ofNat c01)) := by unfold gAt; rw [ht]; exact hr
  obtain ⟨n, μ', x, h1, h2⟩ := gInv_of (r := (.invokestatic i, len, (k', na, a3), .int (Int32.ofNat c01))) (f := (pc, l, st, μ)) has hrest hlen hnum h
  exact ⟨n + 1, μ', x, gRun_statI (i := i) (f := (pc, l, st, μ)) hat rfl (by rcases h01 with rfl | rfl; exact Or.inl rfl; exact Or.inr rfl) h1, h2⟩
theorem gWp_virt {t : List (Nat × gR)} {scr : gScr} {k : Nat} (ht : gCode[k]? = some t) {pc i len k' np a3 q : Nat} {l : gL} {as rest st : List Value} {μ : gMu} {cnt : Nat} {P : gMu → gRes → Prop} (hr : gLk t pc = some (.invokevirtual i, len, (k', np, a3), .int 0)) (hq : (st.drop np).head? = some (.ref q)) (hci : (gObj q).map (fun x => x.1) = some (mCi k'))
    (has : (st.take (np + 1)).reverse = as) (hrest : st.drop (np + 1) = rest) (hlen : as.length = np + 1) (hnum : cnt + mCo k' ≤ mCo k ∧ (rest.map fun v => v.category).sum ≤ 8 ∧ k' < k ∧ (gEnt as (mML k')).length ≤ mML k')
    (h : gCl' k' as μ (gAfter scr k k' pc l rest cnt P)) : gWp scr k (pc, l, st, μ) cnt P := by
  have hat : gAt k pc = some (.invokevirtual i, len, (k', np, a3), .int 0) := by unfold gAt; rw [ht]; exact hr
  obtain ⟨n, μ', x, h1, h2⟩ := gInv_of (r := (.invokevirtual i, len, (k', np, a3), .int 0)) (f := (pc, l, st, μ)) has hrest hlen hnum h
  exact ⟨n + 1, μ', x, gRun_virtI (i := i) (q := q) (f := (pc, l, st, μ)) hat rfl hq hci (gObj_sc hci) rfl h1, h2⟩
