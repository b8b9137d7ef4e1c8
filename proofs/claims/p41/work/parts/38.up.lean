/-! MORE KNOWN LOCALS DO NO HARM: a run with an unknown local is one with any value there -/
def gUp (l l' : gL) : Prop := l'.length = l.length ∧ ∀ (i : Nat) (v : Value), l[i]? = some (some v) → l'[i]? = some (some v)
theorem gUp.rf (l : gL) : gUp l l := ⟨rfl, fun _ _ h => h⟩
theorem gKill_len (l : gL) (i : Nat) : (gKill l i).length = l.length := by
  unfold gKill
  split
  · rfl
  · split
    · split
      · rw [List.length_set]
      · rfl
    · rfl
theorem gUp.kill {l l' : gL} (h : gUp l l') (i : Nat) : gUp (gKill l i) (gKill l' i) := by
  refine ⟨by rw [gKill_len, gKill_len, h.1], fun j w hj => ?_⟩
  obtain ⟨h1, h2⟩ := gKill_get hj
  have h3 := h.2 j w h1
  unfold gKill
  split
  · exact h3
  · rename_i k
    split
    · rename_i v hv
      split
      · rename_i hc
        by_cases hjk : j = k
        · subst hjk
          rw [h3] at hv
          cases hv
          exact absurd ⟨rfl, hc⟩ h2
        · rw [List.getElem?_set_ne (Ne.symm hjk)]
          exact h3
      · exact h3
    · exact h3
theorem gUp.set {l l' : gL} (h : gUp l l') (i : Nat) (x : Option Value) : gUp (l.set i x) (l'.set i x) := by
  refine ⟨by rw [List.length_set, List.length_set, h.1], fun j w hj => ?_⟩
  by_cases hji : j = i
  · subst hji
    have hl : j < l.length := by
      have := (List.getElem?_eq_some_iff.mp hj).1
      rwa [List.length_set] at this
    rw [List.getElem?_set_self hl] at hj
    rw [List.getElem?_set_self (by rw [h.1]; exact hl)]
    exact hj
  · rw [List.getElem?_set_ne (Ne.symm hji)] at hj ⊢
    exact h.2 j w hj
theorem gUp.s1 {l l' : gL} (h : gUp l l') (i : Nat) (v : Value) : gUp (gSt1 l i v) (gSt1 l' i v) := (h.kill i).set i (some v)
theorem gUp.s2 {l l' : gL} (h : gUp l l') (i : Nat) (v : Value) : gUp (gSt2 l i v) (gSt2 l' i v) := ((h.kill i).set i (some v)).set (i + 1) none
/-- the step with other locals -/
def gUpS (o : gO) (l' : gL) (o' : gO) : Prop := ∀ f1 cs, o = some (f1, cs) → ∃ l2, o' = some ((f1.1, l2, f1.2.2), cs) ∧ gUp f1.2.1 l2
theorem gUpS.push {pc len : Nat} {l l' : gL} {st : List Value} {μ : gMu} (h : gUp l l') (v : Value) : gUpS (gPush (pc, l, st, μ) len v) l' (gPush (pc, l', st, μ) len v) := by
  intro f1 cs hs
  cases hs
  exact ⟨l', rfl, h⟩
theorem gUpS.no {l' : gL} {o' : gO} : gUpS none l' o' := fun _ _ h => by cases h
theorem gUpS.ldI {pc len i : Nat} {l l' : gL} {st : List Value} {μ : gMu} (h : gUp l l') : gUpS (gLdI (pc, l, st, μ) len i) l' (gLdI (pc, l', st, μ) len i) := by
  unfold gLdI
  dsimp only
  split
  · rename_i x hx
    rw [h.2 _ _ hx]
    exact gUpS.push h _
  · exact gUpS.no
theorem gUpS.ldJ {pc len i : Nat} {l l' : gL} {st : List Value} {μ : gMu} (h : gUp l l') : gUpS (gLdJ (pc, l, st, μ) len i) l' (gLdJ (pc, l', st, μ) len i) := by
  unfold gLdJ
  dsimp only
  split
  · rename_i x hx
    rw [h.2 _ _ hx]
    exact gUpS.push h _
  · exact gUpS.no
theorem gUpS.ldF {pc len i : Nat} {l l' : gL} {st : List Value} {μ : gMu} (h : gUp l l') : gUpS (gLdF (pc, l, st, μ) len i) l' (gLdF (pc, l', st, μ) len i) := by
  unfold gLdF
  dsimp only
  split
  · rename_i x hx
    rw [h.2 _ _ hx]
    exact gUpS.push h _
  · exact gUpS.no
theorem gUpS.ldD {pc len i : Nat} {l l' : gL} {st : List Value} {μ : gMu} (h : gUp l l') : gUpS (gLdD (pc, l, st, μ) len i) l' (gLdD (pc, l', st, μ) len i) := by
  unfold gLdD
  dsimp only
  split
  · rename_i x hx
    rw [h.2 _ _ hx]
    exact gUpS.push h _
  · exact gUpS.no
theorem gUpS.ldA {pc len i : Nat} {l l' : gL} {st : List Value} {μ : gMu} (h : gUp l l') : gUpS (gLdA (pc, l, st, μ) len i) l' (gLdA (pc, l', st, μ) len i) := by
  unfold gLdA
  dsimp only
  split
  · rename_i x hx
    rw [h.2 _ _ hx]
    exact gUpS.push h _
  · exact gUpS.no
theorem gUpS.sto {pc len i : Nat} {l l' : gL} {st : List Value} {μ : gMu} (h : gUp l l') : gUpS (gSto (pc, l, st, μ) len i) l' (gSto (pc, l', st, μ) len i) := by
  intro f1 cs hs
  rcases st with _ | ⟨v, st⟩
  · cases hs
  · cases v <;> first | (cases hs; exact ⟨_, rfl, h.s1 _ _⟩) | (cases hs; exact ⟨_, rfl, h.s2 _ _⟩) | cases hs
/-- a step that leaves the locals alone, whatever they are -/
theorem gUpS.same {pc : Nat} {l l' : gL} {st : List Value} {μ : gMu} {F : gF → gO} (h : gUp l l') (hF : ∀ f1 cs, F (pc, l, st, μ) = some (f1, cs) → f1.2.1 = l ∧ F (pc, l', st, μ) = some ((f1.1, l', f1.2.2), cs)) : gUpS (F (pc, l, st, μ)) l' (F (pc, l', st, μ)) := by
  intro f1 cs hs
  obtain ⟨h1, h2⟩ := hF f1 cs hs
  exact ⟨l', h2, by rw [h1]; exact h⟩
theorem gStp_up {scr : gScr} {r : gR} {pc : Nat} {l l' : gL} {st : List Value} {μ : gMu} (h : gUp l l') : gUpS (gStp scr r (pc, l, st, μ)) l' (gStp scr r (pc, l', st, μ)) := by
  have hII : ∀ g, gUpS (gII (pc, l, st, μ) g) l' (gII (pc, l', st, μ) g) := fun g => gUpS.same (F := fun f => gII f g) h (fun f1 cs hs => by
    obtain ⟨_, _, x, y, r, _, e1, e2, e3⟩ := gII_inv hs
    cases e1; subst e2; subst e3; exact ⟨rfl, rfl⟩)
  have hJJ : ∀ g, gUpS (gJJ (pc, l, st, μ) g) l' (gJJ (pc, l', st, μ) g) := fun g => gUpS.same (F := fun f => gJJ f g) h (fun f1 cs hs => by
    obtain ⟨_, _, x, y, r, _, e1, e2, e3⟩ := gJJ_inv hs
    cases e1; subst e2; subst e3; exact ⟨rfl, rfl⟩)
  have hI1 : ∀ g, gUpS (gI1 (pc, l, st, μ) g) l' (gI1 (pc, l', st, μ) g) := fun g => gUpS.same (F := fun f => gI1 f g) h (fun f1 cs hs => by
    rcases st with _ | ⟨v, st⟩
    · cases hs
    · cases v <;> first | (cases hs; exact ⟨rfl, rfl⟩) | cases hs)
  have hJ1 : ∀ g, gUpS (gJ1 (pc, l, st, μ) g) l' (gJ1 (pc, l', st, μ) g) := fun g => gUpS.same (F := fun f => gJ1 f g) h (fun f1 cs hs => by
    rcases st with _ | ⟨v, st⟩
    · cases hs
    · cases v <;> first | (cases hs; exact ⟨rfl, rfl⟩) | cases hs)
  have hALd : ∀ s t, gUpS (gALd s t (pc, l, st, μ)) l' (gALd s t (pc, l', st, μ)) := fun s t => gUpS.same (F := gALd s t) h (fun f1 cs hs => by
    unfold gALd at hs ⊢
    split at hs
    · rename_i heq
      cases heq
      dsimp only
      split at hs
      · rename_i hq
        rw [if_pos hq]
        split at hs
        · cases hs; exact ⟨rfl, rfl⟩
        · cases hs
      · rename_i hq
        rw [if_neg hq]
        split at hs
        · rename_i hn
          try rw [hn]
          try dsimp only
          split at hs
          · rename_i ht
            cases hs
            exact ⟨rfl, if_pos ht⟩
          · cases hs
        · cases hs
    · cases hs)
  have hALen : ∀ s, gUpS (gALen s (pc, l, st, μ)) l' (gALen s (pc, l', st, μ)) := fun s => gUpS.same (F := gALen s) h (fun f1 cs hs => by
    unfold gALen at hs ⊢
    split at hs
    · rename_i heq
      cases heq
      dsimp only
      split at hs
      · rename_i hq
        rw [if_pos hq]
        split at hs
        · cases hs; exact ⟨rfl, rfl⟩
        · cases hs
      · rename_i hq
        rw [if_neg hq]
        split at hs
        · rename_i hn
          try rw [hn]
          cases hs
          exact ⟨rfl, rfl⟩
        · cases hs
    · cases hs)
  have hIst : ∀ t g, gUpS (gIst t g (pc, l, st, μ)) l' (gIst t g (pc, l', st, μ)) := fun t g => gUpS.same (F := gIst t g) h (fun f1 cs hs => by
    unfold gIst at hs ⊢
    split at hs
    · rename_i heq
      cases heq
      dsimp only
      split at hs
      · cases hs
      · rename_i hq
        rw [if_neg hq]
        split at hs
        · rename_i hn
          try rw [hn]
          try dsimp only
          split at hs
          · rename_i ht
            cases hs
            exact ⟨rfl, if_pos ht⟩
          · cases hs
        · cases hs
    · cases hs)
  have hJst : gUpS (gJst (pc, l, st, μ)) l' (gJst (pc, l', st, μ)) := gUpS.same (F := gJst) h (fun f1 cs hs => by
    unfold gJst at hs ⊢
    split at hs
    · rename_i heq
      cases heq
      dsimp only
      split at hs
      · cases hs
      · rename_i hq
        rw [if_neg hq]
        split at hs
        · rename_i hn
          try rw [hn]
          try dsimp only
          split at hs
          · rename_i ht
            cases hs
            exact ⟨rfl, if_pos ht⟩
          · cases hs
        · cases hs
    · cases hs)
  have hDst : gUpS (gDst (pc, l, st, μ)) l' (gDst (pc, l', st, μ)) := gUpS.same (F := gDst) h (fun f1 cs hs => by
    unfold gDst at hs ⊢
    split at hs
    · rename_i heq
      cases heq
      dsimp only
      split at hs
      · cases hs
      · rename_i hq
        rw [if_neg hq]
        split at hs
        · rename_i hn
          try rw [hn]
          try dsimp only
          split at hs
          · rename_i ht
            cases hs
            exact ⟨rfl, if_pos ht⟩
          · cases hs
        · cases hs
    · cases hs)
  have hGet : ∀ a b, gUpS (gGet a b (pc, l, st, μ)) l' (gGet a b (pc, l', st, μ)) := fun a b => gUpS.same (F := gGet a b) h (fun f1 cs hs => by
    unfold gGet at hs ⊢
    split at hs
    · rename_i heq
      cases heq
      dsimp only
      split at hs
      · cases hs
      · rename_i hq
        rw [if_neg hq]
        split at hs
        · rename_i hn
          try rw [hn]
          try dsimp only
          split at hs
          · rename_i ht
            rw [if_pos ht]
            split at hs
            · rename_i hk
              try rw [hk]
              cases hs
              exact ⟨rfl, rfl⟩
            · cases hs
          · cases hs
        · cases hs
    · cases hs)
  have hPut : ∀ a b, gUpS (gPut a b (pc, l, st, μ)) l' (gPut a b (pc, l', st, μ)) := fun a b => gUpS.same (F := gPut a b) h (fun f1 cs hs => by
    unfold gPut at hs ⊢
    split at hs
    · rename_i heq
      cases heq
      dsimp only
      split at hs
      · cases hs
      · rename_i hq
        rw [if_neg hq]
        split at hs
        · rename_i hn
          try rw [hn]
          try dsimp only
          split at hs
          · rename_i ht
            rw [if_pos ht]
            split at hs
            · rename_i hk
              try rw [hk]
              cases hs
              exact ⟨rfl, rfl⟩
            · rename_i hk
              try rw [hk]
              cases hs
              exact ⟨rfl, rfl⟩
            · cases hs
          · cases hs
        · cases hs
    · rename_i heq
      cases heq
      dsimp only
      split at hs
      · cases hs
      · rename_i hq
        rw [if_neg hq]
        split at hs
        · rename_i hn
          try rw [hn]
          try dsimp only
          split at hs
          · rename_i ht
            rw [if_pos ht]
            split at hs
            · rename_i hk
              try rw [hk]
              cases hs
              exact ⟨rfl, rfl⟩
            · cases hs
          · cases hs
        · cases hs
    · cases hs)
  have hMath : ∀ v, gUpS (gMath v (pc, l, st, μ)) l' (gMath v (pc, l', st, μ)) := fun v => gUpS.same (F := gMath v) h (fun f1 cs hs => by
    unfold gMath at hs ⊢
    split at hs <;> first | (rename_i heq; cases heq; cases hs; exact ⟨rfl, rfl⟩) | cases hs)
  have hAtS : gUpS (gAtS scr (pc, l, st, μ)) l' (gAtS scr (pc, l', st, μ)) := gUpS.same (F := gAtS scr) h (fun f1 cs hs => by
    unfold gAtS at hs ⊢
    split at hs
    · rename_i heq
      cases heq
      dsimp only
      split at hs
      · rename_i hq
        rw [if_pos hq]
        cases hs
        exact ⟨rfl, rfl⟩
      · cases hs
    · cases hs)
  have hStM : ∀ n v, gUpS (gStM scr n v (pc, l, st, μ)) l' (gStM scr n v (pc, l', st, μ)) := fun n v => gUpS.same (F := gStM scr n v) h (fun f1 cs hs => by
    unfold gStM at hs ⊢
    split at hs
    · rename_i heq
      cases heq
      split at hs
      · rename_i hq
        subst hq
        cases hs
        exact ⟨rfl, rfl⟩
      · cases hs
    · rename_i heq
      cases heq
      split at hs
      · rename_i hq
        subst hq
        cases hs
        exact ⟨rfl, rfl⟩
      · cases hs
    · cases hs)
  obtain ⟨ins, len, ⟨a1, a2, a3⟩, cv⟩ := r
  cases ins
  case iinc i c =>
    intro f1 cs hs
    unfold gStp at hs ⊢
    dsimp only at hs ⊢
    split at hs
    · rename_i h1 h2
      first
        | rw [h.2 _ _ h1]
        | rw [h.2 _ _ h2]
      cases hs
      exact ⟨_, rfl, h.s1 _ _⟩
    · cases hs
  case getfield i => exact hGet _ _
  case putfield i => exact hPut _ _
  case invokestatic i =>
    by_cases h8 : cv = .int 8
    · subst h8
      exact hAtS
    · have e : ∀ f, gStp scr (.invokestatic i, len, (a1, a2, a3), cv) f = gMath cv f := fun f => by
        unfold gStp
        dsimp only
        split
        · exact absurd rfl h8
        · rfl
      rw [e, e]
      exact hMath _
  case invokevirtual i => exact hStM _ _
  case arraylength => exact hALen _
  case iaload => exact hALd _ _
  case caload => exact hALd none 1
  case baload => exact hALd none 2
  case laload => exact hALd none 3
  case iastore => exact hIst _ _
  case castore => exact hIst _ _
  case bastore => exact hIst _ _
  case lastore => exact hJst
  case iload_n i => exact gUpS.ldI h
  case iload i => exact gUpS.ldI h
  case lload_n i => exact gUpS.ldJ h
  case lload i => exact gUpS.ldJ h
  case fload i => exact gUpS.ldF h
  case dload i => exact gUpS.ldD h
  case aload_n i => exact gUpS.ldA h
  case aload i => exact gUpS.ldA h
  case goto i => intro f1 cs hs; cases hs; exact ⟨l', rfl, h⟩
  case tableswitch d lo hi offs =>
    refine gUpS.same (F := gStp scr (.tableswitch d lo hi offs, len, (a1, a2, a3), cv)) h (fun f1 cs hs => ?_)
    unfold gStp at hs ⊢
    dsimp only at hs ⊢
    rcases st with _ | ⟨v, st⟩
    · cases hs
    · cases v
      case int x =>
        dsimp only at hs ⊢
        split at hs
        · rename_i ho
          try rw [ho]
          cases hs
          exact ⟨rfl, rfl⟩
        · cases hs
      all_goals cases hs
  case istore_n i =>
    rcases st with _ | ⟨v, st⟩
    · exact gUpS.no
    · cases v <;> first | exact gUpS.no | exact gUpS.sto (pc := pc) (μ := μ) (st := Value.int _ :: st) (len := 1) (i := a1) h
  case istore i =>
    rcases st with _ | ⟨v, st⟩
    · exact gUpS.no
    · cases v <;> first | exact gUpS.no | exact gUpS.sto (pc := pc) (μ := μ) (st := Value.int _ :: st) (len := 2) (i := a1) h
  case lstore_n i =>
    rcases st with _ | ⟨v, st⟩
    · exact gUpS.no
    · cases v <;> first | exact gUpS.no | exact gUpS.sto (pc := pc) (μ := μ) (st := Value.long _ :: st) (len := 1) (i := a1) h
  case lstore i =>
    rcases st with _ | ⟨v, st⟩
    · exact gUpS.no
    · cases v <;> first | exact gUpS.no | exact gUpS.sto (pc := pc) (μ := μ) (st := Value.long _ :: st) (len := 2) (i := a1) h
  case fstore i =>
    rcases st with _ | ⟨v, st⟩
    · exact gUpS.no
    · cases v <;> first | exact gUpS.no | exact gUpS.sto (pc := pc) (μ := μ) (st := Value.float _ :: st) (len := 2) (i := a1) h
  case dstore i =>
    rcases st with _ | ⟨v, st⟩
    · exact gUpS.no
    · cases v <;> first | exact gUpS.no | exact gUpS.sto (pc := pc) (μ := μ) (st := Value.double _ :: st) (len := 2) (i := a1) h
  case astore_n i =>
    rcases st with _ | ⟨v, st⟩
    · exact gUpS.no
    · cases v <;> first | exact gUpS.no | exact gUpS.sto (pc := pc) (μ := μ) (st := Value.ref _ :: st) (len := 1) (i := a1) h
  case astore i =>
    rcases st with _ | ⟨v, st⟩
    · exact gUpS.no
    · cases v <;> first | exact gUpS.no | exact gUpS.sto (pc := pc) (μ := μ) (st := Value.ref _ :: st) (len := 2) (i := a1) h
  case ldc i =>
    cases cv
    case int v => exact gUpS.push (len := 2) h _
    case ref q =>
      cases scr with
      | none => exact gUpS.no
      | some sc =>
        show gUpS (if q = 1002 then gPush (pc, l, st, μ) 2 (.ref q) else none) l' (if q = 1002 then gPush (pc, l', st, μ) 2 (.ref q) else none)
        split
        · exact gUpS.push (len := 2) h _
        · exact gUpS.no
    all_goals exact gUpS.no
  case ldc_w i => cases cv <;> first | exact gUpS.no | exact gUpS.push (len := 3) h _
  case ldc2_w i => cases cv <;> first | exact gUpS.no | exact gUpS.push (len := 3) h _
  all_goals first
    | exact hII _
    | exact hJJ _
    | exact hI1 _
    | exact hJ1 _
    | exact gUpS.push h _
    | exact gUpS.no
    | (rcases st with _ | ⟨v, st⟩
       · exact gUpS.no
       · cases v <;> first | exact gUpS.sto h | exact gUpS.no)
    | (rcases st with _ | ⟨v, _ | ⟨w, st⟩⟩
       · exact gUpS.no
       · first | exact gUpS.no | (intro f1 cs hs; cases hs; exact ⟨l', rfl, h⟩) | (cases v <;> first | exact gUpS.no | (intro f1 cs hs; cases hs; exact ⟨l', rfl, h⟩))
       · first | exact gUpS.no | (intro f1 cs hs; cases hs; exact ⟨l', rfl, h⟩) | (cases v <;> first | exact gUpS.no | (intro f1 cs hs; cases hs; exact ⟨l', rfl, h⟩) | (cases w <;> first | exact gUpS.no | (intro f1 cs hs; cases hs; exact ⟨l', rfl, h⟩))))
    | (cases cv <;> first | exact gUpS.no | exact gUpS.push h _)
theorem gEnd_up {k : Nat} {r : gR} {pc cnt : Nat} {l l' : gL} {st : List Value} {μ : gMu} : gEnd k r (pc, l', st, μ) cnt = gEnd k r (pc, l, st, μ) cnt := rfl
theorem gRun_up : ∀ (n : Nat) {scr : gScr} {k pc : Nat} {l l' : gL} {st : List Value} {μ : gMu} {cnt : Nat} {res : gMu × gRes}, gUp l l' → gRun n scr k (pc, l, st, μ) cnt = some res → gRun n scr k (pc, l', st, μ) cnt = some res
  | 0, _, _, _, _, _, _, _, _, _, _, h => by cases h
  | n + 1, scr, k, pc, l, l', st, μ, cnt, res, hu, h => by
    obtain ⟨r, hr, h1⟩ := gRun_inv h
    have key : ∀ na, gInvP n scr k r (pc, l, st, μ) cnt res na → gInvP n scr k r (pc, l', st, μ) cnt res na := by
      rintro na ⟨c1, c2, c3, c4, c5, μ', x, hx, h2⟩
      refine ⟨c1, c2, c3, c4, c5, μ', x, hx, ?_⟩
      rcases h2 with ⟨v, e, h3⟩ | h3 | ⟨y, i, hh, r2, len, e1, e2, e3, e4, e5, h3⟩
      · exact Or.inl ⟨v, e, gRun_up n hu h3⟩
      · exact Or.inr (Or.inl h3)
      · exact Or.inr (Or.inr ⟨y, i, hh, r2, len, e1, e2, e3, e4, e5, gRun_up n ((hu.kill _).set _ _) h3⟩)
    rcases h1 with ⟨f', cs, hs, hcs, h2⟩ | h2 | ⟨i, q, hi, hq, hci, hcv, h2⟩ | ⟨i, hi, h01, h2⟩
    · obtain ⟨l2, hs2, hu2⟩ := gStp_up hu f' cs hs
      rw [gRun_plainI (f := (pc, l', st, μ)) hr hs2 hcs]
      exact gRun_up n hu2 h2
    · exact gRun_endI (f := (pc, l', st, μ)) hr h2
    · exact gRun_virtI (f := (pc, l', st, μ)) hr hi hq hci (gObj_sc hci) hcv (key _ h2)
    · exact gRun_statI (f := (pc, l', st, μ)) hr hi h01 (key _ h2)
theorem gWp_up {scr : gScr} {k pc : Nat} {l l' : gL} {st : List Value} {μ : gMu} {cnt : Nat} {P : gMu → gRes → Prop} (h : gWp scr k (pc, l, st, μ) cnt P) (hu : gUp l l') : gWp scr k (pc, l', st, μ) cnt P := by
  obtain ⟨n, μ', x, h1, h2⟩ := h
  exact ⟨n, μ', x, gRun_up n hu h1, h2⟩
theorem gUp.nil : gUp [] [] := gUp.rf []
theorem gUp.cn {l l' : gL} {x : Option Value} (h : gUp l l') : gUp (none :: l) (x :: l') := by
  refine ⟨by rw [List.length_cons, List.length_cons, h.1], fun i v hi => ?_⟩
  cases i with
  | zero => cases hi
  | succ i => exact h.2 i v hi
theorem gUp.cs {l l' : gL} {x : Option Value} (h : gUp l l') : gUp (x :: l) (x :: l') := by
  refine ⟨by rw [List.length_cons, List.length_cons, h.1], fun i v hi => ?_⟩
  cases i with
  | zero => exact hi
  | succ i => exact h.2 i v hi
