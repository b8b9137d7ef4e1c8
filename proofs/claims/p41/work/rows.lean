section
/-! ===== BEGIN words of one list among another's, by their places ===== -/
theorem goodIn_r {big : List Cond} (ws : List Cond) (ps : List Nat) (hp : ws = ps.filterMap (fun i => big[i]?)) (h : ws.all goodWord = true) : GoodIn big ws := by
  intro w hw
  have h1 := List.all_eq_true.mp h w hw
  rw [hp] at hw
  obtain ⟨i, -, hi⟩ := List.mem_filterMap.mp hw
  have hm : w ∈ big := by first | exact List.mem_of_getElem? hi | exact List.getElem?_mem hi
  exact ⟨hm, good_of_word h1⟩
theorem goodIn_app {big a b : List Cond} (ha : GoodIn big a) (hb : GoodIn big b) : GoodIn big (a ++ b) := fun w h => (List.mem_append.mp h).elim (ha w) (hb w)
theorem goodIn_ca {big a b : List Cond} {c : Cond} (ha : GoodIn big (c :: a)) (hb : GoodIn big b) : GoodIn big (c :: (a ++ b)) := fun w h => (List.mem_cons.mp h).elim (fun e => ha w (List.mem_cons.mpr (Or.inl e))) (fun h => (List.mem_append.mp h).elim (fun h => ha w (List.mem_cons.mpr (Or.inr h))) (hb w))
theorem goodIn_sub {big ws : List Cond} (hm : ∀ w ∈ ws, w ∈ big) (h : ws.all goodWord = true) : GoodIn big ws := fun w hw => ⟨hm w hw, good_of_word (List.all_eq_true.mp h w hw)⟩
/-! ===== END ===== -/

/-! ===== BEGIN exceptions that leave a method, and their catching by the caller (launches without stack traces) ===== -/
section VXA
/-! The laws vx_back, vx_callV, vx_callS, vx_callSW, vx_throw0, vx_throwS follow proofs of the library, with one case more: JvmDerived/Free/Laws.lean (Back.of_free), Shelf42/LK1.lean (callV, callS), Shelf/KitTraced.lean (throwNew0V, throwNewS). -/
/-- where a method has thrown q: the class by its name, the cell, what was written, the world -/
def vx_T (XC : String → State → State → Prop) (st : State) (q : Addr) (t : State) (mc ms : Nat) (free : Addr → Prop) : Prop :=
  ∃ (E : String) (ce : Cell) (L : List Loc), XC E st t ∧ t.heap[q]? = some ce ∧ ce.vm = .none ∧ st.vm.findClass E = some ce.cls ∧ st.WarmedH t.vm ∧ st.sameButNew ({ t with vm := st.vm } : State) L mc ms ∧ ∀ z ∈ L, free z.base
def vx_Q (Qc : Array Value → State → Outcome → State → Prop) (XC : String → State → State → Prop) (mc ms : Nat) (free : Addr → Prop) : Array Value → State → Outcome → State → Prop := fun a st o t =>
  (Qc a st o t ∧ ∃ L, FrameEnd st o t L mc ms ∧ ∀ q ∈ L, free q.base) ∨ ∃ q, o = .threw q ∧ vx_T XC st q t mc ms free
/-- a callee that returns or throws -/
def vx_Met (l : Launch) (y : MethodName) (ws : List Cond) (rm : Room) (Pc : Array Value → State → Prop) (Qc : Array Value → State → Outcome → State → Prop) (XC : String → State → State → Prop) (mc ms : Nat) (free : Addr → Prop) : Prop :=
  MetFree l y (headSpec ws rm) Pc (fun _ _ _ _ _ => True) (vx_Q Qc XC mc ms free)
def vx_Post (XC : String → State → State → Prop) (mc ms : Nat) (free : Addr → Prop) : Pt → Array Value → Addr → Pt → Prop := fun A a q B =>
  ∃ (g : JFrame) (mk : MethodId) (t : State) (L : List Loc) (E : String) (ce : Cell), B.U.heap = t.heap ∧ B.U.vm = t.vm ∧ XC E (A.U.calling g mk a) t ∧ t.heap[q]? = some ce ∧ ce.vm = .none ∧ A.U.vm.findClass E = some ce.cls ∧ B.locs = A.locs ++ L ∧ (∀ z ∈ L, free z.base) ∧ B.cells = A.cells + mc ∧ B.slots = A.slots + ms
def vx_Back (l : Launch) (R : Room) (p : Program) (e : Env) (below : List Frame) (s : State) (sargs : Array Value) (y : MethodName) (len W9 : Nat)
    (Pre : Pt → Array Value → Prop) (Post : Pt → Array Value → Option Value → Pt → Prop) (PostX : Pt → Array Value → Addr → Pt → Prop) : Prop :=
  ∀ (m : MethodId) (meth : Method) (c : Code) (A : Pt) (g : JFrame) (ig : Instr) (mk : MethodId) (a : Array Value),
    Stand p l e R s m sargs below meth c A.U A.locs A.cells A.slots → g.method = m → g.locals.size = c.maxLocals → decode c.code g.pc = .ok (ig, len) →
    2 * g.monitorRoom + (g.stack.map fun v => v.category).sum ≤ W9 → A.U.methodNamed? y = some mk → Pre A a →
    (∃ (v : Option Value) (B : Pt), Stand p l e R s m sargs below meth c B.U B.locs B.cells B.slots ∧ Post A a v B ∧
      Steps p.tables e below (doInvoke e (A.U.setTop g) [] mk a).1 (B.U.setTop { g with pc := g.pc + len, stack := v.toList ++ g.stack })) ∨
    (∃ (q : Addr) (B : Pt), Stand p l e R s m sargs below meth c B.U B.locs B.cells B.slots ∧ PostX A a q B ∧
      Steps p.tables e below (doInvoke e (A.U.setTop g) [] mk a).1 ((B.U.setTop g).pushFrame (.throwing q)))
section Payer
variable {l : Launch} {R : Room} {p : Program} {e : Env} {below : List Frame} {s : State} {sargs : Array Value} {y : MethodName} {len W9 : Nat}
theorem vx_back {ws : List Cond} {rm : Room} {Pc : Array Value → State → Prop} {Qc : Array Value → State → Outcome → State → Prop} {XC : String → State → State → Prop} {mc ms : Nat} {free : Addr → Prop} {bytes : ByteArray} {maxL : Nat} {ret : Option FieldType}
    (hM : vx_Met l y ws rm Pc Qc XC mc ms free) (hblind : FrameBlind Pc) (hrc : rm.cells = mc) (hrs : rm.slots = ms)
    (hframes : rm.frames + 1 ≤ R.frames) (hlocals : W9 + (maxL + 11) + rm.locals ≤ R.locals)
    (hws : ∀ w ∈ ws, ∀ a' U, s.WarmedH U.vm → w.before a' U = true) (hcode : Cond.code y bytes maxL ret ∈ ws) (hinit : ∀ a' U, s.WarmedH U.vm → (Cond.initialized y.cls).before a' U = true) :
    vx_Back l R p e below s sargs y len W9 (PreOf R mc ms Pc) (PostOf Qc mc ms free) (vx_Post XC mc ms free) := by
  intro m meth c A g ig mk a X hg hsize hdg hW hn hp
  have h1 : (headSpec ws rm).pre.before a A.U = true := atoms_intro fun w hw => hws w hw _ _ X.warmed
  have h2 : (Cond.code y bytes maxL ret).before a A.U = true := hws _ hcode _ _ X.warmed
  have h3 : (Cond.initialized y.cls).before a A.U = true := hinit _ _ X.warmed
  have h4 : A.cells + (headSpec ws rm).room.cells ≤ R.cells := by rw [show (headSpec ws rm).room.cells = mc from hrc]; exact hp.1
  have h5 : A.slots + (headSpec ws rm).room.slots ≤ R.slots := by rw [show (headSpec ws rm).room.slots = ms from hrs]; exact hp.2.1
  have hPc : Pc a (A.U.calling g mk a) := hblind _ _ _ _ hp.2.2
  obtain ⟨U, Ls, c0, s0⟩ := A
  dsimp only [Pt.U, Pt.locs, Pt.cells, Pt.slots] at h1 h2 h3 h4 h5 X hn hPc ⊢
  obtain ⟨methY, cY, hmY, hcY, -, hlY, -, -, -, -⟩ := Cond.code_spec hn h2
  obtain ⟨kY, hkY, -⟩ := className_of_methodNamed hn
  have hinitY : kY.init = .initialized := Cond.initialized_spec (findClass_of_methodNamed hn) hkY h3
  have h : At U g.method c below := by rw [hg]; exact X.here
  have hlocals9 : W9 + (maxL + 11) + (headSpec ws rm).room.locals ≤ R.locals := hlocals
  have happ : (headSpec ws rm).appliesLoose y e.platform (U.calling g mk a) = true :=
    Spec.appliesLoose_calling (g := g) h hdg hn hkY hinitY
      (X.room_calling (g := g) (R' := (headSpec ws rm).room) hsize hmY hcY hframes (by rw [hlY]; omega) h4 h5) h1
  obtain ⟨mid, hmid⟩ := h.above
  have hfr : (U.setTop g).frames = (.java g :: mid) ++ below := by rw [State.frames_setTop' g h.top, hmid]; rfl
  obtain ⟨o, s₂, hsteps, -, hend, hq⟩ := Steps.callFree hM p X.admits X.cas X.clock (acts := []) hfr happ hPc trivial
  have hq' : vx_Q Qc XC mc ms free a (U.calling g mk a) o s₂ := hq
  rw [State.frames_setTop' g h.top] at hend
  obtain ⟨g₀, hg0⟩ := Option.isSome_iff_exists.mp h.top
  obtain ⟨r, hr⟩ := State.topJava?_eq_some.mp hg0
  have hr' : (({ U with heap := s₂.heap, slotsUsed := s₂.slotsUsed } : State).setVm s₂.vm).frames = .java g₀ :: r := hr
  rcases hq' with ⟨hqc, L, hfe, hL⟩ | ⟨q, rfl, E, ce, L, hx, hce, hcv, hcl, hW₂, hsm, hL⟩
  · obtain ⟨⟨v, rfl⟩, hW₂, e2, q2, q3, q4, q5, q6⟩ := id hfe
    have e3 : s₂ = ({ (U.calling g mk a).setFrames s₂.frames with heap := s₂.heap, slotsUsed := s₂.slotsUsed } : State).setVm s₂.vm := by
      have : s₂ = ({ s₂ with vm := (U.calling g mk a).vm } : State).setVm s₂.vm := rfl
      rw [e2] at this
      exact this
    obtain ⟨c₂, i₂, len₂, hc₂, hd₂, hf₂⟩ := hend
    have hW' : U.WarmedH s₂.vm := hW₂
    have hcc : c₂ = c := by
      have h1 : s₂.code? g.method = U.code? g.method := by
        rw [State.code?_eq, State.code?_eq, hW'.alike.method?]
      exact Option.some.inj (hc₂.symm.trans (h1.trans h.code))
    subst hcc
    have hlen : len₂ = len := by rw [hdg] at hd₂; cases hd₂; rfl
    subst hlen
    have hs₂ : s₂ = (({ U with heap := s₂.heap, slotsUsed := s₂.slotsUsed } : State).setVm s₂.vm).setTop { g with pc := g.pc + len₂, stack := v.toList ++ g.stack } := by
      refine e3.trans ?_
      rw [hf₂, State.calling_eq h.top, State.setFrames_setFrames, State.setTop_of_frames _ hr', hr]
      rfl
    have hsame : U.sameButNew ({ U with heap := s₂.heap, slotsUsed := s₂.slotsUsed } : State) L mc ms := by
      refine ⟨?_, q2, q3, q4, q5, q6⟩
      obtain ⟨t, ht, -⟩ := State.frames_cons hr
      show ({ U with heap := s₂.heap, slotsUsed := s₂.slotsUsed } : State) = { U.setFrames U.frames with heap := s₂.heap, slotsUsed := s₂.slotsUsed }
      rw [State.setFrames_self ht]
    subst hg
    refine Or.inl ⟨v, ⟨(({ U with heap := s₂.heap, slotsUsed := s₂.slotsUsed } : State).setVm s₂.vm), Ls ++ L, c0 + mc, s0 + ms⟩,
      ⟨X.admits, X.cas, X.clock, X.frames, X.room, X.hears, X.method, X.code, (X.here.setHeapUsed s₂.heap s₂.slotsUsed).setVm hW'.alike, X.tail, State.WarmedH.trans X.warmed hW', X.limits, X.bytes, X.same.trans (hsame.setVm s.vm)⟩,
      ⟨g, mk, s₂, L, rfl, rfl, hqc, rfl, hL, rfl, rfl⟩, ?_⟩
    show Steps p.tables e below _ ((({ U with heap := s₂.heap, slotsUsed := s₂.slotsUsed } : State).setVm s₂.vm).setTop { g with pc := g.pc + len₂, stack := v.toList ++ g.stack })
    rw [← hs₂]
    exact hsteps
  · obtain ⟨e2, q2, q3, q4, q5, q6⟩ := id hsm
    have e3 : s₂ = ({ (U.calling g mk a).setFrames s₂.frames with heap := s₂.heap, slotsUsed := s₂.slotsUsed } : State).setVm s₂.vm := by
      have : s₂ = ({ s₂ with vm := (U.calling g mk a).vm } : State).setVm s₂.vm := rfl
      rw [e2] at this
      exact this
    have hf₂ : s₂.frames = .throwing q :: .java g :: U.frames.tail := hend
    have hW' : U.WarmedH s₂.vm := hW₂
    have hs₂ : s₂ = ((({ U with heap := s₂.heap, slotsUsed := s₂.slotsUsed } : State).setVm s₂.vm).setTop g).pushFrame (.throwing q) := by
      refine e3.trans ?_
      rw [hf₂, State.calling_eq h.top, State.setFrames_setFrames, State.pushFrame, State.frames_setTop _ hr', State.setTop_of_frames _ hr', State.setFrames_setFrames, hr]
      rfl
    have hsame : U.sameButNew ({ U with heap := s₂.heap, slotsUsed := s₂.slotsUsed } : State) L mc ms := by
      refine ⟨?_, q2, q3, q4, q5, q6⟩
      obtain ⟨t, ht, -⟩ := State.frames_cons hr
      show ({ U with heap := s₂.heap, slotsUsed := s₂.slotsUsed } : State) = { U.setFrames U.frames with heap := s₂.heap, slotsUsed := s₂.slotsUsed }
      rw [State.setFrames_self ht]
    subst hg
    refine Or.inr ⟨q, ⟨(({ U with heap := s₂.heap, slotsUsed := s₂.slotsUsed } : State).setVm s₂.vm), Ls ++ L, c0 + mc, s0 + ms⟩,
      ⟨X.admits, X.cas, X.clock, X.frames, X.room, X.hears, X.method, X.code, (X.here.setHeapUsed s₂.heap s₂.slotsUsed).setVm hW'.alike, X.tail, State.WarmedH.trans X.warmed hW', X.limits, X.bytes, X.same.trans (hsame.setVm s.vm)⟩,
      ⟨g, mk, s₂, L, E, ce, rfl, rfl, hx, hce, hcv, hcl, rfl, hL, rfl, rfl⟩, ?_⟩
    show Steps p.tables e below _ (((({ U with heap := s₂.heap, slotsUsed := s₂.slotsUsed } : State).setVm s₂.vm).setTop g).pushFrame (.throwing q))
    rw [← hs₂]
    exact hsteps
end Payer
section Calls
variable {p : Program} {l : Launch} {e : Env} {R : Room} {s : State} {m : MethodId} {args : Array Value} {below : List Frame} {meth : Method} {c : Code} {T : State} {locs : List Loc} {cells slots : Nat}
theorem vx_callV (X : Stand p l e R s m args below meth c T locs cells slots) (hexec : p.tables.exec = Jvm.exec) {own C : String} {index : Nat} {y : MethodName} {bytes : ByteArray} {maxL : Nat} {ret : Option FieldType}
    (hown : s.vm.findClass own = some m.cls) (hlink : (Cond.methodLink own index y).before args s = true) (hinst : (Cond.instanceMethod y).before args s = true) (hsel : (Cond.selects C y y).before args s = true)
    (hcode : (Cond.code y bytes maxL ret).before args s = true) (hy : y.cls ≠ "java/lang/invoke/MethodHandle" ∧ y.cls ≠ "java/lang/invoke/VarHandle")
    {W9 : Nat} {Pre : Pt → Array Value → Prop} {Post : Pt → Array Value → Option Value → Pt → Prop} {PostX : Pt → Array Value → Addr → Pt → Prop} (hK : vx_Back l R p e below s args y 3 W9 Pre Post PostX)
    {b : Addr} {cellB : Cell} (hcell : T.heap[b]? = some cellB) (hobj : cellB.vm.isStatics = false) (hcls : s.vm.findClass C = some cellB.cls)
    {g : JFrame} (hg : g.method = m) (hsize : g.locals.size = c.maxLocals) {argsL rest : List Value} (hlen : ∀ sig, parseMethodDescriptor y.desc = some sig → argsL.length = sig.parameters.length)
    (hstack : g.stack = argsL.reverse ++ .ref b :: rest) (hW : 2 * g.monitorRoom + (rest.map fun v => v.category).sum ≤ W9) (hdg : decode c.code g.pc = .ok (.invokevirtual index, 3))
    (hpre : ∀ vm₁, s.WarmedH vm₁ → Pre ⟨T.setVm vm₁, locs, cells, slots⟩ (Value.ref b :: argsL).toArray) :
    (∃ (v : Option Value) (vm₁ : Vm) (B : Pt), s.WarmedH vm₁ ∧ Stand p l e R s m args below meth c B.U B.locs B.cells B.slots ∧ Post ⟨T.setVm vm₁, locs, cells, slots⟩ (Value.ref b :: argsL).toArray v B ∧
      ∀ target, Steps p.tables e below (B.U.setTop { g with pc := g.pc + 3, stack := v.toList ++ rest }) target → Steps p.tables e below (T.setTop g) target) ∨
    (∃ (q : Addr) (vm₁ : Vm) (B : Pt), s.WarmedH vm₁ ∧ Stand p l e R s m args below meth c B.U B.locs B.cells B.slots ∧ PostX ⟨T.setVm vm₁, locs, cells, slots⟩ (Value.ref b :: argsL).toArray q B ∧
      Steps p.tables e below (T.setTop g) ((B.U.setTop { g with stack := rest }).pushFrame (.throwing q))) := by
  obtain ⟨mk, methM, hnamed, hmethM, hstM, habM⟩ := Cond.instanceMethod_spec hinst
  obtain ⟨methM', cM, hmethM', -, -, -, -, -, -, hsigM⟩ := Cond.code_spec hnamed hcode
  cases hmethM.symm.trans hmethM'
  obtain ⟨c2, r2, m2, q1, q2, q3, q4, kP, hkP, hkPi⟩ := Cond.selects_spec hsel
  cases hcls.symm.trans q1
  cases (State.methodFound?_of_named hnamed hy).symm.trans q2
  cases hnamed.symm.trans q3
  have hselP : selectMethod e.platform s.vm cellB.cls mk = .method mk := by rw [Launch.admits_selectMethod X.admits]; exact q4
  obtain ⟨vm₁, X₁, hstep₁⟩ := X.invokevirtual hexec hown hlink hnamed hmethM hstM hkP hkPi hy (a := b) (cell := cellB) hcell
    (fun z h => by rw [h] at hobj; cases hobj) hselP hmethM habM hkP hkPi (g := g) hg (argsL := argsL) (rest := rest) (hlen _ hsigM) hstack hdg
  rcases hK m meth c ⟨T.setVm vm₁, locs, cells, slots⟩ { g with stack := rest } (.invokevirtual index) mk (Value.ref b :: argsL).toArray X₁ hg hsize hdg hW (X₁.named hnamed) (hpre vm₁ X₁.warmed) with ⟨v, B, X', hpost, hsteps⟩ | ⟨q, B, X', hpost, hsteps⟩
  · exact Or.inl ⟨v, vm₁, B, X₁.warmed, X', hpost, fun target h => hstep₁ _ fun acts => by rw [doInvoke_state]; exact hsteps.trans h⟩
  · exact Or.inr ⟨q, vm₁, B, X₁.warmed, X', hpost, hstep₁ _ fun acts => by rw [doInvoke_state]; exact hsteps⟩
theorem vx_callS (X : Stand p l e R s m args below meth c T locs cells slots) (hexec : p.tables.exec = Jvm.exec) {own : String} {index : Nat} {y : MethodName} {bytes : ByteArray} {maxL : Nat} {ret : Option FieldType}
    (hown : s.vm.findClass own = some m.cls) (hlink : (Cond.methodLink own index y).before args s = true) (hstat : (Cond.static y).before args s = true) (hinit : (Cond.initialized y.cls).before args s = true)
    (hcode : (Cond.code y bytes maxL ret).before args s = true) (hy : y.cls ≠ "java/lang/invoke/MethodHandle" ∧ y.cls ≠ "java/lang/invoke/VarHandle")
    {W9 : Nat} {Pre : Pt → Array Value → Prop} {Post : Pt → Array Value → Option Value → Pt → Prop} {PostX : Pt → Array Value → Addr → Pt → Prop} (hK : vx_Back l R p e below s args y 3 W9 Pre Post PostX)
    {g : JFrame} (hg : g.method = m) (hsize : g.locals.size = c.maxLocals) {argsL rest : List Value} (hlen : ∀ sig, parseMethodDescriptor y.desc = some sig → argsL.length = sig.parameters.length)
    (hstack : g.stack = argsL.reverse ++ rest) (hW : 2 * g.monitorRoom + (rest.map fun v => v.category).sum ≤ W9) (hdg : decode c.code g.pc = .ok (.invokestatic index, 3))
    (hpre : ∀ vm₁, s.WarmedH vm₁ → Pre ⟨T.setVm vm₁, locs, cells, slots⟩ argsL.toArray) :
    (∃ (v : Option Value) (vm₁ : Vm) (B : Pt), s.WarmedH vm₁ ∧ Stand p l e R s m args below meth c B.U B.locs B.cells B.slots ∧ Post ⟨T.setVm vm₁, locs, cells, slots⟩ argsL.toArray v B ∧
      ∀ target, Steps p.tables e below (B.U.setTop { g with pc := g.pc + 3, stack := v.toList ++ rest }) target → Steps p.tables e below (T.setTop g) target) ∨
    (∃ (q : Addr) (vm₁ : Vm) (B : Pt), s.WarmedH vm₁ ∧ Stand p l e R s m args below meth c B.U B.locs B.cells B.slots ∧ PostX ⟨T.setVm vm₁, locs, cells, slots⟩ argsL.toArray q B ∧
      Steps p.tables e below (T.setTop g) ((B.U.setTop { g with stack := rest }).pushFrame (.throwing q))) := by
  obtain ⟨mk, hnamed⟩ := Cond.code_named hcode
  obtain ⟨methM, cM, hmethM, -, -, -, -, -, -, hsigM⟩ := Cond.code_spec hnamed hcode
  have hstatic : methM.isStatic = true := Cond.static_spec hnamed hmethM hstat
  obtain ⟨kP, hkP, -⟩ := className_of_methodNamed hnamed
  have hinitP : kP.init = .initialized := Cond.initialized_spec (findClass_of_methodNamed hnamed) hkP hinit
  obtain ⟨vm₁, X₁, hstep₁⟩ := X.invokestatic hexec hown hlink hnamed hmethM hstatic hkP hinitP hy (g := g) hg (argsL := argsL) (rest := rest) (hlen _ hsigM) hstack hdg
  rcases hK m meth c ⟨T.setVm vm₁, locs, cells, slots⟩ { g with stack := rest } (.invokestatic index) mk argsL.toArray X₁ hg hsize hdg hW (X₁.named hnamed) (hpre vm₁ X₁.warmed) with ⟨v, B, X', hpost, hsteps⟩ | ⟨q, B, X', hpost, hsteps⟩
  · exact Or.inl ⟨v, vm₁, B, X₁.warmed, X', hpost, fun target h => hstep₁ _ fun acts => by rw [doInvoke_state]; exact hsteps.trans h⟩
  · exact Or.inr ⟨q, vm₁, B, X₁.warmed, X', hpost, hstep₁ _ fun acts => by rw [doInvoke_state]; exact hsteps⟩
end Calls
theorem vx_cls {s : State} {T : State} {vm₁ : Vm} {E : String} {k : ClassId} (hW : s.WarmedH vm₁) (h : (T.setVm vm₁).vm.findClass E = some k) : s.vm.findClass E = some k := by
  have h1 : vm₁.findClass E = some k := h
  rw [hW.alike.findClass] at h1
  exact h1
/-- the method's frame g, with q thrown over it -/
def vx_W (p : Program) (l : Launch) (e : Env) (R : Room) (s : State) (m : MethodId) (args : Array Value) (below : List Frame) (meth : Method) (c : Code) (H : Heap) (locs : List Loc) (cells slots : Nat) (Q : State → Prop) (g : JFrame) (q : Addr) : Prop :=
  ∀ T : State, T.heap = H → Stand p l e R s m args below meth c T locs cells slots → ∃ t, Steps p.tables e below ((T.setTop g).pushFrame (.throwing q)) t ∧ Q t
def vx_Run (p : Program) (l : Launch) (e : Env) (R : Room) (s : State) (m : MethodId) (args : Array Value) (below : List Frame) (meth : Method) (c : Code) (H : Heap) (locs : List Loc) (cells slots mc ms : Nat) (g : JFrame) (rest : List Value) (Qa : State → Outcome → State → Prop) (XC : String → State → State → Prop) (free : Addr → Prop) : Prop :=
  ∀ T : State, T.heap = H → Stand p l e R s m args below meth c T locs cells slots →
    (∃ (v : Option Value) (st₀ t T' : State) (L : List Loc), st₀.heap = H ∧ Stand p l e R s m args below meth c T' (locs ++ L) (cells + mc) (slots + ms) ∧ (∀ q ∈ L, free q.base) ∧ T'.heap = t.heap ∧ T'.vm = t.vm ∧ Qa st₀ (.returned v) t ∧
      Goes p e below T g T' { g with pc := g.pc + 3, stack := v.toList ++ rest }) ∨
    (∃ (q : Addr) (st₀ t T' : State) (L : List Loc) (E : String) (ce : Cell), st₀.heap = H ∧ Stand p l e R s m args below meth c T' (locs ++ L) (cells + mc) (slots + ms) ∧ (∀ z ∈ L, free z.base) ∧ T'.heap = t.heap ∧ T'.vm = t.vm ∧ XC E st₀ t ∧ t.heap[q]? = some ce ∧ ce.vm = .none ∧ s.vm.findClass E = some ce.cls ∧
      Steps p.tables e below (T.setTop g) ((T'.setTop { g with stack := rest }).pushFrame (.throwing q)))
def vx_X {S : Type} (px : S → Prop) (B : String → S → State → Prop) (A : Nat → Prop) : String → State → State → Prop := fun E st t => ∃ u : S, px u ∧ B E u t ∧ va_F A st t
section Runs
variable {p : Program} {l : Launch} {e : Env} {R : Room} {s : State} {m : MethodId} {args : Array Value} {below : List Frame} {meth : Method} {c : Code} {H : Heap} {locs : List Loc} {cells slots : Nat}
variable {y : MethodName} {bytes cc : ByteArray} {maxL nL mc ms n index : Nat} {ret : Option FieldType} {ws : List Cond} {rm : Room} {Pc : Array Value → State → Prop} {Qc : Array Value → State → Outcome → State → Prop} {XC : String → State → State → Prop} {free : Addr → Prop} {Ts : List Cond} {own C : String} {b : Addr} {As rest : List Value} {g : JFrame}
theorem vx_callBack (cb : CallB R s args own index y bytes maxL ret ws rm mc ms n) (hM : vx_Met l y ws rm Pc Qc XC mc ms free) (hbl : FrameBlind Pc) : vx_Back l R p e below s args y 3 8 (PreOf R mc ms Pc) (PostOf Qc mc ms free) (vx_Post XC mc ms free) := by
  obtain ⟨hrc, hrs, hfr, hlo, hws, hcw, -, hini, -⟩ := cb
  exact vx_back (bytes := bytes) (maxL := maxL) (ret := ret) hM hbl hrc hrs hfr hlo hws hcw (fun a' U hW => word_at hW (Or.inl (by first | rfl | simp [Cond.onTables, Cond.keeps, Cond.steady])) hini)
theorem vx_runV (S : CallFix p m c cc nL s args Ts own) (hM : vx_Met l y ws rm Pc Qc XC mc ms free) (cw : CallW R s args own C index y bytes maxL ret ws rm mc ms n) (hp : PreV s H C b Pc As)
    (hg : g.method = m) (hn : As.length = n) (hsize : g.locals.size = nL) (hstack : g.stack = As.reverse ++ .ref b :: rest) (hW : 2 * g.monitorRoom + (rest.map fun v => v.category).sum ≤ 8) (hdg : decode cc g.pc = .ok (.invokevirtual index, 3)) (hf : cells + mc ≤ R.cells ∧ slots + ms ≤ R.slots) :
    vx_Run p l e R s m args below meth c H locs cells slots mc ms g rest (Qc (Value.ref b :: As).toArray) XC free := by
  have hK : vx_Back l R p e below s args y 3 8 (PreOf R mc ms Pc) (PostOf Qc mc ms free) (vx_Post XC mc ms free) := vx_callBack cw.1 hM hp.1
  obtain ⟨⟨-, -, -, -, -, -, hcode, -, hy, hlen, hl⟩, hin, hse⟩ := cw
  obtain ⟨hx, hb, hml, ho, -⟩ := S
  obtain ⟨-, ⟨cellB, hcB, hoB, hclB⟩, hPc⟩ := hp
  intro T hT X
  rcases vx_callV X hx (C := C) (bytes := bytes) (maxL := maxL) (ret := ret) ho hl hin hse hcode hy hK (by rw [hT]; exact hcB) hoB hclB hg (hsize.trans hml.symm) (argsL := As) (rest := rest) (fun sig h => hn.trans (hlen sig h)) hstack hW (by rw [hb]; exact hdg)
    (fun vm₁ hW₁ => ⟨hf.1, hf.2, hPc (T.setVm vm₁) hT hW₁⟩) with ⟨v, vm₁, ⟨U', l2, c2, s2⟩, hW₁, X', ⟨g', mk, t, L, e1, e2, hq, h1, hL, h2, h3⟩, st⟩ | ⟨q, vm₁, ⟨U', l2, c2, s2⟩, hW₁, X', ⟨g', mk, t, L, E, ce, e1, e2, hq, hce, hcv, hcl, h1, hL, h2, h3⟩, st⟩
  · dsimp only [Pt.U, Pt.locs, Pt.cells, Pt.slots] at X' e1 e2 h1 h2 h3 st
    subst h1; subst h2; subst h3
    exact Or.inl ⟨v, (T.setVm vm₁).calling g' mk (Value.ref b :: As).toArray, t, U', L, hT, X', hL, e1, e2, hq, st⟩
  · dsimp only [Pt.U, Pt.locs, Pt.cells, Pt.slots] at X' e1 e2 h1 h2 h3 st hcl
    subst h1; subst h2; subst h3
    exact Or.inr ⟨q, (T.setVm vm₁).calling g' mk (Value.ref b :: As).toArray, t, U', L, E, ce, hT, X', hL, e1, e2, hq, hce, hcv, vx_cls hW₁ hcl, st⟩
theorem vx_runS (S : CallFix p m c cc nL s args Ts own) (hM : vx_Met l y ws rm Pc Qc XC mc ms free) (cw : CallB R s args own index y bytes maxL ret ws rm mc ms n ∧ (Cond.static y).before args s = true) (hp : PreS s H Pc As)
    (hg : g.method = m) (hn : As.length = n) (hsize : g.locals.size = nL) (hstack : g.stack = As.reverse ++ rest) (hW : 2 * g.monitorRoom + (rest.map fun v => v.category).sum ≤ 8) (hdg : decode cc g.pc = .ok (.invokestatic index, 3)) (hf : cells + mc ≤ R.cells ∧ slots + ms ≤ R.slots) :
    vx_Run p l e R s m args below meth c H locs cells slots mc ms g rest (Qc As.toArray) XC free := by
  have hK : vx_Back l R p e below s args y 3 8 (PreOf R mc ms Pc) (PostOf Qc mc ms free) (vx_Post XC mc ms free) := vx_callBack cw.1 hM hp.1
  obtain ⟨⟨-, -, -, -, -, -, hcode, hini, hy, hlen, hl⟩, hstt⟩ := cw
  obtain ⟨hx, hb, hml, ho, -⟩ := S
  intro T hT X
  rcases vx_callS X hx (bytes := bytes) (maxL := maxL) (ret := ret) ho hl hstt hini hcode hy hK hg (hsize.trans hml.symm) (argsL := As) (rest := rest) (fun sig h => hn.trans (hlen sig h)) hstack hW (by rw [hb]; exact hdg)
    (fun vm₁ hW₁ => ⟨hf.1, hf.2, hp.2 (T.setVm vm₁) hT hW₁⟩) with ⟨v, vm₁, ⟨U', l2, c2, s2⟩, hW₁, X', ⟨g', mk, t, L, e1, e2, hq, h1, hL, h2, h3⟩, st⟩ | ⟨q, vm₁, ⟨U', l2, c2, s2⟩, hW₁, X', ⟨g', mk, t, L, E, ce, e1, e2, hq, hce, hcv, hcl, h1, hL, h2, h3⟩, st⟩
  · dsimp only [Pt.U, Pt.locs, Pt.cells, Pt.slots] at X' e1 e2 h1 h2 h3 st
    subst h1; subst h2; subst h3
    exact Or.inl ⟨v, (T.setVm vm₁).calling g' mk As.toArray, t, U', L, hT, X', hL, e1, e2, hq, st⟩
  · dsimp only [Pt.U, Pt.locs, Pt.cells, Pt.slots] at X' e1 e2 h1 h2 h3 st hcl
    subst h1; subst h2; subst h3
    exact Or.inr ⟨q, (T.setVm vm₁).calling g' mk As.toArray, t, U', L, E, ce, hT, X', hL, e1, e2, hq, hce, hcv, vx_cls hW₁ hcl, st⟩
end Runs
section Rows
variable {p : Program} {l : Launch} {e : Env} {R : Room} {s : State} {m : MethodId} {args : Array Value} {below : List Frame} {meth : Method} {c : Code} {H : Heap} {locs : List Loc} {cells slots : Nat} {Q : State → Prop}
variable {mc ms : Nat} {free : Addr → Prop} {A0 A1 : Nat → Prop} {H0 : Heap} {a : Array Value} {pc : Nat} {ls : Array Slot} {st0 rest : List Value}
theorem vx_keep {st₀ t T' : State} {L : List Loc} (h0 : st₀.heap = H) (e1 : T'.heap = t.heap) (hS : va_S A0 H0 H locs) (hA : ∀ q, q < H.size → A1 q → A0 q) (hf : ∀ q, free q → A0 q) (hL : ∀ q ∈ L, free q.base) (hF : va_F A1 st₀ t) :
    H.size ≤ T'.heap.size ∧ (∀ q : Nat, q < H.size → ¬ A1 q → T'.heap[q]? = H[q]?) ∧ va_S A0 H0 T'.heap (locs ++ L) := by
  obtain ⟨hz, hk⟩ := hF
  rw [h0] at hz hk
  exact ⟨by rw [e1]; exact hz, fun q h1 h2 => by rw [e1]; exact hk q h1 h2,
    ⟨Nat.le_trans hS.1 (by rw [e1]; exact hz), fun q h1 h2 => by rw [e1, hk q (Nat.lt_of_lt_of_le h1 hS.1) (fun z => h2 (hA q (Nat.lt_of_lt_of_le h1 hS.1) z))]; exact hS.2.1 q h1 h2, fun q hq => by
      rcases List.mem_append.mp hq with h | h
      · exact hS.2.2 q h
      · exact hf _ (hL q h)⟩⟩
theorem vx_calli {S SX : Type} {post : Int32 → S → Prop} {px : SX → Prop} {B : S → State → Prop} {BX : String → SX → State → Prop} {AX : Nat → Prop} (hr : vx_Run p l e R s m args below meth c H locs cells slots mc ms (F0 m pc ls st0) rest (va_Qi post B A1 a) (vx_X px BX AX) free) (hS : va_S A0 H0 H locs) (hA : ∀ q, q < H.size → A1 q → A0 q) (hf : ∀ q, free q → A0 q) (hAX : ∀ q, q < H.size → AX q → A0 q)
    (kx : ∀ (E : String) (ce : Cell) (q9 : Addr) (u : SX) (t : State) (H1 : Heap) (locs1 : List Loc), t.heap = H1 → s.vm.Alike t.vm → px u → BX E u t → H.size ≤ H1.size → (∀ q : Nat, q < H.size → ¬ AX q → H1[q]? = H[q]?) → va_S A0 H0 H1 locs1 → H1[q9]? = some ce → ce.vm = .none → s.vm.findClass E = some ce.cls → vx_W p l e R s m args below meth c H1 locs1 (cells + mc) (slots + ms) Q (F0 m pc ls rest) q9)
    (kk : ∀ (r : Int32) (u : S) (t : State) (H1 : Heap) (locs1 : List Loc), t.heap = H1 → s.vm.Alike t.vm → post r u → B u t → H.size ≤ H1.size → (∀ q : Nat, q < H.size → ¬ A1 q → H1[q]? = H[q]?) → va_S A0 H0 H1 locs1 → W p l e R s m args below meth c H1 locs1 (cells + mc) (slots + ms) Q (F0 m (pc + 3) ls (.int r :: rest))) : W p l e R s m args below meth c H locs cells slots Q (F0 m pc ls st0) := by
  intro T hT X
  rcases hr T hT X with ⟨v, st₀, t, T', L, h0, X', hL, e1, e2, ⟨⟨r, u, hv, hp, hb⟩, hF⟩, st⟩ | ⟨q, st₀, t, T', L, E, ce, h0, X', hL, e1, e2, ⟨u, hp, hb, hF⟩, hce, hcv, hcl, st⟩
  · cases hv
    obtain ⟨k1, k2, k3⟩ := vx_keep h0 e1 hS hA hf hL hF
    obtain ⟨t2, a1, b1⟩ := kk r u t T'.heap (locs ++ L) e1.symm (by rw [← e2]; exact X'.warmed.alike) hp hb k1 k2 k3 T' rfl X'
    exact ⟨t2, st t2 a1, b1⟩
  · obtain ⟨k1, k2, k3⟩ := vx_keep h0 e1 hS hAX hf hL hF
    obtain ⟨t2, a1, b1⟩ := kx E ce q u t T'.heap (locs ++ L) e1.symm (by rw [← e2]; exact X'.warmed.alike) hp hb k1 k2 k3 (by rw [e1]; exact hce) hcv hcl T' rfl X'
    exact ⟨t2, st.trans a1, b1⟩
theorem vx_calll {S SX : Type} {post : Int64 → S → Prop} {px : SX → Prop} {B : S → State → Prop} {BX : String → SX → State → Prop} {AX : Nat → Prop} (hr : vx_Run p l e R s m args below meth c H locs cells slots mc ms (F0 m pc ls st0) rest (va_Ql post B A1 a) (vx_X px BX AX) free) (hS : va_S A0 H0 H locs) (hA : ∀ q, q < H.size → A1 q → A0 q) (hf : ∀ q, free q → A0 q) (hAX : ∀ q, q < H.size → AX q → A0 q)
    (kx : ∀ (E : String) (ce : Cell) (q9 : Addr) (u : SX) (t : State) (H1 : Heap) (locs1 : List Loc), t.heap = H1 → s.vm.Alike t.vm → px u → BX E u t → H.size ≤ H1.size → (∀ q : Nat, q < H.size → ¬ AX q → H1[q]? = H[q]?) → va_S A0 H0 H1 locs1 → H1[q9]? = some ce → ce.vm = .none → s.vm.findClass E = some ce.cls → vx_W p l e R s m args below meth c H1 locs1 (cells + mc) (slots + ms) Q (F0 m pc ls rest) q9)
    (kk : ∀ (r : Int64) (u : S) (t : State) (H1 : Heap) (locs1 : List Loc), t.heap = H1 → s.vm.Alike t.vm → post r u → B u t → H.size ≤ H1.size → (∀ q : Nat, q < H.size → ¬ A1 q → H1[q]? = H[q]?) → va_S A0 H0 H1 locs1 → W p l e R s m args below meth c H1 locs1 (cells + mc) (slots + ms) Q (F0 m (pc + 3) ls (.long r :: rest))) : W p l e R s m args below meth c H locs cells slots Q (F0 m pc ls st0) := by
  intro T hT X
  rcases hr T hT X with ⟨v, st₀, t, T', L, h0, X', hL, e1, e2, ⟨⟨r, u, hv, hp, hb⟩, hF⟩, st⟩ | ⟨q, st₀, t, T', L, E, ce, h0, X', hL, e1, e2, ⟨u, hp, hb, hF⟩, hce, hcv, hcl, st⟩
  · cases hv
    obtain ⟨k1, k2, k3⟩ := vx_keep h0 e1 hS hA hf hL hF
    obtain ⟨t2, a1, b1⟩ := kk r u t T'.heap (locs ++ L) e1.symm (by rw [← e2]; exact X'.warmed.alike) hp hb k1 k2 k3 T' rfl X'
    exact ⟨t2, st t2 a1, b1⟩
  · obtain ⟨k1, k2, k3⟩ := vx_keep h0 e1 hS hAX hf hL hF
    obtain ⟨t2, a1, b1⟩ := kx E ce q u t T'.heap (locs ++ L) e1.symm (by rw [← e2]; exact X'.warmed.alike) hp hb k1 k2 k3 (by rw [e1]; exact hce) hcv hcl T' rfl X'
    exact ⟨t2, st.trans a1, b1⟩
theorem vx_callf {S SX : Type} {post : UInt32 → S → Prop} {px : SX → Prop} {B : S → State → Prop} {BX : String → SX → State → Prop} {AX : Nat → Prop} (hr : vx_Run p l e R s m args below meth c H locs cells slots mc ms (F0 m pc ls st0) rest (va_Qf post B A1 a) (vx_X px BX AX) free) (hS : va_S A0 H0 H locs) (hA : ∀ q, q < H.size → A1 q → A0 q) (hf : ∀ q, free q → A0 q) (hAX : ∀ q, q < H.size → AX q → A0 q)
    (kx : ∀ (E : String) (ce : Cell) (q9 : Addr) (u : SX) (t : State) (H1 : Heap) (locs1 : List Loc), t.heap = H1 → s.vm.Alike t.vm → px u → BX E u t → H.size ≤ H1.size → (∀ q : Nat, q < H.size → ¬ AX q → H1[q]? = H[q]?) → va_S A0 H0 H1 locs1 → H1[q9]? = some ce → ce.vm = .none → s.vm.findClass E = some ce.cls → vx_W p l e R s m args below meth c H1 locs1 (cells + mc) (slots + ms) Q (F0 m pc ls rest) q9)
    (kk : ∀ (r : UInt32) (u : S) (t : State) (H1 : Heap) (locs1 : List Loc), t.heap = H1 → s.vm.Alike t.vm → post r u → B u t → H.size ≤ H1.size → (∀ q : Nat, q < H.size → ¬ A1 q → H1[q]? = H[q]?) → va_S A0 H0 H1 locs1 → W p l e R s m args below meth c H1 locs1 (cells + mc) (slots + ms) Q (F0 m (pc + 3) ls (.float r :: rest))) : W p l e R s m args below meth c H locs cells slots Q (F0 m pc ls st0) := by
  intro T hT X
  rcases hr T hT X with ⟨v, st₀, t, T', L, h0, X', hL, e1, e2, ⟨⟨r, u, hv, hp, hb⟩, hF⟩, st⟩ | ⟨q, st₀, t, T', L, E, ce, h0, X', hL, e1, e2, ⟨u, hp, hb, hF⟩, hce, hcv, hcl, st⟩
  · cases hv
    obtain ⟨k1, k2, k3⟩ := vx_keep h0 e1 hS hA hf hL hF
    obtain ⟨t2, a1, b1⟩ := kk r u t T'.heap (locs ++ L) e1.symm (by rw [← e2]; exact X'.warmed.alike) hp hb k1 k2 k3 T' rfl X'
    exact ⟨t2, st t2 a1, b1⟩
  · obtain ⟨k1, k2, k3⟩ := vx_keep h0 e1 hS hAX hf hL hF
    obtain ⟨t2, a1, b1⟩ := kx E ce q u t T'.heap (locs ++ L) e1.symm (by rw [← e2]; exact X'.warmed.alike) hp hb k1 k2 k3 (by rw [e1]; exact hce) hcv hcl T' rfl X'
    exact ⟨t2, st.trans a1, b1⟩
theorem vx_calld {S SX : Type} {post : UInt64 → S → Prop} {px : SX → Prop} {B : S → State → Prop} {BX : String → SX → State → Prop} {AX : Nat → Prop} (hr : vx_Run p l e R s m args below meth c H locs cells slots mc ms (F0 m pc ls st0) rest (va_Qd post B A1 a) (vx_X px BX AX) free) (hS : va_S A0 H0 H locs) (hA : ∀ q, q < H.size → A1 q → A0 q) (hf : ∀ q, free q → A0 q) (hAX : ∀ q, q < H.size → AX q → A0 q)
    (kx : ∀ (E : String) (ce : Cell) (q9 : Addr) (u : SX) (t : State) (H1 : Heap) (locs1 : List Loc), t.heap = H1 → s.vm.Alike t.vm → px u → BX E u t → H.size ≤ H1.size → (∀ q : Nat, q < H.size → ¬ AX q → H1[q]? = H[q]?) → va_S A0 H0 H1 locs1 → H1[q9]? = some ce → ce.vm = .none → s.vm.findClass E = some ce.cls → vx_W p l e R s m args below meth c H1 locs1 (cells + mc) (slots + ms) Q (F0 m pc ls rest) q9)
    (kk : ∀ (r : UInt64) (u : S) (t : State) (H1 : Heap) (locs1 : List Loc), t.heap = H1 → s.vm.Alike t.vm → post r u → B u t → H.size ≤ H1.size → (∀ q : Nat, q < H.size → ¬ A1 q → H1[q]? = H[q]?) → va_S A0 H0 H1 locs1 → W p l e R s m args below meth c H1 locs1 (cells + mc) (slots + ms) Q (F0 m (pc + 3) ls (.double r :: rest))) : W p l e R s m args below meth c H locs cells slots Q (F0 m pc ls st0) := by
  intro T hT X
  rcases hr T hT X with ⟨v, st₀, t, T', L, h0, X', hL, e1, e2, ⟨⟨r, u, hv, hp, hb⟩, hF⟩, st⟩ | ⟨q, st₀, t, T', L, E, ce, h0, X', hL, e1, e2, ⟨u, hp, hb, hF⟩, hce, hcv, hcl, st⟩
  · cases hv
    obtain ⟨k1, k2, k3⟩ := vx_keep h0 e1 hS hA hf hL hF
    obtain ⟨t2, a1, b1⟩ := kk r u t T'.heap (locs ++ L) e1.symm (by rw [← e2]; exact X'.warmed.alike) hp hb k1 k2 k3 T' rfl X'
    exact ⟨t2, st t2 a1, b1⟩
  · obtain ⟨k1, k2, k3⟩ := vx_keep h0 e1 hS hAX hf hL hF
    obtain ⟨t2, a1, b1⟩ := kx E ce q u t T'.heap (locs ++ L) e1.symm (by rw [← e2]; exact X'.warmed.alike) hp hb k1 k2 k3 (by rw [e1]; exact hce) hcv hcl T' rfl X'
    exact ⟨t2, st.trans a1, b1⟩
theorem vx_callv {S SX : Type} {post : S → Prop} {px : SX → Prop} {B : S → State → Prop} {BX : String → SX → State → Prop} {AX : Nat → Prop} (hr : vx_Run p l e R s m args below meth c H locs cells slots mc ms (F0 m pc ls st0) rest (va_Qv post B A1 a) (vx_X px BX AX) free) (hS : va_S A0 H0 H locs) (hA : ∀ q, q < H.size → A1 q → A0 q) (hf : ∀ q, free q → A0 q) (hAX : ∀ q, q < H.size → AX q → A0 q)
    (kx : ∀ (E : String) (ce : Cell) (q9 : Addr) (u : SX) (t : State) (H1 : Heap) (locs1 : List Loc), t.heap = H1 → s.vm.Alike t.vm → px u → BX E u t → H.size ≤ H1.size → (∀ q : Nat, q < H.size → ¬ AX q → H1[q]? = H[q]?) → va_S A0 H0 H1 locs1 → H1[q9]? = some ce → ce.vm = .none → s.vm.findClass E = some ce.cls → vx_W p l e R s m args below meth c H1 locs1 (cells + mc) (slots + ms) Q (F0 m pc ls rest) q9)
    (kk : ∀ (u : S) (t : State) (H1 : Heap) (locs1 : List Loc), t.heap = H1 → s.vm.Alike t.vm → post u → B u t → H.size ≤ H1.size → (∀ q : Nat, q < H.size → ¬ A1 q → H1[q]? = H[q]?) → va_S A0 H0 H1 locs1 → W p l e R s m args below meth c H1 locs1 (cells + mc) (slots + ms) Q (F0 m (pc + 3) ls (rest))) : W p l e R s m args below meth c H locs cells slots Q (F0 m pc ls st0) := by
  intro T hT X
  rcases hr T hT X with ⟨v, st₀, t, T', L, h0, X', hL, e1, e2, ⟨⟨u, hv, hp, hb⟩, hF⟩, st⟩ | ⟨q, st₀, t, T', L, E, ce, h0, X', hL, e1, e2, ⟨u, hp, hb, hF⟩, hce, hcv, hcl, st⟩
  · cases hv
    obtain ⟨k1, k2, k3⟩ := vx_keep h0 e1 hS hA hf hL hF
    obtain ⟨t2, a1, b1⟩ := kk u t T'.heap (locs ++ L) e1.symm (by rw [← e2]; exact X'.warmed.alike) hp hb k1 k2 k3 T' rfl X'
    exact ⟨t2, st t2 a1, b1⟩
  · obtain ⟨k1, k2, k3⟩ := vx_keep h0 e1 hS hAX hf hL hF
    obtain ⟨t2, a1, b1⟩ := kx E ce q u t T'.heap (locs ++ L) e1.symm (by rw [← e2]; exact X'.warmed.alike) hp hb k1 k2 k3 (by rw [e1]; exact hce) hcv hcl T' rfl X'
    exact ⟨t2, st.trans a1, b1⟩
/-- caught by the row x of this method's table; the rows ahead don't take it -/
theorem vx_catch {own name : String} {E : String} {ce : Cell} {q : Addr} (hown : s.vm.findClass own = some m.cls) (pre : List ExceptionTableEntry) (x : ExceptionTableEntry) (suf : List ExceptionTableEntry) (hsplit : c.exceptionTable.toList = pre ++ x :: suf)
    (hpass : ∀ z ∈ pre, covers z pc = false ∨ (z.catchType ≠ 0 ∧ ∃ nm : String, (Cond.classLink own z.catchType nm).before args s = true ∧ va_Nc E nm s)) (hx : covers x pc = true) (h0 : x.catchType ≠ 0)
    (hlink : (Cond.classLink own x.catchType name).before args s = true) (hcast : (Cond.castable E name).before args s = true) (hcell : H[q]? = some ce) (hv : ce.vm = .none) (hcl : s.vm.findClass E = some ce.cls)
    (kk : W p l e R s m args below meth c H locs cells slots Q (F0 m x.handlerPc ls [.ref q])) : vx_W p l e R s m args below meth c H locs cells slots Q (F0 m pc ls rest) q := by
  intro T hT X
  have hpl : e.platform.magicAccessors = ({} : Platform).magicAccessors := by rw [X.admits.platform]
  obtain ⟨c3, c4, hc3, hc4, hasg⟩ := Cond.castable_spec hcast
  cases Option.some.inj (hc3.symm.trans hcl)
  obtain ⟨c5, hc5, hcl5⟩ := Cond.classLink_spec hown hlink e.platform hpl
  cases Option.some.inj (hc4.symm.trans hc5)
  obtain ⟨vm', X', st⟩ := X.thenCaughtThrough q (g := F0 m pc ls rest) rfl (Steps.refl _) (by rw [hT]; exact hcell) (by rw [hv]; rfl) (by obtain ⟨k9, h9, -⟩ := Vm.findClass_spec hcl; exact ⟨k9, h9⟩) pre x suf hsplit
    (fun z hz => by
      rcases hpass z hz with h | ⟨hz0, nm, hl1, hn1⟩
      · exact Or.inl h
      · obtain ⟨c6, hc6, hcl6⟩ := Cond.classLink_spec hown hl1 e.platform hpl
        obtain ⟨a8, b8, h1, h2, h3⟩ := hn1
        cases Option.some.inj (h1.symm.trans hcl)
        cases Option.some.inj (h2.symm.trans hc6)
        exact Or.inr ⟨hz0, _, hcl6, h3⟩) hx (Or.inr ⟨h0, c4, hcl5, hasg⟩)
  obtain ⟨t, a1, b1⟩ := kk (T.setVm vm') hT X'
  exact ⟨t, st.trans a1, b1⟩
end Rows
section Ends
variable {p : Program} {l : Launch} {e : Env} {R : Room} {s : State} {m : MethodId} {args : Array Value} {below : List Frame} {meth : Method} {c : Code} {H : Heap} {locs : List Loc} {cells slots : Nat} {Q : State → Prop}
variable {mc ms : Nat} {free : Addr → Prop} {A0 A1 : Nat → Prop} {H0 : Heap} {a : Array Value} {ls : Array Slot} {st0 rest : List Value}
variable {Qc : Array Value → State → Outcome → State → Prop} {XC : String → State → State → Prop}
/-- what a body that may throw owes at its end -/
def vx_MQ (below : List Frame) (Qc : Array Value → State → Outcome → State → Prop) (XC : String → State → State → Prop) (a : Array Value) (s : State) (mc ms : Nat) (free : Addr → Prop) : State → Prop := fun t =>
  ∃ o, t.status = .running ∧ Ended t below o ∧ vx_Q Qc XC mc ms free a s o t
theorem vx_ret {g : JFrame} {mc ms : Nat} (k : W p l e R s m args below meth c H locs cells slots (MQ below Qc args s mc ms free) g) : W p l e R s m args below meth c H locs cells slots (vx_MQ below Qc XC args s mc ms free) g := by
  intro T hT X
  obtain ⟨t, a1, o, b1, b2, b3, b4⟩ := k T hT X
  exact ⟨t, a1, o, b1, b2, Or.inl ⟨b3, b4⟩⟩
/-- not caught here: it goes on to the caller -/
theorem vx_widen {g : JFrame} {q : Addr} {k n : Nat} (h1 : cells ≤ k) (h2 : slots ≤ n) (kk : vx_W p l e R s m args below meth c H locs k n Q g q) : vx_W p l e R s m args below meth c H locs cells slots Q g q := fun T hT X => kk T hT (stand_widen X h1 h2)
theorem vx_out {pc : Nat} {E : String} {ce : Cell} {q : Addr} {mc ms : Nat} (hout : ∀ x ∈ c.exceptionTable.toList, covers x pc = false) (hlocks : meth.locks = false) (hcell : H[q]? = some ce) (hv : ce.vm = .none) (hcl : s.vm.findClass E = some ce.cls)
    (hx : ∀ t : State, t.heap = H → s.vm.Alike t.vm → XC E s t) (hf : ∀ z ∈ locs, free z.base) (hc : cells ≤ mc) (hs : slots ≤ ms) :
    vx_W p l e R s m args below meth c H locs cells slots (vx_MQ below Qc XC args s mc ms free) (F0 m pc ls rest) q := by
  intro T hT X
  obtain ⟨st1, hrun, hend, hW, hsm⟩ := X.leaveThrown q (g := F0 m pc ls rest) rfl rfl rfl hout hlocks
  have hcell9 : (T.setFrames (.throwing q :: below)).heap[q]? = some ce := by
    show T.heap[q]? = some ce
    rw [hT]; exact hcell
  exact ⟨_, st1, .threw q, hrun, hend, Or.inr ⟨q, rfl, E, ce, locs, hx _ hT hW.alike, hcell9, hv, hcl, hW, hsm.mono hc hs, hf⟩⟩
theorem vx_frame {U : State} {k n : Nat} (h : s.sameButNew ({ U with vm := s.vm } : State) locs k n) : s.heap.size ≤ U.heap.size ∧ ∀ q : Nat, q < s.heap.size → (∀ z ∈ locs, z.base ≠ q) → U.heap[q]? = s.heap[q]? := by
  obtain ⟨-, h2, -, -, -, h6⟩ := h
  refine ⟨h2, fun q hq hz => ?_⟩
  obtain ⟨c9, e1, e2, e3, e4⟩ := h6 q _ (Array.getElem?_eq_getElem hq)
  have hs : c9.slots = (s.heap[q]).slots := Array.ext_getElem? fun i => e4 i fun hm => hz _ hm rfl
  have h9 : c9 = s.heap[q] := by
    rw [hs] at e2
    exact e2
  have e5 : U.heap[q]? = some c9 := e1
  rw [e5, h9, Array.getElem?_eq_getElem hq]
/-- the words of a throw but the four that speak of the heap -/
def vx_no (w : Cond) : Bool := decide (w ≠ .isRef (.static Bundle.tN "UNASSIGNED_STACK" Bundle.steD)) && decide (w ≠ .isRef (.static Bundle.tN "SUPPRESSED_SENTINEL" Bundle.listD)) && decide (w ≠ .laysStatic Bundle.tN "UNASSIGNED_STACK" Bundle.steD) && decide (w ≠ .laysStatic Bundle.tN "SUPPRESSED_SENTINEL" Bundle.listD)
def vx_at0 (own : String) (ic : Nat) (X : String) (names : List String) : List Cond := (Bundle.ownAtoms0 own ic X names).filter vx_no
def vx_atS (own : String) (ic : Nat) (X : String) (names : List String) : List Cond := (Bundle.ownAtoms own ic X names).filter vx_no
/-- a word that the tables alone decide, or a good one -/
def vx_ot (w : Cond) : Bool := w.onTables || goodWord w
theorem vx_ot_at {args a' : Array Value} {s U : State} {w : Cond} (hW : s.WarmedH U.vm) (hvm : s.vm = U.vm) (hg : vx_ot w = true) (h : w.before args s = true) : w.before a' U = true := by
  simp only [vx_ot, Bool.or_eq_true] at hg
  rcases hg with hg | hg
  · exact va_tabs hg hvm h
  · exact word_at hW (good_of_word hg) h
/-- a list's words: the good ones out of the method's own list, the others by premises of their own -/
theorem vx_hat {args : Array Value} {s : State} {L B : List Cond} (h1 : ∀ w ∈ L.filter goodWord, w.before args s = true) (h2 : ∀ w ∈ L.filter (fun w => !goodWord w), w ∈ B) (h3 : ∀ w ∈ B, w.before args s = true) : ∀ w ∈ L, w.before args s = true := by
  intro w hw
  by_cases g : goodWord w = true
  · exact h1 w (List.mem_filter.mpr ⟨hw, g⟩)
  · refine h3 w (h2 w (List.mem_filter.mpr ⟨hw, ?_⟩))
    show (!goodWord w) = true
    cases hgw : goodWord w
    · rfl
    · exact absurd hgw g
theorem vx_c {args : Array Value} {s : State} {w : Cond} {B : List Cond} (h : w.before args s = true) (t : ∀ w ∈ B, w.before args s = true) : ∀ w' ∈ w :: B, w'.before args s = true := fun w' h' => (List.mem_cons.mp h').elim (fun e => by rw [e]; exact h) (t w')
theorem vx_n {args : Array Value} {s : State} : ∀ w ∈ ([] : List Cond), w.before args s = true := fun _ h => nomatch h
theorem vx_own {args : Array Value} {s : State} {L : List Cond} (h1 : ∀ w ∈ L.filter vx_no, w.before args s = true)
    (hU : (Cond.isRef (.static Bundle.tN "UNASSIGNED_STACK" Bundle.steD)).before args s = true) (hN : (Cond.isRef (.static Bundle.tN "SUPPRESSED_SENTINEL" Bundle.listD)).before args s = true)
    (lU : (Cond.laysStatic Bundle.tN "UNASSIGNED_STACK" Bundle.steD).before args s = true) (lN : (Cond.laysStatic Bundle.tN "SUPPRESSED_SENTINEL" Bundle.listD).before args s = true) : ∀ w ∈ L, w.before args s = true := by
  intro w hw
  by_cases e1 : w = .isRef (.static Bundle.tN "UNASSIGNED_STACK" Bundle.steD)
  · rw [e1]; exact hU
  · by_cases e2 : w = .isRef (.static Bundle.tN "SUPPRESSED_SENTINEL" Bundle.listD)
    · rw [e2]; exact hN
    · by_cases e3 : w = .laysStatic Bundle.tN "UNASSIGNED_STACK" Bundle.steD
      · rw [e3]; exact lU
      · by_cases e4 : w = .laysStatic Bundle.tN "SUPPRESSED_SENTINEL" Bundle.listD
        · rw [e4]; exact lN
        · exact h1 w (List.mem_filter.mpr ⟨hw, by unfold vx_no; rw [decide_eq_true e1, decide_eq_true e2, decide_eq_true e3, decide_eq_true e4]; rfl⟩)
/-- where a static field lies, its class's statics cell in H -/
def vx_L (C n d : String) (A : Nat → Prop) (U : State) (H : Heap) : Prop := ∃ (c : ClassId) (k : Class) (i : Nat) (f : Field) (a : Nat) (cell : Cell), U.vm.findClass C = some c ∧ U.fieldFound? C n d = some (c, k, i, f) ∧ f.isStatic = true ∧ k.statics = some a ∧ H[a]? = some cell ∧ cell.vm.isStatics = true ∧ cell.cls = c ∧ f.slot < cell.slots.size ∧ k.staticTypes[f.slot]? = some f.type ∧ ¬ A a
theorem vx_L.moved {C n d : String} {A : Nat → Prop} {u U : State} {H : Heap} (hvm : u.vm.Alike U.vm) (h : vx_L C n d A u H) : vx_L C n d A U H := by
  obtain ⟨c, k, i, f, a, cell, h1, h2, h3, h4, h5, h6, h7, h8, h9, h10⟩ := h
  obtain ⟨k', hi', he⟩ := State.fieldFound?_setVm hvm h2
  exact ⟨c, k', i, f, a, cell, by rw [hvm.findClass]; exact h1, hi', h3, by rw [he]; exact h4, h5, h6, h7, h8, by rw [he]; exact h9, h10⟩
theorem vx_L.kept {C n d : String} {A : Nat → Prop} {U : State} {H H1 : Heap} (h : vx_L C n d A U H) (hq : ∀ a : Nat, a < H.size → ¬ A a → H1[a]? = H[a]?) : vx_L C n d A U H1 := by
  obtain ⟨c, k, i, f, a, cell, h1, h2, h3, h4, h5, h6, h7, h8, h9, h10⟩ := h
  exact ⟨c, k, i, f, a, cell, h1, h2, h3, h4, by rw [hq a (Array.getElem?_eq_some_iff.mp h5).1 h10]; exact h5, h6, h7, h8, h9, h10⟩
theorem vx_L.narrow {C n d : String} {A B : Nat → Prop} {U : State} {H : Heap} (h : vx_L C n d A U H) (hAB : ∀ q, B q → A q) : vx_L C n d B U H := by
  obtain ⟨c, k, i, f, a, cell, h1, h2, h3, h4, h5, h6, h7, h8, h9, h10⟩ := h
  exact ⟨c, k, i, f, a, cell, h1, h2, h3, h4, h5, h6, h7, h8, h9, fun z => h10 (hAB _ z)⟩
theorem vx_L.word {C n d : String} {A : Nat → Prop} {s : State} {args : Array Value} (h : vx_L C n d A s s.heap) : (Cond.laysStatic C n d).before args s = true := by
  obtain ⟨c, k, i, f, a, cell, h1, h2, h3, h4, h5, h6, h7, h8, h9, -⟩ := h
  show (Cond.laysStatic C n d).holds args s none s [] = true
  exact Cond.laysStatic_of h1 h2 h3 h4 h5 h6 h7 h8 h9
/-- .. and what it holds: null or some reference -/
def vx_Zq (C n d : String) (A : Nat → Prop) (U : State) (H : Heap) : Prop := va_Zq C n d A U H ∧ vx_L C n d A U H
theorem vx_Zq.moved {C n d : String} {A : Nat → Prop} {u U : State} {H : Heap} (hvm : u.vm.Alike U.vm) (h : vx_Zq C n d A u H) : vx_Zq C n d A U H := ⟨va_Zq.moved hvm h.1, vx_L.moved hvm h.2⟩
theorem vx_Zq.kept {C n d : String} {A : Nat → Prop} {U : State} {H H1 : Heap} (h : vx_Zq C n d A U H) (hq : ∀ a : Nat, a < H.size → ¬ A a → H1[a]? = H[a]?) : vx_Zq C n d A U H1 := ⟨va_Zq.kept h.1 hq, vx_L.kept h.2 hq⟩
theorem vx_Zq.narrow {C n d : String} {A B : Nat → Prop} {U : State} {H : Heap} (h : vx_Zq C n d A U H) (hAB : ∀ q, B q → A q) : vx_Zq C n d B U H := ⟨va_Zq.narrow h.1 hAB, vx_L.narrow h.2 hAB⟩
theorem vx_Zqof {args : Array Value} {s : State} {C n d : String} {A : Nat → Prop} (hl : (Cond.laysStatic C n d).before args s = true) (hini : (Cond.initialized C).before args s = true) (h : (Cond.isRef (.static C n d)).before args s = true) (hA : ∀ a : Nat, a < s.heap.size → ¬ A a) : vx_Zq C n d A s s.heap := by
  refine ⟨va_Zqof hl hini h hA, ?_⟩
  obtain ⟨c, k, i, f, a, cell, h1, h2, h3, h4, h5, h6, h7, h8, h9⟩ := Cond.laysStatic_spec hl
  exact ⟨c, k, i, f, a, cell, h1, h2, h3, h4, h5, h6, h7, h8, h9, hA a (Array.getElem?_eq_some_iff.mp h5).1⟩
theorem vx_isRef {C n d : String} {v : Value} {A : Nat → Prop} {s : State} {args : Array Value} (h : va_Z C n d v A s s.heap) (hv : v.isRef = true) : (Cond.isRef (.static C n d)).before args s = true := by
  obtain ⟨cf, kf, fi, f, a, cell, h1, h2, h3, h4, h5, h6, h7, -⟩ := h
  have he : (Term.static C n d).eval args s none [] s = some v := by
    simp [Term.eval, State.fieldNamed?, h1, h2, h4, h5, h6, h7]
  simp only [Cond.before, Cond.holds, Cond.value, he]
  cases v <;> simp_all [Value.isRef]
theorem vx_isRefq {C n d : String} {A : Nat → Prop} {s : State} {args : Array Value} (h : va_Zq C n d A s s.heap) : (Cond.isRef (.static C n d)).before args s = true := by
  rcases h with h | ⟨t, h⟩
  · exact vx_isRef h rfl
  · exact vx_isRef h rfl
/-- the same frame, seen from here: as if the method were called anew in this heap -/
theorem vx_rebase {T : State} (X : Stand p l e R s m args below meth c T locs cells slots) {R' : Room} (hf : R'.frames ≤ R.frames) (hl : R'.locals ≤ R.locals) (hc : cells + R'.cells ≤ R.cells) (hs : slots + R'.slots ≤ R.slots) :
    Stand p l e R' ((T.setVm s.vm).setFrames (.invoking m args :: below)) m args below meth c T [] 0 0 := by
  have htop : (T.setVm s.vm).topJava?.isSome := X.here.top
  have hF : ((T.setVm s.vm).setFrames (.invoking m args :: below)).frames = .invoking m args :: below := State.frames_setFrames _ (State.cur_lt_of_top htop)
  obtain ⟨g₀, hg0⟩ := Option.isSome_iff_exists.mp htop
  obtain ⟨r, hr⟩ := State.topJava?_eq_some.mp hg0
  have hl9 : e.platform.stackLimits (T.setVm s.vm).me = e.platform.stackLimits s.me := X.limits
  have hb9 : (T.setVm s.vm).me.stackBytes = s.me.stackBytes := X.bytes
  refine ⟨X.admits, X.cas, X.clock, hF, ?_, X.hears, X.method, X.code, X.here, X.tail, X.warmed, ?_, ?_, ?_⟩
  · have h := X.room
    have hU : ((T.setVm s.vm).setFrames (.invoking m args :: below)).localsInUse = s.localsInUse := by
      rw [State.localsInUse_invoking hF (meth := meth) (c := c) X.method X.code, State.localsInUse_invoking X.frames X.method X.code]
    simp only [State.hasRoom, Bool.and_eq_true, decide_eq_true_eq] at h ⊢
    obtain ⟨⟨⟨⟨h1, h2, h3, h4, h5, h6⟩, h7⟩, h8⟩, h9⟩ := h
    rw [X.frames, List.length_cons] at h2 h3
    have q1 := X.heapSize
    have q2 := X.used
    simp only [hF, hU, List.length_cons, State.stackLimits_setFrames, State.stackBytes_setFrames, hl9, hb9]
    refine ⟨⟨⟨⟨by omega, by omega, by omega, by omega, by omega, h6⟩, ?_⟩, ?_⟩, X.book⟩
    · show T.heap.size + R'.cells ≤ e.platform.maxCells
      omega
    · show T.slotsUsed + R'.slots ≤ e.platform.maxSlots
      omega
  · rw [State.stackLimits_setFrames]; rfl
  · rw [State.stackBytes_setFrames]; rfl
  · refine ⟨?_, Nat.le_refl _, Nat.le_refl _, ?_, ?_, fun a c9 h9 => ⟨c9, h9, rfl, rfl, fun _ _ => rfl⟩⟩
    · obtain ⟨t, ht, -⟩ := State.frames_cons hr
      show T.setVm s.vm = { ((T.setVm s.vm).setFrames (.invoking m args :: below)).setFrames (T.setVm s.vm).frames with heap := T.heap, slotsUsed := T.slotsUsed }
      rw [State.setFrames_setFrames, State.setFrames_self ht]
      rfl
    · show T.slotsUsed = T.slotsUsed + ((T.heap.toList.drop T.heap.size).map (·.slots.size)).sum
      rw [List.drop_eq_nil_of_le (Nat.le_of_eq Array.length_toList)]
      rfl
    · show ((T.heap.toList.drop T.heap.size).map (·.slots.size)).sum ≤ 0
      rw [List.drop_eq_nil_of_le (Nat.le_of_eq Array.length_toList)]
      exact Nat.le_refl _
/-- 'throw new E()': new; dup; invokespecial; athrow -/
theorem vx_throw0 {cc : ByteArray} {pc : Nat} (hexec : p.tables.exec = Jvm.exec) (hb : c.code = cc) (hl : l.stackTraces = false) {own cls : String} {names : List String} {ik ic mc ms : Nat} {A : Nat → Prop}
    (hown : s.vm.findClass own = some m.cls) (hcls : Bundle.fit cls = true) (hnames : ∀ n ∈ names, Bundle.fit n = true)
    (hk : (Cond.classLink own ik cls).before args s = true) (hini : (Cond.initialized cls).before args s = true) (hat : ∀ w ∈ vx_at0 own ic cls names, w.before args s = true)
    (hgood : ∀ w ∈ Cond.classLink own ik cls :: Cond.initialized cls :: vx_at0 own ic cls names, vx_ot w = true)
    (hU : vx_Zq Bundle.tN "UNASSIGNED_STACK" Bundle.steD A s s.heap) (hN : vx_Zq Bundle.tN "SUPPRESSED_SENTINEL" Bundle.listD A s s.heap) (hS : va_S A s.heap H locs) (hsize : ls.size = c.maxLocals)
    (d0 : decode cc pc = .ok (.new ik, 3)) (d3 : decode cc (pc + 3) = .ok (.dup, 1)) (d4 : decode cc (pc + 4) = .ok (.invokespecial ic, 3)) (d7 : decode cc (pc + 7) = .ok (.athrow, 1))
    (hout : ∀ x ∈ c.exceptionTable.toList, covers x (pc + 7) = false)
    (hRframes : names.length + 3 < R.frames) (hRlocals : (rest.map fun v => v.category).sum + (13 * (names.length + 1) + 42) ≤ R.locals) (hRcells : cells + 1 ≤ R.cells) (hRslots : slots + 6 ≤ R.slots) (hlocks : meth.locks = false)
    (hx : ∀ t : State, s.vm.Alike t.vm → H.size + 1 ≤ t.heap.size → (∀ q : Nat, q < H.size → t.heap[q]? = H[q]?) → XC cls s t)
    (hf : ∀ z ∈ locs, free z.base) (hc : cells + 1 ≤ mc) (hs : slots + 6 ≤ ms) :
    W p l e R s m args below meth c H locs cells slots (vx_MQ below Qc XC args s mc ms free) (F0 m pc ls rest) := by
  intro T hT X
  have htr : e.platform.stackTraces = false := (show e.platform.stackTraces = l.stackTraces by rw [X.admits.platform]).trans hl
  have Y := vx_rebase X (R' := { frames := R.frames, locals := R.locals, cells := 1, slots := 6 }) (Nat.le_refl _) (Nat.le_refl _) hRcells hRslots
  obtain ⟨s', hA⟩ : ∃ z, z = (T.setVm s.vm).setFrames (.invoking m args :: below) := ⟨_, rfl⟩
  rw [← hA] at Y
  have hvm : s'.vm = s.vm := by rw [hA]; rfl
  have hhp : s'.heap = H := by rw [hA]; exact hT
  have hW0 : s.WarmedH s'.vm := by rw [hvm]; exact State.WarmedH.refl s
  have hat' : ∀ w ∈ vx_at0 own ic cls names, w.before args s' = true := fun w hw => vx_ot_at hW0 hvm.symm (hgood w (List.mem_cons_of_mem _ (List.mem_cons_of_mem _ hw))) (hat w hw)
  have hk' : (Cond.classLink own ik cls).before args s' = true := vx_ot_at hW0 hvm.symm (hgood _ List.mem_cons_self) hk
  have hini' : (Cond.initialized cls).before args s' = true := vx_ot_at hW0 hvm.symm (hgood _ (List.mem_cons_of_mem _ List.mem_cons_self)) hini
  have hU' : vx_Zq Bundle.tN "UNASSIGNED_STACK" Bundle.steD A s' s'.heap := by rw [hhp]; exact vx_Zq.moved hW0.alike (hU.kept hS.2.1)
  have hN' : vx_Zq Bundle.tN "SUPPRESSED_SENTINEL" Bundle.listD A s' s'.heap := by rw [hhp]; exact vx_Zq.moved hW0.alike (hN.kept hS.2.1)
  have h : ∀ w ∈ Bundle.ownAtoms0 own ic cls names, w.before args s' = true := vx_own hat' (vx_isRefq hU'.1) (vx_isRefq hN'.1) hU'.2.word hN'.2.word
  have hown' : s'.vm.findClass own = some m.cls := by rw [hvm]; exact hown
  have hins : (Cond.instantiable cls 6).before args s' = true := h _ (by simp [Bundle.ownAtoms0])
  obtain ⟨vm₁, cX, kX, hfX, hkX, -, -, X₁, st1⟩ := Y.newCold hexec (own := own) (C := cls) (index := ik) (n := 6) hown' hk' hins hini'
    (g := F0 m pc ls rest) rfl (by rw [hb]; exact d0) (Nat.le_refl _) (Nat.le_refl _)
  generalize hT1 : (T.setVm vm₁).pushCell { cls := cX, slots := kX.instanceTypes.map defaultValue, vm := .none } = T1 at X₁ st1
  have hcat : (Value.ref T.heap.size).category = 1 := rfl
  have hcellA : T1.heap[T.heap.size]? = some (freshCell cX kX) := by rw [← hT1]; exact State.heap_pushCell_size _ _
  have d3' : decode c.code (pc + 3) = .ok (.dup, 1) := by rw [hb]; exact d3
  obtain ⟨U, hsteps, hrun, hend, hW, hsame, ce, hce, hO⟩ := X₁.ctorThrow0 hexec htr (own := own) (cls := cls) (names := names) (ic := ic) hown' hcls hnames h (fun x hx => nomatch hx) hfX hkX hcellA (by rw [hhp, hT]; exact Nat.le_refl _)
    (g := { method := m, pc := pc + 4, locals := ls, stack := .ref T.heap.size :: .ref T.heap.size :: rest, locked := none }) rfl hsize rfl rfl (rest := rest) rfl
    (by rw [hb]; exact d4) (by rw [hb]; exact d7) hout hRframes (by simp only [List.map_cons, List.sum_cons, hcat]; omega) hlocks
  obtain ⟨f1, f2⟩ := vx_frame hsame
  rw [hhp] at f1 f2
  have hWs : s.WarmedH U.vm := State.WarmedH.trans hW0 hW
  have hcl : s.vm.findClass cls = some ce.cls := by
    have h9 := hO.cls
    rw [hvm] at h9
    exact h9
  have hall : s.sameButNew ({ U with vm := s.vm } : State) locs mc ms := by
    subst hA
    obtain ⟨e1, e2⟩ := hsame
    rw [State.setFrames_setFrames] at e1
    have h2 : (T.setVm s.vm).sameButNew ({ U with vm := s.vm } : State) [] (0 + 1) (0 + 6) := ⟨e1, e2⟩
    have h3 := X.same.trans h2
    rw [List.append_nil] at h3
    exact h3.mono hc hs
  refine ⟨U, ?_, .threw T.heap.size, hrun, hend, Or.inr ⟨T.heap.size, rfl, cls, ce, locs, hx U hWs.alike (by rw [← hT]; exact (Array.getElem?_eq_some_iff.mp hce).1) (fun q hq => f2 q hq (fun z hz => nomatch hz)), hce, hO.vm, hcl, hWs, hall, hf⟩⟩
  refine st1 _ ?_
  show Steps p.tables e below (T1.setTop { method := m, pc := pc + 3, locals := ls, stack := .ref T.heap.size :: rest, locked := none }) _
  jvm_step X₁.here [X₁.here.top, hexec, d3', Value.category]
  exact hsteps
/-- 'throw new E("text")': new; dup; ldc; invokespecial; athrow -/
theorem vx_throwS {cc : ByteArray} {pc : Nat} (hexec : p.tables.exec = Jvm.exec) (hb : c.code = cc) (hl : l.stackTraces = false) {own cls text : String} {names : List String} {ik is ic mc ms sa : Nat} {A : Nat → Prop}
    (hown : s.vm.findClass own = some m.cls) (hcls : Bundle.fit cls = true) (hnames : ∀ n ∈ names, Bundle.fit n = true)
    (hk : (Cond.classLink own ik cls).before args s = true) (hini : (Cond.initialized cls).before args s = true) (hstr : vk_R own is text sa s) (hat : ∀ w ∈ vx_atS own ic cls names, w.before args s = true)
    (hgood : ∀ w ∈ Cond.classLink own ik cls :: Cond.initialized cls :: vx_atS own ic cls names, vx_ot w = true)
    (hU : vx_Zq Bundle.tN "UNASSIGNED_STACK" Bundle.steD A s s.heap) (hN : vx_Zq Bundle.tN "SUPPRESSED_SENTINEL" Bundle.listD A s s.heap) (hS : va_S A s.heap H locs) (hsize : ls.size = c.maxLocals)
    (d0 : decode cc pc = .ok (.new ik, 3)) (d3 : decode cc (pc + 3) = .ok (.dup, 1)) (d4 : decode cc (pc + 4) = .ok (.ldc is, 2)) (d6 : decode cc (pc + 6) = .ok (.invokespecial ic, 3)) (d9 : decode cc (pc + 9) = .ok (.athrow, 1))
    (hout : ∀ x ∈ c.exceptionTable.toList, covers x (pc + 9) = false)
    (hRframes : names.length + 3 < R.frames) (hRlocals : (rest.map fun v => v.category).sum + (13 * (names.length + 1) + 43) ≤ R.locals) (hRcells : cells + 1 ≤ R.cells) (hRslots : slots + 6 ≤ R.slots) (hlocks : meth.locks = false)
    (hx : ∀ t : State, s.vm.Alike t.vm → H.size + 1 ≤ t.heap.size → (∀ q : Nat, q < H.size → t.heap[q]? = H[q]?) → XC cls s t)
    (hf : ∀ z ∈ locs, free z.base) (hc : cells + 1 ≤ mc) (hs : slots + 6 ≤ ms) :
    W p l e R s m args below meth c H locs cells slots (vx_MQ below Qc XC args s mc ms free) (F0 m pc ls rest) := by
  intro T hT X
  have htr : e.platform.stackTraces = false := (show e.platform.stackTraces = l.stackTraces by rw [X.admits.platform]).trans hl
  have Y := vx_rebase X (R' := { frames := R.frames, locals := R.locals, cells := 1, slots := 6 }) (Nat.le_refl _) (Nat.le_refl _) hRcells hRslots
  obtain ⟨s', hA⟩ : ∃ z, z = (T.setVm s.vm).setFrames (.invoking m args :: below) := ⟨_, rfl⟩
  rw [← hA] at Y
  have hvm : s'.vm = s.vm := by rw [hA]; rfl
  have hhp : s'.heap = H := by rw [hA]; exact hT
  have hW0 : s.WarmedH s'.vm := by rw [hvm]; exact State.WarmedH.refl s
  have hat' : ∀ w ∈ vx_atS own ic cls names, w.before args s' = true := fun w hw => vx_ot_at hW0 hvm.symm (hgood w (List.mem_cons_of_mem _ (List.mem_cons_of_mem _ hw))) (hat w hw)
  have hk' : (Cond.classLink own ik cls).before args s' = true := vx_ot_at hW0 hvm.symm (hgood _ List.mem_cons_self) hk
  have hini' : (Cond.initialized cls).before args s' = true := vx_ot_at hW0 hvm.symm (hgood _ (List.mem_cons_of_mem _ List.mem_cons_self)) hini
  have hU' : vx_Zq Bundle.tN "UNASSIGNED_STACK" Bundle.steD A s' s'.heap := by rw [hhp]; exact vx_Zq.moved hW0.alike (hU.kept hS.2.1)
  have hN' : vx_Zq Bundle.tN "SUPPRESSED_SENTINEL" Bundle.listD A s' s'.heap := by rw [hhp]; exact vx_Zq.moved hW0.alike (hN.kept hS.2.1)
  have h : ∀ w ∈ Bundle.ownAtoms own ic cls names, w.before args s' = true := vx_own hat' (vx_isRefq hU'.1) (vx_isRefq hN'.1) hU'.2.word hN'.2.word
  have hown' : s'.vm.findClass own = some m.cls := by rw [hvm]; exact hown
  have hins : (Cond.instantiable cls 6).before args s' = true := h _ (by simp [Bundle.ownAtoms])
  obtain ⟨vm₁, cX, kX, hfX, hkX, -, -, X₁, st1⟩ := Y.newCold hexec (own := own) (C := cls) (index := ik) (n := 6) hown' hk' hins hini'
    (g := F0 m pc ls rest) rfl (by rw [hb]; exact d0) (Nat.le_refl _) (Nat.le_refl _)
  generalize hT1 : (T.setVm vm₁).pushCell { cls := cX, slots := kX.instanceTypes.map defaultValue, vm := .none } = T1 at X₁ st1
  have hcat : (Value.ref T.heap.size).category = 1 := rfl
  have hcellA : T1.heap[T.heap.size]? = some (freshCell cX kX) := by rw [← hT1]; exact State.heap_pushCell_size _ _
  have d3' : decode c.code (pc + 3) = .ok (.dup, 1) := by rw [hb]; exact d3
  have d4' : decode c.code (pc + 4) = .ok (.ldc is, 2) := by rw [hb]; exact d4
  have hstr' : vk_R own is text sa s' := vk_R.warm hW0 hstr
  obtain ⟨U, hsteps, hrun, hend, hW, hsame, ce, hce, hO⟩ := X₁.ctorThrowS hexec htr (own := own) (cls := cls) (names := names) (ic := ic) hown' hcls hnames h (fun x hx => nomatch hx) hfX hkX hcellA (by rw [hhp, hT]; exact Nat.le_refl _) (msg := .ref sa) rfl
    (g := { method := m, pc := pc + 6, locals := ls, stack := .ref sa :: .ref T.heap.size :: .ref T.heap.size :: rest, locked := none }) rfl hsize rfl rfl (rest := rest) rfl
    (by rw [hb]; exact d6) (by rw [hb]; exact d9) hout hRframes (by simp only [List.map_cons, List.sum_cons, hcat]; omega) hlocks
  obtain ⟨f1, f2⟩ := vx_frame hsame
  rw [hhp] at f1 f2
  have hWs : s.WarmedH U.vm := State.WarmedH.trans hW0 hW
  have hcl : s.vm.findClass cls = some ce.cls := by
    have h9 := hO.cls
    rw [hvm] at h9
    exact h9
  have hall : s.sameButNew ({ U with vm := s.vm } : State) locs mc ms := by
    subst hA
    obtain ⟨e1, e2⟩ := hsame
    rw [State.setFrames_setFrames] at e1
    have h2 : (T.setVm s.vm).sameButNew ({ U with vm := s.vm } : State) [] (0 + 1) (0 + 6) := ⟨e1, e2⟩
    have h3 := X.same.trans h2
    rw [List.append_nil] at h3
    exact h3.mono hc hs
  refine ⟨U, ?_, .threw T.heap.size, hrun, hend, Or.inr ⟨T.heap.size, rfl, cls, ce, locs, hx U hWs.alike (by rw [← hT]; exact (Array.getElem?_eq_some_iff.mp hce).1) (fun q hq => f2 q hq (fun z hz => nomatch hz)), hce, hO.vm, hcl, hWs, hall, hf⟩⟩
  refine st1 _ ?_
  show Steps p.tables e below (T1.setTop { method := m, pc := pc + 3, locals := ls, stack := .ref T.heap.size :: rest, locked := none }) _
  jvm_step X₁.here [X₁.here.top, hexec, d3', Value.category]
  exact X₁.ldcString hexec (own := own) (text := text) (index := is) (a := sa) hown' hstr'.1 hstr'.2
    (g := { method := m, pc := pc + 4, locals := ls, stack := .ref T.heap.size :: .ref T.heap.size :: rest, locked := none }) rfl d4' _ hsteps
/-- 'throw new E("text")', the text by a wide index -/
theorem vx_throwSW {cc : ByteArray} {pc : Nat} (hexec : p.tables.exec = Jvm.exec) (hb : c.code = cc) (hl : l.stackTraces = false) {own cls text : String} {names : List String} {ik is ic mc ms sa : Nat} {A : Nat → Prop}
    (hown : s.vm.findClass own = some m.cls) (hcls : Bundle.fit cls = true) (hnames : ∀ n ∈ names, Bundle.fit n = true)
    (hk : (Cond.classLink own ik cls).before args s = true) (hini : (Cond.initialized cls).before args s = true) (hstr : vk_R own is text sa s) (hat : ∀ w ∈ vx_atS own ic cls names, w.before args s = true)
    (hgood : ∀ w ∈ Cond.classLink own ik cls :: Cond.initialized cls :: vx_atS own ic cls names, vx_ot w = true)
    (hU : vx_Zq Bundle.tN "UNASSIGNED_STACK" Bundle.steD A s s.heap) (hN : vx_Zq Bundle.tN "SUPPRESSED_SENTINEL" Bundle.listD A s s.heap) (hS : va_S A s.heap H locs) (hsize : ls.size = c.maxLocals)
    (d0 : decode cc pc = .ok (.new ik, 3)) (d3 : decode cc (pc + 3) = .ok (.dup, 1)) (d4 : decode cc (pc + 4) = .ok (.ldc_w is, 3)) (d7 : decode cc (pc + 7) = .ok (.invokespecial ic, 3)) (d10 : decode cc (pc + 10) = .ok (.athrow, 1))
    (hout : ∀ x ∈ c.exceptionTable.toList, covers x (pc + 10) = false)
    (hRframes : names.length + 3 < R.frames) (hRlocals : (rest.map fun v => v.category).sum + (13 * (names.length + 1) + 43) ≤ R.locals) (hRcells : cells + 1 ≤ R.cells) (hRslots : slots + 6 ≤ R.slots) (hlocks : meth.locks = false)
    (hx : ∀ t : State, s.vm.Alike t.vm → H.size + 1 ≤ t.heap.size → (∀ q : Nat, q < H.size → t.heap[q]? = H[q]?) → XC cls s t)
    (hf : ∀ z ∈ locs, free z.base) (hc : cells + 1 ≤ mc) (hs : slots + 6 ≤ ms) :
    W p l e R s m args below meth c H locs cells slots (vx_MQ below Qc XC args s mc ms free) (F0 m pc ls rest) := by
  intro T hT X
  have htr : e.platform.stackTraces = false := (show e.platform.stackTraces = l.stackTraces by rw [X.admits.platform]).trans hl
  have Y := vx_rebase X (R' := { frames := R.frames, locals := R.locals, cells := 1, slots := 6 }) (Nat.le_refl _) (Nat.le_refl _) hRcells hRslots
  obtain ⟨s', hA⟩ : ∃ z, z = (T.setVm s.vm).setFrames (.invoking m args :: below) := ⟨_, rfl⟩
  rw [← hA] at Y
  have hvm : s'.vm = s.vm := by rw [hA]; rfl
  have hhp : s'.heap = H := by rw [hA]; exact hT
  have hW0 : s.WarmedH s'.vm := by rw [hvm]; exact State.WarmedH.refl s
  have hat' : ∀ w ∈ vx_atS own ic cls names, w.before args s' = true := fun w hw => vx_ot_at hW0 hvm.symm (hgood w (List.mem_cons_of_mem _ (List.mem_cons_of_mem _ hw))) (hat w hw)
  have hk' : (Cond.classLink own ik cls).before args s' = true := vx_ot_at hW0 hvm.symm (hgood _ List.mem_cons_self) hk
  have hini' : (Cond.initialized cls).before args s' = true := vx_ot_at hW0 hvm.symm (hgood _ (List.mem_cons_of_mem _ List.mem_cons_self)) hini
  have hU' : vx_Zq Bundle.tN "UNASSIGNED_STACK" Bundle.steD A s' s'.heap := by rw [hhp]; exact vx_Zq.moved hW0.alike (hU.kept hS.2.1)
  have hN' : vx_Zq Bundle.tN "SUPPRESSED_SENTINEL" Bundle.listD A s' s'.heap := by rw [hhp]; exact vx_Zq.moved hW0.alike (hN.kept hS.2.1)
  have h : ∀ w ∈ Bundle.ownAtoms own ic cls names, w.before args s' = true := vx_own hat' (vx_isRefq hU'.1) (vx_isRefq hN'.1) hU'.2.word hN'.2.word
  have hown' : s'.vm.findClass own = some m.cls := by rw [hvm]; exact hown
  have hins : (Cond.instantiable cls 6).before args s' = true := h _ (by simp [Bundle.ownAtoms])
  obtain ⟨vm₁, cX, kX, hfX, hkX, -, -, X₁, st1⟩ := Y.newCold hexec (own := own) (C := cls) (index := ik) (n := 6) hown' hk' hins hini'
    (g := F0 m pc ls rest) rfl (by rw [hb]; exact d0) (Nat.le_refl _) (Nat.le_refl _)
  generalize hT1 : (T.setVm vm₁).pushCell { cls := cX, slots := kX.instanceTypes.map defaultValue, vm := .none } = T1 at X₁ st1
  have hcat : (Value.ref T.heap.size).category = 1 := rfl
  have hcellA : T1.heap[T.heap.size]? = some (freshCell cX kX) := by rw [← hT1]; exact State.heap_pushCell_size _ _
  have d3' : decode c.code (pc + 3) = .ok (.dup, 1) := by rw [hb]; exact d3
  have d4' : decode c.code (pc + 4) = .ok (.ldc_w is, 3) := by rw [hb]; exact d4
  have hstr' : vk_R own is text sa s' := vk_R.warm hW0 hstr
  obtain ⟨U, hsteps, hrun, hend, hW, hsame, ce, hce, hO⟩ := X₁.ctorThrowS hexec htr (own := own) (cls := cls) (names := names) (ic := ic) hown' hcls hnames h (fun x hx => nomatch hx) hfX hkX hcellA (by rw [hhp, hT]; exact Nat.le_refl _) (msg := .ref sa) rfl
    (g := { method := m, pc := pc + 7, locals := ls, stack := .ref sa :: .ref T.heap.size :: .ref T.heap.size :: rest, locked := none }) rfl hsize rfl rfl (rest := rest) rfl
    (by rw [hb]; exact d7) (by rw [hb]; exact d10) hout hRframes (by simp only [List.map_cons, List.sum_cons, hcat]; omega) hlocks
  obtain ⟨f1, f2⟩ := vx_frame hsame
  rw [hhp] at f1 f2
  have hWs : s.WarmedH U.vm := State.WarmedH.trans hW0 hW
  have hcl : s.vm.findClass cls = some ce.cls := by
    have h9 := hO.cls
    rw [hvm] at h9
    exact h9
  have hall : s.sameButNew ({ U with vm := s.vm } : State) locs mc ms := by
    subst hA
    obtain ⟨e1, e2⟩ := hsame
    rw [State.setFrames_setFrames] at e1
    have h2 : (T.setVm s.vm).sameButNew ({ U with vm := s.vm } : State) [] (0 + 1) (0 + 6) := ⟨e1, e2⟩
    have h3 := X.same.trans h2
    rw [List.append_nil] at h3
    exact h3.mono hc hs
  refine ⟨U, ?_, .threw T.heap.size, hrun, hend, Or.inr ⟨T.heap.size, rfl, cls, ce, locs, hx U hWs.alike (by rw [← hT]; exact (Array.getElem?_eq_some_iff.mp hce).1) (fun q hq => f2 q hq (fun z hz => nomatch hz)), hce, hO.vm, hcl, hWs, hall, hf⟩⟩
  refine st1 _ ?_
  show Steps p.tables e below (T1.setTop { method := m, pc := pc + 3, locals := ls, stack := .ref T.heap.size :: rest, locked := none }) _
  jvm_step X₁.here [X₁.here.top, hexec, d3', Value.category]
  exact X₁.ldcStringW hexec (own := own) (text := text) (index := is) (a := sa) hown' hstr'.1 hstr'.2
    (g := { method := m, pc := pc + 4, locals := ls, stack := .ref T.heap.size :: .ref T.heap.size :: rest, locked := none }) rfl d4' _ hsteps
end Ends
section Bodies
variable {l : Launch}
theorem vx_ofW {y : MethodName} {ws ws' : List Cond} {rm : Room} {Pc : Array Value → State → Prop} {Qc : Array Value → State → Outcome → State → Prop} {XC : String → State → State → Prop} {mc ms : Nat} {free : Addr → Prop} {cc : ByteArray} {maxL : Nat} {ret : Option FieldType}
    (hy : plainName y.cls = true) (hw : ws = Cond.code y cc maxL ret :: ws')
    (body : ∀ p e s m args below meth c s₁, BodyLoose p l y (headSpec ws rm) cc maxL ret e s m args below meth c s₁ → c.maxLocals = maxL → (∀ x ∈ c.exceptionTable.toList, False) → Pc args s →
      W p l e (headSpec ws rm).room s m args below meth c s.heap [] 0 0 (vx_MQ below Qc XC args s mc ms free) (entryFrame m args maxL)) : vx_Met l y ws rm Pc Qc XC mc ms free := by
  refine MetFree.of_bodyS (code := cc) (maxLocals := maxL) (ret := ret) hy ?_ ?_
  · intro args s m h hn
    obtain ⟨meth, c, h1, h2, h3, h4, h5, h6, -, -⟩ := Cond.code_spec hn (atoms_spec (ws := ws) h _ (by rw [hw]; exact List.mem_cons_self))
    exact ⟨meth, c, h1, h2, h3, h4, h5, h6⟩
  · intro p e s m args below meth c s₁ B hml hP _
    have hh0 : s₁.heap = s.heap := by rw [B.state]; rfl
    have ht : ∀ x ∈ c.exceptionTable.toList, False := by
      obtain ⟨meth9, c9, h1, h2, -, -, -, -, h7, -⟩ := Cond.code_spec B.named (atoms_spec (ws := ws) B.pre _ (by rw [hw]; exact List.mem_cons_self))
      cases Option.some.inj (h1.symm.trans B.method)
      cases Option.some.inj (h2.symm.trans (Stand.of_body B).code)
      intro x hx
      rw [Array.isEmpty_iff.mp h7] at hx
      cases hx
    obtain ⟨t, a1, o, b1, b2, b3⟩ := body p e s m args below meth c s₁ B hml ht hP s₁ hh0 (Stand.of_body B)
    exact ⟨t, o, a1, b1, b2, b3⟩
/-- the table of a body with handlers -/
theorem vx_table {p : Program} {x y : MethodName} {S : Spec} {cc bytes : ByteArray} {maxL maxL' : Nat} {ret ret' : Option FieldType} {e : Env} {s s₁ : State} {m : MethodId} {args : Array Value} {below : List Frame} {meth : Method} {c : Code} {hh : List (Nat × Nat × Nat × Nat)}
    (B : BodyLoose p l y S cc maxL ret e s m args below meth c s₁) (h : (Cond.codeWith y bytes maxL' ret' hh).before args s = true) : c.exceptionTable.toList = tableOf hh := by
  obtain ⟨m9, meth9, c9, hn9, h1, h2, -, -, h6, -⟩ := Cond.codeWith_spec h
  cases Option.some.inj (hn9.symm.trans B.named)
  cases Option.some.inj (h1.symm.trans B.method)
  cases Option.some.inj (h2.symm.trans (Stand.of_body B).code)
  rw [← h6, table_eq]
end Bodies
end VXA
/-! ===== END ===== -/
/-! ===== BEGIN a static call of a method with an exception table ===== -/
section VXS
variable {p : Program} {l : Launch} {e : Env} {R : Room} {s : State} {m : MethodId} {args : Array Value} {below : List Frame} {meth : Method} {c : Code} {T : State} {H : Heap} {locs : List Loc} {cells slots : Nat}
abbrev vx_CSW (R : Room) (s : State) (args : Array Value) (own : String) (index : Nat) (y : MethodName) (bytes : ByteArray) (maxL : Nat) (ret : Option FieldType) (hh : List (Nat × Nat × Nat × Nat)) (ws : List Cond) (rm : Room) (mc ms n : Nat) : Prop :=
  (rm.cells = mc ∧ rm.slots = ms ∧ rm.frames + 1 ≤ R.frames ∧ 8 + (maxL + 11) + rm.locals ≤ R.locals ∧ (∀ w ∈ ws, ∀ (a' : Array Value) (U : State), s.WarmedH U.vm → w.before a' U = true) ∧ Cond.codeWith y bytes maxL ret hh ∈ ws) ∧
  (Cond.codeWith y bytes maxL ret hh).before args s = true ∧ (Cond.initialized y.cls).before args s = true ∧ (y.cls ≠ "java/lang/invoke/MethodHandle" ∧ y.cls ≠ "java/lang/invoke/VarHandle") ∧
  (∀ sig, parseMethodDescriptor y.desc = some sig → n = sig.parameters.length) ∧ (Cond.methodLink own index y).before args s = true ∧ (Cond.static y).before args s = true
theorem vx_cwSW {own : String} {index maxL mc ms : Nat} {y : MethodName} {bytes : ByteArray} {ret : Option FieldType} {hh : List (Nat × Nat × Nat × Nat)} {Ts ws ws' : List Cond} {rm : Room} (n : Nat) (ht : ∀ w ∈ Ts, w.before args s = true) (hT : GoodIn Ts (va_wsS own index y ws)) (hw : ws = Cond.codeWith y bytes maxL ret hh :: ws') (hrc : rm.cells = mc) (hrs : rm.slots = ms)
    (hd : y.cls ≠ "java/lang/invoke/MethodHandle" ∧ y.cls ≠ "java/lang/invoke/VarHandle" ∧ (parseMethodDescriptor y.desc).map (fun d => d.parameters.length) = some n) (hR : rm.frames + 1 ≤ R.frames ∧ 8 + (maxL + 11) + rm.locals ≤ R.locals) :
    vx_CSW R s args own index y bytes maxL ret hh ws rm mc ms n := by
  have ok : ∀ w ∈ va_wsS own index y ws, w.before args s = true := fun w h => ht w (hT w h).1
  have hG : GoodIn Ts ws := fun w h => hT w (by unfold va_wsS; exact List.mem_append_right _ h)
  have hc : Cond.codeWith y bytes maxL ret hh ∈ ws := by rw [hw]; exact List.mem_cons_self
  refine ⟨⟨hrc, hrs, hR.1, hR.2, pay_in ht hG, hc⟩, ht _ (hG _ hc).1, ok _ (by simp [va_wsS]), ⟨hd.1, hd.2.1⟩, fun sig h => ?_, ok _ (by simp [va_wsS]), ok _ (by simp [va_wsS])⟩
  have h2 := hd.2.2
  rw [h] at h2
  exact (Option.some.inj h2).symm
theorem vx_callSW (X : Stand p l e R s m args below meth c T locs cells slots) (hexec : p.tables.exec = Jvm.exec) {own : String} {index : Nat} {y : MethodName} {bytes : ByteArray} {maxL : Nat} {ret : Option FieldType} {hh : List (Nat × Nat × Nat × Nat)}
    (hown : s.vm.findClass own = some m.cls) (hlink : (Cond.methodLink own index y).before args s = true) (hstat : (Cond.static y).before args s = true) (hinit : (Cond.initialized y.cls).before args s = true)
    (hcode : (Cond.codeWith y bytes maxL ret hh).before args s = true) (hy : y.cls ≠ "java/lang/invoke/MethodHandle" ∧ y.cls ≠ "java/lang/invoke/VarHandle")
    {W9 : Nat} {Pre : Pt → Array Value → Prop} {Post : Pt → Array Value → Option Value → Pt → Prop} (hK : Back l R p e below s args y 3 W9 Pre Post)
    {g : JFrame} (hg : g.method = m) (hsize : g.locals.size = c.maxLocals) {argsL rest : List Value} (hlen : ∀ sig, parseMethodDescriptor y.desc = some sig → argsL.length = sig.parameters.length)
    (hstack : g.stack = argsL.reverse ++ rest) (hW : 2 * g.monitorRoom + (rest.map fun v => v.category).sum ≤ W9) (hdg : decode c.code g.pc = .ok (.invokestatic index, 3))
    (hpre : ∀ vm₁, s.WarmedH vm₁ → Pre ⟨T.setVm vm₁, locs, cells, slots⟩ argsL.toArray) :
    ∃ (v : Option Value) (vm₁ : Vm) (B : Pt), s.WarmedH vm₁ ∧ Stand p l e R s m args below meth c B.U B.locs B.cells B.slots ∧ Post ⟨T.setVm vm₁, locs, cells, slots⟩ argsL.toArray v B ∧
      ∀ target, Steps p.tables e below (B.U.setTop { g with pc := g.pc + 3, stack := v.toList ++ rest }) target → Steps p.tables e below (T.setTop g) target := by
  obtain ⟨mk, methM, cM, hnamed, hmethM, -, -, -, -, -, -, hsigM⟩ := Cond.codeWith_spec hcode
  have hstatic : methM.isStatic = true := Cond.static_spec hnamed hmethM hstat
  obtain ⟨kP, hkP, -⟩ := className_of_methodNamed hnamed
  have hinitP : kP.init = .initialized := Cond.initialized_spec (findClass_of_methodNamed hnamed) hkP hinit
  obtain ⟨vm₁, X₁, hstep₁⟩ := X.invokestatic hexec hown hlink hnamed hmethM hstatic hkP hinitP hy (g := g) hg (argsL := argsL) (rest := rest) (hlen _ hsigM) hstack hdg
  obtain ⟨v, B, X', hpost, hsteps⟩ := hK m meth c ⟨T.setVm vm₁, locs, cells, slots⟩ { g with stack := rest } (.invokestatic index) mk argsL.toArray X₁ hg hsize hdg hW (X₁.named hnamed) (hpre vm₁ X₁.warmed)
  exact ⟨v, vm₁, B, X₁.warmed, X', hpost, fun target h => hstep₁ _ fun acts => by rw [doInvoke_state]; exact hsteps.trans h⟩
theorem vx_runSW {y : MethodName} {bytes cc : ByteArray} {maxL nL mc ms n index : Nat} {ret : Option FieldType} {hh : List (Nat × Nat × Nat × Nat)} {ws : List Cond} {rm : Room} {Pc : Array Value → State → Prop} {Qc : Array Value → State → Outcome → State → Prop} {free : Addr → Prop} {Ts : List Cond} {own : String} {As rest : List Value} {g : JFrame}
    (S : CallFix p m c cc nL s args Ts own) (hM : Met l y ws rm Pc Qc mc ms free) (cw : vx_CSW R s args own index y bytes maxL ret hh ws rm mc ms n) (hp : PreS s H Pc As)
    (hg : g.method = m) (hn : As.length = n) (hsize : g.locals.size = nL) (hstack : g.stack = As.reverse ++ rest) (hW : 2 * g.monitorRoom + (rest.map fun v => v.category).sum ≤ 8) (hdg : decode cc g.pc = .ok (.invokestatic index, 3)) (hf : cells + mc ≤ R.cells ∧ slots + ms ≤ R.slots) :
    va_Run p l e R s m args below meth c H locs cells slots mc ms g rest (Qc As.toArray) (free) := by
  obtain ⟨⟨hrc, hrs, hfr, hlo, hws, hcw⟩, hcode, hini, hy, hlen, hl, hstt⟩ := cw
  have hK : Back l R p e below s args y 3 8 (PreOf R mc ms Pc) (PostOf Qc mc ms free) := va_backW (hh := hh) (bytes := bytes) (maxL := maxL) (ret := ret) hM hp.1 hrc hrs hfr hlo hws hcw (fun a' U hW => word_at hW (Or.inl (by first | rfl | simp [Cond.onTables, Cond.keeps, Cond.steady])) hini)
  obtain ⟨hx, hb, hml, ho, -⟩ := S
  intro T hT X
  obtain ⟨v, vm₁, ⟨U', l2, c2, s2⟩, hW₁, X', ⟨g', mk, t, L, e1, e2, hq, h1, hL, h2, h3⟩, st⟩ := vx_callSW X hx (hh := hh) (bytes := bytes) (maxL := maxL) (ret := ret) ho hl hstt hini hcode hy hK hg (hsize.trans hml.symm) (argsL := As) (rest := rest) (fun sig h => hn.trans (hlen sig h)) hstack hW (by rw [hb]; exact hdg)
    (fun vm₁ hW₁ => ⟨hf.1, hf.2, hp.2 (T.setVm vm₁) hT hW₁⟩)
  dsimp only [Pt.U, Pt.locs, Pt.cells, Pt.slots] at X' e1 e2 h1 h2 h3 st
  subst h1; subst h2; subst h3
  exact ⟨v, (T.setVm vm₁).calling g' mk As.toArray, t, U', L, hT, X', hL, e1, e2, hq, st⟩
/-- not caught here, past rows that name other classes: it goes on to the caller -/
theorem vx_outP {p : Program} {l : Launch} {e : Env} {R : Room} {s : State} {m : MethodId} {args : Array Value} {below : List Frame} {meth : Method} {c : Code} {H : Heap} {locs : List Loc} {cells slots : Nat} {free : Addr → Prop} {ls : Array Slot} {rest : List Value} {Qc : Array Value → State → Outcome → State → Prop} {XC : String → State → State → Prop}
    {pc : Nat} {own E : String} {ce : Cell} {q : Addr} {mc ms : Nat} (hown : s.vm.findClass own = some m.cls) (hlocks : meth.locks = false)
    (hpass : ∀ z ∈ c.exceptionTable.toList, covers z pc = false ∨ (z.catchType ≠ 0 ∧ ∃ nm : String, (Cond.classLink own z.catchType nm).before args s = true ∧ va_Nc E nm s)) (hcell : H[q]? = some ce) (hv : ce.vm = .none) (hcl : s.vm.findClass E = some ce.cls)
    (hx : ∀ t : State, t.heap = H → s.vm.Alike t.vm → XC E s t) (hf : ∀ z ∈ locs, free z.base) (hc : cells ≤ mc) (hs : slots ≤ ms) :
    vx_W p l e R s m args below meth c H locs cells slots (vx_MQ below Qc XC args s mc ms free) (F0 m pc ls rest) q := by
  intro T hT X
  have hpl : e.platform.magicAccessors = ({} : Platform).magicAccessors := by rw [X.admits.platform]
  obtain ⟨vm', hW', X', st⟩ := X.outThrough hlocks q (g := F0 m pc ls rest) rfl rfl rfl (cell := ce) (by rw [hT]; exact hcell) (by rw [hv]; rfl)
    (by obtain ⟨k9, h9, -⟩ := Vm.findClass_spec hcl; exact ⟨k9, h9⟩) (fun z hz => by
      rcases hpass z hz with h | ⟨hz0, nm, hl1, hn1⟩
      · exact Or.inl h
      · obtain ⟨c6, hc6, hcl6⟩ := Cond.classLink_spec hown hl1 e.platform hpl
        obtain ⟨a8, b8, h1, h2, h3⟩ := hn1
        cases Option.some.inj (h1.symm.trans hcl)
        cases Option.some.inj (h2.symm.trans hc6)
        exact Or.inr ⟨hz0, _, hcl6, h3⟩)
  obtain ⟨g₀, hfr⟩ := X'.frames_eq
  have hcell9 : ((T.setVm vm').setFrames (.throwing q :: below)).heap[q]? = some ce := by
    show T.heap[q]? = some ce
    rw [hT]; exact hcell
  have hend : Ended ((T.setVm vm').setFrames (.throwing q :: below)) below (.threw q) := State.frames_setFrames _ (State.cur_lt_of_frames hfr)
  refine ⟨(T.setVm vm').setFrames (.throwing q :: below), ?_, .threw q, X'.here.running, hend, Or.inr ⟨q, rfl, E, ce, locs, hx _ hT (X'.ends _).1.alike, hcell9, hv, hcl, (X'.ends _).1, (X'.ends _).2.mono hc hs, hf⟩⟩
  rw [X.pushThrowing_eq]
  exact st
/-- a thing of a world lies in the heap -/
theorem vx_lt {D : va_G} {cl : List vw_C} {ws : va_W} {H1 : Heap} (h : va_P D cl ws H1) {k : Nat} {q : Nat × va_E} (hk : ws[k]? = some q) : q.1 < H1.size := (h k q hk).lt
end VXS
/-! ===== END ===== -/
/-! ===== BEGIN methods with a table of their own: called by a name, returning or throwing ===== -/
section VXH
/-! vx_backW, vx_callVX, vx_callSX, vx_callVW, vx_runVW, vx_runVX, vx_runSX, vx_ofWH follow the same proofs as their sisters above (Free/Laws.lean, Shelf42/LK1.lean); vx_outP calls Shelf42/NT130.lean (outThrough). -/
section
variable {l : Launch} {R : Room} {p : Program} {e : Env} {below : List Frame} {s : State} {sargs : Array Value} {y : MethodName} {len W9 : Nat}
theorem vx_backW {ws : List Cond} {rm : Room} {Pc : Array Value → State → Prop} {Qc : Array Value → State → Outcome → State → Prop} {XC : String → State → State → Prop} {mc ms : Nat} {free : Addr → Prop} {bytes : ByteArray} {maxL : Nat} {ret : Option FieldType} {hh : List (Nat × Nat × Nat × Nat)}
    (hM : vx_Met l y ws rm Pc Qc XC mc ms free) (hblind : FrameBlind Pc) (hrc : rm.cells = mc) (hrs : rm.slots = ms)
    (hframes : rm.frames + 1 ≤ R.frames) (hlocals : W9 + (maxL + 11) + rm.locals ≤ R.locals)
    (hws : ∀ w ∈ ws, ∀ a' U, s.WarmedH U.vm → w.before a' U = true) (hcode : Cond.codeWith y bytes maxL ret hh ∈ ws) (hinit : ∀ a' U, s.WarmedH U.vm → (Cond.initialized y.cls).before a' U = true) :
    vx_Back l R p e below s sargs y len W9 (PreOf R mc ms Pc) (PostOf Qc mc ms free) (vx_Post XC mc ms free) := by
  intro m meth c A g ig mk a X hg hsize hdg hW hn hp
  have h1 : (headSpec ws rm).pre.before a A.U = true := atoms_intro fun w hw => hws w hw _ _ X.warmed
  have h2 : (Cond.codeWith y bytes maxL ret hh).before a A.U = true := hws _ hcode _ _ X.warmed
  have h3 : (Cond.initialized y.cls).before a A.U = true := hinit _ _ X.warmed
  have h4 : A.cells + (headSpec ws rm).room.cells ≤ R.cells := by rw [show (headSpec ws rm).room.cells = mc from hrc]; exact hp.1
  have h5 : A.slots + (headSpec ws rm).room.slots ≤ R.slots := by rw [show (headSpec ws rm).room.slots = ms from hrs]; exact hp.2.1
  have hPc : Pc a (A.U.calling g mk a) := hblind _ _ _ _ hp.2.2
  obtain ⟨U, Ls, c0, s0⟩ := A
  dsimp only [Pt.U, Pt.locs, Pt.cells, Pt.slots] at h1 h2 h3 h4 h5 X hn hPc ⊢
  obtain ⟨m9, methY, cY, hn9, hmY, hcY, -, hlY, -⟩ := Cond.codeWith_spec h2
  cases Option.some.inj (hn9.symm.trans hn)
  obtain ⟨kY, hkY, -⟩ := className_of_methodNamed hn
  have hinitY : kY.init = .initialized := Cond.initialized_spec (findClass_of_methodNamed hn) hkY h3
  have h : At U g.method c below := by rw [hg]; exact X.here
  have hlocals9 : W9 + (maxL + 11) + (headSpec ws rm).room.locals ≤ R.locals := hlocals
  have happ : (headSpec ws rm).appliesLoose y e.platform (U.calling g mk a) = true :=
    Spec.appliesLoose_calling (g := g) h hdg hn hkY hinitY
      (X.room_calling (g := g) (R' := (headSpec ws rm).room) hsize hmY hcY hframes (by rw [hlY]; omega) h4 h5) h1
  obtain ⟨mid, hmid⟩ := h.above
  have hfr : (U.setTop g).frames = (.java g :: mid) ++ below := by rw [State.frames_setTop' g h.top, hmid]; rfl
  obtain ⟨o, s₂, hsteps, -, hend, hq⟩ := Steps.callFree hM p X.admits X.cas X.clock (acts := []) hfr happ hPc trivial
  have hq' : vx_Q Qc XC mc ms free a (U.calling g mk a) o s₂ := hq
  rw [State.frames_setTop' g h.top] at hend
  obtain ⟨g₀, hg0⟩ := Option.isSome_iff_exists.mp h.top
  obtain ⟨r, hr⟩ := State.topJava?_eq_some.mp hg0
  have hr' : (({ U with heap := s₂.heap, slotsUsed := s₂.slotsUsed } : State).setVm s₂.vm).frames = .java g₀ :: r := hr
  rcases hq' with ⟨hqc, L, hfe, hL⟩ | ⟨q, rfl, E, ce, L, hx, hce, hcv, hcl, hW₂, hsm, hL⟩
  · obtain ⟨⟨v, rfl⟩, hW₂, e2, q2, q3, q4, q5, q6⟩ := id hfe
    have e3 : s₂ = ({ (U.calling g mk a).setFrames s₂.frames with heap := s₂.heap, slotsUsed := s₂.slotsUsed } : State).setVm s₂.vm := by
      have : s₂ = ({ s₂ with vm := (U.calling g mk a).vm } : State).setVm s₂.vm := rfl
      rw [e2] at this
      exact this
    obtain ⟨c₂, i₂, len₂, hc₂, hd₂, hf₂⟩ := hend
    have hW' : U.WarmedH s₂.vm := hW₂
    have hcc : c₂ = c := by
      have h1 : s₂.code? g.method = U.code? g.method := by
        rw [State.code?_eq, State.code?_eq, hW'.alike.method?]
      exact Option.some.inj (hc₂.symm.trans (h1.trans h.code))
    subst hcc
    have hlen : len₂ = len := by rw [hdg] at hd₂; cases hd₂; rfl
    subst hlen
    have hs₂ : s₂ = (({ U with heap := s₂.heap, slotsUsed := s₂.slotsUsed } : State).setVm s₂.vm).setTop { g with pc := g.pc + len₂, stack := v.toList ++ g.stack } := by
      refine e3.trans ?_
      rw [hf₂, State.calling_eq h.top, State.setFrames_setFrames, State.setTop_of_frames _ hr', hr]
      rfl
    have hsame : U.sameButNew ({ U with heap := s₂.heap, slotsUsed := s₂.slotsUsed } : State) L mc ms := by
      refine ⟨?_, q2, q3, q4, q5, q6⟩
      obtain ⟨t, ht, -⟩ := State.frames_cons hr
      show ({ U with heap := s₂.heap, slotsUsed := s₂.slotsUsed } : State) = { U.setFrames U.frames with heap := s₂.heap, slotsUsed := s₂.slotsUsed }
      rw [State.setFrames_self ht]
    subst hg
    refine Or.inl ⟨v, ⟨(({ U with heap := s₂.heap, slotsUsed := s₂.slotsUsed } : State).setVm s₂.vm), Ls ++ L, c0 + mc, s0 + ms⟩,
      ⟨X.admits, X.cas, X.clock, X.frames, X.room, X.hears, X.method, X.code, (X.here.setHeapUsed s₂.heap s₂.slotsUsed).setVm hW'.alike, X.tail, State.WarmedH.trans X.warmed hW', X.limits, X.bytes, X.same.trans (hsame.setVm s.vm)⟩,
      ⟨g, mk, s₂, L, rfl, rfl, hqc, rfl, hL, rfl, rfl⟩, ?_⟩
    show Steps p.tables e below _ ((({ U with heap := s₂.heap, slotsUsed := s₂.slotsUsed } : State).setVm s₂.vm).setTop { g with pc := g.pc + len₂, stack := v.toList ++ g.stack })
    rw [← hs₂]
    exact hsteps
  · obtain ⟨e2, q2, q3, q4, q5, q6⟩ := id hsm
    have e3 : s₂ = ({ (U.calling g mk a).setFrames s₂.frames with heap := s₂.heap, slotsUsed := s₂.slotsUsed } : State).setVm s₂.vm := by
      have : s₂ = ({ s₂ with vm := (U.calling g mk a).vm } : State).setVm s₂.vm := rfl
      rw [e2] at this
      exact this
    have hf₂ : s₂.frames = .throwing q :: .java g :: U.frames.tail := hend
    have hW' : U.WarmedH s₂.vm := hW₂
    have hs₂ : s₂ = ((({ U with heap := s₂.heap, slotsUsed := s₂.slotsUsed } : State).setVm s₂.vm).setTop g).pushFrame (.throwing q) := by
      refine e3.trans ?_
      rw [hf₂, State.calling_eq h.top, State.setFrames_setFrames, State.pushFrame, State.frames_setTop _ hr', State.setTop_of_frames _ hr', State.setFrames_setFrames, hr]
      rfl
    have hsame : U.sameButNew ({ U with heap := s₂.heap, slotsUsed := s₂.slotsUsed } : State) L mc ms := by
      refine ⟨?_, q2, q3, q4, q5, q6⟩
      obtain ⟨t, ht, -⟩ := State.frames_cons hr
      show ({ U with heap := s₂.heap, slotsUsed := s₂.slotsUsed } : State) = { U.setFrames U.frames with heap := s₂.heap, slotsUsed := s₂.slotsUsed }
      rw [State.setFrames_self ht]
    subst hg
    refine Or.inr ⟨q, ⟨(({ U with heap := s₂.heap, slotsUsed := s₂.slotsUsed } : State).setVm s₂.vm), Ls ++ L, c0 + mc, s0 + ms⟩,
      ⟨X.admits, X.cas, X.clock, X.frames, X.room, X.hears, X.method, X.code, (X.here.setHeapUsed s₂.heap s₂.slotsUsed).setVm hW'.alike, X.tail, State.WarmedH.trans X.warmed hW', X.limits, X.bytes, X.same.trans (hsame.setVm s.vm)⟩,
      ⟨g, mk, s₂, L, E, ce, rfl, rfl, hx, hce, hcv, hcl, rfl, hL, rfl, rfl⟩, ?_⟩
    show Steps p.tables e below _ (((({ U with heap := s₂.heap, slotsUsed := s₂.slotsUsed } : State).setVm s₂.vm).setTop g).pushFrame (.throwing q))
    rw [← hs₂]
    exact hsteps
end
variable {p : Program} {l : Launch} {e : Env} {R : Room} {s : State} {m : MethodId} {args : Array Value} {below : List Frame} {meth : Method} {c : Code} {T : State} {H : Heap} {locs : List Loc} {cells slots : Nat}
theorem vx_callVX (X : Stand p l e R s m args below meth c T locs cells slots) (hexec : p.tables.exec = Jvm.exec) {own C : String} {index : Nat} {y : MethodName} {bytes : ByteArray} {maxL : Nat} {ret : Option FieldType} {hh : List (Nat × Nat × Nat × Nat)}
    (hown : s.vm.findClass own = some m.cls) (hlink : (Cond.methodLink own index y).before args s = true) (hinst : (Cond.instanceMethod y).before args s = true) (hsel : (Cond.selects C y y).before args s = true)
    (hcode : (Cond.codeWith y bytes maxL ret hh).before args s = true) (hy : y.cls ≠ "java/lang/invoke/MethodHandle" ∧ y.cls ≠ "java/lang/invoke/VarHandle")
    {W9 : Nat} {Pre : Pt → Array Value → Prop} {Post : Pt → Array Value → Option Value → Pt → Prop} {PostX : Pt → Array Value → Addr → Pt → Prop} (hK : vx_Back l R p e below s args y 3 W9 Pre Post PostX)
    {b : Addr} {cellB : Cell} (hcell : T.heap[b]? = some cellB) (hobj : cellB.vm.isStatics = false) (hcls : s.vm.findClass C = some cellB.cls)
    {g : JFrame} (hg : g.method = m) (hsize : g.locals.size = c.maxLocals) {argsL rest : List Value} (hlen : ∀ sig, parseMethodDescriptor y.desc = some sig → argsL.length = sig.parameters.length)
    (hstack : g.stack = argsL.reverse ++ .ref b :: rest) (hW : 2 * g.monitorRoom + (rest.map fun v => v.category).sum ≤ W9) (hdg : decode c.code g.pc = .ok (.invokevirtual index, 3))
    (hpre : ∀ vm₁, s.WarmedH vm₁ → Pre ⟨T.setVm vm₁, locs, cells, slots⟩ (Value.ref b :: argsL).toArray) :
    (∃ (v : Option Value) (vm₁ : Vm) (B : Pt), s.WarmedH vm₁ ∧ Stand p l e R s m args below meth c B.U B.locs B.cells B.slots ∧ Post ⟨T.setVm vm₁, locs, cells, slots⟩ (Value.ref b :: argsL).toArray v B ∧
      ∀ target, Steps p.tables e below (B.U.setTop { g with pc := g.pc + 3, stack := v.toList ++ rest }) target → Steps p.tables e below (T.setTop g) target) ∨
    (∃ (q : Addr) (vm₁ : Vm) (B : Pt), s.WarmedH vm₁ ∧ Stand p l e R s m args below meth c B.U B.locs B.cells B.slots ∧ PostX ⟨T.setVm vm₁, locs, cells, slots⟩ (Value.ref b :: argsL).toArray q B ∧
      Steps p.tables e below (T.setTop g) ((B.U.setTop { g with stack := rest }).pushFrame (.throwing q))) := by
  obtain ⟨mk, methM, hnamed, hmethM, hstM, habM⟩ := Cond.instanceMethod_spec hinst
  obtain ⟨m8, methM', cM, hn8, hmethM', -, -, -, -, -, -, hsigM⟩ := Cond.codeWith_spec hcode
  cases Option.some.inj (hn8.symm.trans hnamed)
  cases hmethM.symm.trans hmethM'
  obtain ⟨c2, r2, m2, q1, q2, q3, q4, kP, hkP, hkPi⟩ := Cond.selects_spec hsel
  cases hcls.symm.trans q1
  cases (State.methodFound?_of_named hnamed hy).symm.trans q2
  cases hnamed.symm.trans q3
  have hselP : selectMethod e.platform s.vm cellB.cls mk = .method mk := by rw [Launch.admits_selectMethod X.admits]; exact q4
  obtain ⟨vm₁, X₁, hstep₁⟩ := X.invokevirtual hexec hown hlink hnamed hmethM hstM hkP hkPi hy (a := b) (cell := cellB) hcell
    (fun z h => by rw [h] at hobj; cases hobj) hselP hmethM habM hkP hkPi (g := g) hg (argsL := argsL) (rest := rest) (hlen _ hsigM) hstack hdg
  rcases hK m meth c ⟨T.setVm vm₁, locs, cells, slots⟩ { g with stack := rest } (.invokevirtual index) mk (Value.ref b :: argsL).toArray X₁ hg hsize hdg hW (X₁.named hnamed) (hpre vm₁ X₁.warmed) with ⟨v, B, X', hpost, hsteps⟩ | ⟨q, B, X', hpost, hsteps⟩
  · exact Or.inl ⟨v, vm₁, B, X₁.warmed, X', hpost, fun target h => hstep₁ _ fun acts => by rw [doInvoke_state]; exact hsteps.trans h⟩
  · exact Or.inr ⟨q, vm₁, B, X₁.warmed, X', hpost, hstep₁ _ fun acts => by rw [doInvoke_state]; exact hsteps⟩
theorem vx_callSX (X : Stand p l e R s m args below meth c T locs cells slots) (hexec : p.tables.exec = Jvm.exec) {own : String} {index : Nat} {y : MethodName} {bytes : ByteArray} {maxL : Nat} {ret : Option FieldType} {hh : List (Nat × Nat × Nat × Nat)}
    (hown : s.vm.findClass own = some m.cls) (hlink : (Cond.methodLink own index y).before args s = true) (hstat : (Cond.static y).before args s = true) (hinit : (Cond.initialized y.cls).before args s = true)
    (hcode : (Cond.codeWith y bytes maxL ret hh).before args s = true) (hy : y.cls ≠ "java/lang/invoke/MethodHandle" ∧ y.cls ≠ "java/lang/invoke/VarHandle")
    {W9 : Nat} {Pre : Pt → Array Value → Prop} {Post : Pt → Array Value → Option Value → Pt → Prop} {PostX : Pt → Array Value → Addr → Pt → Prop} (hK : vx_Back l R p e below s args y 3 W9 Pre Post PostX)
    {g : JFrame} (hg : g.method = m) (hsize : g.locals.size = c.maxLocals) {argsL rest : List Value} (hlen : ∀ sig, parseMethodDescriptor y.desc = some sig → argsL.length = sig.parameters.length)
    (hstack : g.stack = argsL.reverse ++ rest) (hW : 2 * g.monitorRoom + (rest.map fun v => v.category).sum ≤ W9) (hdg : decode c.code g.pc = .ok (.invokestatic index, 3))
    (hpre : ∀ vm₁, s.WarmedH vm₁ → Pre ⟨T.setVm vm₁, locs, cells, slots⟩ argsL.toArray) :
    (∃ (v : Option Value) (vm₁ : Vm) (B : Pt), s.WarmedH vm₁ ∧ Stand p l e R s m args below meth c B.U B.locs B.cells B.slots ∧ Post ⟨T.setVm vm₁, locs, cells, slots⟩ argsL.toArray v B ∧
      ∀ target, Steps p.tables e below (B.U.setTop { g with pc := g.pc + 3, stack := v.toList ++ rest }) target → Steps p.tables e below (T.setTop g) target) ∨
    (∃ (q : Addr) (vm₁ : Vm) (B : Pt), s.WarmedH vm₁ ∧ Stand p l e R s m args below meth c B.U B.locs B.cells B.slots ∧ PostX ⟨T.setVm vm₁, locs, cells, slots⟩ argsL.toArray q B ∧
      Steps p.tables e below (T.setTop g) ((B.U.setTop { g with stack := rest }).pushFrame (.throwing q))) := by
  obtain ⟨mk, methM, cM, hnamed, hmethM, -, -, -, -, -, -, hsigM⟩ := Cond.codeWith_spec hcode
  have hstatic : methM.isStatic = true := Cond.static_spec hnamed hmethM hstat
  obtain ⟨kP, hkP, -⟩ := className_of_methodNamed hnamed
  have hinitP : kP.init = .initialized := Cond.initialized_spec (findClass_of_methodNamed hnamed) hkP hinit
  obtain ⟨vm₁, X₁, hstep₁⟩ := X.invokestatic hexec hown hlink hnamed hmethM hstatic hkP hinitP hy (g := g) hg (argsL := argsL) (rest := rest) (hlen _ hsigM) hstack hdg
  rcases hK m meth c ⟨T.setVm vm₁, locs, cells, slots⟩ { g with stack := rest } (.invokestatic index) mk argsL.toArray X₁ hg hsize hdg hW (X₁.named hnamed) (hpre vm₁ X₁.warmed) with ⟨v, B, X', hpost, hsteps⟩ | ⟨q, B, X', hpost, hsteps⟩
  · exact Or.inl ⟨v, vm₁, B, X₁.warmed, X', hpost, fun target h => hstep₁ _ fun acts => by rw [doInvoke_state]; exact hsteps.trans h⟩
  · exact Or.inr ⟨q, vm₁, B, X₁.warmed, X', hpost, hstep₁ _ fun acts => by rw [doInvoke_state]; exact hsteps⟩
theorem vx_callVW (X : Stand p l e R s m args below meth c T locs cells slots) (hexec : p.tables.exec = Jvm.exec) {own C : String} {index : Nat} {y : MethodName} {bytes : ByteArray} {maxL : Nat} {ret : Option FieldType} {hh : List (Nat × Nat × Nat × Nat)}
    (hown : s.vm.findClass own = some m.cls) (hlink : (Cond.methodLink own index y).before args s = true) (hinst : (Cond.instanceMethod y).before args s = true) (hsel : (Cond.selects C y y).before args s = true)
    (hcode : (Cond.codeWith y bytes maxL ret hh).before args s = true) (hy : y.cls ≠ "java/lang/invoke/MethodHandle" ∧ y.cls ≠ "java/lang/invoke/VarHandle")
    {W9 : Nat} {Pre : Pt → Array Value → Prop} {Post : Pt → Array Value → Option Value → Pt → Prop} (hK : Back l R p e below s args y 3 W9 Pre Post)
    {b : Addr} {cellB : Cell} (hcell : T.heap[b]? = some cellB) (hobj : cellB.vm.isStatics = false) (hcls : s.vm.findClass C = some cellB.cls)
    {g : JFrame} (hg : g.method = m) (hsize : g.locals.size = c.maxLocals) {argsL rest : List Value} (hlen : ∀ sig, parseMethodDescriptor y.desc = some sig → argsL.length = sig.parameters.length)
    (hstack : g.stack = argsL.reverse ++ .ref b :: rest) (hW : 2 * g.monitorRoom + (rest.map fun v => v.category).sum ≤ W9) (hdg : decode c.code g.pc = .ok (.invokevirtual index, 3))
    (hpre : ∀ vm₁, s.WarmedH vm₁ → Pre ⟨T.setVm vm₁, locs, cells, slots⟩ (Value.ref b :: argsL).toArray) :
    ∃ (v : Option Value) (vm₁ : Vm) (B : Pt), s.WarmedH vm₁ ∧ Stand p l e R s m args below meth c B.U B.locs B.cells B.slots ∧ Post ⟨T.setVm vm₁, locs, cells, slots⟩ (Value.ref b :: argsL).toArray v B ∧
      ∀ target, Steps p.tables e below (B.U.setTop { g with pc := g.pc + 3, stack := v.toList ++ rest }) target → Steps p.tables e below (T.setTop g) target := by
  obtain ⟨mk, methM, hnamed, hmethM, hstM, habM⟩ := Cond.instanceMethod_spec hinst
  obtain ⟨m8, methM', cM, hn8, hmethM', -, -, -, -, -, -, hsigM⟩ := Cond.codeWith_spec hcode
  cases Option.some.inj (hn8.symm.trans hnamed)
  cases hmethM.symm.trans hmethM'
  obtain ⟨c2, r2, m2, q1, q2, q3, q4, kP, hkP, hkPi⟩ := Cond.selects_spec hsel
  cases hcls.symm.trans q1
  cases (State.methodFound?_of_named hnamed hy).symm.trans q2
  cases hnamed.symm.trans q3
  have hselP : selectMethod e.platform s.vm cellB.cls mk = .method mk := by rw [Launch.admits_selectMethod X.admits]; exact q4
  obtain ⟨vm₁, X₁, hstep₁⟩ := X.invokevirtual hexec hown hlink hnamed hmethM hstM hkP hkPi hy (a := b) (cell := cellB) hcell
    (fun z h => by rw [h] at hobj; cases hobj) hselP hmethM habM hkP hkPi (g := g) hg (argsL := argsL) (rest := rest) (hlen _ hsigM) hstack hdg
  obtain ⟨v, B, X', hpost, hsteps⟩ := hK m meth c ⟨T.setVm vm₁, locs, cells, slots⟩ { g with stack := rest } (.invokevirtual index) mk (Value.ref b :: argsL).toArray X₁ hg hsize hdg hW (X₁.named hnamed) (hpre vm₁ X₁.warmed)
  exact ⟨v, vm₁, B, X₁.warmed, X', hpost, fun target h => hstep₁ _ fun acts => by rw [doInvoke_state]; exact hsteps.trans h⟩
abbrev vx_CVW (R : Room) (s : State) (args : Array Value) (own C : String) (index : Nat) (y : MethodName) (bytes : ByteArray) (maxL : Nat) (ret : Option FieldType) (hh : List (Nat × Nat × Nat × Nat)) (ws : List Cond) (rm : Room) (mc ms n : Nat) : Prop :=
  (rm.cells = mc ∧ rm.slots = ms ∧ rm.frames + 1 ≤ R.frames ∧ 8 + (maxL + 11) + rm.locals ≤ R.locals ∧ (∀ w ∈ ws, ∀ (a' : Array Value) (U : State), s.WarmedH U.vm → w.before a' U = true) ∧ Cond.codeWith y bytes maxL ret hh ∈ ws) ∧
  (Cond.codeWith y bytes maxL ret hh).before args s = true ∧ (Cond.initialized y.cls).before args s = true ∧ (y.cls ≠ "java/lang/invoke/MethodHandle" ∧ y.cls ≠ "java/lang/invoke/VarHandle") ∧
  (∀ sig, parseMethodDescriptor y.desc = some sig → n = sig.parameters.length) ∧ (Cond.methodLink own index y).before args s = true ∧ (Cond.instanceMethod y).before args s = true ∧ (Cond.selects C y y).before args s = true
theorem vx_cwVW {own C : String} {index maxL mc ms : Nat} {y : MethodName} {bytes : ByteArray} {ret : Option FieldType} {hh : List (Nat × Nat × Nat × Nat)} {Ts ws ws' : List Cond} {rm : Room} (n : Nat) (ht : ∀ w ∈ Ts, w.before args s = true) (hT : GoodIn Ts (wsV own index C y ws)) (hw : ws = Cond.codeWith y bytes maxL ret hh :: ws') (hrc : rm.cells = mc) (hrs : rm.slots = ms)
    (hd : y.cls = C ∧ y.cls ≠ "java/lang/invoke/MethodHandle" ∧ y.cls ≠ "java/lang/invoke/VarHandle" ∧ (parseMethodDescriptor y.desc).map (fun d => d.parameters.length) = some n) (hR : rm.frames + 1 ≤ R.frames ∧ 8 + (maxL + 11) + rm.locals ≤ R.locals) :
    vx_CVW R s args own C index y bytes maxL ret hh ws rm mc ms n := by
  obtain ⟨hC, hd⟩ := hd
  subst hC
  have ok : ∀ w ∈ wsV own index y.cls y ws, w.before args s = true := fun w h => ht w (hT w h).1
  have hG : GoodIn Ts ws := fun w h => hT w (by unfold wsV; exact List.mem_append_right _ h)
  have hc : Cond.codeWith y bytes maxL ret hh ∈ ws := by rw [hw]; exact List.mem_cons_self
  refine ⟨⟨hrc, hrs, hR.1, hR.2, pay_in ht hG, hc⟩, ht _ (hG _ hc).1, ok _ (by simp [wsV]), ⟨hd.1, hd.2.1⟩, fun sig h => ?_, ok _ (by simp [wsV]), ok _ (by simp [wsV]), ok _ (by simp [wsV])⟩
  have h2 := hd.2.2
  rw [h] at h2
  exact (Option.some.inj h2).symm
theorem vx_runVW {y : MethodName} {bytes cc : ByteArray} {maxL nL mc ms n index : Nat} {ret : Option FieldType} {hh : List (Nat × Nat × Nat × Nat)} {ws : List Cond} {rm : Room} {Pc : Array Value → State → Prop} {Qc : Array Value → State → Outcome → State → Prop} {free : Addr → Prop} {Ts : List Cond} {own C : String} {b : Addr} {As rest : List Value} {g : JFrame}
    (S : CallFix p m c cc nL s args Ts own) (hM : Met l y ws rm Pc Qc mc ms free) (cw : vx_CVW R s args own C index y bytes maxL ret hh ws rm mc ms n) (hp : PreV s H C b Pc As)
    (hg : g.method = m) (hn : As.length = n) (hsize : g.locals.size = nL) (hstack : g.stack = As.reverse ++ .ref b :: rest) (hW : 2 * g.monitorRoom + (rest.map fun v => v.category).sum ≤ 8) (hdg : decode cc g.pc = .ok (.invokevirtual index, 3)) (hf : cells + mc ≤ R.cells ∧ slots + ms ≤ R.slots) :
    va_Run p l e R s m args below meth c H locs cells slots mc ms g rest (Qc (Value.ref b :: As).toArray) free := by
  obtain ⟨⟨hrc, hrs, hfr, hlo, hws, hcw⟩, hcode, hini, hy, hlen, hl, hin, hse⟩ := cw
  have hK : Back l R p e below s args y 3 8 (PreOf R mc ms Pc) (PostOf Qc mc ms free) := va_backW (hh := hh) (bytes := bytes) (maxL := maxL) (ret := ret) hM hp.1 hrc hrs hfr hlo hws hcw (fun a' U hW => word_at hW (Or.inl (by first | rfl | simp [Cond.onTables, Cond.keeps, Cond.steady])) hini)
  obtain ⟨hx, hb, hml, ho, -⟩ := S
  obtain ⟨-, ⟨cellB, hcB, hoB, hclB⟩, hPc⟩ := hp
  intro T hT X
  obtain ⟨v, vm₁, ⟨U', l2, c2, s2⟩, hW₁, X', ⟨g', mk, t, L, e1, e2, hq, h1, hL, h2, h3⟩, st⟩ := vx_callVW X hx (C := C) (hh := hh) (bytes := bytes) (maxL := maxL) (ret := ret) ho hl hin hse hcode hy hK (by rw [hT]; exact hcB) hoB hclB hg (hsize.trans hml.symm) (argsL := As) (rest := rest) (fun sig h => hn.trans (hlen sig h)) hstack hW (by rw [hb]; exact hdg)
    (fun vm₁ hW₁ => ⟨hf.1, hf.2, hPc (T.setVm vm₁) hT hW₁⟩)
  dsimp only [Pt.U, Pt.locs, Pt.cells, Pt.slots] at X' e1 e2 h1 h2 h3 st
  subst h1; subst h2; subst h3
  exact ⟨v, (T.setVm vm₁).calling g' mk (Value.ref b :: As).toArray, t, U', L, hT, X', hL, e1, e2, hq, st⟩
section
variable {y : MethodName} {bytes cc : ByteArray} {maxL nL mc ms n index : Nat} {ret : Option FieldType} {ws : List Cond} {rm : Room} {Pc : Array Value → State → Prop} {Qc : Array Value → State → Outcome → State → Prop} {XC : String → State → State → Prop} {free : Addr → Prop} {Ts : List Cond} {own C : String} {b : Addr} {As rest : List Value} {g : JFrame}
theorem vx_runVX {hh : List (Nat × Nat × Nat × Nat)} (S : CallFix p m c cc nL s args Ts own) (hM : vx_Met l y ws rm Pc Qc XC mc ms free) (cw : vx_CVW R s args own C index y bytes maxL ret hh ws rm mc ms n) (hp : PreV s H C b Pc As)
    (hg : g.method = m) (hn : As.length = n) (hsize : g.locals.size = nL) (hstack : g.stack = As.reverse ++ .ref b :: rest) (hW : 2 * g.monitorRoom + (rest.map fun v => v.category).sum ≤ 8) (hdg : decode cc g.pc = .ok (.invokevirtual index, 3)) (hf : cells + mc ≤ R.cells ∧ slots + ms ≤ R.slots) :
    vx_Run p l e R s m args below meth c H locs cells slots mc ms g rest (Qc (Value.ref b :: As).toArray) XC free := by
  obtain ⟨⟨hrc, hrs, hfr, hlo, hws, hcw⟩, hcode, hini, hy, hlen, hl, hin, hse⟩ := cw
  have hK : vx_Back l R p e below s args y 3 8 (PreOf R mc ms Pc) (PostOf Qc mc ms free) (vx_Post XC mc ms free) := vx_backW (hh := hh) (bytes := bytes) (maxL := maxL) (ret := ret) hM hp.1 hrc hrs hfr hlo hws hcw (fun a' U hW => word_at hW (Or.inl (by first | rfl | simp [Cond.onTables, Cond.keeps, Cond.steady])) hini)
  obtain ⟨hx, hb, hml, ho, -⟩ := S
  obtain ⟨-, ⟨cellB, hcB, hoB, hclB⟩, hPc⟩ := hp
  intro T hT X
  rcases vx_callVX X hx (C := C) (hh := hh) (bytes := bytes) (maxL := maxL) (ret := ret) ho hl hin hse hcode hy hK (by rw [hT]; exact hcB) hoB hclB hg (hsize.trans hml.symm) (argsL := As) (rest := rest) (fun sig h => hn.trans (hlen sig h)) hstack hW (by rw [hb]; exact hdg)
    (fun vm₁ hW₁ => ⟨hf.1, hf.2, hPc (T.setVm vm₁) hT hW₁⟩) with ⟨v, vm₁, ⟨U', l2, c2, s2⟩, hW₁, X', ⟨g', mk, t, L, e1, e2, hq, h1, hL, h2, h3⟩, st⟩ | ⟨q, vm₁, ⟨U', l2, c2, s2⟩, hW₁, X', ⟨g', mk, t, L, E, ce, e1, e2, hq, hce, hcv, hcl, h1, hL, h2, h3⟩, st⟩
  · dsimp only [Pt.U, Pt.locs, Pt.cells, Pt.slots] at X' e1 e2 h1 h2 h3 st
    subst h1; subst h2; subst h3
    exact Or.inl ⟨v, (T.setVm vm₁).calling g' mk (Value.ref b :: As).toArray, t, U', L, hT, X', hL, e1, e2, hq, st⟩
  · dsimp only [Pt.U, Pt.locs, Pt.cells, Pt.slots] at X' e1 e2 h1 h2 h3 st hcl
    subst h1; subst h2; subst h3
    exact Or.inr ⟨q, (T.setVm vm₁).calling g' mk (Value.ref b :: As).toArray, t, U', L, E, ce, hT, X', hL, e1, e2, hq, hce, hcv, vx_cls hW₁ hcl, st⟩
theorem vx_runSX {hh : List (Nat × Nat × Nat × Nat)} (S : CallFix p m c cc nL s args Ts own) (hM : vx_Met l y ws rm Pc Qc XC mc ms free) (cw : vx_CSW R s args own index y bytes maxL ret hh ws rm mc ms n) (hp : PreS s H Pc As)
    (hg : g.method = m) (hn : As.length = n) (hsize : g.locals.size = nL) (hstack : g.stack = As.reverse ++ rest) (hW : 2 * g.monitorRoom + (rest.map fun v => v.category).sum ≤ 8) (hdg : decode cc g.pc = .ok (.invokestatic index, 3)) (hf : cells + mc ≤ R.cells ∧ slots + ms ≤ R.slots) :
    vx_Run p l e R s m args below meth c H locs cells slots mc ms g rest (Qc As.toArray) XC free := by
  obtain ⟨⟨hrc, hrs, hfr, hlo, hws, hcw⟩, hcode, hini, hy, hlen, hl, hstt⟩ := cw
  have hK : vx_Back l R p e below s args y 3 8 (PreOf R mc ms Pc) (PostOf Qc mc ms free) (vx_Post XC mc ms free) := vx_backW (hh := hh) (bytes := bytes) (maxL := maxL) (ret := ret) hM hp.1 hrc hrs hfr hlo hws hcw (fun a' U hW => word_at hW (Or.inl (by first | rfl | simp [Cond.onTables, Cond.keeps, Cond.steady])) hini)
  obtain ⟨hx, hb, hml, ho, -⟩ := S
  intro T hT X
  rcases vx_callSX X hx (hh := hh) (bytes := bytes) (maxL := maxL) (ret := ret) ho hl hstt hini hcode hy hK hg (hsize.trans hml.symm) (argsL := As) (rest := rest) (fun sig h => hn.trans (hlen sig h)) hstack hW (by rw [hb]; exact hdg)
    (fun vm₁ hW₁ => ⟨hf.1, hf.2, hp.2 (T.setVm vm₁) hT hW₁⟩) with ⟨v, vm₁, ⟨U', l2, c2, s2⟩, hW₁, X', ⟨g', mk, t, L, e1, e2, hq, h1, hL, h2, h3⟩, st⟩ | ⟨q, vm₁, ⟨U', l2, c2, s2⟩, hW₁, X', ⟨g', mk, t, L, E, ce, e1, e2, hq, hce, hcv, hcl, h1, hL, h2, h3⟩, st⟩
  · dsimp only [Pt.U, Pt.locs, Pt.cells, Pt.slots] at X' e1 e2 h1 h2 h3 st
    subst h1; subst h2; subst h3
    exact Or.inl ⟨v, (T.setVm vm₁).calling g' mk As.toArray, t, U', L, hT, X', hL, e1, e2, hq, st⟩
  · dsimp only [Pt.U, Pt.locs, Pt.cells, Pt.slots] at X' e1 e2 h1 h2 h3 st hcl
    subst h1; subst h2; subst h3
    exact Or.inr ⟨q, (T.setVm vm₁).calling g' mk As.toArray, t, U', L, E, ce, hT, X', hL, e1, e2, hq, hce, hcv, vx_cls hW₁ hcl, st⟩
end
end VXH
theorem vx_ofWH {l : Launch} {y : MethodName} {ws ws' : List Cond} {rm : Room} {Pc : Array Value → State → Prop} {Qc : Array Value → State → Outcome → State → Prop} {XC : String → State → State → Prop} {mc ms : Nat} {free : Addr → Prop} {cc : ByteArray} {maxL : Nat} {ret : Option FieldType} {hh : List (Nat × Nat × Nat × Nat)}
    (hy : plainName y.cls = true) (hw : ws = Cond.codeWith y cc maxL ret hh :: ws')
    (body : ∀ p e s m args below meth c s₁, BodyLoose p l y (headSpec ws rm) cc maxL ret e s m args below meth c s₁ → c.maxLocals = maxL → Pc args s →
      W p l e (headSpec ws rm).room s m args below meth c s.heap [] 0 0 (vx_MQ below Qc XC args s mc ms free) (entryFrame m args maxL)) : vx_Met l y ws rm Pc Qc XC mc ms free := by
  refine MetFree.of_bodyS (code := cc) (maxLocals := maxL) (ret := ret) hy ?_ ?_
  · intro args s m h hn
    obtain ⟨m9, meth, c, hn9, h1, h2, h3, h4, -, h5, h6, -⟩ := Cond.codeWith_spec (atoms_spec (ws := ws) h _ (by rw [hw]; exact List.mem_cons_self))
    cases hn.symm.trans hn9
    exact ⟨meth, c, h1, h2, h3, h4, h5, h6⟩
  · intro p e s m args below meth c s₁ B hml hP _
    have hh0 : s₁.heap = s.heap := by rw [B.state]; rfl
    obtain ⟨t, a1, o, b1, b2, b3⟩ := body p e s m args below meth c s₁ B hml hP s₁ hh0 (Stand.of_body B)
    exact ⟨t, o, a1, b1, b2, b3⟩
/-! ===== END ===== -/

/-! ===== BEGIN what the machine throws by itself, no traces kept ===== -/
section VXM
set_option maxHeartbeats 1000000 in
/-- the machine throws cls with the message text, no traces kept: from its note over the frame g to 'throwing' over the same frame (follows the proofs of Stand.vmThrowsMessage, Shelf/KitTracedVmS.lean, and Stand.throwsMessageColdBareV, StandMessageColdV.lean, without the step out of the frame) -/
theorem vx_vmAt {p : Program} {l : Launch} {e : Env} {R : Room} {s : State} {m₀ : MethodId} {args : Array Value} {below : List Frame} {meth : Method} {c : Code} {W : State} {locs : List Loc} {cells slots : Nat}
    (X : Stand p l e R s m₀ args below meth c W locs cells slots) (hexec : p.tables.exec = Jvm.exec) (htr : e.platform.stackTraces = false) {cls : String} {names : List String} {text : String}
    (hcls : Bundle.fit cls = true) (hnames : ∀ n ∈ names, Bundle.fit n = true) (hsoe : (cls == "java/lang/StackOverflowError") = false) (hoom : (cls == "java/lang/OutOfMemoryError") = false)
    (h : ∀ a ∈ Bundle.messageArmAtoms cls names, a.before args s = true)
    (hlocs : ∀ x ∈ locs, ∀ cell, s.heap[x.base]? = some cell → cell.vm.isStatics = false)
    (htext : (text == notModelled) = false) (hlimit : ¬ (stringBytes (stringToUtf16 text)).size > e.platform.arrayLengthLimit) (hheap : ¬ (stringBytes (stringToUtf16 text)).size * componentBytes .byte > e.platform.maxHeapBytes)
    {g : JFrame} (hg : g.method = m₀) (hsize : g.locals.size = c.maxLocals)
    (hRframes : names.length + 4 < R.frames) (hRlocals : 2 * g.monitorRoom + (g.stack.map fun v => v.category).sum + 10240 ≤ R.locals) (hshort : 13 * names.length + 55 ≤ 10240)
    (hRcells : cells + 3 ≤ R.cells) (hRslots : slots + ((stringBytes (stringToUtf16 text)).size + 4 + 6) ≤ R.slots) (hlocks : meth.locks = false) :
    ∃ (S : State) (q : Addr) (ce : Cell), (∀ target, Steps p.tables e below ((S.setTop g).pushFrame (.throwing q)) target → Steps p.tables e below ((W.setTop g).pushFrame (.throwNew cls (some text) none)) target) ∧
      Stand p l e R s m₀ args below meth c S locs (cells + 3) (slots + ((stringBytes (stringToUtf16 text)).size + 4 + 6)) ∧ S.heap[q]? = some ce ∧ s.vm.findClass cls = some ce.cls ∧ ce.vm = .none := by
  have howns : e.platform.frameOwnsMonitors = true := by rw [X.admits.platform]
  have hfin : e.platform.finalization = false := by rw [X.admits.platform]
  have hpl : e.platform.magicAccessors = ({} : Platform).magicAccessors := by rw [X.admits.platform]
  have a : ∀ x, x ∈ Bundle.messageArmAtoms cls names → x.holds args s none s [] = true := fun x hx => h x hx
  obtain ⟨T, Z0, L, -, Y⟩ := ThrowableC.of_atoms (args := args) howns hfin hpl (fun x hx => h x (by simp [Bundle.messageArmAtoms, hx]))
  obtain ⟨Z, M, LZ, LM, hnZ⟩ := Init0T.ofS_atoms (args := args) hpl L Y (fun x hx => h x (by simp [Bundle.messageArmAtoms, hx]))
  obtain ⟨P1, Ps, hlen, L1, hL, hP1m, hlink1, hlink⟩ := Bundle.chainS (args := args) hpl hnZ names cls hcls hnames (fun x hx => h x (by simp [Bundle.messageArmAtoms, hx]))
  obtain ⟨Zs, LZs, hn4, hfitv, hfitc⟩ := StringT.of_atoms (args := args) (fun x hx => h x (by simp [Bundle.messageArmAtoms, hx]))
  have hfound : s.vm.findClass cls = some P1.m.cls := findClass_of_methodNamed hP1m
  obtain ⟨c1, kX, hc1, hk, hord, -, -, hn6⟩ := Cond.instantiable_spec (a (.instantiable cls 6) (by simp [Bundle.messageArmAtoms]))
  cases Option.some.inj (hc1.symm.trans hfound)
  have hinit := Cond.initialized_spec hfound hk (a (.initialized cls) (by simp [Bundle.messageArmAtoms]))
  have hctor : kX.findMethod "<init>" "(Ljava/lang/String;)V" = some P1.m.idx := findMethod_of_methodNamed hP1m hk
  have hsel0 : selectMethod e.platform s.vm P1.m.cls T.fill0 = .method T.fill0 := by
    obtain ⟨c2, r2, m2, q1, q2, q3, q4, -⟩ := Cond.selects_spec (a (.selects cls Bundle.tFill0 Bundle.tFill0) (by simp [Bundle.messageArmAtoms]))
    cases Option.some.inj (q1.symm.trans hfound)
    cases Option.some.inj (q2.symm.trans (State.methodFound?_of_named Y.fill0 (by decide)))
    cases Option.some.inj (q3.symm.trans Y.fill0)
    rw [Launch.admits_selectMethod X.admits]; exact q4
  have hselF : selectMethod e.platform s.vm P1.m.cls T.fill = .method T.fill := by
    obtain ⟨c2, r2, m2, q1, q2, q3, q4, -⟩ := Cond.selects_spec (a (.selects cls Bundle.tFill Bundle.tFill) (by simp [Bundle.messageArmAtoms]))
    cases Option.some.inj (q1.symm.trans hfound)
    cases Option.some.inj (q2.symm.trans (State.methodFound?_of_named Y.fill (by decide)))
    cases Option.some.inj (q3.symm.trans Y.fill)
    rw [Launch.admits_selectMethod X.admits]; exact q4
  obtain ⟨cellS0, hcS0, hiss⟩ := Y.statics
  obtain ⟨u0, hu0⟩ := Cond.staticRefV Y.unassigned L.unassignedStatic L.statics hcS0 hiss (a (.isRef (.static Bundle.tN "UNASSIGNED_STACK" Bundle.steD)) (by simp [Bundle.messageArmAtoms]))
  obtain ⟨sen, hsen⟩ := Cond.staticRefV Y.sentinel L.sentinelStatic L.statics hcS0 hiss (a (.isRef (.static Bundle.tN "SUPPRESSED_SENTINEL" Bundle.listD)) (by simp [Bundle.messageArmAtoms]))
  obtain ⟨ci198, i198, fB, hk198, hg198, ha198, hsB, -, hnB, htB, hffB⟩ := Cond.ownField (t := .object "java/lang/Object") Y.found L.cls (by decide +kernel) (a (.fieldLink Bundle.tN 198 Bundle.tN "backtrace" "Ljava/lang/Object;") (by simp [Bundle.messageArmAtoms])) (a (.lays Bundle.tN Bundle.tN "backtrace" "Ljava/lang/Object;") (by simp [Bundle.messageArmAtoms])) e.platform hpl
  obtain ⟨cellS, hcS', heS, -, hkeep⟩ := X.same.2.2.2.2.2 T.aS cellS0 hcS0
  have hcellS : W.heap[T.aS]? = some cellS := hcS'
  have hout' : ∀ i, (⟨T.aS, i⟩ : Loc) ∉ locs := fun i hmem => by
    have := hlocs _ hmem cellS0 hcS0
    rw [hiss] at this; cases this
  have hknownS : cellS.vm ≠ .unknown := by
    rw [heS]; intro hu
    rw [show cellS0.vm = .unknown from hu] at hiss
    cases hiss
  have hvU : cellS.slots[T.fUnassigned.slot]? = some u0.v := by rw [hkeep _ (hout' _)]; exact hu0
  have hvSen : cellS.slots[T.fSentinel.slot]? = some sen.v := by rw [hkeep _ (hout' _)]; exact hsen
  obtain ⟨iM, hffM⟩ := Y.msg
  obtain ⟨tyC, dC, hdC, hdnC⟩ := Cond.laysAt hfound hk Y.cause (a (.lays cls Bundle.tN "cause" "Ljava/lang/Throwable;") (by simp [Bundle.messageArmAtoms]))
  obtain ⟨tyS, dS, hdS, hdnS⟩ := Cond.laysAt hfound hk Y.stack (a (.lays cls Bundle.tN "stackTrace" Bundle.steD) (by simp [Bundle.messageArmAtoms]))
  obtain ⟨tyP, dP, hdP, hdnP⟩ := Cond.laysAt hfound hk Y.supp (a (.lays cls Bundle.tN "suppressedExceptions" Bundle.listD) (by simp [Bundle.messageArmAtoms]))
  obtain ⟨tyM, dM, hdM, hdnM⟩ := Cond.laysAt hfound hk hffM (a (.lays cls Bundle.tN "detailMessage" "Ljava/lang/String;") (by simp [Bundle.messageArmAtoms]))
  obtain ⟨tyB, dB, hdB, hdnB⟩ := Cond.laysAt hfound hk hffB (a (.lays cls Bundle.tN "backtrace" "Ljava/lang/Object;") (by simp [Bundle.messageArmAtoms]))
  have bC := Cond.laysApart hdB hdC hdnB hdnC (by rw [hnB, Y.causeName]; decide)
  have bS := Cond.laysApart hdB hdS hdnB hdnS (by rw [hnB, Y.stackName]; decide)
  have bP := Cond.laysApart hdB hdP hdnB hdnP (by rw [hnB, Y.suppName]; decide)
  have hbk : ((preparedCellV T.toThrowableT (freshCell P1.m.cls kX) (W.heap.size + 2) u0 sen).withEntry W.cur).slots[fB.slot]? = some .null := by
    have := fresh_default (c := P1.m.cls) tyB
    rw [htB] at this
    simpa [preparedCellV, Cell.setSlot, Cell.withEntry, Array.getElem?_setIfInBounds, bC, bS, bP, bC.symm, bS.symm, bP.symm, defaultValue] using this
  have tkC := Takes.of_laid (v := .ref (W.heap.size + 2)) hk hord tyC (by rw [Y.causeType]; rfl)
  have tkS := Takes.of_laid (v := u0.v) hk hord tyS (by rw [Y.stackType]; exact fits_refV_array _ u0)
  have tkP := Takes.of_laid (v := sen.v) hk hord tyP (by rw [Y.suppType]; exact fits_refV_object _ sen)
  have tkM := Takes.of_laid (v := .ref (W.heap.size + 1)) hk hord tyM (by rw [Y.msgType]; rfl)
  have hskip : SkipFacts T e.platform s (fun u => u) u0 ((preparedCellV T.toThrowableT (freshCell P1.m.cls kX) (W.heap.size + 2) u0 sen).withEntry W.cur) := ⟨{ ci198 := ci198, i198 := i198, fBack := fB }, ⟨hk198, hg198, ha198, hsB⟩, hbk, fun _ _ => rfl⟩
  have h0 : At W g.method c below := by rw [hg]; exact X.here
  obtain ⟨hbeyond, hfreeW⟩ := X.vmMayThrow hsize (.throwNew cls (some text) none) (fun f hf => by cases hf) rfl hRlocals
  have hfr' : W.frames.length + Ps.length + 4 < (e.platform.stackLimits W.me).1 := by have := X.framesAbove hRframes; omega
  have hwd' : (stackUse (.java g :: W.frames.tail)).2 + 13 * Ps.length + 55 ≤ (e.platform.stackLimits W.me).2 := by have := X.stackAbove hsize (K := 13 * Ps.length + 55) (by omega); omega
  have hslots : W.slotsUsed + (stringBytes (stringToUtf16 text)).size + Zs.kS.instanceTypes.size + kX.instanceTypes.size ≤ e.platform.maxSlots := by
    have := X.slotsAbove hRslots
    rw [hn4, hn6]
    omega
  obtain ⟨vm', hW', st⟩ := Steps.vmThrowsMessageColdByV p (s₀ := s) (S := W) (g := g) h0 hexec T L Z LZ M LM X.warmed (t := W.cur) rfl Zs LZs P1 L1 Ps hL hlink1 hlink hsoe hoom hfound hk hinit hord hctor
    (Launch.admits_hotImplicitExceptions X.admits) hbeyond hfreeW htext hlimit hheap (X.cellsAbove hRcells) hslots (hfitv _) (hfitc _)
    (Nn := fun u => u) heapOnly_id (fun _ _ => rfl) (fun _ => rfl) (fun u x y => setCell_twice _ _ _ _) (fun _ => Nat.le_refl _) (cN := ((preparedCellV T.toThrowableT (freshCell P1.m.cls kX) (W.heap.size + 2) u0 sen).withEntry W.cur))
    hsel0 hcellS hknownS hvU tkS (fun _ hu => hu) (fun _ hu => hu) rfl rfl rfl (by simp [preparedCellV, Cell.setSlot, Cell.withEntry]) hskip (fun _ _ hA hW _ hroom _ hrest => L.nativeOff p htr hA hW hroom hrest) hselF hvSen tkC tkP tkM Y.objLocals rfl hfr' hwd'
  rw [plainBareV_eq T.toThrowableT (W.heap.size + 2) u0 sen (.ref (W.heap.size + 1)) W.cur rfl rfl] at st
  obtain ⟨-, -, w3, w4, -, -, -⟩ := withThrown_facts e.platform W Zs text P1.m.cls kX
  have X3 := ((X.pushed (bytesOf Zs.cB (stringToUtf16 text))).pushed (stringAt Zs.cS Zs.kS Zs.fv Zs.fc (stringToUtf16 text) W.heap.size)).pushed (freshCell P1.m.cls kX)
  rw [← withString_eq] at X3
  have X4 := X3.noted hW'
  have ha : (W.heap.size + 2) < ((withThrown W Zs text P1.m.cls kX).setVm vm').heap.size := by show _ < (withThrown W Zs text P1.m.cls kX).heap.size; rw [w3]; omega
  have hcell : ((withThrown W Zs text P1.m.cls kX).setVm vm').heap[(W.heap.size + 2)]? = some (freshCell P1.m.cls kX) := w4
  have X5 := ((((X4.stored hcell T.fCause.slot (.ref (W.heap.size + 2))).storedAgain ha T.fStack.slot u0.v).storedAgain ha T.fSupp.slot sen.v).storedAgain ha T.fStack.slot u0.v).storedAgain ha T.fMsg.slot (.ref (W.heap.size + 1))
  obtain ⟨g₁, hfrM⟩ := X5.frames_eq
  have hU : ((((withThrown W Zs text P1.m.cls kX).setVm vm').setCell (W.heap.size + 2) (plainBareV T.toThrowableT (freshCell P1.m.cls kX) (W.heap.size + 2) u0 sen (.ref (W.heap.size + 1)))).setTop g).pushFrame (.throwing (W.heap.size + 2)) = (((withThrown W Zs text P1.m.cls kX).setVm vm').setCell (W.heap.size + 2) (plainBareV T.toThrowableT (freshCell P1.m.cls kX) (W.heap.size + 2) u0 sen (.ref (W.heap.size + 1)))).setFrames (.throwing (W.heap.size + 2) :: .java g :: below) := by
    rw [State.pushFrame, State.frames_setTop _ hfrM, State.setTop_of_frames _ hfrM, State.setFrames_setFrames]
  have b1 : (bytesOf Zs.cB (stringToUtf16 text)).slots.size = (stringBytes (stringToUtf16 text)).size := by
    rw [(Cell.writeAll_facts _ _).2.2]; simp [bytes0]
  have b2 : (stringAt Zs.cS Zs.kS Zs.fv Zs.fc (stringToUtf16 text) W.heap.size).slots.size = 4 := by simp [string0, Cell.setSlot, hn4]
  have b3 : (freshCell P1.m.cls kX).slots.size = 6 := by simp [hn6]
  rw [b1, b2, b3] at X5
  have e9 : slots + (stringBytes (stringToUtf16 text)).size + 4 + 6 = slots + ((stringBytes (stringToUtf16 text)).size + 4 + 6) := by omega
  rw [e9] at X5
  simp only [List.append_assoc, List.cons_append, List.nil_append] at X5
  refine ⟨((withThrown W Zs text P1.m.cls kX).setVm vm').setCell (W.heap.size + 2) (plainBareV T.toThrowableT (freshCell P1.m.cls kX) (W.heap.size + 2) u0 sen (.ref (W.heap.size + 1))), W.heap.size + 2, _, fun target ht => st _ (by rw [X.tail, ← hU]; exact ht),
    X5.forget (fun y hy => ?_), heapAt_setCell_self _ ha, hfound, rfl⟩
  simp only [List.mem_cons, List.not_mem_nil, or_false] at hy
  have hge : s.heap.size ≤ W.heap.size := X.same.2.1
  rcases hy with rfl | rfl | rfl | rfl | rfl <;> exact Nat.le_trans hge (Nat.le_add_right _ 2)
set_option maxHeartbeats 1000000 in
/-- the machine throws NullPointerException, no traces kept: from its note over the frame g to 'throwing' over the same frame (follows the proof of Stand.vmThrowsNpe, Shelf42/KT2.lean; throwsNpeColdBareVAt, Shelf42/NT91.lean, called) -/
theorem vx_npeAt {p : Program} {l : Launch} {e : Env} {R : Room} {s : State} {m₀ : MethodId} {args : Array Value} {below : List Frame} {meth : Method} {c : Code} {W : State} {locs : List Loc} {cells slots : Nat}
    (X : Stand p l e R s m₀ args below meth c W locs cells slots) (hexec : p.tables.exec = Jvm.exec) (htr : e.platform.stackTraces = false) {n : Nat}
    (h : ∀ a ∈ Bundle.npeArmAtoms n, a.before args s = true)
    (hlocs : ∀ x ∈ locs, ∀ cell, s.heap[x.base]? = some cell → cell.vm.isStatics = false)
    {g : JFrame} (hg : g.method = m₀) (hsize : g.locals.size = c.maxLocals)
    (hRframes : 7 < R.frames) (hRlocals : 2 * g.monitorRoom + (g.stack.map fun v => v.category).sum + 10240 ≤ R.locals)
    (hRcells : cells + 1 ≤ R.cells) (hRslots : slots + n ≤ R.slots) (hlocks : meth.locks = false) :
    ∃ (S : State) (q : Addr) (ce : Cell), (∀ target, Steps p.tables e below ((S.setTop g).pushFrame (.throwing q)) target → Steps p.tables e below ((W.setTop g).pushFrame (.throwNew "java/lang/NullPointerException" none none)) target) ∧
      Stand p l e R s m₀ args below meth c S locs (cells + 1) (slots + n) ∧ S.heap[q]? = some ce ∧ s.vm.findClass "java/lang/NullPointerException" = some ce.cls ∧ ce.vm = .none := by
  have howns : e.platform.frameOwnsMonitors = true := by rw [X.admits.platform]
  have hfin : e.platform.finalization = false := by rw [X.admits.platform]
  have hpl : e.platform.magicAccessors = ({} : Platform).magicAccessors := by rw [X.admits.platform]
  have hpl2 : e.platform.arrayCloneIsPublic = true := by rw [X.admits.platform]
  have a' : ∀ x, x ∈ Bundle.npeArmAtoms n → x.holds args s none s [] = true := fun x hx => h x hx
  obtain ⟨T, Z, L, LZ, Y⟩ := ThrowableC.of_atoms (args := args) howns hfin hpl (fun x hx => h x (by simp [Bundle.npeArmAtoms, hx]))
  obtain ⟨N, LN, hcN, hnNF, hordN, hffS⟩ := NpeC.of_atoms (args := args) hpl hpl2 L Y (fun x hx => h x (by simp [Bundle.npeArmAtoms, hx]))
  obtain ⟨P1, L1, hP1m, hP1s⟩ := PassC.of_atoms (args := args) (s := s) hpl (X := Bundle.nN) (Y := Bundle.rN) (by decide) (by decide) LibCode.NullPointerException.Init0.at_0 LibCode.NullPointerException.Init0.at_1 LibCode.NullPointerException.Init0.at_4 (fun x hx => h x (by simp [Bundle.npeArmAtoms, hx]))
  obtain ⟨PR, LR, hPRm, hPRs⟩ := PassC.of_atoms (args := args) (s := s) hpl (X := Bundle.rN) (Y := Bundle.eN) (by decide) (by decide) LibCode.RuntimeException.Init0.at_0 LibCode.RuntimeException.Init0.at_1 LibCode.RuntimeException.Init0.at_4 (fun x hx => h x (by simp [Bundle.npeArmAtoms, hx]))
  obtain ⟨PE, LEx, hPEm, hPEs⟩ := PassC.of_atoms (args := args) (s := s) hpl (X := Bundle.eN) (Y := Bundle.tN) (by decide) (by decide) LibCode.Exception.Init0.at_0 LibCode.Exception.Init0.at_1 LibCode.Exception.Init0.at_4 (fun x hx => h x (by simp [Bundle.npeArmAtoms, hx]))
  have hfound : s.vm.findClass Bundle.nN = some P1.m.cls := findClass_of_methodNamed hP1m
  have ecls : N.cN = P1.m.cls := Option.some.inj (hcN.symm.trans hfound)
  have hk : s.vm.classes[P1.m.cls]? = some N.kN := by rw [← ecls]; exact LN.cls
  have hinit := Cond.initialized_spec hfound hk (a' (.initialized Bundle.nN) (by simp [Bundle.npeArmAtoms]))
  have hctor : N.kN.findMethod "<init>" "()V" = some P1.m.idx := findMethod_of_methodNamed hP1m hk
  obtain ⟨c1, k1, hc1, hk1, -, -, -, hn⟩ := Cond.instantiable_spec (a' (.instantiable Bundle.nN n) (by simp [Bundle.npeArmAtoms]))
  cases Option.some.inj (hc1.symm.trans hfound)
  cases Option.some.inj (hk1.symm.trans hk)
  have hfsz : (freshCell P1.m.cls N.kN).slots.size = n := by simp [hn]
  have hlink1 : P1.sup = PR.m := Option.some.inj (hP1s.symm.trans hPRm)
  have hlinkR : PR.sup = PE.m := Option.some.inj (hPRs.symm.trans hPEm)
  have hlinkE : PE.sup = Z.m T.toThrowableT := Option.some.inj (hPEs.symm.trans Y.init0)
  have hLs : ∀ P, P ∈ [PR, PE] → P.Links0 e.platform s := fun P hP => by
    simp only [List.mem_cons, List.not_mem_nil, or_false] at hP
    rcases hP with rfl | rfl
    · exact LR
    · exact LEx
  have hsel0 : selectMethod e.platform s.vm P1.m.cls T.fill0 = .method T.fill0 := by
    obtain ⟨c2, r2, m2, q1, q2, q3, q4, -⟩ := Cond.selects_spec (a' (.selects Bundle.nN Bundle.tFill0 Bundle.tFill0) (by simp [Bundle.npeArmAtoms]))
    cases Option.some.inj (q1.symm.trans hfound)
    cases Option.some.inj (q2.symm.trans (State.methodFound?_of_named Y.fill0 (by decide)))
    cases Option.some.inj (q3.symm.trans Y.fill0)
    rw [Launch.admits_selectMethod X.admits]; exact q4
  have hselF : selectMethod e.platform s.vm P1.m.cls T.fill = .method N.fill := by
    obtain ⟨c2, r2, m2, q1, q2, q3, q4, -⟩ := Cond.selects_spec (a' (.selects Bundle.nN Bundle.tFill Bundle.nFill) (by simp [Bundle.npeArmAtoms]))
    cases Option.some.inj (q1.symm.trans hfound)
    cases Option.some.inj (q2.symm.trans (State.methodFound?_of_named Y.fill (by decide)))
    cases Option.some.inj (q3.symm.trans hnNF)
    rw [Launch.admits_selectMethod X.admits]; exact q4
  obtain ⟨cellS0, hcS0, hiss⟩ := Y.statics
  obtain ⟨u0, hu0⟩ := Cond.staticRefV Y.unassigned L.unassignedStatic L.statics hcS0 hiss (a' (.isRef (.static Bundle.tN "UNASSIGNED_STACK" Bundle.steD)) (by simp [Bundle.npeArmAtoms]))
  obtain ⟨sen, hsen⟩ := Cond.staticRefV Y.sentinel L.sentinelStatic L.statics hcS0 hiss (a' (.isRef (.static Bundle.tN "SUPPRESSED_SENTINEL" Bundle.listD)) (by simp [Bundle.npeArmAtoms]))
  obtain ⟨ci198, i198, fB, hk198, hg198, ha198, hsB, -, hnB, htB, hffB⟩ := Cond.ownField (t := .object "java/lang/Object") Y.found L.cls (by decide +kernel) (a' (.fieldLink Bundle.tN 198 Bundle.tN "backtrace" Bundle.objD) (by simp [Bundle.npeArmAtoms])) (a' (.lays Bundle.tN Bundle.tN "backtrace" Bundle.objD) (by simp [Bundle.npeArmAtoms])) e.platform hpl
  obtain ⟨cellS, hcS', heS, -, hkeep⟩ := X.same.2.2.2.2.2 T.aS cellS0 hcS0
  have hcellS : W.heap[T.aS]? = some cellS := hcS'
  have hout' : ∀ i, (⟨T.aS, i⟩ : Loc) ∉ locs := fun i hmem => by
    have := hlocs _ hmem cellS0 hcS0
    rw [hiss] at this; cases this
  have hknownS : cellS.vm ≠ .unknown := by
    rw [heS]; intro hu
    rw [show cellS0.vm = .unknown from hu] at hiss
    cases hiss
  have hvU : cellS.slots[T.fUnassigned.slot]? = some u0.v := by rw [hkeep _ (hout' _)]; exact hu0
  have hvSen : cellS.slots[T.fSentinel.slot]? = some sen.v := by rw [hkeep _ (hout' _)]; exact hsen
  obtain ⟨tyC, dC, hdC, hdnC⟩ := Cond.laysAt hfound hk Y.cause (a' (.lays Bundle.nN Bundle.tN "cause" "Ljava/lang/Throwable;") (by simp [Bundle.npeArmAtoms]))
  obtain ⟨tyS, dS, hdS, hdnS⟩ := Cond.laysAt hfound hk Y.stack (a' (.lays Bundle.nN Bundle.tN "stackTrace" Bundle.steD) (by simp [Bundle.npeArmAtoms]))
  obtain ⟨tyP, dP, hdP, hdnP⟩ := Cond.laysAt hfound hk Y.supp (a' (.lays Bundle.nN Bundle.tN "suppressedExceptions" Bundle.listD) (by simp [Bundle.npeArmAtoms]))
  obtain ⟨tyX, dX, hdX, hdnX⟩ := Cond.laysAt hfound hk hffS (a' (.lays Bundle.nN Bundle.nN "extendedMessageState" "I") (by simp [Bundle.npeArmAtoms, Bundle.npeAtoms]))
  obtain ⟨hnX, htX⟩ := State.fieldFound?_type hffS (t := .int) (by decide +kernel)
  have xC := Cond.laysApart hdC hdX hdnC hdnX (by rw [hnX, Y.causeName]; decide)
  have xS := Cond.laysApart hdS hdX hdnS hdnX (by rw [hnX, Y.stackName]; decide)
  have xP := Cond.laysApart hdP hdX hdnP hdnX (by rw [hnX, Y.suppName]; decide)
  have hv0 : (freshCell P1.m.cls N.kN).slots[N.fState.slot]? = some (.int 0) := by
    have := fresh_default (c := P1.m.cls) tyX
    rw [htX] at this; exact this
  obtain ⟨tyB, dB, hdB, hdnB⟩ := Cond.laysAt hfound hk hffB (a' (.lays Bundle.nN Bundle.tN "backtrace" Bundle.objD) (by simp [Bundle.npeArmAtoms]))
  have bC := Cond.laysApart hdB hdC hdnB hdnC (by rw [hnB, Y.causeName]; decide)
  have bS := Cond.laysApart hdB hdS hdnB hdnS (by rw [hnB, Y.stackName]; decide)
  have bP := Cond.laysApart hdB hdP hdnB hdnP (by rw [hnB, Y.suppName]; decide)
  have bX := Cond.laysApart hdB hdX hdnB hdnX (by rw [hnB, hnX]; decide)
  have hbk : ((npeCell N.toNpeT (preparedCellV T.toThrowableT (freshCell P1.m.cls N.kN) W.heap.size u0 sen) W.cur).withEntry W.cur).slots[fB.slot]? = some .null := by
    have := fresh_default (c := P1.m.cls) tyB
    rw [htB] at this
    simpa [npeCell, preparedCellV, Cell.setSlot, Cell.withEntry, Array.getElem?_setIfInBounds, bC, bS, bP, bX, bC.symm, bS.symm, bP.symm, bX.symm, defaultValue] using this
  have tkC := Takes.of_laid (v := .ref W.heap.size) hk hordN tyC (by rw [Y.causeType]; rfl)
  have tkS := Takes.of_laid (v := u0.v) hk hordN tyS (by rw [Y.stackType]; exact fits_refV_array _ u0)
  have tkP := Takes.of_laid (v := sen.v) hk hordN tyP (by rw [Y.suppType]; exact fits_refV_object _ sen)
  have tkX := Takes.of_laid (v := .int 1) hk hordN tyX (by rw [htX]; rfl)
  have hskip : SkipFacts T e.platform s (fun u => u) u0 ((npeCell N.toNpeT (preparedCellV T.toThrowableT (freshCell P1.m.cls N.kN) W.heap.size u0 sen) W.cur).withEntry W.cur) := ⟨{ ci198 := ci198, i198 := i198, fBack := fB }, ⟨hk198, hg198, ha198, hsB⟩, hbk, fun _ _ => rfl⟩
  obtain ⟨vm', X3, st, -⟩ := X.throwsNpeColdBareVAt hexec hg hsize T L Z LZ N LN P1 L1 [PR, PE] hLs hlink1 ⟨hlinkR, hlinkE, trivial⟩ hfound hk hinit hordN hctor hsel0 hselF hcellS hknownS hvU hvSen
    hv0 xC xS xP tkC tkS tkP tkX Y.objLocals hskip (fun _ _ hA hW _ hroom _ hrest => L.nativeOff p htr hA hW hroom hrest) (by simpa using hRframes) hRlocals (by simp) hRcells (by rw [hn]; exact hRslots)
  have hlt : W.heap.size < ((W.pushCell (freshCell P1.m.cls N.kN)).setVm vm').heap.size := by
    show W.heap.size < (W.pushCell (freshCell P1.m.cls N.kN)).heap.size
    rw [State.heap_size_pushCell]; omega
  rw [hfsz] at X3
  obtain ⟨g₁, hfrM⟩ := X3.frames_eq
  have hU : ((((W.pushCell (freshCell P1.m.cls N.kN)).setVm vm').setCell W.heap.size (npeBareV T.toThrowableT N.toNpeT (freshCell P1.m.cls N.kN) W.heap.size u0 sen)).setTop g).pushFrame (.throwing W.heap.size) = (((W.pushCell (freshCell P1.m.cls N.kN)).setVm vm').setCell W.heap.size (npeBareV T.toThrowableT N.toNpeT (freshCell P1.m.cls N.kN) W.heap.size u0 sen)).setFrames (.throwing W.heap.size :: .java g :: below) := by
    rw [State.pushFrame, State.frames_setTop _ hfrM, State.setTop_of_frames _ hfrM, State.setFrames_setFrames]
  refine ⟨_, W.heap.size, _, fun target ht => st.trans (by rw [← hU]; exact ht), X3.forget (fun y hy => ?_), heapAt_setCell_self _ hlt, hfound, rfl⟩
  simp only [List.mem_cons, List.not_mem_nil, or_false] at hy
  have hge : s.heap.size ≤ W.heap.size := X.same.2.1
  rcases hy with rfl | rfl | rfl | rfl | rfl <;> exact hge
/-- the words of a machine's NullPointerException, but the four that speak of the heap -/
def vx_atN (n : Nat) : List Cond := (Bundle.npeArmAtoms n).filter vx_no
/-- the words of a machine's throw with a message, but the four that speak of the heap -/
def vx_atM (X : String) (names : List String) : List Cond := (Bundle.messageArmAtoms X names).filter vx_no
section
variable {p : Program} {l : Launch} {e : Env} {R : Room} {s : State} {m : MethodId} {args : Array Value} {below : List Frame} {meth : Method} {c : Code} {H : Heap} {locs : List Loc} {cells slots : Nat}
/-- a frame seen from a rebased start, seen from the first start again -/
theorem vx_back9 {T S : State} {R' : Room} {k n : Nat} (X : Stand p l e R s m args below meth c T locs cells slots) (Y : Stand p l e R' ((T.setVm s.vm).setFrames (.invoking m args :: below)) m args below meth c T [] 0 0) (Z : Stand p l e R' ((T.setVm s.vm).setFrames (.invoking m args :: below)) m args below meth c S [] k n) :
    Stand p l e R s m args below meth c S locs (cells + k) (slots + n) := by
  have hW0 : s.WarmedH ((T.setVm s.vm).setFrames (.invoking m args :: below)).vm := State.WarmedH.refl s
  refine { admits := X.admits, cas := X.cas, clock := X.clock, frames := X.frames, room := X.room, hears := X.hears, method := X.method, code := X.code, here := Z.here, tail := Z.tail, warmed := State.WarmedH.trans hW0 Z.warmed, limits := Z.limits.trans (Y.limits.symm.trans X.limits), bytes := Z.bytes.trans (Y.bytes.symm.trans X.bytes), same := ?_ }
  obtain ⟨e1, e2⟩ := Z.same
  rw [State.setFrames_setFrames] at e1
  have h2 : (T.setVm s.vm).sameButNew (S.setVm s.vm) [] k n := ⟨e1, e2⟩
  have h3 := X.same.trans h2
  rw [List.append_nil] at h3
  exact h3
/-- from the machine's note that E is thrown here with this text -/
def vx_Note (p : Program) (l : Launch) (e : Env) (R : Room) (s : State) (m : MethodId) (args : Array Value) (below : List Frame) (meth : Method) (c : Code) (H : Heap) (locs : List Loc) (cells slots : Nat) (Q : State → Prop) (g : JFrame) (E text : String) : Prop :=
  ∀ T : State, T.heap = H → Stand p l e R s m args below meth c T locs cells slots → ∃ t, Steps p.tables e below ((T.setTop g).pushFrame (.throwNew E (some text) none)) t ∧ Q t
theorem vx_vm {pc : Nat} {ls : Array Slot} {rest : List Value} {Q : State → Prop} (hexec : p.tables.exec = Jvm.exec) (hl : l.stackTraces = false) {cls text : String} {names : List String} {nb : Nat} {A : Nat → Prop}
    (hcls : Bundle.fit cls = true) (hnames : ∀ n ∈ names, Bundle.fit n = true) (hsoe : (cls == "java/lang/StackOverflowError") = false) (hoom : (cls == "java/lang/OutOfMemoryError") = false)
    (hat : ∀ w ∈ vx_atM cls names, w.before args s = true) (hgood : ∀ w ∈ vx_atM cls names, vx_ot w = true)
    (hU : vx_Zq Bundle.tN "UNASSIGNED_STACK" Bundle.steD A s s.heap) (hN : vx_Zq Bundle.tN "SUPPRESSED_SENTINEL" Bundle.listD A s s.heap) (hS : va_S A s.heap H locs) (hsize : ls.size = c.maxLocals)
    (htext : (text == notModelled) = false) (hnb : (stringBytes (stringToUtf16 text)).size ≤ nb) (hnb1 : nb ≤ 1000)
    (hRframes : names.length + 4 < R.frames) (hRlocals : (rest.map fun v => v.category).sum + 10240 ≤ R.locals) (hshort : 13 * names.length + 55 ≤ 10240) (hRcells : cells + 3 ≤ R.cells) (hRslots : slots + (nb + 10) ≤ R.slots) (hlocks : meth.locks = false)
    (k : ∀ (H1 : Heap) (q9 : Addr) (ce : Cell), H.size ≤ H1.size → (∀ q : Nat, q < H.size → H1[q]? = H[q]?) → va_S A s.heap H1 locs → H1[q9]? = some ce → ce.vm = .none → s.vm.findClass cls = some ce.cls → vx_W p l e R s m args below meth c H1 locs (cells + 3) (slots + (nb + 10)) Q (F0 m pc ls rest) q9) :
    vx_Note p l e R s m args below meth c H locs cells slots Q (F0 m pc ls rest) cls text := by
  intro T hT X
  have htr : e.platform.stackTraces = false := (show e.platform.stackTraces = l.stackTraces by rw [X.admits.platform]).trans hl
  have Y := vx_rebase X (R' := { frames := R.frames, locals := R.locals, cells := 3, slots := nb + 10 }) (Nat.le_refl _) (Nat.le_refl _) hRcells hRslots
  have hhp : ((T.setVm s.vm).setFrames (.invoking m args :: below)).heap = H := hT
  have hW0 : s.WarmedH ((T.setVm s.vm).setFrames (.invoking m args :: below)).vm := State.WarmedH.refl s
  have hat' : ∀ w ∈ vx_atM cls names, w.before args ((T.setVm s.vm).setFrames (.invoking m args :: below)) = true := fun w hw => vx_ot_at hW0 rfl (hgood w hw) (hat w hw)
  have hU' : vx_Zq Bundle.tN "UNASSIGNED_STACK" Bundle.steD A ((T.setVm s.vm).setFrames (.invoking m args :: below)) ((T.setVm s.vm).setFrames (.invoking m args :: below)).heap := by rw [hhp]; exact vx_Zq.moved hW0.alike (hU.kept hS.2.1)
  have hN' : vx_Zq Bundle.tN "SUPPRESSED_SENTINEL" Bundle.listD A ((T.setVm s.vm).setFrames (.invoking m args :: below)) ((T.setVm s.vm).setFrames (.invoking m args :: below)).heap := by rw [hhp]; exact vx_Zq.moved hW0.alike (hN.kept hS.2.1)
  obtain ⟨S, q, ce, st, Z, hce, hcl', hv⟩ := vx_vmAt Y hexec htr (cls := cls) (names := names) (text := text) hcls hnames hsoe hoom (vx_own hat' (vx_isRefq hU'.1) (vx_isRefq hN'.1) hU'.2.word hN'.2.word) (fun x hx => nomatch hx) htext
    (by rw [Launch.admits_arrayLengthLimit X.admits]; omega) (by rw [Launch.admits_maxHeapBytes X.admits]; simp only [componentBytes]; omega)
    (g := F0 m pc ls rest) rfl hsize hRframes (by show 2 * 0 + (rest.map fun v => v.category).sum + 10240 ≤ R.locals; omega) hshort (by show 0 + 3 ≤ 3; omega) (by show 0 + (_ + 4 + 6) ≤ nb + 10; omega) hlocks
  obtain ⟨f1, f2⟩ := vx_frame Z.same
  have f1' : H.size ≤ S.heap.size := by rw [← hT]; exact f1
  have f2' : ∀ q : Nat, q < H.size → S.heap[q]? = H[q]? := fun q hq => by
    rw [← hT]
    exact f2 q (by rw [← hT] at hq; exact hq) (fun z hz => nomatch hz)
  have X5 := vx_back9 X Y Z
  have X6 : Stand p l e R s m args below meth c S locs (cells + 3) (slots + (nb + 10)) := { X5 with same := X5.same.mono (by omega) (by omega) }
  obtain ⟨t, a1, b1⟩ := k S.heap q ce f1' f2' ⟨Nat.le_trans hS.1 f1', fun q h1 h2 => (f2' q (Nat.lt_of_lt_of_le h1 hS.1)).trans (hS.2.1 q h1 h2), hS.2.2⟩ hce hv hcl' S rfl X6
  exact ⟨t, st t a1, b1⟩
/-- from the machine's note that NullPointerException is thrown here -/
def vx_NoteN (p : Program) (l : Launch) (e : Env) (R : Room) (s : State) (m : MethodId) (args : Array Value) (below : List Frame) (meth : Method) (c : Code) (H : Heap) (locs : List Loc) (cells slots : Nat) (Q : State → Prop) (g : JFrame) : Prop :=
  ∀ T : State, T.heap = H → Stand p l e R s m args below meth c T locs cells slots → ∃ t, Steps p.tables e below ((T.setTop g).pushFrame (.throwNew "java/lang/NullPointerException" none none)) t ∧ Q t
theorem vx_npe {pc : Nat} {ls : Array Slot} {rest : List Value} {Q : State → Prop} (hexec : p.tables.exec = Jvm.exec) (hl : l.stackTraces = false) {nb : Nat} {A : Nat → Prop}
    (hat : ∀ w ∈ vx_atN nb, w.before args s = true) (hgood : ∀ w ∈ vx_atN nb, vx_ot w = true)
    (hU : vx_Zq Bundle.tN "UNASSIGNED_STACK" Bundle.steD A s s.heap) (hN : vx_Zq Bundle.tN "SUPPRESSED_SENTINEL" Bundle.listD A s s.heap) (hS : va_S A s.heap H locs) (hsize : ls.size = c.maxLocals)
    (hRframes : 7 < R.frames) (hRlocals : (rest.map fun v => v.category).sum + 10240 ≤ R.locals) (hRcells : cells + 1 ≤ R.cells) (hRslots : slots + nb ≤ R.slots) (hlocks : meth.locks = false)
    (k : ∀ (H1 : Heap) (q9 : Addr) (ce : Cell), H.size ≤ H1.size → (∀ q : Nat, q < H.size → H1[q]? = H[q]?) → va_S A s.heap H1 locs → H1[q9]? = some ce → ce.vm = .none → s.vm.findClass "java/lang/NullPointerException" = some ce.cls → vx_W p l e R s m args below meth c H1 locs (cells + 1) (slots + nb) Q (F0 m pc ls rest) q9) :
    vx_NoteN p l e R s m args below meth c H locs cells slots Q (F0 m pc ls rest) := by
  intro T hT X
  have htr : e.platform.stackTraces = false := (show e.platform.stackTraces = l.stackTraces by rw [X.admits.platform]).trans hl
  have Y := vx_rebase X (R' := { frames := R.frames, locals := R.locals, cells := 1, slots := nb }) (Nat.le_refl _) (Nat.le_refl _) hRcells hRslots
  have hhp : ((T.setVm s.vm).setFrames (.invoking m args :: below)).heap = H := hT
  have hW0 : s.WarmedH ((T.setVm s.vm).setFrames (.invoking m args :: below)).vm := State.WarmedH.refl s
  have hat' : ∀ w ∈ vx_atN nb, w.before args ((T.setVm s.vm).setFrames (.invoking m args :: below)) = true := fun w hw => vx_ot_at hW0 rfl (hgood w hw) (hat w hw)
  have hU' : vx_Zq Bundle.tN "UNASSIGNED_STACK" Bundle.steD A ((T.setVm s.vm).setFrames (.invoking m args :: below)) ((T.setVm s.vm).setFrames (.invoking m args :: below)).heap := by rw [hhp]; exact vx_Zq.moved hW0.alike (hU.kept hS.2.1)
  have hN' : vx_Zq Bundle.tN "SUPPRESSED_SENTINEL" Bundle.listD A ((T.setVm s.vm).setFrames (.invoking m args :: below)) ((T.setVm s.vm).setFrames (.invoking m args :: below)).heap := by rw [hhp]; exact vx_Zq.moved hW0.alike (hN.kept hS.2.1)
  obtain ⟨S, q, ce, st, Z, hce, hcl', hv⟩ := vx_npeAt Y hexec htr (n := nb) (vx_own hat' (vx_isRefq hU'.1) (vx_isRefq hN'.1) hU'.2.word hN'.2.word) (fun x hx => nomatch hx)
    (g := F0 m pc ls rest) rfl hsize hRframes (by show 2 * 0 + (rest.map fun v => v.category).sum + 10240 ≤ R.locals; omega) (by show 0 + 1 ≤ 1; omega) (by show 0 + nb ≤ nb; omega) hlocks
  obtain ⟨f1, f2⟩ := vx_frame Z.same
  have f1' : H.size ≤ S.heap.size := by rw [← hT]; exact f1
  have f2' : ∀ q : Nat, q < H.size → S.heap[q]? = H[q]? := fun q hq => by
    rw [← hT]
    exact f2 q (by rw [← hT] at hq; exact hq) (fun z hz => nomatch hz)
  have X5 := vx_back9 X Y Z
  have X6 : Stand p l e R s m args below meth c S locs (cells + 1) (slots + nb) := { X5 with same := X5.same.mono (by omega) (by omega) }
  obtain ⟨t, a1, b1⟩ := k S.heap q ce f1' f2' ⟨Nat.le_trans hS.1 f1', fun q h1 h2 => (f2' q (Nat.lt_of_lt_of_le h1 hS.1)).trans (hS.2.1 q h1 h2), hS.2.2⟩ hce hv hcl' S rfl X6
  exact ⟨t, st t a1, b1⟩
variable {Q : State → Prop} {cc : ByteArray} {pc : Nat} {ls : Array Slot} {rest : List Value}
theorem vx_idivZ (hexec : p.tables.exec = Jvm.exec) (hb : c.code = cc) {a b : Int32} (h0 : b = 0) (d : decode cc pc = .ok (.idiv, 1)) (k : vx_Note p l e R s m args below meth c H locs cells slots Q (F0 m pc ls rest) "java/lang/ArithmeticException" "/ by zero") :
    W p l e R s m args below meth c H locs cells slots Q (F0 m pc ls (.int b :: .int a :: rest)) := by
  intro T hT X
  obtain ⟨t, st, q⟩ := k T hT X
  exact ⟨t, X.idivZero hexec (g := F0 m pc ls (.int b :: .int a :: rest)) rfl (a := a) (rest := rest) (by rw [h0]) (by rw [hb]; exact d) t st, q⟩
theorem vx_iremZ (hexec : p.tables.exec = Jvm.exec) (hb : c.code = cc) {a b : Int32} (h0 : b = 0) (d : decode cc pc = .ok (.irem, 1)) (k : vx_Note p l e R s m args below meth c H locs cells slots Q (F0 m pc ls rest) "java/lang/ArithmeticException" "/ by zero") :
    W p l e R s m args below meth c H locs cells slots Q (F0 m pc ls (.int b :: .int a :: rest)) := by
  intro T hT X
  obtain ⟨t, st, q⟩ := k T hT X
  exact ⟨t, X.iremZero hexec (g := F0 m pc ls (.int b :: .int a :: rest)) rfl (a := a) (rest := rest) (by rw [h0]) (by rw [hb]; exact d) t st, q⟩
theorem vx_ldivZ (hexec : p.tables.exec = Jvm.exec) (hb : c.code = cc) {a b : Int64} (h0 : b = 0) (d : decode cc pc = .ok (.ldiv, 1)) (k : vx_Note p l e R s m args below meth c H locs cells slots Q (F0 m pc ls rest) "java/lang/ArithmeticException" "/ by zero") :
    W p l e R s m args below meth c H locs cells slots Q (F0 m pc ls (.long b :: .long a :: rest)) := by
  intro T hT X
  obtain ⟨t, st, q⟩ := k T hT X
  exact ⟨t, X.ldivZero hexec (g := F0 m pc ls (.long b :: .long a :: rest)) rfl (a := a) (rest := rest) (by rw [h0]) (by rw [hb]; exact d) t st, q⟩
theorem vx_lremZ (hexec : p.tables.exec = Jvm.exec) (hb : c.code = cc) {a b : Int64} (h0 : b = 0) (d : decode cc pc = .ok (.lrem, 1)) (k : vx_Note p l e R s m args below meth c H locs cells slots Q (F0 m pc ls rest) "java/lang/ArithmeticException" "/ by zero") :
    W p l e R s m args below meth c H locs cells slots Q (F0 m pc ls (.long b :: .long a :: rest)) := by
  intro T hT X
  obtain ⟨t, st, q⟩ := k T hT X
  exact ⟨t, X.lremZero hexec (g := F0 m pc ls (.long b :: .long a :: rest)) rfl (a := a) (rest := rest) (by rw [h0]) (by rw [hb]; exact d) t st, q⟩
theorem vx_ialdZ {D : va_G} {cl : List vw_C} {ws : va_W} {tys : List (ClassId × FieldType)} {a : Nat} (hexec : p.tables.exec = Jvm.exec) (hb : c.code = cc) (hK : va_K D cl tys s) (hP : va_P D cl ws H) (q0 t0 : Nat) {cA : ClassId} {n : Nat} {f : Nat → Int32} (ha : ws[q0]? = some (a, .inl (cA, n, .inl f))) (ht : tys[t0]? = some (cA, .int)) {i : Int32} (hout : ¬ vp_in i n) (hdg : decode cc pc = .ok (.iaload, 1))
    (k : ∀ tx : String, tx = (toString "Index " ++ toString i ++ toString " out of bounds for length " ++ toString n : String) → vx_Note p l e R s m args below meth c H locs cells slots Q (F0 m pc ls rest) "java/lang/ArrayIndexOutOfBoundsException" tx) : W p l e R s m args below meth c H locs cells slots Q (F0 m pc ls (.int i :: .ref a :: rest)) := by
  intro T hT X
  obtain ⟨t, st, q⟩ := k _ rfl T hT X
  refine ⟨t, ?_, q⟩
  have h1 := X.ialoadOut hexec (by rw [hT]; exact hP q0 _ ha) ((hK.2 t0 _ ht).1 n (fun j => .int (f j))) (j := i) (by show (i < 0 ∨ (arrV _ _ _).slots.size ≤ _); rw [arrV_size]; exact Classical.byContradiction hout) (g := F0 m pc ls (.int i :: .ref a :: rest)) rfl (rest := rest) rfl (by rw [hb]; exact hdg) t
  simp only [arrV_size] at h1
  exact h1 st
theorem vx_iastZ {D : va_G} {cl : List vw_C} {ws : va_W} {tys : List (ClassId × FieldType)} {a : Nat} (hexec : p.tables.exec = Jvm.exec) (hb : c.code = cc) (hK : va_K D cl tys s) (hP : va_P D cl ws H) (q0 t0 : Nat) {cA : ClassId} {n : Nat} {f : Nat → Int32} (ha : ws[q0]? = some (a, .inl (cA, n, .inl f))) (ht : tys[t0]? = some (cA, .int)) {i : Int32} {x : Int32} (hout : ¬ vp_in i n) (hdg : decode cc pc = .ok (.iastore, 1))
    (k : ∀ tx : String, tx = (toString "Index " ++ toString i ++ toString " out of bounds for length " ++ toString n : String) → vx_Note p l e R s m args below meth c H locs cells slots Q (F0 m pc ls rest) "java/lang/ArrayIndexOutOfBoundsException" tx) : W p l e R s m args below meth c H locs cells slots Q (F0 m pc ls (.int x :: .int i :: .ref a :: rest)) := by
  intro T hT X
  obtain ⟨t, st, q⟩ := k _ rfl T hT X
  refine ⟨t, ?_, q⟩
  have h1 := X.iastoreOut hexec (by rw [hT]; exact hP q0 _ ha) ((hK.2 t0 _ ht).1 n (fun j => .int (f j))) (j := i) (by show (i < 0 ∨ (arrV _ _ _).slots.size ≤ _); rw [arrV_size]; exact Classical.byContradiction hout) (g := F0 m pc ls (.int x :: .int i :: .ref a :: rest)) rfl (rest := rest) rfl (by rw [hb]; exact hdg) t
  simp only [arrV_size] at h1
  exact h1 st
theorem vx_baldZ {D : va_G} {cl : List vw_C} {ws : va_W} {tys : List (ClassId × FieldType)} {a : Nat} (hexec : p.tables.exec = Jvm.exec) (hb : c.code = cc) (hK : va_K D cl tys s) (hP : va_P D cl ws H) (q0 t0 : Nat) {cA : ClassId} {n : Nat} {f : Nat → Int32} (ha : ws[q0]? = some (a, .inl (cA, n, .inl f))) (ht : tys[t0]? = some (cA, .byte)) {i : Int32} (hout : ¬ vp_in i n) (hdg : decode cc pc = .ok (.baload, 1))
    (k : ∀ tx : String, tx = (toString "Index " ++ toString i ++ toString " out of bounds for length " ++ toString n : String) → vx_Note p l e R s m args below meth c H locs cells slots Q (F0 m pc ls rest) "java/lang/ArrayIndexOutOfBoundsException" tx) : W p l e R s m args below meth c H locs cells slots Q (F0 m pc ls (.int i :: .ref a :: rest)) := by
  intro T hT X
  obtain ⟨t, st, q⟩ := k _ rfl T hT X
  refine ⟨t, ?_, q⟩
  have h1 := X.baloadOut hexec (by rw [hT]; exact hP q0 _ ha) ((hK.2 t0 _ ht).1 n (fun j => .int (f j))) (j := i) (by show (i < 0 ∨ (arrV _ _ _).slots.size ≤ _); rw [arrV_size]; exact Classical.byContradiction hout) (g := F0 m pc ls (.int i :: .ref a :: rest)) rfl (rest := rest) rfl (by rw [hb]; exact hdg) t
  simp only [arrV_size] at h1
  exact h1 st
theorem vx_bastZ {D : va_G} {cl : List vw_C} {ws : va_W} {tys : List (ClassId × FieldType)} {a : Nat} (hexec : p.tables.exec = Jvm.exec) (hb : c.code = cc) (hK : va_K D cl tys s) (hP : va_P D cl ws H) (q0 t0 : Nat) {cA : ClassId} {n : Nat} {f : Nat → Int32} (ha : ws[q0]? = some (a, .inl (cA, n, .inl f))) (ht : tys[t0]? = some (cA, .byte)) {i : Int32} {x : Int32} (hout : ¬ vp_in i n) (hdg : decode cc pc = .ok (.bastore, 1))
    (k : ∀ tx : String, tx = (toString "Index " ++ toString i ++ toString " out of bounds for length " ++ toString n : String) → vx_Note p l e R s m args below meth c H locs cells slots Q (F0 m pc ls rest) "java/lang/ArrayIndexOutOfBoundsException" tx) : W p l e R s m args below meth c H locs cells slots Q (F0 m pc ls (.int x :: .int i :: .ref a :: rest)) := by
  intro T hT X
  obtain ⟨t, st, q⟩ := k _ rfl T hT X
  refine ⟨t, ?_, q⟩
  have h1 := X.bastoreOut hexec (by rw [hT]; exact hP q0 _ ha) ((hK.2 t0 _ ht).1 n (fun j => .int (f j))) (j := i) (by show (i < 0 ∨ (arrV _ _ _).slots.size ≤ _); rw [arrV_size]; exact Classical.byContradiction hout) (g := F0 m pc ls (.int x :: .int i :: .ref a :: rest)) rfl (rest := rest) rfl (by rw [hb]; exact hdg) t
  simp only [arrV_size] at h1
  exact h1 st
theorem vx_zaldZ {D : va_G} {cl : List vw_C} {ws : va_W} {tys : List (ClassId × FieldType)} {a : Nat} (hexec : p.tables.exec = Jvm.exec) (hb : c.code = cc) (hK : va_K D cl tys s) (hP : va_P D cl ws H) (q0 t0 : Nat) {cA : ClassId} {n : Nat} {f : Nat → Int32} (ha : ws[q0]? = some (a, .inl (cA, n, .inl f))) (ht : tys[t0]? = some (cA, .boolean)) {i : Int32} (hout : ¬ vp_in i n) (hdg : decode cc pc = .ok (.baload, 1))
    (k : ∀ tx : String, tx = (toString "Index " ++ toString i ++ toString " out of bounds for length " ++ toString n : String) → vx_Note p l e R s m args below meth c H locs cells slots Q (F0 m pc ls rest) "java/lang/ArrayIndexOutOfBoundsException" tx) : W p l e R s m args below meth c H locs cells slots Q (F0 m pc ls (.int i :: .ref a :: rest)) := by
  intro T hT X
  obtain ⟨t, st, q⟩ := k _ rfl T hT X
  refine ⟨t, ?_, q⟩
  have h1 := X.baloadOut hexec (by rw [hT]; exact hP q0 _ ha) ((hK.2 t0 _ ht).1 n (fun j => .int (f j))) (j := i) (by show (i < 0 ∨ (arrV _ _ _).slots.size ≤ _); rw [arrV_size]; exact Classical.byContradiction hout) (g := F0 m pc ls (.int i :: .ref a :: rest)) rfl (rest := rest) rfl (by rw [hb]; exact hdg) t
  simp only [arrV_size] at h1
  exact h1 st
theorem vx_zastZ {D : va_G} {cl : List vw_C} {ws : va_W} {tys : List (ClassId × FieldType)} {a : Nat} (hexec : p.tables.exec = Jvm.exec) (hb : c.code = cc) (hK : va_K D cl tys s) (hP : va_P D cl ws H) (q0 t0 : Nat) {cA : ClassId} {n : Nat} {f : Nat → Int32} (ha : ws[q0]? = some (a, .inl (cA, n, .inl f))) (ht : tys[t0]? = some (cA, .boolean)) {i : Int32} {x : Int32} (hout : ¬ vp_in i n) (hdg : decode cc pc = .ok (.bastore, 1))
    (k : ∀ tx : String, tx = (toString "Index " ++ toString i ++ toString " out of bounds for length " ++ toString n : String) → vx_Note p l e R s m args below meth c H locs cells slots Q (F0 m pc ls rest) "java/lang/ArrayIndexOutOfBoundsException" tx) : W p l e R s m args below meth c H locs cells slots Q (F0 m pc ls (.int x :: .int i :: .ref a :: rest)) := by
  intro T hT X
  obtain ⟨t, st, q⟩ := k _ rfl T hT X
  refine ⟨t, ?_, q⟩
  have h1 := X.bastoreOut hexec (by rw [hT]; exact hP q0 _ ha) ((hK.2 t0 _ ht).1 n (fun j => .int (f j))) (j := i) (by show (i < 0 ∨ (arrV _ _ _).slots.size ≤ _); rw [arrV_size]; exact Classical.byContradiction hout) (g := F0 m pc ls (.int x :: .int i :: .ref a :: rest)) rfl (rest := rest) rfl (by rw [hb]; exact hdg) t
  simp only [arrV_size] at h1
  exact h1 st
theorem vx_caldZ {D : va_G} {cl : List vw_C} {ws : va_W} {tys : List (ClassId × FieldType)} {a : Nat} (hexec : p.tables.exec = Jvm.exec) (hb : c.code = cc) (hK : va_K D cl tys s) (hP : va_P D cl ws H) (q0 t0 : Nat) {cA : ClassId} {n : Nat} {f : Nat → Int32} (ha : ws[q0]? = some (a, .inl (cA, n, .inl f))) (ht : tys[t0]? = some (cA, .char)) {i : Int32} (hout : ¬ vp_in i n) (hdg : decode cc pc = .ok (.caload, 1))
    (k : ∀ tx : String, tx = (toString "Index " ++ toString i ++ toString " out of bounds for length " ++ toString n : String) → vx_Note p l e R s m args below meth c H locs cells slots Q (F0 m pc ls rest) "java/lang/ArrayIndexOutOfBoundsException" tx) : W p l e R s m args below meth c H locs cells slots Q (F0 m pc ls (.int i :: .ref a :: rest)) := by
  intro T hT X
  obtain ⟨t, st, q⟩ := k _ rfl T hT X
  refine ⟨t, ?_, q⟩
  have h1 := X.caloadOut hexec (by rw [hT]; exact hP q0 _ ha) ((hK.2 t0 _ ht).1 n (fun j => .int (f j))) (j := i) (by show (i < 0 ∨ (arrV _ _ _).slots.size ≤ _); rw [arrV_size]; exact Classical.byContradiction hout) (g := F0 m pc ls (.int i :: .ref a :: rest)) rfl (rest := rest) rfl (by rw [hb]; exact hdg) t
  simp only [arrV_size] at h1
  exact h1 st
theorem vx_castZ {D : va_G} {cl : List vw_C} {ws : va_W} {tys : List (ClassId × FieldType)} {a : Nat} (hexec : p.tables.exec = Jvm.exec) (hb : c.code = cc) (hK : va_K D cl tys s) (hP : va_P D cl ws H) (q0 t0 : Nat) {cA : ClassId} {n : Nat} {f : Nat → Int32} (ha : ws[q0]? = some (a, .inl (cA, n, .inl f))) (ht : tys[t0]? = some (cA, .char)) {i : Int32} {x : Int32} (hout : ¬ vp_in i n) (hdg : decode cc pc = .ok (.castore, 1))
    (k : ∀ tx : String, tx = (toString "Index " ++ toString i ++ toString " out of bounds for length " ++ toString n : String) → vx_Note p l e R s m args below meth c H locs cells slots Q (F0 m pc ls rest) "java/lang/ArrayIndexOutOfBoundsException" tx) : W p l e R s m args below meth c H locs cells slots Q (F0 m pc ls (.int x :: .int i :: .ref a :: rest)) := by
  intro T hT X
  obtain ⟨t, st, q⟩ := k _ rfl T hT X
  refine ⟨t, ?_, q⟩
  have h1 := X.castoreOut hexec (by rw [hT]; exact hP q0 _ ha) ((hK.2 t0 _ ht).1 n (fun j => .int (f j))) (j := i) (by show (i < 0 ∨ (arrV _ _ _).slots.size ≤ _); rw [arrV_size]; exact Classical.byContradiction hout) (g := F0 m pc ls (.int x :: .int i :: .ref a :: rest)) rfl (rest := rest) rfl (by rw [hb]; exact hdg) t
  simp only [arrV_size] at h1
  exact h1 st
theorem vx_saldZ {D : va_G} {cl : List vw_C} {ws : va_W} {tys : List (ClassId × FieldType)} {a : Nat} (hexec : p.tables.exec = Jvm.exec) (hb : c.code = cc) (hK : va_K D cl tys s) (hP : va_P D cl ws H) (q0 t0 : Nat) {cA : ClassId} {n : Nat} {f : Nat → Int32} (ha : ws[q0]? = some (a, .inl (cA, n, .inl f))) (ht : tys[t0]? = some (cA, .short)) {i : Int32} (hout : ¬ vp_in i n) (hdg : decode cc pc = .ok (.saload, 1))
    (k : ∀ tx : String, tx = (toString "Index " ++ toString i ++ toString " out of bounds for length " ++ toString n : String) → vx_Note p l e R s m args below meth c H locs cells slots Q (F0 m pc ls rest) "java/lang/ArrayIndexOutOfBoundsException" tx) : W p l e R s m args below meth c H locs cells slots Q (F0 m pc ls (.int i :: .ref a :: rest)) := by
  intro T hT X
  obtain ⟨t, st, q⟩ := k _ rfl T hT X
  refine ⟨t, ?_, q⟩
  have h1 := X.saloadOut hexec (by rw [hT]; exact hP q0 _ ha) ((hK.2 t0 _ ht).1 n (fun j => .int (f j))) (j := i) (by show (i < 0 ∨ (arrV _ _ _).slots.size ≤ _); rw [arrV_size]; exact Classical.byContradiction hout) (g := F0 m pc ls (.int i :: .ref a :: rest)) rfl (rest := rest) rfl (by rw [hb]; exact hdg) t
  simp only [arrV_size] at h1
  exact h1 st
theorem vx_sastZ {D : va_G} {cl : List vw_C} {ws : va_W} {tys : List (ClassId × FieldType)} {a : Nat} (hexec : p.tables.exec = Jvm.exec) (hb : c.code = cc) (hK : va_K D cl tys s) (hP : va_P D cl ws H) (q0 t0 : Nat) {cA : ClassId} {n : Nat} {f : Nat → Int32} (ha : ws[q0]? = some (a, .inl (cA, n, .inl f))) (ht : tys[t0]? = some (cA, .short)) {i : Int32} {x : Int32} (hout : ¬ vp_in i n) (hdg : decode cc pc = .ok (.sastore, 1))
    (k : ∀ tx : String, tx = (toString "Index " ++ toString i ++ toString " out of bounds for length " ++ toString n : String) → vx_Note p l e R s m args below meth c H locs cells slots Q (F0 m pc ls rest) "java/lang/ArrayIndexOutOfBoundsException" tx) : W p l e R s m args below meth c H locs cells slots Q (F0 m pc ls (.int x :: .int i :: .ref a :: rest)) := by
  intro T hT X
  obtain ⟨t, st, q⟩ := k _ rfl T hT X
  refine ⟨t, ?_, q⟩
  have h1 := X.sastoreOut hexec (by rw [hT]; exact hP q0 _ ha) ((hK.2 t0 _ ht).1 n (fun j => .int (f j))) (j := i) (by show (i < 0 ∨ (arrV _ _ _).slots.size ≤ _); rw [arrV_size]; exact Classical.byContradiction hout) (g := F0 m pc ls (.int x :: .int i :: .ref a :: rest)) rfl (rest := rest) rfl (by rw [hb]; exact hdg) t
  simp only [arrV_size] at h1
  exact h1 st
theorem vx_laldZ {D : va_G} {cl : List vw_C} {ws : va_W} {tys : List (ClassId × FieldType)} {a : Nat} (hexec : p.tables.exec = Jvm.exec) (hb : c.code = cc) (hK : va_K D cl tys s) (hP : va_P D cl ws H) (q0 t0 : Nat) {cA : ClassId} {n : Nat} {f : Nat → Int64} (ha : ws[q0]? = some (a, .inl (cA, n, .inr (.inl f)))) (ht : tys[t0]? = some (cA, .long)) {i : Int32} (hout : ¬ vp_in i n) (hdg : decode cc pc = .ok (.laload, 1))
    (k : ∀ tx : String, tx = (toString "Index " ++ toString i ++ toString " out of bounds for length " ++ toString n : String) → vx_Note p l e R s m args below meth c H locs cells slots Q (F0 m pc ls rest) "java/lang/ArrayIndexOutOfBoundsException" tx) : W p l e R s m args below meth c H locs cells slots Q (F0 m pc ls (.int i :: .ref a :: rest)) := by
  intro T hT X
  obtain ⟨t, st, q⟩ := k _ rfl T hT X
  refine ⟨t, ?_, q⟩
  have h1 := X.laloadOut hexec (by rw [hT]; exact hP q0 _ ha) ((hK.2 t0 _ ht).1 n (fun j => .long (f j))) (j := i) (by show (i < 0 ∨ (arrV _ _ _).slots.size ≤ _); rw [arrV_size]; exact Classical.byContradiction hout) (g := F0 m pc ls (.int i :: .ref a :: rest)) rfl (rest := rest) rfl (by rw [hb]; exact hdg) t
  simp only [arrV_size] at h1
  exact h1 st
theorem vx_lastZ {D : va_G} {cl : List vw_C} {ws : va_W} {tys : List (ClassId × FieldType)} {a : Nat} (hexec : p.tables.exec = Jvm.exec) (hb : c.code = cc) (hK : va_K D cl tys s) (hP : va_P D cl ws H) (q0 t0 : Nat) {cA : ClassId} {n : Nat} {f : Nat → Int64} (ha : ws[q0]? = some (a, .inl (cA, n, .inr (.inl f)))) (ht : tys[t0]? = some (cA, .long)) {i : Int32} {x : Int64} (hout : ¬ vp_in i n) (hdg : decode cc pc = .ok (.lastore, 1))
    (k : ∀ tx : String, tx = (toString "Index " ++ toString i ++ toString " out of bounds for length " ++ toString n : String) → vx_Note p l e R s m args below meth c H locs cells slots Q (F0 m pc ls rest) "java/lang/ArrayIndexOutOfBoundsException" tx) : W p l e R s m args below meth c H locs cells slots Q (F0 m pc ls (.long x :: .int i :: .ref a :: rest)) := by
  intro T hT X
  obtain ⟨t, st, q⟩ := k _ rfl T hT X
  refine ⟨t, ?_, q⟩
  have h1 := X.lastoreOut hexec (by rw [hT]; exact hP q0 _ ha) ((hK.2 t0 _ ht).1 n (fun j => .long (f j))) (j := i) (by show (i < 0 ∨ (arrV _ _ _).slots.size ≤ _); rw [arrV_size]; exact Classical.byContradiction hout) (g := F0 m pc ls (.long x :: .int i :: .ref a :: rest)) rfl (rest := rest) rfl (by rw [hb]; exact hdg) t
  simp only [arrV_size] at h1
  exact h1 st
theorem vx_faldZ {D : va_G} {cl : List vw_C} {ws : va_W} {tys : List (ClassId × FieldType)} {a : Nat} (hexec : p.tables.exec = Jvm.exec) (hb : c.code = cc) (hK : va_K D cl tys s) (hP : va_P D cl ws H) (q0 t0 : Nat) {cA : ClassId} {n : Nat} {f : Nat → UInt32} (ha : ws[q0]? = some (a, .inl (cA, n, .inr (.inr (.inl f))))) (ht : tys[t0]? = some (cA, .float)) {i : Int32} (hout : ¬ vp_in i n) (hdg : decode cc pc = .ok (.faload, 1))
    (k : ∀ tx : String, tx = (toString "Index " ++ toString i ++ toString " out of bounds for length " ++ toString n : String) → vx_Note p l e R s m args below meth c H locs cells slots Q (F0 m pc ls rest) "java/lang/ArrayIndexOutOfBoundsException" tx) : W p l e R s m args below meth c H locs cells slots Q (F0 m pc ls (.int i :: .ref a :: rest)) := by
  intro T hT X
  obtain ⟨t, st, q⟩ := k _ rfl T hT X
  refine ⟨t, ?_, q⟩
  have h1 := X.faloadOut hexec (by rw [hT]; exact hP q0 _ ha) ((hK.2 t0 _ ht).1 n (fun j => .float (f j))) (j := i) (by show (i < 0 ∨ (arrV _ _ _).slots.size ≤ _); rw [arrV_size]; exact Classical.byContradiction hout) (g := F0 m pc ls (.int i :: .ref a :: rest)) rfl (rest := rest) rfl (by rw [hb]; exact hdg) t
  simp only [arrV_size] at h1
  exact h1 st
theorem vx_fastZ {D : va_G} {cl : List vw_C} {ws : va_W} {tys : List (ClassId × FieldType)} {a : Nat} (hexec : p.tables.exec = Jvm.exec) (hb : c.code = cc) (hK : va_K D cl tys s) (hP : va_P D cl ws H) (q0 t0 : Nat) {cA : ClassId} {n : Nat} {f : Nat → UInt32} (ha : ws[q0]? = some (a, .inl (cA, n, .inr (.inr (.inl f))))) (ht : tys[t0]? = some (cA, .float)) {i : Int32} {x : UInt32} (hout : ¬ vp_in i n) (hdg : decode cc pc = .ok (.fastore, 1))
    (k : ∀ tx : String, tx = (toString "Index " ++ toString i ++ toString " out of bounds for length " ++ toString n : String) → vx_Note p l e R s m args below meth c H locs cells slots Q (F0 m pc ls rest) "java/lang/ArrayIndexOutOfBoundsException" tx) : W p l e R s m args below meth c H locs cells slots Q (F0 m pc ls (.float x :: .int i :: .ref a :: rest)) := by
  intro T hT X
  obtain ⟨t, st, q⟩ := k _ rfl T hT X
  refine ⟨t, ?_, q⟩
  have h1 := X.fastoreOut hexec (by rw [hT]; exact hP q0 _ ha) ((hK.2 t0 _ ht).1 n (fun j => .float (f j))) (j := i) (by show (i < 0 ∨ (arrV _ _ _).slots.size ≤ _); rw [arrV_size]; exact Classical.byContradiction hout) (g := F0 m pc ls (.float x :: .int i :: .ref a :: rest)) rfl (rest := rest) rfl (by rw [hb]; exact hdg) t
  simp only [arrV_size] at h1
  exact h1 st
theorem vx_daldZ {D : va_G} {cl : List vw_C} {ws : va_W} {tys : List (ClassId × FieldType)} {a : Nat} (hexec : p.tables.exec = Jvm.exec) (hb : c.code = cc) (hK : va_K D cl tys s) (hP : va_P D cl ws H) (q0 t0 : Nat) {cA : ClassId} {n : Nat} {f : Nat → UInt64} (ha : ws[q0]? = some (a, .inl (cA, n, .inr (.inr (.inr (.inl f)))))) (ht : tys[t0]? = some (cA, .double)) {i : Int32} (hout : ¬ vp_in i n) (hdg : decode cc pc = .ok (.daload, 1))
    (k : ∀ tx : String, tx = (toString "Index " ++ toString i ++ toString " out of bounds for length " ++ toString n : String) → vx_Note p l e R s m args below meth c H locs cells slots Q (F0 m pc ls rest) "java/lang/ArrayIndexOutOfBoundsException" tx) : W p l e R s m args below meth c H locs cells slots Q (F0 m pc ls (.int i :: .ref a :: rest)) := by
  intro T hT X
  obtain ⟨t, st, q⟩ := k _ rfl T hT X
  refine ⟨t, ?_, q⟩
  have h1 := X.daloadOut hexec (by rw [hT]; exact hP q0 _ ha) ((hK.2 t0 _ ht).1 n (fun j => .double (f j))) (j := i) (by show (i < 0 ∨ (arrV _ _ _).slots.size ≤ _); rw [arrV_size]; exact Classical.byContradiction hout) (g := F0 m pc ls (.int i :: .ref a :: rest)) rfl (rest := rest) rfl (by rw [hb]; exact hdg) t
  simp only [arrV_size] at h1
  exact h1 st
theorem vx_dastZ {D : va_G} {cl : List vw_C} {ws : va_W} {tys : List (ClassId × FieldType)} {a : Nat} (hexec : p.tables.exec = Jvm.exec) (hb : c.code = cc) (hK : va_K D cl tys s) (hP : va_P D cl ws H) (q0 t0 : Nat) {cA : ClassId} {n : Nat} {f : Nat → UInt64} (ha : ws[q0]? = some (a, .inl (cA, n, .inr (.inr (.inr (.inl f)))))) (ht : tys[t0]? = some (cA, .double)) {i : Int32} {x : UInt64} (hout : ¬ vp_in i n) (hdg : decode cc pc = .ok (.dastore, 1))
    (k : ∀ tx : String, tx = (toString "Index " ++ toString i ++ toString " out of bounds for length " ++ toString n : String) → vx_Note p l e R s m args below meth c H locs cells slots Q (F0 m pc ls rest) "java/lang/ArrayIndexOutOfBoundsException" tx) : W p l e R s m args below meth c H locs cells slots Q (F0 m pc ls (.double x :: .int i :: .ref a :: rest)) := by
  intro T hT X
  obtain ⟨t, st, q⟩ := k _ rfl T hT X
  refine ⟨t, ?_, q⟩
  have h1 := X.dastoreOut hexec (by rw [hT]; exact hP q0 _ ha) ((hK.2 t0 _ ht).1 n (fun j => .double (f j))) (j := i) (by show (i < 0 ∨ (arrV _ _ _).slots.size ≤ _); rw [arrV_size]; exact Classical.byContradiction hout) (g := F0 m pc ls (.double x :: .int i :: .ref a :: rest)) rfl (rest := rest) rfl (by rw [hb]; exact hdg) t
  simp only [arrV_size] at h1
  exact h1 st
theorem vx_arraylengthN (hexec : p.tables.exec = Jvm.exec) (hb : c.code = cc) (hdg : decode cc pc = .ok (.arraylength, 1)) (k : vx_NoteN p l e R s m args below meth c H locs cells slots Q (F0 m pc ls rest)) : W p l e R s m args below meth c H locs cells slots Q (F0 m pc ls (.null :: rest)) := by
  intro T hT X
  obtain ⟨t, st, q⟩ := k T hT X
  exact ⟨t, X.arraylengthNull hexec (g := F0 m pc ls (.null :: rest)) rfl (rest := rest) rfl (by rw [hb]; exact hdg) t st, q⟩
theorem vx_ialoadN (hexec : p.tables.exec = Jvm.exec) (hb : c.code = cc) {i : Int32} (hdg : decode cc pc = .ok (.iaload, 1)) (k : vx_NoteN p l e R s m args below meth c H locs cells slots Q (F0 m pc ls rest)) : W p l e R s m args below meth c H locs cells slots Q (F0 m pc ls (.int i :: .null :: rest)) := by
  intro T hT X
  obtain ⟨t, st, q⟩ := k T hT X
  exact ⟨t, X.ialoadNull hexec (g := F0 m pc ls (.int i :: .null :: rest)) rfl (rest := rest) rfl (by rw [hb]; exact hdg) t st, q⟩
theorem vx_laloadN (hexec : p.tables.exec = Jvm.exec) (hb : c.code = cc) {i : Int32} (hdg : decode cc pc = .ok (.laload, 1)) (k : vx_NoteN p l e R s m args below meth c H locs cells slots Q (F0 m pc ls rest)) : W p l e R s m args below meth c H locs cells slots Q (F0 m pc ls (.int i :: .null :: rest)) := by
  intro T hT X
  obtain ⟨t, st, q⟩ := k T hT X
  exact ⟨t, X.laloadNull hexec (g := F0 m pc ls (.int i :: .null :: rest)) rfl (rest := rest) rfl (by rw [hb]; exact hdg) t st, q⟩
theorem vx_faloadN (hexec : p.tables.exec = Jvm.exec) (hb : c.code = cc) {i : Int32} (hdg : decode cc pc = .ok (.faload, 1)) (k : vx_NoteN p l e R s m args below meth c H locs cells slots Q (F0 m pc ls rest)) : W p l e R s m args below meth c H locs cells slots Q (F0 m pc ls (.int i :: .null :: rest)) := by
  intro T hT X
  obtain ⟨t, st, q⟩ := k T hT X
  exact ⟨t, X.faloadNull hexec (g := F0 m pc ls (.int i :: .null :: rest)) rfl (rest := rest) rfl (by rw [hb]; exact hdg) t st, q⟩
theorem vx_daloadN (hexec : p.tables.exec = Jvm.exec) (hb : c.code = cc) {i : Int32} (hdg : decode cc pc = .ok (.daload, 1)) (k : vx_NoteN p l e R s m args below meth c H locs cells slots Q (F0 m pc ls rest)) : W p l e R s m args below meth c H locs cells slots Q (F0 m pc ls (.int i :: .null :: rest)) := by
  intro T hT X
  obtain ⟨t, st, q⟩ := k T hT X
  exact ⟨t, X.daloadNull hexec (g := F0 m pc ls (.int i :: .null :: rest)) rfl (rest := rest) rfl (by rw [hb]; exact hdg) t st, q⟩
theorem vx_aaloadN (hexec : p.tables.exec = Jvm.exec) (hb : c.code = cc) {i : Int32} (hdg : decode cc pc = .ok (.aaload, 1)) (k : vx_NoteN p l e R s m args below meth c H locs cells slots Q (F0 m pc ls rest)) : W p l e R s m args below meth c H locs cells slots Q (F0 m pc ls (.int i :: .null :: rest)) := by
  intro T hT X
  obtain ⟨t, st, q⟩ := k T hT X
  exact ⟨t, X.aaloadNull hexec (g := F0 m pc ls (.int i :: .null :: rest)) rfl (rest := rest) rfl (by rw [hb]; exact hdg) t st, q⟩
theorem vx_baloadN (hexec : p.tables.exec = Jvm.exec) (hb : c.code = cc) {i : Int32} (hdg : decode cc pc = .ok (.baload, 1)) (k : vx_NoteN p l e R s m args below meth c H locs cells slots Q (F0 m pc ls rest)) : W p l e R s m args below meth c H locs cells slots Q (F0 m pc ls (.int i :: .null :: rest)) := by
  intro T hT X
  obtain ⟨t, st, q⟩ := k T hT X
  exact ⟨t, X.baloadNull hexec (g := F0 m pc ls (.int i :: .null :: rest)) rfl (rest := rest) rfl (by rw [hb]; exact hdg) t st, q⟩
theorem vx_caloadN (hexec : p.tables.exec = Jvm.exec) (hb : c.code = cc) {i : Int32} (hdg : decode cc pc = .ok (.caload, 1)) (k : vx_NoteN p l e R s m args below meth c H locs cells slots Q (F0 m pc ls rest)) : W p l e R s m args below meth c H locs cells slots Q (F0 m pc ls (.int i :: .null :: rest)) := by
  intro T hT X
  obtain ⟨t, st, q⟩ := k T hT X
  exact ⟨t, X.caloadNull hexec (g := F0 m pc ls (.int i :: .null :: rest)) rfl (rest := rest) rfl (by rw [hb]; exact hdg) t st, q⟩
theorem vx_saloadN (hexec : p.tables.exec = Jvm.exec) (hb : c.code = cc) {i : Int32} (hdg : decode cc pc = .ok (.saload, 1)) (k : vx_NoteN p l e R s m args below meth c H locs cells slots Q (F0 m pc ls rest)) : W p l e R s m args below meth c H locs cells slots Q (F0 m pc ls (.int i :: .null :: rest)) := by
  intro T hT X
  obtain ⟨t, st, q⟩ := k T hT X
  exact ⟨t, X.saloadNull hexec (g := F0 m pc ls (.int i :: .null :: rest)) rfl (rest := rest) rfl (by rw [hb]; exact hdg) t st, q⟩
theorem vx_iastoreN (hexec : p.tables.exec = Jvm.exec) (hb : c.code = cc) {x : Int32} {i : Int32} (hdg : decode cc pc = .ok (.iastore, 1)) (k : vx_NoteN p l e R s m args below meth c H locs cells slots Q (F0 m pc ls rest)) : W p l e R s m args below meth c H locs cells slots Q (F0 m pc ls (.int x :: .int i :: .null :: rest)) := by
  intro T hT X
  obtain ⟨t, st, q⟩ := k T hT X
  exact ⟨t, X.iastoreNull hexec (g := F0 m pc ls (.int x :: .int i :: .null :: rest)) rfl (rest := rest) rfl (by rw [hb]; exact hdg) t st, q⟩
theorem vx_lastoreN (hexec : p.tables.exec = Jvm.exec) (hb : c.code = cc) {x : Int64} {i : Int32} (hdg : decode cc pc = .ok (.lastore, 1)) (k : vx_NoteN p l e R s m args below meth c H locs cells slots Q (F0 m pc ls rest)) : W p l e R s m args below meth c H locs cells slots Q (F0 m pc ls (.long x :: .int i :: .null :: rest)) := by
  intro T hT X
  obtain ⟨t, st, q⟩ := k T hT X
  exact ⟨t, X.lastoreNull hexec (g := F0 m pc ls (.long x :: .int i :: .null :: rest)) rfl (rest := rest) rfl (by rw [hb]; exact hdg) t st, q⟩
theorem vx_fastoreN (hexec : p.tables.exec = Jvm.exec) (hb : c.code = cc) {x : UInt32} {i : Int32} (hdg : decode cc pc = .ok (.fastore, 1)) (k : vx_NoteN p l e R s m args below meth c H locs cells slots Q (F0 m pc ls rest)) : W p l e R s m args below meth c H locs cells slots Q (F0 m pc ls (.float x :: .int i :: .null :: rest)) := by
  intro T hT X
  obtain ⟨t, st, q⟩ := k T hT X
  exact ⟨t, X.fastoreNull hexec (g := F0 m pc ls (.float x :: .int i :: .null :: rest)) rfl (rest := rest) rfl (by rw [hb]; exact hdg) t st, q⟩
theorem vx_dastoreN (hexec : p.tables.exec = Jvm.exec) (hb : c.code = cc) {x : UInt64} {i : Int32} (hdg : decode cc pc = .ok (.dastore, 1)) (k : vx_NoteN p l e R s m args below meth c H locs cells slots Q (F0 m pc ls rest)) : W p l e R s m args below meth c H locs cells slots Q (F0 m pc ls (.double x :: .int i :: .null :: rest)) := by
  intro T hT X
  obtain ⟨t, st, q⟩ := k T hT X
  exact ⟨t, X.dastoreNull hexec (g := F0 m pc ls (.double x :: .int i :: .null :: rest)) rfl (rest := rest) rfl (by rw [hb]; exact hdg) t st, q⟩
theorem vx_bastoreN (hexec : p.tables.exec = Jvm.exec) (hb : c.code = cc) {x : Int32} {i : Int32} (hdg : decode cc pc = .ok (.bastore, 1)) (k : vx_NoteN p l e R s m args below meth c H locs cells slots Q (F0 m pc ls rest)) : W p l e R s m args below meth c H locs cells slots Q (F0 m pc ls (.int x :: .int i :: .null :: rest)) := by
  intro T hT X
  obtain ⟨t, st, q⟩ := k T hT X
  exact ⟨t, X.bastoreNull hexec (g := F0 m pc ls (.int x :: .int i :: .null :: rest)) rfl (rest := rest) rfl (by rw [hb]; exact hdg) t st, q⟩
theorem vx_castoreN (hexec : p.tables.exec = Jvm.exec) (hb : c.code = cc) {x : Int32} {i : Int32} (hdg : decode cc pc = .ok (.castore, 1)) (k : vx_NoteN p l e R s m args below meth c H locs cells slots Q (F0 m pc ls rest)) : W p l e R s m args below meth c H locs cells slots Q (F0 m pc ls (.int x :: .int i :: .null :: rest)) := by
  intro T hT X
  obtain ⟨t, st, q⟩ := k T hT X
  exact ⟨t, X.castoreNull hexec (g := F0 m pc ls (.int x :: .int i :: .null :: rest)) rfl (rest := rest) rfl (by rw [hb]; exact hdg) t st, q⟩
theorem vx_sastoreN (hexec : p.tables.exec = Jvm.exec) (hb : c.code = cc) {x : Int32} {i : Int32} (hdg : decode cc pc = .ok (.sastore, 1)) (k : vx_NoteN p l e R s m args below meth c H locs cells slots Q (F0 m pc ls rest)) : W p l e R s m args below meth c H locs cells slots Q (F0 m pc ls (.int x :: .int i :: .null :: rest)) := by
  intro T hT X
  obtain ⟨t, st, q⟩ := k T hT X
  exact ⟨t, X.sastoreNull hexec (g := F0 m pc ls (.int x :: .int i :: .null :: rest)) rfl (rest := rest) rfl (by rw [hb]; exact hdg) t st, q⟩
theorem vx_invokeN {own C : String} {index maxL : Nat} {y : MethodName} {bytes : ByteArray} {ret : Option FieldType} (hexec : p.tables.exec = Jvm.exec) (hb : c.code = cc) (hown : s.vm.findClass own = some m.cls) (hlink : (Cond.methodLink own index y).before args s = true) (hinst : (Cond.instanceMethod y).before args s = true) (hcode : (Cond.code y bytes maxL ret).before args s = true) (hsel : (Cond.selects C y y).before args s = true)
    (hx : y.cls ≠ "java/lang/invoke/MethodHandle" ∧ y.cls ≠ "java/lang/invoke/VarHandle") {As : List Value} (hlen : (parseMethodDescriptor y.desc).map (fun d => d.parameters.length) = some As.length) (hdg : decode cc pc = .ok (.invokevirtual index, 3))
    (k : vx_NoteN p l e R s m args below meth c H locs cells slots Q (F0 m pc ls rest)) {st0 : List Value} (hst : st0 = As.reverse ++ .null :: rest) : W p l e R s m args below meth c H locs cells slots Q (F0 m pc ls st0) := by
  intro T hT X
  obtain ⟨r0, r, hn, hrm, hstR, hsigR⟩ := va_Decl.of hinst hcode
  obtain ⟨c2, r2, m2, q1, q2, q3, q4, kP, hkP, hkPi⟩ := Cond.selects_spec hsel
  cases hn.symm.trans q3
  have hl9 : As.length = r.sig.parameters.length := by
    rw [hsigR] at hlen
    exact (Option.some.inj hlen).symm
  obtain ⟨vm', X1, st1⟩ := X.invokevirtualNull hexec hown hlink hn hrm hstR hkP hkPi hx (g := F0 m pc ls st0) rfl (argsL := As) (rest := rest) hl9 hst (by rw [hb]; exact hdg)
  obtain ⟨t, st, q⟩ := k (T.setVm vm') hT X1
  exact ⟨t, st1 t st, q⟩
theorem vx_newarrayZ {atype : ArrayType} (hexec : p.tables.exec = Jvm.exec) (hb : c.code = cc) {n : Int32} (h0 : n < 0) (hdg : decode cc pc = .ok (.newarray atype, 2)) (k : ∀ tx : String, tx = toString n → vx_Note p l e R s m args below meth c H locs cells slots Q (F0 m pc ls rest) "java/lang/NegativeArraySizeException" tx) : W p l e R s m args below meth c H locs cells slots Q (F0 m pc ls (.int n :: rest)) := by
  intro T hT X
  obtain ⟨t, st, q⟩ := k _ rfl T hT X
  exact ⟨t, X.newarrayNegative hexec (g := F0 m pc ls (.int n :: rest)) rfl h0 (rest := rest) rfl (by rw [hb]; exact hdg) t st, q⟩
end
end VXM
/-! ===== END ===== -/
end
section
-- ===== PART A: goes FIRST, ahead of the names: the tables' words, and 'selects' of the private methods out of them =====
/-- a private method of a class that the tables say can be made, by its rows of tables_1 -/
def lw_okq (q : MethodName × Nat) : Prop := (q.1.cls ≠ "java/lang/invoke/MethodHandle" ∧ q.1.cls ≠ "java/lang/invoke/VarHandle") ∧ Cond.instantiable q.1.cls q.2 ∈ tables_1 ∧ Cond.privateMethod q.1 ∈ tables_1 ∧ Cond.instanceMethod q.1 ∈ tables_1
theorem lw_p0 : lw_okq (⟨"java/lang/Throwable", "fillInStackTrace", "(I)Ljava/lang/Throwable;"⟩, 6) := ⟨⟨by decide +kernel, by decide +kernel⟩, List.mem_of_getElem? (i := 424) (by decide +kernel), List.mem_of_getElem? (i := 422) (by decide +kernel), List.mem_of_getElem? (i := 423) (by decide +kernel)⟩
theorem lw_p1 : lw_okq (⟨"Glyphmill", "refresh", "()V"⟩, 12) := ⟨⟨by decide +kernel, by decide +kernel⟩, List.mem_of_getElem? (i := 28) (by decide +kernel), List.mem_of_getElem? (i := 477) (by decide +kernel), List.mem_of_getElem? (i := 478) (by decide +kernel)⟩
theorem lw_p2 : lw_okq (⟨"Glyphmill$Sequence", "take", "(ICI)V"⟩, 6) := ⟨⟨by decide +kernel, by decide +kernel⟩, List.mem_of_getElem? (i := 81) (by decide +kernel), List.mem_of_getElem? (i := 486) (by decide +kernel), List.mem_of_getElem? (i := 487) (by decide +kernel)⟩
theorem lw_p3 : lw_okq (⟨"Glyphmill$Levels", "stretchEnd", "(I)I"⟩, 3) := ⟨⟨by decide +kernel, by decide +kernel⟩, List.mem_of_getElem? (i := 116) (by decide +kernel), List.mem_of_getElem? (i := 500) (by decide +kernel), List.mem_of_getElem? (i := 501) (by decide +kernel)⟩
theorem lw_p4 : lw_okq (⟨"Glyphmill$Levels", "sortKinds", "(III)V"⟩, 3) := ⟨⟨by decide +kernel, by decide +kernel⟩, List.mem_of_getElem? (i := 116) (by decide +kernel), List.mem_of_getElem? (i := 511) (by decide +kernel), List.mem_of_getElem? (i := 512) (by decide +kernel)⟩
theorem lw_p5 : lw_okq (⟨"Glyphmill$Levels", "directNeutrals", "(IIII)V"⟩, 3) := ⟨⟨by decide +kernel, by decide +kernel⟩, List.mem_of_getElem? (i := 116) (by decide +kernel), List.mem_of_getElem? (i := 528) (by decide +kernel), List.mem_of_getElem? (i := 529) (by decide +kernel)⟩
theorem lw_p6 : lw_okq (⟨"Glyphmill$Levels", "neutralEnd", "(II)I"⟩, 3) := ⟨⟨by decide +kernel, by decide +kernel⟩, List.mem_of_getElem? (i := 116) (by decide +kernel), List.mem_of_getElem? (i := 532) (by decide +kernel), List.mem_of_getElem? (i := 533) (by decide +kernel)⟩
theorem lw_p7 : lw_okq (⟨"Glyphmill$Levels", "setLevels", "(II)V"⟩, 3) := ⟨⟨by decide +kernel, by decide +kernel⟩, List.mem_of_getElem? (i := 116) (by decide +kernel), List.mem_of_getElem? (i := 539) (by decide +kernel), List.mem_of_getElem? (i := 540) (by decide +kernel)⟩
theorem lw_p8 : lw_okq (⟨"Glyphmill$Runs", "firstScript", "()I"⟩, 5) := ⟨⟨by decide +kernel, by decide +kernel⟩, List.mem_of_getElem? (i := 135) (by decide +kernel), List.mem_of_getElem? (i := 547) (by decide +kernel), List.mem_of_getElem? (i := 548) (by decide +kernel)⟩
theorem lw_p9 : lw_okq (⟨"Glyphmill$Glyphs", "ligatureWith", "(ILGlyphmill$Font;)I"⟩, 11) := ⟨⟨by decide +kernel, by decide +kernel⟩, List.mem_of_getElem? (i := 160) (by decide +kernel), List.mem_of_getElem? (i := 560) (by decide +kernel), List.mem_of_getElem? (i := 561) (by decide +kernel)⟩
theorem lw_p10 : lw_okq (⟨"Glyphmill$Glyphs", "measure", "(LGlyphmill$Font;)V"⟩, 11) := ⟨⟨by decide +kernel, by decide +kernel⟩, List.mem_of_getElem? (i := 160) (by decide +kernel), List.mem_of_getElem? (i := 568) (by decide +kernel), List.mem_of_getElem? (i := 569) (by decide +kernel)⟩
theorem lw_p11 : lw_okq (⟨"Glyphmill$Font", "isLigature", "(I)Z"⟩, 5) := ⟨⟨by decide +kernel, by decide +kernel⟩, List.mem_of_getElem? (i := 54) (by decide +kernel), List.mem_of_getElem? (i := 576) (by decide +kernel), List.mem_of_getElem? (i := 577) (by decide +kernel)⟩
theorem lw_p12 : lw_okq (⟨"Glyphmill$Parts", "isBreakAhead", "(I)Z"⟩, 5) := ⟨⟨by decide +kernel, by decide +kernel⟩, List.mem_of_getElem? (i := 209) (by decide +kernel), List.mem_of_getElem? (i := 588) (by decide +kernel), List.mem_of_getElem? (i := 589) (by decide +kernel)⟩
theorem lw_p13 : lw_okq (⟨"Glyphmill$Lines", "firstTooWide", "()I"⟩, 12) := ⟨⟨by decide +kernel, by decide +kernel⟩, List.mem_of_getElem? (i := 237) (by decide +kernel), List.mem_of_getElem? (i := 601) (by decide +kernel), List.mem_of_getElem? (i := 602) (by decide +kernel)⟩
theorem lw_p14 : lw_okq (⟨"Glyphmill$Lines", "isPossible", "(II)Z"⟩, 12) := ⟨⟨by decide +kernel, by decide +kernel⟩, List.mem_of_getElem? (i := 237) (by decide +kernel), List.mem_of_getElem? (i := 605) (by decide +kernel), List.mem_of_getElem? (i := 606) (by decide +kernel)⟩
theorem lw_p15 : lw_okq (⟨"Glyphmill$Lines", "forgetBeginnings", "()V"⟩, 12) := ⟨⟨by decide +kernel, by decide +kernel⟩, List.mem_of_getElem? (i := 237) (by decide +kernel), List.mem_of_getElem? (i := 625) (by decide +kernel), List.mem_of_getElem? (i := 626) (by decide +kernel)⟩
def lw_privs_1 : List (MethodName × Nat) := [(⟨"java/lang/Throwable", "fillInStackTrace", "(I)Ljava/lang/Throwable;"⟩, 6), (⟨"Glyphmill", "refresh", "()V"⟩, 12), (⟨"Glyphmill$Sequence", "take", "(ICI)V"⟩, 6), (⟨"Glyphmill$Levels", "stretchEnd", "(I)I"⟩, 3), (⟨"Glyphmill$Levels", "sortKinds", "(III)V"⟩, 3), (⟨"Glyphmill$Levels", "directNeutrals", "(IIII)V"⟩, 3), (⟨"Glyphmill$Levels", "neutralEnd", "(II)I"⟩, 3), (⟨"Glyphmill$Levels", "setLevels", "(II)V"⟩, 3), (⟨"Glyphmill$Runs", "firstScript", "()I"⟩, 5), (⟨"Glyphmill$Glyphs", "ligatureWith", "(ILGlyphmill$Font;)I"⟩, 11), (⟨"Glyphmill$Glyphs", "measure", "(LGlyphmill$Font;)V"⟩, 11), (⟨"Glyphmill$Font", "isLigature", "(I)Z"⟩, 5), (⟨"Glyphmill$Parts", "isBreakAhead", "(I)Z"⟩, 5), (⟨"Glyphmill$Lines", "firstTooWide", "()I"⟩, 12), (⟨"Glyphmill$Lines", "isPossible", "(II)Z"⟩, 12), (⟨"Glyphmill$Lines", "forgetBeginnings", "()V"⟩, 12)]
theorem lw_r1 : ∀ q ∈ lw_privs_1, lw_okq q := List.forall_mem_cons.mpr ⟨lw_p0, List.forall_mem_cons.mpr ⟨lw_p1, List.forall_mem_cons.mpr ⟨lw_p2, List.forall_mem_cons.mpr ⟨lw_p3, List.forall_mem_cons.mpr ⟨lw_p4, List.forall_mem_cons.mpr ⟨lw_p5, List.forall_mem_cons.mpr ⟨lw_p6, List.forall_mem_cons.mpr ⟨lw_p7, List.forall_mem_cons.mpr ⟨lw_p8, List.forall_mem_cons.mpr ⟨lw_p9, List.forall_mem_cons.mpr ⟨lw_p10, List.forall_mem_cons.mpr ⟨lw_p11, List.forall_mem_cons.mpr ⟨lw_p12, List.forall_mem_cons.mpr ⟨lw_p13, List.forall_mem_cons.mpr ⟨lw_p14, List.forall_mem_cons.mpr ⟨lw_p15, fun _ h => absurd h List.not_mem_nil⟩⟩⟩⟩⟩⟩⟩⟩⟩⟩⟩⟩⟩⟩⟩⟩
theorem lw_p16 : lw_okq (⟨"Glyphmill$Lines", "bestBeginning", "()I"⟩, 12) := ⟨⟨by decide +kernel, by decide +kernel⟩, List.mem_of_getElem? (i := 237) (by decide +kernel), List.mem_of_getElem? (i := 638) (by decide +kernel), List.mem_of_getElem? (i := 639) (by decide +kernel)⟩
theorem lw_p17 : lw_okq (⟨"Glyphmill$Lines", "extend", "(I)V"⟩, 12) := ⟨⟨by decide +kernel, by decide +kernel⟩, List.mem_of_getElem? (i := 237) (by decide +kernel), List.mem_of_getElem? (i := 642) (by decide +kernel), List.mem_of_getElem? (i := 643) (by decide +kernel)⟩
theorem lw_p18 : lw_okq (⟨"Glyphmill$Lines", "demeritsOf", "(II)J"⟩, 12) := ⟨⟨by decide +kernel, by decide +kernel⟩, List.mem_of_getElem? (i := 237) (by decide +kernel), List.mem_of_getElem? (i := 646) (by decide +kernel), List.mem_of_getElem? (i := 647) (by decide +kernel)⟩
theorem lw_p19 : lw_okq (⟨"Glyphmill$Lines", "isBetter", "(IIJ)Z"⟩, 12) := ⟨⟨by decide +kernel, by decide +kernel⟩, List.mem_of_getElem? (i := 237) (by decide +kernel), List.mem_of_getElem? (i := 669) (by decide +kernel), List.mem_of_getElem? (i := 670) (by decide +kernel)⟩
theorem lw_p20 : lw_okq (⟨"Glyphmill$Lines", "differsEarlier", "(II)Z"⟩, 12) := ⟨⟨by decide +kernel, by decide +kernel⟩, List.mem_of_getElem? (i := 237) (by decide +kernel), List.mem_of_getElem? (i := 673) (by decide +kernel), List.mem_of_getElem? (i := 674) (by decide +kernel)⟩
theorem lw_p21 : lw_okq (⟨"Glyphmill$Lines", "traceBack", "()V"⟩, 12) := ⟨⟨by decide +kernel, by decide +kernel⟩, List.mem_of_getElem? (i := 237) (by decide +kernel), List.mem_of_getElem? (i := 677) (by decide +kernel), List.mem_of_getElem? (i := 678) (by decide +kernel)⟩
theorem lw_p22 : lw_okq (⟨"Glyphmill$Rows", "orderLine", "(II)V"⟩, 8) := ⟨⟨by decide +kernel, by decide +kernel⟩, List.mem_of_getElem? (i := 290) (by decide +kernel), List.mem_of_getElem? (i := 694) (by decide +kernel), List.mem_of_getElem? (i := 695) (by decide +kernel)⟩
theorem lw_p23 : lw_okq (⟨"Glyphmill$Rows", "reverseFrom", "(III)V"⟩, 8) := ⟨⟨by decide +kernel, by decide +kernel⟩, List.mem_of_getElem? (i := 290) (by decide +kernel), List.mem_of_getElem? (i := 699) (by decide +kernel), List.mem_of_getElem? (i := 700) (by decide +kernel)⟩
theorem lw_p24 : lw_okq (⟨"Glyphmill$Rows", "reverse", "(II)V"⟩, 8) := ⟨⟨by decide +kernel, by decide +kernel⟩, List.mem_of_getElem? (i := 290) (by decide +kernel), List.mem_of_getElem? (i := 703) (by decide +kernel), List.mem_of_getElem? (i := 704) (by decide +kernel)⟩
theorem lw_p25 : lw_okq (⟨"Glyphmill$Rows", "placeLine", "(II)V"⟩, 8) := ⟨⟨by decide +kernel, by decide +kernel⟩, List.mem_of_getElem? (i := 290) (by decide +kernel), List.mem_of_getElem? (i := 707) (by decide +kernel), List.mem_of_getElem? (i := 708) (by decide +kernel)⟩
theorem lw_p26 : lw_okq (⟨"Glyphmill$Rows", "takeWidths", "(I)V"⟩, 8) := ⟨⟨by decide +kernel, by decide +kernel⟩, List.mem_of_getElem? (i := 290) (by decide +kernel), List.mem_of_getElem? (i := 713) (by decide +kernel), List.mem_of_getElem? (i := 714) (by decide +kernel)⟩
theorem lw_p27 : lw_okq (⟨"Glyphmill$Rows", "justify", "(III)V"⟩, 8) := ⟨⟨by decide +kernel, by decide +kernel⟩, List.mem_of_getElem? (i := 290) (by decide +kernel), List.mem_of_getElem? (i := 717) (by decide +kernel), List.mem_of_getElem? (i := 718) (by decide +kernel)⟩
theorem lw_p28 : lw_okq (⟨"Glyphmill", "glyphInLines", "(I)I"⟩, 12) := ⟨⟨by decide +kernel, by decide +kernel⟩, List.mem_of_getElem? (i := 28) (by decide +kernel), List.mem_of_getElem? (i := 723) (by decide +kernel), List.mem_of_getElem? (i := 724) (by decide +kernel)⟩
theorem lw_p29 : lw_okq (⟨"Glyphmill", "glyphAround", "(I)I"⟩, 12) := ⟨⟨by decide +kernel, by decide +kernel⟩, List.mem_of_getElem? (i := 28) (by decide +kernel), List.mem_of_getElem? (i := 727) (by decide +kernel), List.mem_of_getElem? (i := 728) (by decide +kernel)⟩
theorem lw_p30 : lw_okq (⟨"Glyphmill", "slotOf", "(I)I"⟩, 12) := ⟨⟨by decide +kernel, by decide +kernel⟩, List.mem_of_getElem? (i := 28) (by decide +kernel), List.mem_of_getElem? (i := 731) (by decide +kernel), List.mem_of_getElem? (i := 732) (by decide +kernel)⟩
theorem lw_p31 : lw_okq (⟨"Glyphmill", "needIndex", "(I)V"⟩, 12) := ⟨⟨by decide +kernel, by decide +kernel⟩, List.mem_of_getElem? (i := 28) (by decide +kernel), List.mem_of_getElem? (i := 735) (by decide +kernel), List.mem_of_getElem? (i := 736) (by decide +kernel)⟩
def lw_privs_2 : List (MethodName × Nat) := [(⟨"Glyphmill$Lines", "bestBeginning", "()I"⟩, 12), (⟨"Glyphmill$Lines", "extend", "(I)V"⟩, 12), (⟨"Glyphmill$Lines", "demeritsOf", "(II)J"⟩, 12), (⟨"Glyphmill$Lines", "isBetter", "(IIJ)Z"⟩, 12), (⟨"Glyphmill$Lines", "differsEarlier", "(II)Z"⟩, 12), (⟨"Glyphmill$Lines", "traceBack", "()V"⟩, 12), (⟨"Glyphmill$Rows", "orderLine", "(II)V"⟩, 8), (⟨"Glyphmill$Rows", "reverseFrom", "(III)V"⟩, 8), (⟨"Glyphmill$Rows", "reverse", "(II)V"⟩, 8), (⟨"Glyphmill$Rows", "placeLine", "(II)V"⟩, 8), (⟨"Glyphmill$Rows", "takeWidths", "(I)V"⟩, 8), (⟨"Glyphmill$Rows", "justify", "(III)V"⟩, 8), (⟨"Glyphmill", "glyphInLines", "(I)I"⟩, 12), (⟨"Glyphmill", "glyphAround", "(I)I"⟩, 12), (⟨"Glyphmill", "slotOf", "(I)I"⟩, 12), (⟨"Glyphmill", "needIndex", "(I)V"⟩, 12)]
theorem lw_r2 : ∀ q ∈ lw_privs_2, lw_okq q := List.forall_mem_cons.mpr ⟨lw_p16, List.forall_mem_cons.mpr ⟨lw_p17, List.forall_mem_cons.mpr ⟨lw_p18, List.forall_mem_cons.mpr ⟨lw_p19, List.forall_mem_cons.mpr ⟨lw_p20, List.forall_mem_cons.mpr ⟨lw_p21, List.forall_mem_cons.mpr ⟨lw_p22, List.forall_mem_cons.mpr ⟨lw_p23, List.forall_mem_cons.mpr ⟨lw_p24, List.forall_mem_cons.mpr ⟨lw_p25, List.forall_mem_cons.mpr ⟨lw_p26, List.forall_mem_cons.mpr ⟨lw_p27, List.forall_mem_cons.mpr ⟨lw_p28, List.forall_mem_cons.mpr ⟨lw_p29, List.forall_mem_cons.mpr ⟨lw_p30, List.forall_mem_cons.mpr ⟨lw_p31, fun _ h => absurd h List.not_mem_nil⟩⟩⟩⟩⟩⟩⟩⟩⟩⟩⟩⟩⟩⟩⟩⟩
theorem lw_p32 : lw_okq (⟨"Glyphmill", "needLines", "()V"⟩, 12) := ⟨⟨by decide +kernel, by decide +kernel⟩, List.mem_of_getElem? (i := 28) (by decide +kernel), List.mem_of_getElem? (i := 768) (by decide +kernel), List.mem_of_getElem? (i := 769) (by decide +kernel)⟩
theorem lw_p33 : lw_okq (⟨"Glyphmill", "placedGlyph", "(I)I"⟩, 12) := ⟨⟨by decide +kernel, by decide +kernel⟩, List.mem_of_getElem? (i := 28) (by decide +kernel), List.mem_of_getElem? (i := 809) (by decide +kernel), List.mem_of_getElem? (i := 810) (by decide +kernel)⟩
theorem lw_p34 : lw_okq (⟨"Glyphmill", "indexOfGlyph", "(I)I"⟩, 12) := ⟨⟨by decide +kernel, by decide +kernel⟩, List.mem_of_getElem? (i := 28) (by decide +kernel), List.mem_of_getElem? (i := 939) (by decide +kernel), List.mem_of_getElem? (i := 940) (by decide +kernel)⟩
theorem lw_p35 : lw_okq (⟨"Glyphmill", "needFewBreaks", "()V"⟩, 12) := ⟨⟨by decide +kernel, by decide +kernel⟩, List.mem_of_getElem? (i := 28) (by decide +kernel), List.mem_of_getElem? (i := 1009) (by decide +kernel), List.mem_of_getElem? (i := 1010) (by decide +kernel)⟩
theorem lw_p36 : lw_okq (⟨"Glyphmill$Lines", "trySet", "(I)V"⟩, 12) := ⟨⟨by decide +kernel, by decide +kernel⟩, List.mem_of_getElem? (i := 237) (by decide +kernel), List.mem_of_getElem? (i := 1019) (by decide +kernel), List.mem_of_getElem? (i := 1020) (by decide +kernel)⟩
theorem lw_p37 : lw_okq (⟨"Glyphmill", "needLine", "(I)V"⟩, 12) := ⟨⟨by decide +kernel, by decide +kernel⟩, List.mem_of_getElem? (i := 28) (by decide +kernel), List.mem_of_getElem? (i := 1059) (by decide +kernel), List.mem_of_getElem? (i := 1060) (by decide +kernel)⟩
def lw_privs_3 : List (MethodName × Nat) := [(⟨"Glyphmill", "needLines", "()V"⟩, 12), (⟨"Glyphmill", "placedGlyph", "(I)I"⟩, 12), (⟨"Glyphmill", "indexOfGlyph", "(I)I"⟩, 12), (⟨"Glyphmill", "needFewBreaks", "()V"⟩, 12), (⟨"Glyphmill$Lines", "trySet", "(I)V"⟩, 12), (⟨"Glyphmill", "needLine", "(I)V"⟩, 12)]
theorem lw_r3 : ∀ q ∈ lw_privs_3, lw_okq q := List.forall_mem_cons.mpr ⟨lw_p32, List.forall_mem_cons.mpr ⟨lw_p33, List.forall_mem_cons.mpr ⟨lw_p34, List.forall_mem_cons.mpr ⟨lw_p35, List.forall_mem_cons.mpr ⟨lw_p36, List.forall_mem_cons.mpr ⟨lw_p37, fun _ h => absurd h List.not_mem_nil⟩⟩⟩⟩⟩⟩
def lw_privs : List (MethodName × Nat) := lw_privs_1 ++ (lw_privs_2 ++ (lw_privs_3))
def lw_tbl : List Cond := k2_sels lw_privs ++ tables_1
theorem lw_privs_ok : ∀ q ∈ lw_privs, lw_okq q := by
  show ∀ q ∈ lw_privs_1 ++ (lw_privs_2 ++ (lw_privs_3)), lw_okq q
  exact List.forall_mem_append.mpr ⟨lw_r1, List.forall_mem_append.mpr ⟨lw_r2, lw_r3⟩⟩
end
section
/-! names and fields of the classes (printed by the task's own program), the methods, their instructions with operands looked up, the shape of the two objects; written by wip/p41/tables.py -/
def RX0 : String := "Glyphmill$Font"
def TX0 : u_T := fun k => match k with
  | 0 => ("Glyphmill$Font", "widths", "[I", true)
  | 1 => ("Glyphmill$Font", "firsts", "[I", true)
  | 2 => ("Glyphmill$Font", "seconds", "[C", true)
  | 3 => ("Glyphmill$Font", "ligatureWidths", "[I", true)
  | _ => ("Glyphmill$Font", "size", "I", false)
def tyX0 : Nat → FieldType := fun k => match k with
  | 0 => .array .int
  | 1 => .array .int
  | 2 => .array .char
  | 3 => .array .int
  | _ => .int
theorem nmX0 : ∀ a, a < 5 → ∀ b, b < 5 → a ≠ b → (TX0 a).2.1 ≠ (TX0 b).2.1 := by decide +kernel
theorem tyX0_ok : ∀ k, k < 5 → parseFieldDescriptor (TX0 k).2.2.1 = some (tyX0 k) := by decide +kernel
def RX1 : String := "Glyphmill$Glyphs"
def TX1 : u_T := fun k => match k with
  | 0 => ("Glyphmill$Glyphs", "sequence", "LGlyphmill$Sequence;", true)
  | 1 => ("Glyphmill$Glyphs", "slotLevels", "LGlyphmill$Levels;", true)
  | 2 => ("Glyphmill$Glyphs", "runTable", "LGlyphmill$Runs;", true)
  | 3 => ("Glyphmill$Glyphs", "owners", "[I", true)
  | 4 => ("Glyphmill$Glyphs", "numbers", "[I", true)
  | 5 => ("Glyphmill$Glyphs", "starts", "[I", true)
  | 6 => ("Glyphmill$Glyphs", "levels", "[I", true)
  | 7 => ("Glyphmill$Glyphs", "widths", "[I", true)
  | 8 => ("Glyphmill$Glyphs", "widthAhead", "[I", true)
  | 9 => ("Glyphmill$Glyphs", "spacesAhead", "[I", true)
  | _ => ("Glyphmill$Glyphs", "size", "I", false)
def tyX1 : Nat → FieldType := fun k => match k with
  | 0 => .object "Glyphmill$Sequence"
  | 1 => .object "Glyphmill$Levels"
  | 2 => .object "Glyphmill$Runs"
  | 3 => .array .int
  | 4 => .array .int
  | 5 => .array .int
  | 6 => .array .int
  | 7 => .array .int
  | 8 => .array .int
  | 9 => .array .int
  | _ => .int
theorem nmX1 : ∀ a, a < 11 → ∀ b, b < 11 → a ≠ b → (TX1 a).2.1 ≠ (TX1 b).2.1 := by decide +kernel
theorem tyX1_ok : ∀ k, k < 11 → parseFieldDescriptor (TX1 k).2.2.1 = some (tyX1 k) := by decide +kernel
def RX2 : String := "Glyphmill$Levels"
def TX2 : u_T := fun k => match k with
  | 0 => ("Glyphmill$Levels", "sequence", "LGlyphmill$Sequence;", true)
  | 1 => ("Glyphmill$Levels", "kinds", "[I", true)
  | _ => ("Glyphmill$Levels", "values", "[I", true)
def tyX2 : Nat → FieldType := fun k => match k with
  | 0 => .object "Glyphmill$Sequence"
  | 1 => .array .int
  | _ => .array .int
theorem nmX2 : ∀ a, a < 3 → ∀ b, b < 3 → a ≠ b → (TX2 a).2.1 ≠ (TX2 b).2.1 := by decide +kernel
theorem tyX2_ok : ∀ k, k < 3 → parseFieldDescriptor (TX2 k).2.2.1 = some (tyX2 k) := by decide +kernel
def RX3 : String := "Glyphmill$Lines"
def TX3 : u_T := fun k => match k with
  | 0 => ("Glyphmill$Lines", "parts", "LGlyphmill$Parts;", true)
  | 1 => ("Glyphmill$Lines", "best", "[J", true)
  | 2 => ("Glyphmill$Lines", "counts", "[I", true)
  | 3 => ("Glyphmill$Lines", "befores", "[I", true)
  | 4 => ("Glyphmill$Lines", "areExtended", "[Z", true)
  | 5 => ("Glyphmill$Lines", "starts", "[I", true)
  | 6 => ("Glyphmill$Lines", "width", "I", false)
  | 7 => ("Glyphmill$Lines", "tooWide", "I", false)
  | 8 => ("Glyphmill$Lines", "size", "I", false)
  | 9 => ("Glyphmill$Lines", "total", "J", false)
  | 10 => ("Glyphmill$Lines", "triedTotal", "J", false)
  | _ => ("Glyphmill$Lines", "triedSize", "I", false)
def tyX3 : Nat → FieldType := fun k => match k with
  | 0 => .object "Glyphmill$Parts"
  | 1 => .array .long
  | 2 => .array .int
  | 3 => .array .int
  | 4 => .array .boolean
  | 5 => .array .int
  | 6 => .int
  | 7 => .int
  | 8 => .int
  | 9 => .long
  | 10 => .long
  | _ => .int
theorem nmX3 : ∀ a, a < 12 → ∀ b, b < 12 → a ≠ b → (TX3 a).2.1 ≠ (TX3 b).2.1 := by decide +kernel
theorem tyX3_ok : ∀ k, k < 12 → parseFieldDescriptor (TX3 k).2.2.1 = some (tyX3 k) := by decide +kernel
def RX4 : String := "Glyphmill$Parts"
def TX4 : u_T := fun k => match k with
  | 0 => ("Glyphmill$Parts", "glyphTable", "LGlyphmill$Glyphs;", true)
  | 1 => ("Glyphmill$Parts", "starts", "[I", true)
  | 2 => ("Glyphmill$Parts", "ends", "[I", true)
  | 3 => ("Glyphmill$Parts", "size", "I", false)
  | _ => ("Glyphmill$Parts", "isBlank", "Z", false)
def tyX4 : Nat → FieldType := fun k => match k with
  | 0 => .object "Glyphmill$Glyphs"
  | 1 => .array .int
  | 2 => .array .int
  | 3 => .int
  | _ => .boolean
theorem nmX4 : ∀ a, a < 5 → ∀ b, b < 5 → a ≠ b → (TX4 a).2.1 ≠ (TX4 b).2.1 := by decide +kernel
theorem tyX4_ok : ∀ k, k < 5 → parseFieldDescriptor (TX4 k).2.2.1 = some (tyX4 k) := by decide +kernel
def RX5 : String := "Glyphmill$Rows"
def TX5 : u_T := fun k => match k with
  | 0 => ("Glyphmill$Rows", "glyphTable", "LGlyphmill$Glyphs;", true)
  | 1 => ("Glyphmill$Rows", "parts", "LGlyphmill$Parts;", true)
  | 2 => ("Glyphmill$Rows", "lineTable", "LGlyphmill$Lines;", true)
  | 3 => ("Glyphmill$Rows", "lines", "[I", true)
  | 4 => ("Glyphmill$Rows", "order", "[I", true)
  | 5 => ("Glyphmill$Rows", "ranks", "[I", true)
  | 6 => ("Glyphmill$Rows", "places", "[I", true)
  | _ => ("Glyphmill$Rows", "widths", "[I", true)
def tyX5 : Nat → FieldType := fun k => match k with
  | 0 => .object "Glyphmill$Glyphs"
  | 1 => .object "Glyphmill$Parts"
  | 2 => .object "Glyphmill$Lines"
  | 3 => .array .int
  | 4 => .array .int
  | 5 => .array .int
  | 6 => .array .int
  | _ => .array .int
theorem nmX5 : ∀ a, a < 8 → ∀ b, b < 8 → a ≠ b → (TX5 a).2.1 ≠ (TX5 b).2.1 := by decide +kernel
theorem tyX5_ok : ∀ k, k < 8 → parseFieldDescriptor (TX5 k).2.2.1 = some (tyX5 k) := by decide +kernel
def RX6 : String := "Glyphmill$Runs"
def TX6 : u_T := fun k => match k with
  | 0 => ("Glyphmill$Runs", "sequence", "LGlyphmill$Sequence;", true)
  | 1 => ("Glyphmill$Runs", "levels", "LGlyphmill$Levels;", true)
  | 2 => ("Glyphmill$Runs", "scripts", "[I", true)
  | 3 => ("Glyphmill$Runs", "numbers", "[I", true)
  | _ => ("Glyphmill$Runs", "size", "I", false)
def tyX6 : Nat → FieldType := fun k => match k with
  | 0 => .object "Glyphmill$Sequence"
  | 1 => .object "Glyphmill$Levels"
  | 2 => .array .int
  | 3 => .array .int
  | _ => .int
theorem nmX6 : ∀ a, a < 5 → ∀ b, b < 5 → a ≠ b → (TX6 a).2.1 ≠ (TX6 b).2.1 := by decide +kernel
theorem tyX6_ok : ∀ k, k < 5 → parseFieldDescriptor (TX6 k).2.2.1 = some (tyX6 k) := by decide +kernel
def RX7 : String := "Glyphmill$Sequence"
def TX7 : u_T := fun k => match k with
  | 0 => ("Glyphmill$Sequence", "slots", "[I", true)
  | 1 => ("Glyphmill$Sequence", "indices", "[I", true)
  | 2 => ("Glyphmill$Sequence", "signs", "[C", true)
  | 3 => ("Glyphmill$Sequence", "embeddings", "[I", true)
  | 4 => ("Glyphmill$Sequence", "openLevels", "[I", true)
  | _ => ("Glyphmill$Sequence", "size", "I", false)
def tyX7 : Nat → FieldType := fun k => match k with
  | 0 => .array .int
  | 1 => .array .int
  | 2 => .array .char
  | 3 => .array .int
  | 4 => .array .int
  | _ => .int
theorem nmX7 : ∀ a, a < 6 → ∀ b, b < 6 → a ≠ b → (TX7 a).2.1 ≠ (TX7 b).2.1 := by decide +kernel
theorem tyX7_ok : ∀ k, k < 6 → parseFieldDescriptor (TX7 k).2.2.1 = some (tyX7 k) := by decide +kernel
def RX8 : String := "Glyphmill$Text"
def TX8 : u_T := fun k => match k with
  | 0 => ("Glyphmill$Text", "signs", "[C", true)
  | _ => ("Glyphmill$Text", "size", "I", false)
def tyX8 : Nat → FieldType := fun k => match k with
  | 0 => .array .char
  | _ => .int
theorem nmX8 : ∀ a, a < 2 → ∀ b, b < 2 → a ≠ b → (TX8 a).2.1 ≠ (TX8 b).2.1 := by decide +kernel
theorem tyX8_ok : ∀ k, k < 2 → parseFieldDescriptor (TX8 k).2.2.1 = some (tyX8 k) := by decide +kernel
def RX9 : String := "Glyphmill"
def TX9 : u_T := fun k => match k with
  | 0 => ("Glyphmill", "text", "LGlyphmill$Text;", true)
  | 1 => ("Glyphmill", "font", "LGlyphmill$Font;", true)
  | 2 => ("Glyphmill", "sequence", "LGlyphmill$Sequence;", true)
  | 3 => ("Glyphmill", "levels", "LGlyphmill$Levels;", true)
  | 4 => ("Glyphmill", "runTable", "LGlyphmill$Runs;", true)
  | 5 => ("Glyphmill", "glyphTable", "LGlyphmill$Glyphs;", true)
  | 6 => ("Glyphmill", "parts", "LGlyphmill$Parts;", true)
  | 7 => ("Glyphmill", "lineTable", "LGlyphmill$Lines;", true)
  | 8 => ("Glyphmill", "rows", "LGlyphmill$Rows;", true)
  | 9 => ("Glyphmill", "lineWidth", "I", false)
  | 10 => ("Glyphmill", "base", "I", false)
  | _ => ("Glyphmill", "isStale", "Z", false)
def tyX9 : Nat → FieldType := fun k => match k with
  | 0 => .object "Glyphmill$Text"
  | 1 => .object "Glyphmill$Font"
  | 2 => .object "Glyphmill$Sequence"
  | 3 => .object "Glyphmill$Levels"
  | 4 => .object "Glyphmill$Runs"
  | 5 => .object "Glyphmill$Glyphs"
  | 6 => .object "Glyphmill$Parts"
  | 7 => .object "Glyphmill$Lines"
  | 8 => .object "Glyphmill$Rows"
  | 9 => .int
  | 10 => .int
  | _ => .boolean
theorem nmX9 : ∀ a, a < 12 → ∀ b, b < 12 → a ≠ b → (TX9 a).2.1 ≠ (TX9 b).2.1 := by decide +kernel
theorem tyX9_ok : ∀ k, k < 12 → parseFieldDescriptor (TX9 k).2.2.1 = some (tyX9 k) := by decide +kernel
abbrev gCl : List vw_C := [(RX0, TX0, 5), (RX1, TX1, 11), (RX2, TX2, 3), (RX3, TX3, 12), (RX4, TX4, 5), (RX5, TX5, 8), (RX6, TX6, 5), (RX7, TX7, 6), (RX8, TX8, 2), (RX9, TX9, 12)]
def gTyF : List (Nat → FieldType) := [tyX0, tyX1, tyX2, tyX3, tyX4, tyX5, tyX6, tyX7, tyX8, tyX9]
abbrev gC : Type := (Nat × List (Nat × Nat)) ⊕ (Nat × Nat)
/-- the cells: an object (class, what its fields are: 0 an int (1 a boolean), 1 a long, 2 the cell ..), an array (kind, length) -/
def gSh : List gC := [.inl (9, [(2, 2), (2, 4), (2, 9), (2, 15), (2, 18), (2, 21), (2, 29), (2, 32), (2, 38), (0, 0), (0, 0), (0, 1)]), .inr (0, 50), .inl (8, [(2, 3), (0, 0)]), .inr (1, 50), .inl (0, [(2, 5), (2, 6), (2, 7), (2, 8), (0, 0)]), .inr (0, 128), .inr (0, 20), .inr (1, 20), .inr (0, 20), .inl (7, [(2, 10), (2, 11), (2, 12), (2, 13), (2, 14), (0, 0)]), .inr (0, 50), .inr (0, 50), .inr (1, 50), .inr (0, 50), .inr (0, 6), .inl (2, [(2, 9), (2, 16), (2, 17)]), .inr (0, 50), .inr (0, 50), .inl (6, [(2, 9), (2, 15), (2, 19), (2, 20), (0, 0)]), .inr (0, 50), .inr (0, 50), .inl (1, [(2, 9), (2, 15), (2, 18), (2, 22), (2, 23), (2, 24), (2, 25), (2, 26), (2, 27), (2, 28), (0, 0)]), .inr (0, 50), .inr (0, 50), .inr (0, 50), .inr (0, 50), .inr (0, 50), .inr (0, 51), .inr (0, 51), .inl (4, [(2, 21), (2, 30), (2, 31), (0, 0), (0, 1)]), .inr (0, 51), .inr (0, 50), .inl (3, [(2, 29), (2, 33), (2, 34), (2, 35), (2, 36), (2, 37), (0, 0), (0, 0), (0, 0), (1, 0), (1, 0), (0, 0)]), .inr (3, 51), .inr (0, 51), .inr (0, 51), .inr (2, 51), .inr (0, 51), .inl (5, [(2, 21), (2, 29), (2, 32), (2, 39), (2, 40), (2, 41), (2, 42), (2, 1)]), .inr (0, 50), .inr (0, 50), .inr (0, 50), .inr (0, 50)]
abbrev gR : Type := Instr × Nat × (Nat × Nat × Nat) × Value
/-- java/util/Arrays.fill -/
def gC_0 : List (Nat × gR) := [(0, .iconst 0, 1, (0, 0, 0), .int (0)), (1, .istore_n 2, 1, (2, 0, 0), .null), (2, .aload_n 0, 1, (0, 0, 0), .null), (3, .arraylength, 1, (0, 0, 0), .null), (4, .istore_n 3, 1, (3, 0, 0), .null), (5, .iload_n 2, 1, (2, 0, 0), .null), (6, .iload_n 3, 1, (3, 0, 0), .null), (7, .if_icmp .ge 13, 3, (20, 0, 0), .null), (10, .aload_n 0, 1, (0, 0, 0), .null), (11, .iload_n 2, 1, (2, 0, 0), .null), (12, .iload_n 1, 1, (1, 0, 0), .null), (13, .iastore, 1, (0, 0, 0), .null), (14, .iinc 2 1, 3, (2, 0, 0), .int (1)), (17, .goto (-12), 3, (5, 0, 0), .null), (20, .return_, 1, (0, 0, 0), .null)]
/-- Glyphmill.setBase -/
def gC_1 : List (Nat × gR) := [(0, .aload_n 0, 1, (0, 0, 0), .null), (1, .getfield 88, 3, (9, 10, 335), .null), (4, .iconst 1, 1, (0, 0, 0), .int (1)), (5, .if_icmp .ne 7, 3, (12, 0, 0), .null), (8, .iconst 1, 1, (0, 0, 0), .int (1)), (9, .goto 4, 3, (13, 0, 0), .null), (12, .iconst 0, 1, (0, 0, 0), .int (0)), (13, .istore_n 2, 1, (2, 0, 0), .null), (14, .aload_n 0, 1, (0, 0, 0), .null), (15, .iload_n 1, 1, (1, 0, 0), .null), (16, .ifCond .eq 7, 3, (23, 0, 0), .null), (19, .iconst 1, 1, (0, 0, 0), .int (1)), (20, .goto 4, 3, (24, 0, 0), .null), (23, .iconst 0, 1, (0, 0, 0), .int (0)), (24, .putfield 88, 3, (9, 10, 335), .null), (27, .aload_n 0, 1, (0, 0, 0), .null), (28, .iconst 1, 1, (0, 0, 0), .int (1)), (29, .putfield 91, 3, (9, 11, 336), .null), (32, .iload_n 2, 1, (2, 0, 0), .null), (33, .ireturn, 1, (0, 0, 0), .null)]
/-- Glyphmill.length -/
def gC_2 : List (Nat × gR) := [(0, .aload_n 0, 1, (0, 0, 0), .null), (1, .getfield 10, 3, (9, 0, 325), .null), (4, .getfield 122, 3, (8, 1, 46), .null), (7, .ireturn, 1, (0, 0, 0), .null)]
/-- Glyphmill.isMark -/
def gC_3 : List (Nat × gR) := [(0, .iload_n 0, 1, (0, 0, 0), .null), (1, .bipush 91, 2, (0, 0, 0), .int (91)), (3, .if_icmp .eq 15, 3, (18, 0, 0), .null), (6, .iload_n 0, 1, (0, 0, 0), .null), (7, .bipush 123, 2, (0, 0, 0), .int (123)), (9, .if_icmp .eq 9, 3, (18, 0, 0), .null), (12, .iload_n 0, 1, (0, 0, 0), .null), (13, .bipush 125, 2, (0, 0, 0), .int (125)), (15, .if_icmp .ne 7, 3, (22, 0, 0), .null), (18, .iconst 1, 1, (0, 0, 0), .int (1)), (19, .goto 4, 3, (23, 0, 0), .null), (22, .iconst 0, 1, (0, 0, 0), .int (0)), (23, .ireturn, 1, (0, 0, 0), .null)]
/-- Glyphmill$Text.countOpen -/
def gC_4 : List (Nat × gR) := [(0, .iconst 0, 1, (0, 0, 0), .int (0)), (1, .istore_n 1, 1, (1, 0, 0), .null), (2, .iconst 0, 1, (0, 0, 0), .int (0)), (3, .istore_n 2, 1, (2, 0, 0), .null), (4, .iload_n 2, 1, (2, 0, 0), .null), (5, .aload_n 0, 1, (0, 0, 0), .null), (6, .getfield 15, 3, (8, 1, 44), .null), (9, .if_icmp .ge 40, 3, (49, 0, 0), .null), (12, .aload_n 0, 1, (0, 0, 0), .null), (13, .getfield 9, 3, (8, 0, 41), .null), (16, .iload_n 2, 1, (2, 0, 0), .null), (17, .caload, 1, (0, 0, 0), .null), (18, .invokestatic 19, 3, (3, 1, 378), .int 1), (21, .ifCond .eq 22, 3, (43, 0, 0), .null), (24, .iload_n 1, 1, (1, 0, 0), .null), (25, .aload_n 0, 1, (0, 0, 0), .null), (26, .getfield 9, 3, (8, 0, 41), .null), (29, .iload_n 2, 1, (2, 0, 0), .null), (30, .caload, 1, (0, 0, 0), .null), (31, .bipush 125, 2, (0, 0, 0), .int (125)), (33, .if_icmp .ne 7, 3, (40, 0, 0), .null), (36, .iconst (-1), 1, (0, 0, 0), .int (-1)), (37, .goto 4, 3, (41, 0, 0), .null), (40, .iconst 1, 1, (0, 0, 0), .int (1)), (41, .iadd, 1, (0, 0, 0), .null), (42, .istore_n 1, 1, (1, 0, 0), .null), (43, .iinc 2 1, 3, (2, 0, 0), .int (1)), (46, .goto (-42), 3, (4, 0, 0), .null), (49, .iload_n 1, 1, (1, 0, 0), .null), (50, .ireturn, 1, (0, 0, 0), .null)]
/-- Glyphmill.open -/
def gC_5 : List (Nat × gR) := [(0, .aload_n 0, 1, (0, 0, 0), .null), (1, .getfield 10, 3, (9, 0, 325), .null), (4, .invokevirtual 169, 3, (4, 0, 374), .int 0), (7, .ireturn, 1, (0, 0, 0), .null)]
/-- Glyphmill$Font.ligature -/
def gC_6 : List (Nat × gR) := [(0, .iconst 0, 1, (0, 0, 0), .int (0)), (1, .istore_n 3, 1, (3, 0, 0), .null), (2, .iload_n 3, 1, (3, 0, 0), .null), (3, .aload_n 0, 1, (0, 0, 0), .null), (4, .getfield 25, 3, (0, 4, 66), .null), (7, .if_icmp .ge 35, 3, (42, 0, 0), .null), (10, .aload_n 0, 1, (0, 0, 0), .null), (11, .getfield 15, 3, (0, 1, 63), .null), (14, .iload_n 3, 1, (3, 0, 0), .null), (15, .iaload, 1, (0, 0, 0), .null), (16, .iload_n 1, 1, (1, 0, 0), .null), (17, .if_icmp .ne 19, 3, (36, 0, 0), .null), (20, .aload_n 0, 1, (0, 0, 0), .null), (21, .getfield 18, 3, (0, 2, 64), .null), (24, .iload_n 3, 1, (3, 0, 0), .null), (25, .caload, 1, (0, 0, 0), .null), (26, .iload_n 2, 1, (2, 0, 0), .null), (27, .if_icmp .ne 9, 3, (36, 0, 0), .null), (30, .sipush 200, 3, (0, 0, 0), .int (200)), (33, .iload_n 3, 1, (3, 0, 0), .null), (34, .iadd, 1, (0, 0, 0), .null), (35, .ireturn, 1, (0, 0, 0), .null), (36, .iinc 3 1, 3, (3, 0, 0), .int (1)), (39, .goto (-37), 3, (2, 0, 0), .null), (42, .iconst (-1), 1, (0, 0, 0), .int (-1)), (43, .ireturn, 1, (0, 0, 0), .null)]
/-- Glyphmill$Glyphs.ligatureWith -/
def gC_7 : List (Nat × gR) := [(0, .iload_n 1, 1, (1, 0, 0), .null), (1, .ifCond .eq 33, 3, (34, 0, 0), .null), (4, .aload_n 0, 1, (0, 0, 0), .null), (5, .getfield 33, 3, (1, 10, 182), .null), (8, .ifCond .eq 26, 3, (34, 0, 0), .null), (11, .aload_n 0, 1, (0, 0, 0), .null), (12, .getfield 45, 3, (1, 2, 167), .null), (15, .getfield 69, 3, (6, 3, 144), .null), (18, .iload_n 1, 1, (1, 0, 0), .null), (19, .iaload, 1, (0, 0, 0), .null), (20, .aload_n 0, 1, (0, 0, 0), .null), (21, .getfield 45, 3, (1, 2, 167), .null), (24, .getfield 69, 3, (6, 3, 144), .null), (27, .iload_n 1, 1, (1, 0, 0), .null), (28, .iconst 1, 1, (0, 0, 0), .int (1)), (29, .isub, 1, (0, 0, 0), .null), (30, .iaload, 1, (0, 0, 0), .null), (31, .if_icmp .eq 5, 3, (36, 0, 0), .null), (34, .iconst (-1), 1, (0, 0, 0), .int (-1)), (35, .ireturn, 1, (0, 0, 0), .null), (36, .aload_n 2, 1, (2, 0, 0), .null), (37, .aload_n 0, 1, (0, 0, 0), .null), (38, .getfield 15, 3, (1, 4, 170), .null), (41, .aload_n 0, 1, (0, 0, 0), .null), (42, .getfield 33, 3, (1, 10, 182), .null), (45, .iconst 1, 1, (0, 0, 0), .int (1)), (46, .isub, 1, (0, 0, 0), .null), (47, .iaload, 1, (0, 0, 0), .null), (48, .aload_n 0, 1, (0, 0, 0), .null), (49, .getfield 37, 3, (1, 0, 165), .null), (52, .getfield 56, 3, (7, 2, 92), .null), (55, .iload_n 1, 1, (1, 0, 0), .null), (56, .caload, 1, (0, 0, 0), .null), (57, .invokevirtual 72, 3, (6, 2, 563), .int 0), (60, .ireturn, 1, (0, 0, 0), .null)]
/-- Glyphmill$Font.isLigature -/
def gC_8 : List (Nat × gR) := [(0, .iload_n 1, 1, (1, 0, 0), .null), (1, .sipush 200, 3, (0, 0, 0), .int (200)), (4, .if_icmp .lt 19, 3, (23, 0, 0), .null), (7, .iload_n 1, 1, (1, 0, 0), .null), (8, .sipush 200, 3, (0, 0, 0), .int (200)), (11, .aload_n 0, 1, (0, 0, 0), .null), (12, .getfield 25, 3, (0, 4, 66), .null), (15, .iadd, 1, (0, 0, 0), .null), (16, .if_icmp .ge 7, 3, (23, 0, 0), .null), (19, .iconst 1, 1, (0, 0, 0), .int (1)), (20, .goto 4, 3, (24, 0, 0), .null), (23, .iconst 0, 1, (0, 0, 0), .int (0)), (24, .ireturn, 1, (0, 0, 0), .null)]
/-- Glyphmill$Font.glyphWidth -/
def gC_9 : List (Nat × gR) := [(0, .aload_n 0, 1, (0, 0, 0), .null), (1, .iload_n 1, 1, (1, 0, 0), .null), (2, .invokevirtual 39, 3, (8, 1, 575), .int 0), (5, .ifCond .eq 14, 3, (19, 0, 0), .null), (8, .aload_n 0, 1, (0, 0, 0), .null), (9, .getfield 22, 3, (0, 3, 65), .null), (12, .iload_n 1, 1, (1, 0, 0), .null), (13, .sipush 200, 3, (0, 0, 0), .int (200)), (16, .isub, 1, (0, 0, 0), .null), (17, .iaload, 1, (0, 0, 0), .null), (18, .ireturn, 1, (0, 0, 0), .null), (19, .iload_n 1, 1, (1, 0, 0), .null), (20, .ifCond .lt 19, 3, (39, 0, 0), .null), (23, .iload_n 1, 1, (1, 0, 0), .null), (24, .sipush 128, 3, (0, 0, 0), .int (128)), (27, .if_icmp .ge 12, 3, (39, 0, 0), .null), (30, .aload_n 0, 1, (0, 0, 0), .null), (31, .getfield 9, 3, (0, 0, 62), .null), (34, .iload_n 1, 1, (1, 0, 0), .null), (35, .iaload, 1, (0, 0, 0), .null), (36, .goto 4, 3, (40, 0, 0), .null), (39, .iconst 0, 1, (0, 0, 0), .int (0)), (40, .ireturn, 1, (0, 0, 0), .null)]
/-- Glyphmill$Glyphs.isSpace -/
def gC_10 : List (Nat × gR) := [(0, .aload_n 0, 1, (0, 0, 0), .null), (1, .getfield 15, 3, (1, 4, 170), .null), (4, .iload_n 1, 1, (1, 0, 0), .null), (5, .iaload, 1, (0, 0, 0), .null), (6, .bipush 32, 2, (0, 0, 0), .int (32)), (8, .if_icmp .ne 7, 3, (15, 0, 0), .null), (11, .iconst 1, 1, (0, 0, 0), .int (1)), (12, .goto 4, 3, (16, 0, 0), .null), (15, .iconst 0, 1, (0, 0, 0), .int (0)), (16, .ireturn, 1, (0, 0, 0), .null)]
/-- Glyphmill$Glyphs.measure -/
def gC_11 : List (Nat × gR) := [(0, .iconst 0, 1, (0, 0, 0), .int (0)), (1, .istore_n 2, 1, (2, 0, 0), .null), (2, .iload_n 2, 1, (2, 0, 0), .null), (3, .aload_n 0, 1, (0, 0, 0), .null), (4, .getfield 33, 3, (1, 10, 182), .null), (7, .if_icmp .ge 74, 3, (81, 0, 0), .null), (10, .aload_n 0, 1, (0, 0, 0), .null), (11, .getfield 24, 3, (1, 7, 176), .null), (14, .iload_n 2, 1, (2, 0, 0), .null), (15, .aload_n 1, 1, (1, 0, 0), .null), (16, .aload_n 0, 1, (0, 0, 0), .null), (17, .getfield 15, 3, (1, 4, 170), .null), (20, .iload_n 2, 1, (2, 0, 0), .null), (21, .iaload, 1, (0, 0, 0), .null), (22, .invokevirtual 78, 3, (9, 1, 571), .int 0), (25, .iastore, 1, (0, 0, 0), .null), (26, .aload_n 0, 1, (0, 0, 0), .null), (27, .getfield 27, 3, (1, 8, 178), .null), (30, .iload_n 2, 1, (2, 0, 0), .null), (31, .iconst 1, 1, (0, 0, 0), .int (1)), (32, .iadd, 1, (0, 0, 0), .null), (33, .aload_n 0, 1, (0, 0, 0), .null), (34, .getfield 27, 3, (1, 8, 178), .null), (37, .iload_n 2, 1, (2, 0, 0), .null), (38, .iaload, 1, (0, 0, 0), .null), (39, .aload_n 0, 1, (0, 0, 0), .null), (40, .getfield 24, 3, (1, 7, 176), .null), (43, .iload_n 2, 1, (2, 0, 0), .null), (44, .iaload, 1, (0, 0, 0), .null), (45, .iadd, 1, (0, 0, 0), .null), (46, .iastore, 1, (0, 0, 0), .null), (47, .aload_n 0, 1, (0, 0, 0), .null), (48, .getfield 30, 3, (1, 9, 180), .null), (51, .iload_n 2, 1, (2, 0, 0), .null), (52, .iconst 1, 1, (0, 0, 0), .int (1)), (53, .iadd, 1, (0, 0, 0), .null), (54, .aload_n 0, 1, (0, 0, 0), .null), (55, .getfield 30, 3, (1, 9, 180), .null), (58, .iload_n 2, 1, (2, 0, 0), .null), (59, .iaload, 1, (0, 0, 0), .null), (60, .aload_n 0, 1, (0, 0, 0), .null), (61, .iload_n 2, 1, (2, 0, 0), .null), (62, .invokevirtual 82, 3, (10, 1, 579), .int 0), (65, .ifCond .eq 7, 3, (72, 0, 0), .null), (68, .iconst 1, 1, (0, 0, 0), .int (1)), (69, .goto 4, 3, (73, 0, 0), .null), (72, .iconst 0, 1, (0, 0, 0), .int (0)), (73, .iadd, 1, (0, 0, 0), .null), (74, .iastore, 1, (0, 0, 0), .null), (75, .iinc 2 1, 3, (2, 0, 0), .int (1)), (78, .goto (-76), 3, (2, 0, 0), .null), (81, .return_, 1, (0, 0, 0), .null)]
/-- Glyphmill$Glyphs.form -/
def gC_12 : List (Nat × gR) := [(0, .aload_n 0, 1, (0, 0, 0), .null), (1, .iconst 0, 1, (0, 0, 0), .int (0)), (2, .putfield 33, 3, (1, 10, 182), .null), (5, .iconst 0, 1, (0, 0, 0), .int (0)), (6, .istore_n 2, 1, (2, 0, 0), .null), (7, .iload_n 2, 1, (2, 0, 0), .null), (8, .aload_n 0, 1, (0, 0, 0), .null), (9, .getfield 37, 3, (1, 0, 165), .null), (12, .getfield 49, 3, (7, 5, 99), .null), (15, .if_icmp .ge 104, 3, (119, 0, 0), .null), (18, .aload_n 0, 1, (0, 0, 0), .null), (19, .iload_n 2, 1, (2, 0, 0), .null), (20, .aload_n 1, 1, (1, 0, 0), .null), (21, .invokevirtual 52, 3, (7, 2, 559), .int 0), (24, .istore_n 3, 1, (3, 0, 0), .null), (25, .iload_n 3, 1, (3, 0, 0), .null), (26, .iconst (-1), 1, (0, 0, 0), .int (-1)), (27, .if_icmp .ne 62, 3, (89, 0, 0), .null), (30, .aload_n 0, 1, (0, 0, 0), .null), (31, .getfield 15, 3, (1, 4, 170), .null), (34, .aload_n 0, 1, (0, 0, 0), .null), (35, .getfield 33, 3, (1, 10, 182), .null), (38, .aload_n 0, 1, (0, 0, 0), .null), (39, .getfield 37, 3, (1, 0, 165), .null), (42, .getfield 56, 3, (7, 2, 92), .null), (45, .iload_n 2, 1, (2, 0, 0), .null), (46, .caload, 1, (0, 0, 0), .null), (47, .iastore, 1, (0, 0, 0), .null), (48, .aload_n 0, 1, (0, 0, 0), .null), (49, .getfield 18, 3, (1, 5, 172), .null), (52, .aload_n 0, 1, (0, 0, 0), .null), (53, .getfield 33, 3, (1, 10, 182), .null), (56, .iload_n 2, 1, (2, 0, 0), .null), (57, .iastore, 1, (0, 0, 0), .null), (58, .aload_n 0, 1, (0, 0, 0), .null), (59, .getfield 21, 3, (1, 6, 174), .null), (62, .aload_n 0, 1, (0, 0, 0), .null), (63, .getfield 33, 3, (1, 10, 182), .null), (66, .aload_n 0, 1, (0, 0, 0), .null), (67, .getfield 41, 3, (1, 1, 166), .null), (70, .getfield 60, 3, (2, 2, 124), .null), (73, .iload_n 2, 1, (2, 0, 0), .null), (74, .iaload, 1, (0, 0, 0), .null), (75, .iastore, 1, (0, 0, 0), .null), (76, .aload_n 0, 1, (0, 0, 0), .null), (77, .dup, 1, (0, 0, 0), .null), (78, .getfield 33, 3, (1, 10, 182), .null), (81, .iconst 1, 1, (0, 0, 0), .int (1)), (82, .iadd, 1, (0, 0, 0), .null), (83, .putfield 33, 3, (1, 10, 182), .null), (86, .goto 15, 3, (101, 0, 0), .null), (89, .aload_n 0, 1, (0, 0, 0), .null), (90, .getfield 15, 3, (1, 4, 170), .null), (93, .aload_n 0, 1, (0, 0, 0), .null), (94, .getfield 33, 3, (1, 10, 182), .null), (97, .iconst 1, 1, (0, 0, 0), .int (1)), (98, .isub, 1, (0, 0, 0), .null), (99, .iload_n 3, 1, (3, 0, 0), .null), (100, .iastore, 1, (0, 0, 0), .null), (101, .aload_n 0, 1, (0, 0, 0), .null), (102, .getfield 9, 3, (1, 3, 168), .null), (105, .iload_n 2, 1, (2, 0, 0), .null), (106, .aload_n 0, 1, (0, 0, 0), .null), (107, .getfield 33, 3, (1, 10, 182), .null), (110, .iconst 1, 1, (0, 0, 0), .int (1)), (111, .isub, 1, (0, 0, 0), .null), (112, .iastore, 1, (0, 0, 0), .null), (113, .iinc 2 1, 3, (2, 0, 0), .int (1)), (116, .goto (-109), 3, (7, 0, 0), .null), (119, .aload_n 0, 1, (0, 0, 0), .null), (120, .aload_n 1, 1, (1, 0, 0), .null), (121, .invokevirtual 65, 3, (11, 1, 567), .int 0), (124, .return_, 1, (0, 0, 0), .null)]
/-- Glyphmill.isOdd -/
def gC_13 : List (Nat × gR) := [(0, .iload_n 0, 1, (0, 0, 0), .null), (1, .iconst 1, 1, (0, 0, 0), .int (1)), (2, .iand, 1, (0, 0, 0), .null), (3, .iconst 1, 1, (0, 0, 0), .int (1)), (4, .if_icmp .ne 7, 3, (11, 0, 0), .null), (7, .iconst 1, 1, (0, 0, 0), .int (1)), (8, .goto 4, 3, (12, 0, 0), .null), (11, .iconst 0, 1, (0, 0, 0), .int (0)), (12, .ireturn, 1, (0, 0, 0), .null)]
/-- Glyphmill$Levels.direction -/
def gC_14 : List (Nat × gR) := [(0, .iload_n 0, 1, (0, 0, 0), .null), (1, .invokestatic 56, 3, (13, 1, 509), .int 1), (4, .ifCond .eq 7, 3, (11, 0, 0), .null), (7, .iconst 1, 1, (0, 0, 0), .int (1)), (8, .goto 4, 3, (12, 0, 0), .null), (11, .iconst 0, 1, (0, 0, 0), .int (0)), (12, .ireturn, 1, (0, 0, 0), .null)]
/-- Glyphmill$Levels.neutralEnd -/
def gC_15 : List (Nat × gR) := [(0, .iload_n 1, 1, (1, 0, 0), .null), (1, .iconst 1, 1, (0, 0, 0), .int (1)), (2, .iadd, 1, (0, 0, 0), .null), (3, .istore_n 3, 1, (3, 0, 0), .null), (4, .iload_n 3, 1, (3, 0, 0), .null), (5, .iload_n 2, 1, (2, 0, 0), .null), (6, .if_icmp .ge 19, 3, (25, 0, 0), .null), (9, .aload_n 0, 1, (0, 0, 0), .null), (10, .getfield 9, 3, (2, 1, 122), .null), (13, .iload_n 3, 1, (3, 0, 0), .null), (14, .iaload, 1, (0, 0, 0), .null), (15, .iconst 3, 1, (0, 0, 0), .int (3)), (16, .if_icmp .ne 9, 3, (25, 0, 0), .null), (19, .iinc 3 1, 3, (3, 0, 0), .int (1)), (22, .goto (-18), 3, (4, 0, 0), .null), (25, .iload_n 3, 1, (3, 0, 0), .null), (26, .ireturn, 1, (0, 0, 0), .null)]
/-- Glyphmill$Levels.side -/
def gC_16 : List (Nat × gR) := [(0, .iload_n 0, 1, (0, 0, 0), .null), (1, .ifCond .ne 7, 3, (8, 0, 0), .null), (4, .iconst 0, 1, (0, 0, 0), .int (0)), (5, .goto 4, 3, (9, 0, 0), .null), (8, .iconst 1, 1, (0, 0, 0), .int (1)), (9, .ireturn, 1, (0, 0, 0), .null)]
/-- Glyphmill$Levels.directNeutrals -/
def gC_17 : List (Nat × gR) := [(0, .iload_n 1, 1, (1, 0, 0), .null), (1, .istore 5, 2, (5, 0, 0), .null), (3, .iload 5, 2, (5, 0, 0), .null), (5, .iload_n 2, 1, (2, 0, 0), .null), (6, .if_icmp .ge 129, 3, (135, 0, 0), .null), (9, .aload_n 0, 1, (0, 0, 0), .null), (10, .getfield 9, 3, (2, 1, 122), .null), (13, .iload 5, 2, (5, 0, 0), .null), (15, .iaload, 1, (0, 0, 0), .null), (16, .iconst 3, 1, (0, 0, 0), .int (3)), (17, .if_icmp .ne 112, 3, (129, 0, 0), .null), (20, .aload_n 0, 1, (0, 0, 0), .null), (21, .iload 5, 2, (5, 0, 0), .null), (23, .iload_n 2, 1, (2, 0, 0), .null), (24, .invokevirtual 73, 3, (15, 2, 531), .int 0), (27, .istore 6, 2, (6, 0, 0), .null), (29, .iload 5, 2, (5, 0, 0), .null), (31, .iload_n 1, 1, (1, 0, 0), .null), (32, .if_icmp .ne 7, 3, (39, 0, 0), .null), (35, .iload_n 3, 1, (3, 0, 0), .null), (36, .goto 15, 3, (51, 0, 0), .null), (39, .aload_n 0, 1, (0, 0, 0), .null), (40, .getfield 9, 3, (2, 1, 122), .null), (43, .iload 5, 2, (5, 0, 0), .null), (45, .iconst 1, 1, (0, 0, 0), .int (1)), (46, .isub, 1, (0, 0, 0), .null), (47, .iaload, 1, (0, 0, 0), .null), (48, .invokestatic 76, 3, (16, 1, 535), .int 0), (51, .istore 7, 2, (7, 0, 0), .null), (53, .iload 6, 2, (6, 0, 0), .null), (55, .iload_n 2, 1, (2, 0, 0), .null), (56, .if_icmp .ne 8, 3, (64, 0, 0), .null), (59, .iload 4, 2, (4, 0, 0), .null), (61, .goto 13, 3, (74, 0, 0), .null), (64, .aload_n 0, 1, (0, 0, 0), .null), (65, .getfield 9, 3, (2, 1, 122), .null), (68, .iload 6, 2, (6, 0, 0), .null), (70, .iaload, 1, (0, 0, 0), .null), (71, .invokestatic 76, 3, (16, 1, 535), .int 0), (74, .istore 8, 2, (8, 0, 0), .null), (76, .iload 7, 2, (7, 0, 0), .null), (78, .iload 8, 2, (8, 0, 0), .null), (80, .if_icmp .ne 8, 3, (88, 0, 0), .null), (83, .iload 7, 2, (7, 0, 0), .null), (85, .goto 16, 3, (101, 0, 0), .null), (88, .aload_n 0, 1, (0, 0, 0), .null), (89, .getfield 18, 3, (2, 0, 121), .null), (92, .getfield 22, 3, (7, 3, 95), .null), (95, .iload 5, 2, (5, 0, 0), .null), (97, .iaload, 1, (0, 0, 0), .null), (98, .invokestatic 41, 3, (14, 1, 506), .int 0), (101, .istore 9, 2, (9, 0, 0), .null), (103, .iload 5, 2, (5, 0, 0), .null), (105, .istore 10, 2, (10, 0, 0), .null), (107, .iload 10, 2, (10, 0, 0), .null), (109, .iload 6, 2, (6, 0, 0), .null), (111, .if_icmp .ge 18, 3, (129, 0, 0), .null), (114, .aload_n 0, 1, (0, 0, 0), .null), (115, .getfield 9, 3, (2, 1, 122), .null), (118, .iload 10, 2, (10, 0, 0), .null), (120, .iload 9, 2, (9, 0, 0), .null), (122, .iastore, 1, (0, 0, 0), .null), (123, .iinc 10 1, 3, (10, 0, 0), .int (1)), (126, .goto (-19), 3, (107, 0, 0), .null), (129, .iinc 5 1, 3, (5, 0, 0), .int (1)), (132, .goto (-129), 3, (3, 0, 0), .null), (135, .return_, 1, (0, 0, 0), .null)]
/-- Glyphmill$Levels.setLevels -/
def gC_18 : List (Nat × gR) := [(0, .iload_n 1, 1, (1, 0, 0), .null), (1, .istore_n 3, 1, (3, 0, 0), .null), (2, .iload_n 3, 1, (3, 0, 0), .null), (3, .iload_n 2, 1, (2, 0, 0), .null), (4, .if_icmp .ge 97, 3, (101, 0, 0), .null), (7, .aload_n 0, 1, (0, 0, 0), .null), (8, .getfield 18, 3, (2, 0, 121), .null), (11, .getfield 22, 3, (7, 3, 95), .null), (14, .iload_n 3, 1, (3, 0, 0), .null), (15, .iaload, 1, (0, 0, 0), .null), (16, .istore 4, 2, (4, 0, 0), .null), (18, .iload 4, 2, (4, 0, 0), .null), (20, .invokestatic 56, 3, (13, 1, 509), .int 1), (23, .ifCond .eq 31, 3, (54, 0, 0), .null), (26, .aload_n 0, 1, (0, 0, 0), .null), (27, .getfield 15, 3, (2, 2, 123), .null), (30, .iload_n 3, 1, (3, 0, 0), .null), (31, .aload_n 0, 1, (0, 0, 0), .null), (32, .getfield 9, 3, (2, 1, 122), .null), (35, .iload_n 3, 1, (3, 0, 0), .null), (36, .iaload, 1, (0, 0, 0), .null), (37, .iconst 1, 1, (0, 0, 0), .int (1)), (38, .if_icmp .ne 8, 3, (46, 0, 0), .null), (41, .iload 4, 2, (4, 0, 0), .null), (43, .goto 7, 3, (50, 0, 0), .null), (46, .iload 4, 2, (4, 0, 0), .null), (48, .iconst 1, 1, (0, 0, 0), .int (1)), (49, .iadd, 1, (0, 0, 0), .null), (50, .iastore, 1, (0, 0, 0), .null), (51, .goto 44, 3, (95, 0, 0), .null), (54, .aload_n 0, 1, (0, 0, 0), .null), (55, .getfield 15, 3, (2, 2, 123), .null), (58, .iload_n 3, 1, (3, 0, 0), .null), (59, .aload_n 0, 1, (0, 0, 0), .null), (60, .getfield 9, 3, (2, 1, 122), .null), (63, .iload_n 3, 1, (3, 0, 0), .null), (64, .iaload, 1, (0, 0, 0), .null), (65, .ifCond .ne 8, 3, (73, 0, 0), .null), (68, .iload 4, 2, (4, 0, 0), .null), (70, .goto 24, 3, (94, 0, 0), .null), (73, .aload_n 0, 1, (0, 0, 0), .null), (74, .getfield 9, 3, (2, 1, 122), .null), (77, .iload_n 3, 1, (3, 0, 0), .null), (78, .iaload, 1, (0, 0, 0), .null), (79, .iconst 1, 1, (0, 0, 0), .int (1)), (80, .if_icmp .ne 10, 3, (90, 0, 0), .null), (83, .iload 4, 2, (4, 0, 0), .null), (85, .iconst 1, 1, (0, 0, 0), .int (1)), (86, .iadd, 1, (0, 0, 0), .null), (87, .goto 7, 3, (94, 0, 0), .null), (90, .iload 4, 2, (4, 0, 0), .null), (92, .iconst 2, 1, (0, 0, 0), .int (2)), (93, .iadd, 1, (0, 0, 0), .null), (94, .iastore, 1, (0, 0, 0), .null), (95, .iinc 3 1, 3, (3, 0, 0), .int (1)), (98, .goto (-96), 3, (2, 0, 0), .null), (101, .return_, 1, (0, 0, 0), .null)]
/-- Glyphmill.isDigit -/
def gC_19 : List (Nat × gR) := [(0, .iload_n 0, 1, (0, 0, 0), .null), (1, .bipush 48, 2, (0, 0, 0), .int (48)), (3, .if_icmp .lt 13, 3, (16, 0, 0), .null), (6, .iload_n 0, 1, (0, 0, 0), .null), (7, .bipush 57, 2, (0, 0, 0), .int (57)), (9, .if_icmp .gt 7, 3, (16, 0, 0), .null), (12, .iconst 1, 1, (0, 0, 0), .int (1)), (13, .goto 4, 3, (17, 0, 0), .null), (16, .iconst 0, 1, (0, 0, 0), .int (0)), (17, .ireturn, 1, (0, 0, 0), .null)]
/-- Glyphmill.isLeftLetter -/
def gC_20 : List (Nat × gR) := [(0, .iload_n 0, 1, (0, 0, 0), .null), (1, .bipush 97, 2, (0, 0, 0), .int (97)), (3, .if_icmp .lt 13, 3, (16, 0, 0), .null), (6, .iload_n 0, 1, (0, 0, 0), .null), (7, .bipush 122, 2, (0, 0, 0), .int (122)), (9, .if_icmp .gt 7, 3, (16, 0, 0), .null), (12, .iconst 1, 1, (0, 0, 0), .int (1)), (13, .goto 4, 3, (17, 0, 0), .null), (16, .iconst 0, 1, (0, 0, 0), .int (0)), (17, .ireturn, 1, (0, 0, 0), .null)]
/-- Glyphmill.isRightLetter -/
def gC_21 : List (Nat × gR) := [(0, .iload_n 0, 1, (0, 0, 0), .null), (1, .bipush 65, 2, (0, 0, 0), .int (65)), (3, .if_icmp .lt 13, 3, (16, 0, 0), .null), (6, .iload_n 0, 1, (0, 0, 0), .null), (7, .bipush 90, 2, (0, 0, 0), .int (90)), (9, .if_icmp .gt 7, 3, (16, 0, 0), .null), (12, .iconst 1, 1, (0, 0, 0), .int (1)), (13, .goto 4, 3, (17, 0, 0), .null), (16, .iconst 0, 1, (0, 0, 0), .int (0)), (17, .ireturn, 1, (0, 0, 0), .null)]
/-- Glyphmill.isLetter -/
def gC_22 : List (Nat × gR) := [(0, .iload_n 0, 1, (0, 0, 0), .null), (1, .invokestatic 351, 3, (20, 1, 517), .int 0), (4, .ifCond .ne 10, 3, (14, 0, 0), .null), (7, .iload_n 0, 1, (0, 0, 0), .null), (8, .invokestatic 354, 3, (21, 1, 520), .int 0), (11, .ifCond .eq 7, 3, (18, 0, 0), .null), (14, .iconst 1, 1, (0, 0, 0), .int (1)), (15, .goto 4, 3, (19, 0, 0), .null), (18, .iconst 0, 1, (0, 0, 0), .int (0)), (19, .ireturn, 1, (0, 0, 0), .null)]
/-- Glyphmill$Levels.sortKinds -/
def gC_23 : List (Nat × gR) := [(0, .iload_n 3, 1, (3, 0, 0), .null), (1, .istore 4, 2, (4, 0, 0), .null), (3, .iload_n 1, 1, (1, 0, 0), .null), (4, .istore 5, 2, (5, 0, 0), .null), (6, .iload 5, 2, (5, 0, 0), .null), (8, .iload_n 2, 1, (2, 0, 0), .null), (9, .if_icmp .ge 92, 3, (101, 0, 0), .null), (12, .aload_n 0, 1, (0, 0, 0), .null), (13, .getfield 18, 3, (2, 0, 121), .null), (16, .getfield 60, 3, (7, 2, 93), .null), (19, .iload 5, 2, (5, 0, 0), .null), (21, .caload, 1, (0, 0, 0), .null), (22, .istore 6, 2, (6, 0, 0), .null), (24, .iload 6, 2, (6, 0, 0), .null), (26, .invokestatic 64, 3, (22, 1, 514), .int 1), (29, .ifCond .eq 30, 3, (59, 0, 0), .null), (32, .iload 6, 2, (6, 0, 0), .null), (34, .invokestatic 67, 3, (20, 1, 523), .int 1), (37, .ifCond .eq 7, 3, (44, 0, 0), .null), (40, .iconst 0, 1, (0, 0, 0), .int (0)), (41, .goto 4, 3, (45, 0, 0), .null), (44, .iconst 1, 1, (0, 0, 0), .int (1)), (45, .istore 4, 2, (4, 0, 0), .null), (47, .aload_n 0, 1, (0, 0, 0), .null), (48, .getfield 9, 3, (2, 1, 122), .null), (51, .iload 5, 2, (5, 0, 0), .null), (53, .iload 4, 2, (4, 0, 0), .null), (55, .iastore, 1, (0, 0, 0), .null), (56, .goto 39, 3, (95, 0, 0), .null), (59, .iload 6, 2, (6, 0, 0), .null), (61, .invokestatic 70, 3, (19, 1, 524), .int 1), (64, .ifCond .eq 23, 3, (87, 0, 0), .null), (67, .aload_n 0, 1, (0, 0, 0), .null), (68, .getfield 9, 3, (2, 1, 122), .null), (71, .iload 5, 2, (5, 0, 0), .null), (73, .iload 4, 2, (4, 0, 0), .null), (75, .ifCond .ne 7, 3, (82, 0, 0), .null), (78, .iconst 0, 1, (0, 0, 0), .int (0)), (79, .goto 4, 3, (83, 0, 0), .null), (82, .iconst 2, 1, (0, 0, 0), .int (2)), (83, .iastore, 1, (0, 0, 0), .null), (84, .goto 11, 3, (95, 0, 0), .null), (87, .aload_n 0, 1, (0, 0, 0), .null), (88, .getfield 9, 3, (2, 1, 122), .null), (91, .iload 5, 2, (5, 0, 0), .null), (93, .iconst 3, 1, (0, 0, 0), .int (3)), (94, .iastore, 1, (0, 0, 0), .null), (95, .iinc 5 1, 3, (5, 0, 0), .int (1)), (98, .goto (-92), 3, (6, 0, 0), .null), (101, .return_, 1, (0, 0, 0), .null)]
/-- Glyphmill$Levels.stretchEnd -/
def gC_24 : List (Nat × gR) := [(0, .iload_n 1, 1, (1, 0, 0), .null), (1, .iconst 1, 1, (0, 0, 0), .int (1)), (2, .iadd, 1, (0, 0, 0), .null), (3, .istore_n 2, 1, (2, 0, 0), .null), (4, .iload_n 2, 1, (2, 0, 0), .null), (5, .aload_n 0, 1, (0, 0, 0), .null), (6, .getfield 18, 3, (2, 0, 121), .null), (9, .getfield 27, 3, (7, 5, 100), .null), (12, .if_icmp .ge 30, 3, (42, 0, 0), .null), (15, .aload_n 0, 1, (0, 0, 0), .null), (16, .getfield 18, 3, (2, 0, 121), .null), (19, .getfield 22, 3, (7, 3, 95), .null), (22, .iload_n 2, 1, (2, 0, 0), .null), (23, .iaload, 1, (0, 0, 0), .null), (24, .aload_n 0, 1, (0, 0, 0), .null), (25, .getfield 18, 3, (2, 0, 121), .null), (28, .getfield 22, 3, (7, 3, 95), .null), (31, .iload_n 1, 1, (1, 0, 0), .null), (32, .iaload, 1, (0, 0, 0), .null), (33, .if_icmp .ne 9, 3, (42, 0, 0), .null), (36, .iinc 2 1, 3, (2, 0, 0), .int (1)), (39, .goto (-35), 3, (4, 0, 0), .null), (42, .iload_n 2, 1, (2, 0, 0), .null), (43, .ireturn, 1, (0, 0, 0), .null)]
/-- Glyphmill$Levels.resolve -/
def gC_25 : List (Nat × gR) := [(0, .aload_n 0, 1, (0, 0, 0), .null), (1, .getfield 18, 3, (2, 0, 121), .null), (4, .getfield 22, 3, (7, 3, 95), .null), (7, .astore_n 2, 1, (2, 0, 0), .null), (8, .iconst 0, 1, (0, 0, 0), .int (0)), (9, .istore_n 3, 1, (3, 0, 0), .null), (10, .iload_n 3, 1, (3, 0, 0), .null), (11, .aload_n 0, 1, (0, 0, 0), .null), (12, .getfield 18, 3, (2, 0, 121), .null), (15, .getfield 27, 3, (7, 5, 100), .null), (18, .if_icmp .ge 120, 3, (138, 0, 0), .null), (21, .iload_n 3, 1, (3, 0, 0), .null), (22, .ifCond .eq 14, 3, (36, 0, 0), .null), (25, .aload_n 2, 1, (2, 0, 0), .null), (26, .iload_n 3, 1, (3, 0, 0), .null), (27, .iaload, 1, (0, 0, 0), .null), (28, .aload_n 2, 1, (2, 0, 0), .null), (29, .iload_n 3, 1, (3, 0, 0), .null), (30, .iconst 1, 1, (0, 0, 0), .int (1)), (31, .isub, 1, (0, 0, 0), .null), (32, .iaload, 1, (0, 0, 0), .null), (33, .if_icmp .eq 99, 3, (132, 0, 0), .null), (36, .aload_n 0, 1, (0, 0, 0), .null), (37, .iload_n 3, 1, (3, 0, 0), .null), (38, .invokevirtual 31, 3, (24, 1, 499), .int 0), (41, .istore 4, 2, (4, 0, 0), .null), (43, .iload_n 3, 1, (3, 0, 0), .null), (44, .ifCond .ne 7, 3, (51, 0, 0), .null), (47, .iload_n 1, 1, (1, 0, 0), .null), (48, .goto 8, 3, (56, 0, 0), .null), (51, .aload_n 2, 1, (2, 0, 0), .null), (52, .iload_n 3, 1, (3, 0, 0), .null), (53, .iconst 1, 1, (0, 0, 0), .int (1)), (54, .isub, 1, (0, 0, 0), .null), (55, .iaload, 1, (0, 0, 0), .null), (56, .istore 5, 2, (5, 0, 0), .null), (58, .iload 4, 2, (4, 0, 0), .null), (60, .aload_n 0, 1, (0, 0, 0), .null), (61, .getfield 18, 3, (2, 0, 121), .null), (64, .getfield 27, 3, (7, 5, 100), .null), (67, .if_icmp .ne 7, 3, (74, 0, 0), .null), (70, .iload_n 1, 1, (1, 0, 0), .null), (71, .goto 7, 3, (78, 0, 0), .null), (74, .aload_n 2, 1, (2, 0, 0), .null), (75, .iload 4, 2, (4, 0, 0), .null), (77, .iaload, 1, (0, 0, 0), .null), (78, .istore 6, 2, (6, 0, 0), .null), (80, .aload_n 2, 1, (2, 0, 0), .null), (81, .iload_n 3, 1, (3, 0, 0), .null), (82, .iaload, 1, (0, 0, 0), .null), (83, .istore 7, 2, (7, 0, 0), .null), (85, .iload 7, 2, (7, 0, 0), .null), (87, .iload 5, 2, (5, 0, 0), .null), (89, .invokestatic 35, 3, (0, 0, 503), .int 2), (92, .invokestatic 41, 3, (14, 1, 506), .int 0), (95, .istore 8, 2, (8, 0, 0), .null), (97, .aload_n 0, 1, (0, 0, 0), .null), (98, .iload_n 3, 1, (3, 0, 0), .null), (99, .iload 4, 2, (4, 0, 0), .null), (101, .iload 8, 2, (8, 0, 0), .null), (103, .invokevirtual 44, 3, (23, 3, 510), .int 0), (106, .aload_n 0, 1, (0, 0, 0), .null), (107, .iload_n 3, 1, (3, 0, 0), .null), (108, .iload 4, 2, (4, 0, 0), .null), (110, .iload 8, 2, (8, 0, 0), .null), (112, .iload 7, 2, (7, 0, 0), .null), (114, .iload 6, 2, (6, 0, 0), .null), (116, .invokestatic 35, 3, (0, 0, 503), .int 2), (119, .invokestatic 41, 3, (14, 1, 506), .int 0), (122, .invokevirtual 48, 3, (17, 4, 527), .int 0), (125, .aload_n 0, 1, (0, 0, 0), .null), (126, .iload_n 3, 1, (3, 0, 0), .null), (127, .iload 4, 2, (4, 0, 0), .null), (129, .invokevirtual 52, 3, (18, 2, 538), .int 0), (132, .iinc 3 1, 3, (3, 0, 0), .int (1)), (135, .goto (-125), 3, (10, 0, 0), .null), (138, .return_, 1, (0, 0, 0), .null)]
/-- Glyphmill$Lines.arePossible -/
def gC_26 : List (Nat × gR) := [(0, .aload_n 0, 1, (0, 0, 0), .null), (1, .getfield 33, 3, (3, 7, 251), .null), (4, .iconst (-1), 1, (0, 0, 0), .int (-1)), (5, .if_icmp .ne 7, 3, (12, 0, 0), .null), (8, .iconst 1, 1, (0, 0, 0), .int (1)), (9, .goto 4, 3, (13, 0, 0), .null), (12, .iconst 0, 1, (0, 0, 0), .int (0)), (13, .ireturn, 1, (0, 0, 0), .null)]
/-- Glyphmill$Lines.bestBeginning -/
def gC_27 : List (Nat × gR) := [(0, .iconst (-1), 1, (0, 0, 0), .int (-1)), (1, .istore_n 1, 1, (1, 0, 0), .null), (2, .iconst 0, 1, (0, 0, 0), .int (0)), (3, .istore_n 2, 1, (2, 0, 0), .null), (4, .iload_n 2, 1, (2, 0, 0), .null), (5, .aload_n 0, 1, (0, 0, 0), .null), (6, .getfield 49, 3, (3, 0, 242), .null), (9, .getfield 63, 3, (4, 3, 221), .null), (12, .if_icmp .ge 54, 3, (66, 0, 0), .null), (15, .aload_n 0, 1, (0, 0, 0), .null), (16, .getfield 22, 3, (3, 4, 246), .null), (19, .iload_n 2, 1, (2, 0, 0), .null), (20, .baload, 1, (0, 0, 0), .null), (21, .ifCond .ne 39, 3, (60, 0, 0), .null), (24, .aload_n 0, 1, (0, 0, 0), .null), (25, .getfield 9, 3, (3, 1, 243), .null), (28, .iload_n 2, 1, (2, 0, 0), .null), (29, .laload, 1, (0, 0, 0), .null), (30, .ldc2_w 119, 3, (0, 0, 628), .long (-1)), (33, .lcmp, 1, (0, 0, 0), .null), (34, .ifCond .eq 26, 3, (60, 0, 0), .null), (37, .iload_n 1, 1, (1, 0, 0), .null), (38, .iconst (-1), 1, (0, 0, 0), .int (-1)), (39, .if_icmp .eq 19, 3, (58, 0, 0), .null), (42, .aload_n 0, 1, (0, 0, 0), .null), (43, .getfield 9, 3, (3, 1, 243), .null), (46, .iload_n 2, 1, (2, 0, 0), .null), (47, .laload, 1, (0, 0, 0), .null), (48, .aload_n 0, 1, (0, 0, 0), .null), (49, .getfield 9, 3, (3, 1, 243), .null), (52, .iload_n 1, 1, (1, 0, 0), .null), (53, .laload, 1, (0, 0, 0), .null), (54, .lcmp, 1, (0, 0, 0), .null), (55, .ifCond .ge 5, 3, (60, 0, 0), .null), (58, .iload_n 2, 1, (2, 0, 0), .null), (59, .istore_n 1, 1, (1, 0, 0), .null), (60, .iinc 2 1, 3, (2, 0, 0), .int (1)), (63, .goto (-59), 3, (4, 0, 0), .null), (66, .iload_n 1, 1, (1, 0, 0), .null), (67, .ireturn, 1, (0, 0, 0), .null)]
/-- Glyphmill$Parts.naturalWidth -/
def gC_28 : List (Nat × gR) := [(0, .iload_n 2, 1, (2, 0, 0), .null), (1, .ifCond .le 37, 3, (38, 0, 0), .null), (4, .aload_n 0, 1, (0, 0, 0), .null), (5, .getfield 26, 3, (4, 0, 214), .null), (8, .getfield 43, 3, (1, 8, 179), .null), (11, .aload_n 0, 1, (0, 0, 0), .null), (12, .getfield 15, 3, (4, 2, 218), .null), (15, .iload_n 2, 1, (2, 0, 0), .null), (16, .iconst 1, 1, (0, 0, 0), .int (1)), (17, .isub, 1, (0, 0, 0), .null), (18, .iaload, 1, (0, 0, 0), .null), (19, .iaload, 1, (0, 0, 0), .null), (20, .aload_n 0, 1, (0, 0, 0), .null), (21, .getfield 26, 3, (4, 0, 214), .null), (24, .getfield 43, 3, (1, 8, 179), .null), (27, .aload_n 0, 1, (0, 0, 0), .null), (28, .getfield 9, 3, (4, 1, 215), .null), (31, .iload_n 1, 1, (1, 0, 0), .null), (32, .iaload, 1, (0, 0, 0), .null), (33, .iaload, 1, (0, 0, 0), .null), (34, .isub, 1, (0, 0, 0), .null), (35, .goto 4, 3, (39, 0, 0), .null), (38, .iconst 0, 1, (0, 0, 0), .int (0)), (39, .ireturn, 1, (0, 0, 0), .null)]
/-- Glyphmill$Lines.difference -/
def gC_29 : List (Nat × gR) := [(0, .aload_n 0, 1, (0, 0, 0), .null), (1, .getfield 29, 3, (3, 6, 250), .null), (4, .aload_n 0, 1, (0, 0, 0), .null), (5, .getfield 49, 3, (3, 0, 242), .null), (8, .iload_n 1, 1, (1, 0, 0), .null), (9, .iload_n 2, 1, (2, 0, 0), .null), (10, .invokevirtual 68, 3, (28, 2, 612), .int 0), (13, .isub, 1, (0, 0, 0), .null), (14, .ireturn, 1, (0, 0, 0), .null)]
/-- Glyphmill$Parts.keptSpaces -/
def gC_30 : List (Nat × gR) := [(0, .iload_n 2, 1, (2, 0, 0), .null), (1, .ifCond .le 37, 3, (38, 0, 0), .null), (4, .aload_n 0, 1, (0, 0, 0), .null), (5, .getfield 26, 3, (4, 0, 214), .null), (8, .getfield 46, 3, (1, 9, 181), .null), (11, .aload_n 0, 1, (0, 0, 0), .null), (12, .getfield 15, 3, (4, 2, 218), .null), (15, .iload_n 2, 1, (2, 0, 0), .null), (16, .iconst 1, 1, (0, 0, 0), .int (1)), (17, .isub, 1, (0, 0, 0), .null), (18, .iaload, 1, (0, 0, 0), .null), (19, .iaload, 1, (0, 0, 0), .null), (20, .aload_n 0, 1, (0, 0, 0), .null), (21, .getfield 26, 3, (4, 0, 214), .null), (24, .getfield 46, 3, (1, 9, 181), .null), (27, .aload_n 0, 1, (0, 0, 0), .null), (28, .getfield 9, 3, (4, 1, 215), .null), (31, .iload_n 1, 1, (1, 0, 0), .null), (32, .iaload, 1, (0, 0, 0), .null), (33, .iaload, 1, (0, 0, 0), .null), (34, .isub, 1, (0, 0, 0), .null), (35, .goto 4, 3, (39, 0, 0), .null), (38, .iconst 0, 1, (0, 0, 0), .int (0)), (39, .ireturn, 1, (0, 0, 0), .null)]
/-- Glyphmill$Lines.badness -/
def gC_31 : List (Nat × gR) := [(0, .aload_n 0, 1, (0, 0, 0), .null), (1, .iload_n 1, 1, (1, 0, 0), .null), (2, .iload_n 2, 1, (2, 0, 0), .null), (3, .invokevirtual 72, 3, (29, 2, 608), .int 0), (6, .istore_n 3, 1, (3, 0, 0), .null), (7, .aload_n 0, 1, (0, 0, 0), .null), (8, .getfield 49, 3, (3, 0, 242), .null), (11, .iload_n 1, 1, (1, 0, 0), .null), (12, .iload_n 2, 1, (2, 0, 0), .null), (13, .invokevirtual 75, 3, (30, 2, 616), .int 0), (16, .istore 4, 2, (4, 0, 0), .null), (18, .iload_n 3, 1, (3, 0, 0), .null), (19, .ifCond .eq 18, 3, (37, 0, 0), .null), (22, .iload_n 3, 1, (3, 0, 0), .null), (23, .ifCond .le 16, 3, (39, 0, 0), .null), (26, .iload_n 2, 1, (2, 0, 0), .null), (27, .aload_n 0, 1, (0, 0, 0), .null), (28, .getfield 49, 3, (3, 0, 242), .null), (31, .getfield 63, 3, (4, 3, 221), .null), (34, .if_icmp .ne 5, 3, (39, 0, 0), .null), (37, .iconst 0, 1, (0, 0, 0), .int (0)), (38, .ireturn, 1, (0, 0, 0), .null), (39, .iload 4, 2, (4, 0, 0), .null), (41, .ifCond .gt 7, 3, (48, 0, 0), .null), (44, .sipush 10000, 3, (0, 0, 0), .int (10000)), (47, .ireturn, 1, (0, 0, 0), .null), (48, .iload_n 3, 1, (3, 0, 0), .null), (49, .ifCond .le 13, 3, (62, 0, 0), .null), (52, .ldc2_w 78, 3, (0, 0, 653), .long (2)), (55, .iload 4, 2, (4, 0, 0), .null), (57, .i2l, 1, (0, 0, 0), .null), (58, .lmul, 1, (0, 0, 0), .null), (59, .goto 6, 3, (65, 0, 0), .null), (62, .iload 4, 2, (4, 0, 0), .null), (64, .i2l, 1, (0, 0, 0), .null), (65, .lstore 5, 2, (5, 0, 0), .null), (67, .ldc2_w 80, 3, (0, 0, 654), .long (100)), (70, .iload_n 3, 1, (3, 0, 0), .null), (71, .i2l, 1, (0, 0, 0), .null), (72, .lmul, 1, (0, 0, 0), .null), (73, .iload_n 3, 1, (3, 0, 0), .null), (74, .i2l, 1, (0, 0, 0), .null), (75, .lmul, 1, (0, 0, 0), .null), (76, .iload_n 3, 1, (3, 0, 0), .null), (77, .invokestatic 82, 3, (0, 0, 655), .int 4), (80, .i2l, 1, (0, 0, 0), .null), (81, .lmul, 1, (0, 0, 0), .null), (82, .lload 5, 2, (5, 0, 0), .null), (84, .lload 5, 2, (5, 0, 0), .null), (86, .lmul, 1, (0, 0, 0), .null), (87, .lload 5, 2, (5, 0, 0), .null), (89, .lmul, 1, (0, 0, 0), .null), (90, .ldiv, 1, (0, 0, 0), .null), (91, .lstore 7, 2, (7, 0, 0), .null), (93, .lload 7, 2, (7, 0, 0), .null), (95, .ldc2_w 88, 3, (0, 0, 658), .long (10000)), (98, .invokestatic 90, 3, (0, 0, 659), .int 5), (101, .l2i, 1, (0, 0, 0), .null), (102, .ireturn, 1, (0, 0, 0), .null)]
/-- Glyphmill$Glyphs.isHyphen -/
def gC_32 : List (Nat × gR) := [(0, .aload_n 0, 1, (0, 0, 0), .null), (1, .getfield 15, 3, (1, 4, 170), .null), (4, .iload_n 1, 1, (1, 0, 0), .null), (5, .iaload, 1, (0, 0, 0), .null), (6, .bipush 45, 2, (0, 0, 0), .int (45)), (8, .if_icmp .ne 7, 3, (15, 0, 0), .null), (11, .iconst 1, 1, (0, 0, 0), .int (1)), (12, .goto 4, 3, (16, 0, 0), .null), (15, .iconst 0, 1, (0, 0, 0), .int (0)), (16, .ireturn, 1, (0, 0, 0), .null)]
/-- Glyphmill$Parts.isHyphenAhead -/
def gC_33 : List (Nat × gR) := [(0, .aload_n 0, 1, (0, 0, 0), .null), (1, .getfield 9, 3, (4, 1, 215), .null), (4, .iload_n 1, 1, (1, 0, 0), .null), (5, .iaload, 1, (0, 0, 0), .null), (6, .ifCond .le 25, 3, (31, 0, 0), .null), (9, .aload_n 0, 1, (0, 0, 0), .null), (10, .getfield 26, 3, (4, 0, 214), .null), (13, .aload_n 0, 1, (0, 0, 0), .null), (14, .getfield 9, 3, (4, 1, 215), .null), (17, .iload_n 1, 1, (1, 0, 0), .null), (18, .iaload, 1, (0, 0, 0), .null), (19, .iconst 1, 1, (0, 0, 0), .int (1)), (20, .isub, 1, (0, 0, 0), .null), (21, .invokevirtual 40, 3, (32, 1, 592), .int 0), (24, .ifCond .eq 7, 3, (31, 0, 0), .null), (27, .iconst 1, 1, (0, 0, 0), .int (1)), (28, .goto 4, 3, (32, 0, 0), .null), (31, .iconst 0, 1, (0, 0, 0), .int (0)), (32, .ireturn, 1, (0, 0, 0), .null)]
/-- Glyphmill$Lines.demeritsOf -/
def gC_34 : List (Nat × gR) := [(0, .lconst 1, 1, (0, 0, 0), .long 1), (1, .aload_n 0, 1, (0, 0, 0), .null), (2, .iload_n 1, 1, (1, 0, 0), .null), (3, .iload_n 2, 1, (2, 0, 0), .null), (4, .invokevirtual 94, 3, (31, 2, 649), .int 0), (7, .i2l, 1, (0, 0, 0), .null), (8, .ladd, 1, (0, 0, 0), .null), (9, .lstore_n 3, 1, (3, 0, 0), .null), (10, .lload_n 3, 1, (3, 0, 0), .null), (11, .lload_n 3, 1, (3, 0, 0), .null), (12, .lmul, 1, (0, 0, 0), .null), (13, .lstore 5, 2, (5, 0, 0), .null), (15, .iload_n 2, 1, (2, 0, 0), .null), (16, .aload_n 0, 1, (0, 0, 0), .null), (17, .getfield 49, 3, (3, 0, 242), .null), (20, .getfield 63, 3, (4, 3, 221), .null), (23, .if_icmp .ge 39, 3, (62, 0, 0), .null), (26, .aload_n 0, 1, (0, 0, 0), .null), (27, .getfield 49, 3, (3, 0, 242), .null), (30, .iload_n 2, 1, (2, 0, 0), .null), (31, .invokevirtual 97, 3, (33, 1, 662), .int 0), (34, .ifCond .eq 28, 3, (62, 0, 0), .null), (37, .lload 5, 2, (5, 0, 0), .null), (39, .aload_n 0, 1, (0, 0, 0), .null), (40, .getfield 49, 3, (3, 0, 242), .null), (43, .iload_n 1, 1, (1, 0, 0), .null), (44, .invokevirtual 97, 3, (33, 1, 662), .int 0), (47, .ifCond .eq 9, 3, (56, 0, 0), .null), (50, .ldc2_w 101, 3, (0, 0, 666), .long (5500)), (53, .goto 6, 3, (59, 0, 0), .null), (56, .ldc2_w 103, 3, (0, 0, 667), .long (2500)), (59, .ladd, 1, (0, 0, 0), .null), (60, .lstore 5, 2, (5, 0, 0), .null), (62, .lload 5, 2, (5, 0, 0), .null), (64, .lreturn, 1, (0, 0, 0), .null)]
/-- Glyphmill$Lines.differsEarlier -/
def gC_35 : List (Nat × gR) := [(0, .iconst 0, 1, (0, 0, 0), .int (0)), (1, .istore_n 3, 1, (3, 0, 0), .null), (2, .iload_n 1, 1, (1, 0, 0), .null), (3, .istore 4, 2, (4, 0, 0), .null), (5, .iload_n 2, 1, (2, 0, 0), .null), (6, .istore 5, 2, (5, 0, 0), .null), (8, .iconst 0, 1, (0, 0, 0), .int (0)), (9, .istore 6, 2, (6, 0, 0), .null), (11, .iload 6, 2, (6, 0, 0), .null), (13, .bipush 50, 2, (0, 0, 0), .int (50)), (15, .if_icmp .ge 47, 3, (62, 0, 0), .null), (18, .iload 4, 2, (4, 0, 0), .null), (20, .iload 5, 2, (5, 0, 0), .null), (22, .if_icmp .eq 40, 3, (62, 0, 0), .null), (25, .iload 4, 2, (4, 0, 0), .null), (27, .iload 5, 2, (5, 0, 0), .null), (29, .if_icmp .ge 7, 3, (36, 0, 0), .null), (32, .iconst 1, 1, (0, 0, 0), .int (1)), (33, .goto 4, 3, (37, 0, 0), .null), (36, .iconst 0, 1, (0, 0, 0), .int (0)), (37, .istore_n 3, 1, (3, 0, 0), .null), (38, .aload_n 0, 1, (0, 0, 0), .null), (39, .getfield 19, 3, (3, 3, 245), .null), (42, .iload 4, 2, (4, 0, 0), .null), (44, .iaload, 1, (0, 0, 0), .null), (45, .istore 4, 2, (4, 0, 0), .null), (47, .aload_n 0, 1, (0, 0, 0), .null), (48, .getfield 19, 3, (3, 3, 245), .null), (51, .iload 5, 2, (5, 0, 0), .null), (53, .iaload, 1, (0, 0, 0), .null), (54, .istore 5, 2, (5, 0, 0), .null), (56, .iinc 6 1, 3, (6, 0, 0), .int (1)), (59, .goto (-48), 3, (11, 0, 0), .null), (62, .iload_n 3, 1, (3, 0, 0), .null), (63, .ireturn, 1, (0, 0, 0), .null)]
/-- Glyphmill$Lines.isBetter -/
def gC_36 : List (Nat × gR) := [(0, .aload_n 0, 1, (0, 0, 0), .null), (1, .getfield 9, 3, (3, 1, 243), .null), (4, .iload_n 2, 1, (2, 0, 0), .null), (5, .laload, 1, (0, 0, 0), .null), (6, .ldc2_w 119, 3, (0, 0, 628), .long (-1)), (9, .lcmp, 1, (0, 0, 0), .null), (10, .ifCond .eq 14, 3, (24, 0, 0), .null), (13, .lload_n 3, 1, (3, 0, 0), .null), (14, .aload_n 0, 1, (0, 0, 0), .null), (15, .getfield 9, 3, (3, 1, 243), .null), (18, .iload_n 2, 1, (2, 0, 0), .null), (19, .laload, 1, (0, 0, 0), .null), (20, .lcmp, 1, (0, 0, 0), .null), (21, .ifCond .eq 33, 3, (54, 0, 0), .null), (24, .aload_n 0, 1, (0, 0, 0), .null), (25, .getfield 9, 3, (3, 1, 243), .null), (28, .iload_n 2, 1, (2, 0, 0), .null), (29, .laload, 1, (0, 0, 0), .null), (30, .ldc2_w 119, 3, (0, 0, 628), .long (-1)), (33, .lcmp, 1, (0, 0, 0), .null), (34, .ifCond .eq 14, 3, (48, 0, 0), .null), (37, .lload_n 3, 1, (3, 0, 0), .null), (38, .aload_n 0, 1, (0, 0, 0), .null), (39, .getfield 9, 3, (3, 1, 243), .null), (42, .iload_n 2, 1, (2, 0, 0), .null), (43, .laload, 1, (0, 0, 0), .null), (44, .lcmp, 1, (0, 0, 0), .null), (45, .ifCond .ge 7, 3, (52, 0, 0), .null), (48, .iconst 1, 1, (0, 0, 0), .int (1)), (49, .goto 4, 3, (53, 0, 0), .null), (52, .iconst 0, 1, (0, 0, 0), .int (0)), (53, .ireturn, 1, (0, 0, 0), .null), (54, .aload_n 0, 1, (0, 0, 0), .null), (55, .getfield 15, 3, (3, 2, 244), .null), (58, .iload_n 1, 1, (1, 0, 0), .null), (59, .iaload, 1, (0, 0, 0), .null), (60, .iconst 1, 1, (0, 0, 0), .int (1)), (61, .iadd, 1, (0, 0, 0), .null), (62, .aload_n 0, 1, (0, 0, 0), .null), (63, .getfield 15, 3, (3, 2, 244), .null), (66, .iload_n 2, 1, (2, 0, 0), .null), (67, .iaload, 1, (0, 0, 0), .null), (68, .if_icmp .eq 26, 3, (94, 0, 0), .null), (71, .aload_n 0, 1, (0, 0, 0), .null), (72, .getfield 15, 3, (3, 2, 244), .null), (75, .iload_n 1, 1, (1, 0, 0), .null), (76, .iaload, 1, (0, 0, 0), .null), (77, .iconst 1, 1, (0, 0, 0), .int (1)), (78, .iadd, 1, (0, 0, 0), .null), (79, .aload_n 0, 1, (0, 0, 0), .null), (80, .getfield 15, 3, (3, 2, 244), .null), (83, .iload_n 2, 1, (2, 0, 0), .null), (84, .iaload, 1, (0, 0, 0), .null), (85, .if_icmp .ge 7, 3, (92, 0, 0), .null), (88, .iconst 1, 1, (0, 0, 0), .int (1)), (89, .goto 4, 3, (93, 0, 0), .null), (92, .iconst 0, 1, (0, 0, 0), .int (0)), (93, .ireturn, 1, (0, 0, 0), .null), (94, .aload_n 0, 1, (0, 0, 0), .null), (95, .iload_n 1, 1, (1, 0, 0), .null), (96, .aload_n 0, 1, (0, 0, 0), .null), (97, .getfield 19, 3, (3, 3, 245), .null), (100, .iload_n 2, 1, (2, 0, 0), .null), (101, .iaload, 1, (0, 0, 0), .null), (102, .invokevirtual 141, 3, (35, 2, 672), .int 0), (105, .ireturn, 1, (0, 0, 0), .null)]
/-- Glyphmill$Lines.isPossible -/
def gC_37 : List (Nat × gR) := [(0, .aload_n 0, 1, (0, 0, 0), .null), (1, .iload_n 1, 1, (1, 0, 0), .null), (2, .iload_n 2, 1, (2, 0, 0), .null), (3, .invokevirtual 72, 3, (29, 2, 608), .int 0), (6, .aload_n 0, 1, (0, 0, 0), .null), (7, .getfield 49, 3, (3, 0, 242), .null), (10, .iload_n 1, 1, (1, 0, 0), .null), (11, .iload_n 2, 1, (2, 0, 0), .null), (12, .invokevirtual 75, 3, (30, 2, 616), .int 0), (15, .ineg, 1, (0, 0, 0), .null), (16, .if_icmp .lt 7, 3, (23, 0, 0), .null), (19, .iconst 1, 1, (0, 0, 0), .int (1)), (20, .goto 4, 3, (24, 0, 0), .null), (23, .iconst 0, 1, (0, 0, 0), .int (0)), (24, .ireturn, 1, (0, 0, 0), .null)]
/-- Glyphmill$Lines.extend -/
def gC_38 : List (Nat × gR) := [(0, .iload_n 1, 1, (1, 0, 0), .null), (1, .iconst 1, 1, (0, 0, 0), .int (1)), (2, .iadd, 1, (0, 0, 0), .null), (3, .istore_n 2, 1, (2, 0, 0), .null), (4, .iload_n 2, 1, (2, 0, 0), .null), (5, .aload_n 0, 1, (0, 0, 0), .null), (6, .getfield 49, 3, (3, 0, 242), .null), (9, .getfield 63, 3, (4, 3, 221), .null), (12, .if_icmp .gt 70, 3, (82, 0, 0), .null), (15, .aload_n 0, 1, (0, 0, 0), .null), (16, .iload_n 1, 1, (1, 0, 0), .null), (17, .iload_n 2, 1, (2, 0, 0), .null), (18, .invokevirtual 64, 3, (37, 2, 604), .int 0), (21, .ifCond .eq 55, 3, (76, 0, 0), .null), (24, .aload_n 0, 1, (0, 0, 0), .null), (25, .getfield 9, 3, (3, 1, 243), .null), (28, .iload_n 1, 1, (1, 0, 0), .null), (29, .laload, 1, (0, 0, 0), .null), (30, .aload_n 0, 1, (0, 0, 0), .null), (31, .iload_n 1, 1, (1, 0, 0), .null), (32, .iload_n 2, 1, (2, 0, 0), .null), (33, .invokevirtual 133, 3, (34, 2, 645), .int 0), (36, .ladd, 1, (0, 0, 0), .null), (37, .lstore_n 3, 1, (3, 0, 0), .null), (38, .aload_n 0, 1, (0, 0, 0), .null), (39, .iload_n 1, 1, (1, 0, 0), .null), (40, .iload_n 2, 1, (2, 0, 0), .null), (41, .lload_n 3, 1, (3, 0, 0), .null), (42, .invokevirtual 137, 3, (36, 3, 668), .int 0), (45, .ifCond .eq 31, 3, (76, 0, 0), .null), (48, .aload_n 0, 1, (0, 0, 0), .null), (49, .getfield 9, 3, (3, 1, 243), .null), (52, .iload_n 2, 1, (2, 0, 0), .null), (53, .lload_n 3, 1, (3, 0, 0), .null), (54, .lastore, 1, (0, 0, 0), .null), (55, .aload_n 0, 1, (0, 0, 0), .null), (56, .getfield 15, 3, (3, 2, 244), .null), (59, .iload_n 2, 1, (2, 0, 0), .null), (60, .aload_n 0, 1, (0, 0, 0), .null), (61, .getfield 15, 3, (3, 2, 244), .null), (64, .iload_n 1, 1, (1, 0, 0), .null), (65, .iaload, 1, (0, 0, 0), .null), (66, .iconst 1, 1, (0, 0, 0), .int (1)), (67, .iadd, 1, (0, 0, 0), .null), (68, .iastore, 1, (0, 0, 0), .null), (69, .aload_n 0, 1, (0, 0, 0), .null), (70, .getfield 19, 3, (3, 3, 245), .null), (73, .iload_n 2, 1, (2, 0, 0), .null), (74, .iload_n 1, 1, (1, 0, 0), .null), (75, .iastore, 1, (0, 0, 0), .null), (76, .iinc 2 1, 3, (2, 0, 0), .int (1)), (79, .goto (-75), 3, (4, 0, 0), .null), (82, .return_, 1, (0, 0, 0), .null)]
/-- java/util/Arrays.fill -/
def gC_39 : List (Nat × gR) := [(0, .iconst 0, 1, (0, 0, 0), .int (0)), (1, .istore_n 3, 1, (3, 0, 0), .null), (2, .aload_n 0, 1, (0, 0, 0), .null), (3, .arraylength, 1, (0, 0, 0), .null), (4, .istore 4, 2, (4, 0, 0), .null), (6, .iload_n 3, 1, (3, 0, 0), .null), (7, .iload 4, 2, (4, 0, 0), .null), (9, .if_icmp .ge 13, 3, (22, 0, 0), .null), (12, .aload_n 0, 1, (0, 0, 0), .null), (13, .iload_n 3, 1, (3, 0, 0), .null), (14, .lload_n 1, 1, (1, 0, 0), .null), (15, .lastore, 1, (0, 0, 0), .null), (16, .iinc 3 1, 3, (3, 0, 0), .int (1)), (19, .goto (-13), 3, (6, 0, 0), .null), (22, .return_, 1, (0, 0, 0), .null)]
/-- Glyphmill$Lines.forgetBeginnings -/
def gC_40 : List (Nat × gR) := [(0, .aload_n 0, 1, (0, 0, 0), .null), (1, .getfield 9, 3, (3, 1, 243), .null), (4, .ldc2_w 119, 3, (0, 0, 628), .long (-1)), (7, .invokestatic 124, 3, (39, 2, 629), .int 0), (10, .aload_n 0, 1, (0, 0, 0), .null), (11, .getfield 15, 3, (3, 2, 244), .null), (14, .iconst 0, 1, (0, 0, 0), .int (0)), (15, .invokestatic 130, 3, (0, 2, 632), .int 0), (18, .aload_n 0, 1, (0, 0, 0), .null), (19, .getfield 19, 3, (3, 3, 245), .null), (22, .iconst 0, 1, (0, 0, 0), .int (0)), (23, .invokestatic 130, 3, (0, 2, 632), .int 0), (26, .iconst 0, 1, (0, 0, 0), .int (0)), (27, .istore_n 1, 1, (1, 0, 0), .null), (28, .iload_n 1, 1, (1, 0, 0), .null), (29, .aload_n 0, 1, (0, 0, 0), .null), (30, .getfield 49, 3, (3, 0, 242), .null), (33, .getfield 63, 3, (4, 3, 221), .null), (36, .if_icmp .gt 16, 3, (52, 0, 0), .null), (39, .aload_n 0, 1, (0, 0, 0), .null), (40, .getfield 22, 3, (3, 4, 246), .null), (43, .iload_n 1, 1, (1, 0, 0), .null), (44, .iconst 0, 1, (0, 0, 0), .int (0)), (45, .bastore, 1, (0, 0, 0), .null), (46, .iinc 1 1, 3, (1, 0, 0), .int (1)), (49, .goto (-21), 3, (28, 0, 0), .null), (52, .aload_n 0, 1, (0, 0, 0), .null), (53, .getfield 9, 3, (3, 1, 243), .null), (56, .iconst 0, 1, (0, 0, 0), .int (0)), (57, .lconst 0, 1, (0, 0, 0), .long 0), (58, .lastore, 1, (0, 0, 0), .null), (59, .return_, 1, (0, 0, 0), .null)]
/-- Glyphmill$Lines.traceBack -/
def gC_41 : List (Nat × gR) := [(0, .aload_n 0, 1, (0, 0, 0), .null), (1, .getfield 49, 3, (3, 0, 242), .null), (4, .getfield 63, 3, (4, 3, 221), .null), (7, .istore_n 1, 1, (1, 0, 0), .null), (8, .aload_n 0, 1, (0, 0, 0), .null), (9, .getfield 36, 3, (3, 8, 253), .null), (12, .istore_n 2, 1, (2, 0, 0), .null), (13, .iload_n 2, 1, (2, 0, 0), .null), (14, .ifCond .lt 23, 3, (37, 0, 0), .null), (17, .aload_n 0, 1, (0, 0, 0), .null), (18, .getfield 26, 3, (3, 5, 247), .null), (21, .iload_n 2, 1, (2, 0, 0), .null), (22, .iload_n 1, 1, (1, 0, 0), .null), (23, .iastore, 1, (0, 0, 0), .null), (24, .aload_n 0, 1, (0, 0, 0), .null), (25, .getfield 19, 3, (3, 3, 245), .null), (28, .iload_n 1, 1, (1, 0, 0), .null), (29, .iaload, 1, (0, 0, 0), .null), (30, .istore_n 1, 1, (1, 0, 0), .null), (31, .iinc 2 (-1), 3, (2, 0, 0), .int (-1)), (34, .goto (-21), 3, (13, 0, 0), .null), (37, .return_, 1, (0, 0, 0), .null)]
/-- Glyphmill$Lines.find -/
def gC_42 : List (Nat × gR) := [(0, .aload_n 0, 1, (0, 0, 0), .null), (1, .invokevirtual 105, 3, (40, 0, 624), .int 0), (4, .iconst 0, 1, (0, 0, 0), .int (0)), (5, .istore_n 1, 1, (1, 0, 0), .null), (6, .iload_n 1, 1, (1, 0, 0), .null), (7, .aload_n 0, 1, (0, 0, 0), .null), (8, .getfield 49, 3, (3, 0, 242), .null), (11, .getfield 63, 3, (4, 3, 221), .null), (14, .if_icmp .ge 48, 3, (62, 0, 0), .null), (17, .aload_n 0, 1, (0, 0, 0), .null), (18, .invokevirtual 108, 3, (26, 0, 633), .int 0), (21, .ifCond .eq 41, 3, (62, 0, 0), .null), (24, .aload_n 0, 1, (0, 0, 0), .null), (25, .getfield 49, 3, (3, 0, 242), .null), (28, .getfield 53, 3, (4, 4, 224), .null), (31, .ifCond .ne 31, 3, (62, 0, 0), .null), (34, .aload_n 0, 1, (0, 0, 0), .null), (35, .invokevirtual 112, 3, (27, 0, 637), .int 0), (38, .istore_n 2, 1, (2, 0, 0), .null), (39, .iload_n 2, 1, (2, 0, 0), .null), (40, .iconst (-1), 1, (0, 0, 0), .int (-1)), (41, .if_icmp .eq 15, 3, (56, 0, 0), .null), (44, .aload_n 0, 1, (0, 0, 0), .null), (45, .getfield 22, 3, (3, 4, 246), .null), (48, .iload_n 2, 1, (2, 0, 0), .null), (49, .iconst 1, 1, (0, 0, 0), .int (1)), (50, .bastore, 1, (0, 0, 0), .null), (51, .aload_n 0, 1, (0, 0, 0), .null), (52, .iload_n 2, 1, (2, 0, 0), .null), (53, .invokevirtual 115, 3, (38, 1, 641), .int 0), (56, .iinc 1 1, 3, (1, 0, 0), .int (1)), (59, .goto (-53), 3, (6, 0, 0), .null), (62, .aload_n 0, 1, (0, 0, 0), .null), (63, .aload_n 0, 1, (0, 0, 0), .null), (64, .getfield 15, 3, (3, 2, 244), .null), (67, .aload_n 0, 1, (0, 0, 0), .null), (68, .getfield 49, 3, (3, 0, 242), .null), (71, .getfield 63, 3, (4, 3, 221), .null), (74, .iaload, 1, (0, 0, 0), .null), (75, .putfield 36, 3, (3, 8, 253), .null), (78, .aload_n 0, 1, (0, 0, 0), .null), (79, .aload_n 0, 1, (0, 0, 0), .null), (80, .getfield 9, 3, (3, 1, 243), .null), (83, .aload_n 0, 1, (0, 0, 0), .null), (84, .getfield 49, 3, (3, 0, 242), .null), (87, .getfield 63, 3, (4, 3, 221), .null), (90, .laload, 1, (0, 0, 0), .null), (91, .ldc2_w 119, 3, (0, 0, 628), .long (-1)), (94, .lcmp, 1, (0, 0, 0), .null), (95, .ifCond .ne 7, 3, (102, 0, 0), .null), (98, .lconst 0, 1, (0, 0, 0), .long 0), (99, .goto 15, 3, (114, 0, 0), .null), (102, .aload_n 0, 1, (0, 0, 0), .null), (103, .getfield 9, 3, (3, 1, 243), .null), (106, .aload_n 0, 1, (0, 0, 0), .null), (107, .getfield 49, 3, (3, 0, 242), .null), (110, .getfield 63, 3, (4, 3, 221), .null), (113, .laload, 1, (0, 0, 0), .null), (114, .putfield 39, 3, (3, 9, 256), .null), (117, .aload_n 0, 1, (0, 0, 0), .null), (118, .invokevirtual 121, 3, (41, 0, 676), .int 0), (121, .return_, 1, (0, 0, 0), .null)]
/-- Glyphmill$Lines.firstTooWide -/
def gC_43 : List (Nat × gR) := [(0, .iconst 0, 1, (0, 0, 0), .int (0)), (1, .istore_n 1, 1, (1, 0, 0), .null), (2, .iload_n 1, 1, (1, 0, 0), .null), (3, .aload_n 0, 1, (0, 0, 0), .null), (4, .getfield 49, 3, (3, 0, 242), .null), (7, .getfield 63, 3, (4, 3, 221), .null), (10, .if_icmp .ge 22, 3, (32, 0, 0), .null), (13, .aload_n 0, 1, (0, 0, 0), .null), (14, .iload_n 1, 1, (1, 0, 0), .null), (15, .iload_n 1, 1, (1, 0, 0), .null), (16, .iconst 1, 1, (0, 0, 0), .int (1)), (17, .iadd, 1, (0, 0, 0), .null), (18, .invokevirtual 64, 3, (37, 2, 604), .int 0), (21, .ifCond .ne 5, 3, (26, 0, 0), .null), (24, .iload_n 1, 1, (1, 0, 0), .null), (25, .ireturn, 1, (0, 0, 0), .null), (26, .iinc 1 1, 3, (1, 0, 0), .int (1)), (29, .goto (-27), 3, (2, 0, 0), .null), (32, .iconst (-1), 1, (0, 0, 0), .int (-1)), (33, .ireturn, 1, (0, 0, 0), .null)]
/-- Glyphmill$Lines.fit -/
def gC_44 : List (Nat × gR) := [(0, .aload_n 0, 1, (0, 0, 0), .null), (1, .iload_n 1, 1, (1, 0, 0), .null), (2, .putfield 29, 3, (3, 6, 250), .null), (5, .aload_n 0, 1, (0, 0, 0), .null), (6, .aload_n 0, 1, (0, 0, 0), .null), (7, .getfield 49, 3, (3, 0, 242), .null), (10, .getfield 53, 3, (4, 4, 224), .null), (13, .ifCond .eq 7, 3, (20, 0, 0), .null), (16, .iconst (-1), 1, (0, 0, 0), .int (-1)), (17, .goto 7, 3, (24, 0, 0), .null), (20, .aload_n 0, 1, (0, 0, 0), .null), (21, .invokevirtual 59, 3, (43, 0, 600), .int 0), (24, .putfield 33, 3, (3, 7, 251), .null), (27, .return_, 1, (0, 0, 0), .null)]
/-- Glyphmill$Parts.isBreakAhead -/
def gC_45 : List (Nat × gR) := [(0, .iload_n 1, 1, (1, 0, 0), .null), (1, .ifCond .le 44, 3, (45, 0, 0), .null), (4, .aload_n 0, 1, (0, 0, 0), .null), (5, .getfield 26, 3, (4, 0, 214), .null), (8, .iload_n 1, 1, (1, 0, 0), .null), (9, .invokevirtual 37, 3, (10, 1, 591), .int 0), (12, .ifCond .ne 33, 3, (45, 0, 0), .null), (15, .aload_n 0, 1, (0, 0, 0), .null), (16, .getfield 26, 3, (4, 0, 214), .null), (19, .iload_n 1, 1, (1, 0, 0), .null), (20, .iconst 1, 1, (0, 0, 0), .int (1)), (21, .isub, 1, (0, 0, 0), .null), (22, .invokevirtual 37, 3, (10, 1, 591), .int 0), (25, .ifCond .ne 16, 3, (41, 0, 0), .null), (28, .aload_n 0, 1, (0, 0, 0), .null), (29, .getfield 26, 3, (4, 0, 214), .null), (32, .iload_n 1, 1, (1, 0, 0), .null), (33, .iconst 1, 1, (0, 0, 0), .int (1)), (34, .isub, 1, (0, 0, 0), .null), (35, .invokevirtual 40, 3, (32, 1, 592), .int 0), (38, .ifCond .eq 7, 3, (45, 0, 0), .null), (41, .iconst 1, 1, (0, 0, 0), .int (1)), (42, .goto 4, 3, (46, 0, 0), .null), (45, .iconst 0, 1, (0, 0, 0), .int (0)), (46, .ireturn, 1, (0, 0, 0), .null)]
/-- Glyphmill$Parts.cut -/
def gC_46 : List (Nat × gR) := [(0, .aload_n 0, 1, (0, 0, 0), .null), (1, .iconst 0, 1, (0, 0, 0), .int (0)), (2, .putfield 18, 3, (4, 3, 220), .null), (5, .aload_n 0, 1, (0, 0, 0), .null), (6, .iconst 1, 1, (0, 0, 0), .int (1)), (7, .putfield 22, 3, (4, 4, 223), .null), (10, .iconst 0, 1, (0, 0, 0), .int (0)), (11, .istore_n 1, 1, (1, 0, 0), .null), (12, .iload_n 1, 1, (1, 0, 0), .null), (13, .aload_n 0, 1, (0, 0, 0), .null), (14, .getfield 26, 3, (4, 0, 214), .null), (17, .getfield 30, 3, (1, 10, 183), .null), (20, .if_icmp .ge 81, 3, (101, 0, 0), .null), (23, .iload_n 1, 1, (1, 0, 0), .null), (24, .ifCond .eq 11, 3, (35, 0, 0), .null), (27, .aload_n 0, 1, (0, 0, 0), .null), (28, .iload_n 1, 1, (1, 0, 0), .null), (29, .invokevirtual 33, 3, (45, 1, 587), .int 0), (32, .ifCond .eq 33, 3, (65, 0, 0), .null), (35, .aload_n 0, 1, (0, 0, 0), .null), (36, .getfield 9, 3, (4, 1, 215), .null), (39, .aload_n 0, 1, (0, 0, 0), .null), (40, .getfield 18, 3, (4, 3, 220), .null), (43, .iload_n 1, 1, (1, 0, 0), .null), (44, .iastore, 1, (0, 0, 0), .null), (45, .aload_n 0, 1, (0, 0, 0), .null), (46, .getfield 15, 3, (4, 2, 218), .null), (49, .aload_n 0, 1, (0, 0, 0), .null), (50, .getfield 18, 3, (4, 3, 220), .null), (53, .iload_n 1, 1, (1, 0, 0), .null), (54, .iastore, 1, (0, 0, 0), .null), (55, .aload_n 0, 1, (0, 0, 0), .null), (56, .dup, 1, (0, 0, 0), .null), (57, .getfield 18, 3, (4, 3, 220), .null), (60, .iconst 1, 1, (0, 0, 0), .int (1)), (61, .iadd, 1, (0, 0, 0), .null), (62, .putfield 18, 3, (4, 3, 220), .null), (65, .aload_n 0, 1, (0, 0, 0), .null), (66, .getfield 26, 3, (4, 0, 214), .null), (69, .iload_n 1, 1, (1, 0, 0), .null), (70, .invokevirtual 37, 3, (10, 1, 591), .int 0), (73, .ifCond .ne 22, 3, (95, 0, 0), .null), (76, .aload_n 0, 1, (0, 0, 0), .null), (77, .getfield 15, 3, (4, 2, 218), .null), (80, .aload_n 0, 1, (0, 0, 0), .null), (81, .getfield 18, 3, (4, 3, 220), .null), (84, .iconst 1, 1, (0, 0, 0), .int (1)), (85, .isub, 1, (0, 0, 0), .null), (86, .iload_n 1, 1, (1, 0, 0), .null), (87, .iconst 1, 1, (0, 0, 0), .int (1)), (88, .iadd, 1, (0, 0, 0), .null), (89, .iastore, 1, (0, 0, 0), .null), (90, .aload_n 0, 1, (0, 0, 0), .null), (91, .iconst 0, 1, (0, 0, 0), .int (0)), (92, .putfield 22, 3, (4, 4, 223), .null), (95, .iinc 1 1, 3, (1, 0, 0), .int (1)), (98, .goto (-86), 3, (12, 0, 0), .null), (101, .aload_n 0, 1, (0, 0, 0), .null), (102, .getfield 9, 3, (4, 1, 215), .null), (105, .aload_n 0, 1, (0, 0, 0), .null), (106, .getfield 18, 3, (4, 3, 220), .null), (109, .aload_n 0, 1, (0, 0, 0), .null), (110, .getfield 26, 3, (4, 0, 214), .null), (113, .getfield 30, 3, (1, 10, 183), .null), (116, .iastore, 1, (0, 0, 0), .null), (117, .return_, 1, (0, 0, 0), .null)]
/-- Glyphmill$Rows.endOf -/
def gC_47 : List (Nat × gR) := [(0, .aload_n 0, 1, (0, 0, 0), .null), (1, .getfield 35, 3, (5, 2, 297), .null), (4, .getfield 44, 3, (3, 5, 248), .null), (7, .iload_n 1, 1, (1, 0, 0), .null), (8, .iconst 1, 1, (0, 0, 0), .int (1)), (9, .iadd, 1, (0, 0, 0), .null), (10, .iaload, 1, (0, 0, 0), .null), (11, .istore_n 2, 1, (2, 0, 0), .null), (12, .iload_n 2, 1, (2, 0, 0), .null), (13, .ifCond .le 17, 3, (30, 0, 0), .null), (16, .aload_n 0, 1, (0, 0, 0), .null), (17, .getfield 31, 3, (5, 1, 296), .null), (20, .getfield 47, 3, (4, 2, 219), .null), (23, .iload_n 2, 1, (2, 0, 0), .null), (24, .iconst 1, 1, (0, 0, 0), .int (1)), (25, .isub, 1, (0, 0, 0), .null), (26, .iaload, 1, (0, 0, 0), .null), (27, .goto 4, 3, (31, 0, 0), .null), (30, .iconst 0, 1, (0, 0, 0), .int (0)), (31, .ireturn, 1, (0, 0, 0), .null)]
/-- Glyphmill$Rows.reverse -/
def gC_48 : List (Nat × gR) := [(0, .iload_n 1, 1, (1, 0, 0), .null), (1, .istore_n 3, 1, (3, 0, 0), .null), (2, .iload_n 2, 1, (2, 0, 0), .null), (3, .istore 4, 2, (4, 0, 0), .null), (5, .iload_n 3, 1, (3, 0, 0), .null), (6, .iload 4, 2, (4, 0, 0), .null), (8, .if_icmp .ge 42, 3, (50, 0, 0), .null), (11, .aload_n 0, 1, (0, 0, 0), .null), (12, .getfield 15, 3, (5, 4, 300), .null), (15, .iload_n 3, 1, (3, 0, 0), .null), (16, .iaload, 1, (0, 0, 0), .null), (17, .istore 5, 2, (5, 0, 0), .null), (19, .aload_n 0, 1, (0, 0, 0), .null), (20, .getfield 15, 3, (5, 4, 300), .null), (23, .iload_n 3, 1, (3, 0, 0), .null), (24, .aload_n 0, 1, (0, 0, 0), .null), (25, .getfield 15, 3, (5, 4, 300), .null), (28, .iload 4, 2, (4, 0, 0), .null), (30, .iaload, 1, (0, 0, 0), .null), (31, .iastore, 1, (0, 0, 0), .null), (32, .aload_n 0, 1, (0, 0, 0), .null), (33, .getfield 15, 3, (5, 4, 300), .null), (36, .iload 4, 2, (4, 0, 0), .null), (38, .iload 5, 2, (5, 0, 0), .null), (40, .iastore, 1, (0, 0, 0), .null), (41, .iinc 3 1, 3, (3, 0, 0), .int (1)), (44, .iinc 4 (-1), 3, (4, 0, 0), .int (-1)), (47, .goto (-42), 3, (5, 0, 0), .null), (50, .return_, 1, (0, 0, 0), .null)]
/-- Glyphmill$Rows.reverseFrom -/
def gC_49 : List (Nat × gR) := [(0, .iload_n 2, 1, (2, 0, 0), .null), (1, .istore 4, 2, (4, 0, 0), .null), (3, .iload_n 2, 1, (2, 0, 0), .null), (4, .istore 5, 2, (5, 0, 0), .null), (6, .iload 5, 2, (5, 0, 0), .null), (8, .iload_n 3, 1, (3, 0, 0), .null), (9, .if_icmp .gt 50, 3, (59, 0, 0), .null), (12, .iload 5, 2, (5, 0, 0), .null), (14, .iload_n 3, 1, (3, 0, 0), .null), (15, .if_icmp .eq 22, 3, (37, 0, 0), .null), (18, .aload_n 0, 1, (0, 0, 0), .null), (19, .getfield 27, 3, (5, 0, 295), .null), (22, .getfield 74, 3, (1, 6, 175), .null), (25, .aload_n 0, 1, (0, 0, 0), .null), (26, .getfield 15, 3, (5, 4, 300), .null), (29, .iload 5, 2, (5, 0, 0), .null), (31, .iaload, 1, (0, 0, 0), .null), (32, .iaload, 1, (0, 0, 0), .null), (33, .iload_n 1, 1, (1, 0, 0), .null), (34, .if_icmp .ge 19, 3, (53, 0, 0), .null), (37, .aload_n 0, 1, (0, 0, 0), .null), (38, .iload 4, 2, (4, 0, 0), .null), (40, .iload 5, 2, (5, 0, 0), .null), (42, .iconst 1, 1, (0, 0, 0), .int (1)), (43, .isub, 1, (0, 0, 0), .null), (44, .invokevirtual 89, 3, (48, 2, 702), .int 0), (47, .iload 5, 2, (5, 0, 0), .null), (49, .iconst 1, 1, (0, 0, 0), .int (1)), (50, .iadd, 1, (0, 0, 0), .null), (51, .istore 4, 2, (4, 0, 0), .null), (53, .iinc 5 1, 3, (5, 0, 0), .int (1)), (56, .goto (-50), 3, (6, 0, 0), .null), (59, .return_, 1, (0, 0, 0), .null)]
/-- Glyphmill$Rows.orderLine -/
def gC_50 : List (Nat × gR) := [(0, .iconst 0, 1, (0, 0, 0), .int (0)), (1, .istore_n 3, 1, (3, 0, 0), .null), (2, .iload_n 1, 1, (1, 0, 0), .null), (3, .istore 4, 2, (4, 0, 0), .null), (5, .iload 4, 2, (4, 0, 0), .null), (7, .iload_n 2, 1, (2, 0, 0), .null), (8, .if_icmp .ge 33, 3, (41, 0, 0), .null), (11, .aload_n 0, 1, (0, 0, 0), .null), (12, .getfield 15, 3, (5, 4, 300), .null), (15, .iload 4, 2, (4, 0, 0), .null), (17, .iload 4, 2, (4, 0, 0), .null), (19, .iastore, 1, (0, 0, 0), .null), (20, .iload_n 3, 1, (3, 0, 0), .null), (21, .aload_n 0, 1, (0, 0, 0), .null), (22, .getfield 27, 3, (5, 0, 295), .null), (25, .getfield 74, 3, (1, 6, 175), .null), (28, .iload 4, 2, (4, 0, 0), .null), (30, .iaload, 1, (0, 0, 0), .null), (31, .invokestatic 79, 3, (0, 0, 697), .int 2), (34, .istore_n 3, 1, (3, 0, 0), .null), (35, .iinc 4 1, 3, (4, 0, 0), .int (1)), (38, .goto (-33), 3, (5, 0, 0), .null), (41, .iload_n 3, 1, (3, 0, 0), .null), (42, .istore 4, 2, (4, 0, 0), .null), (44, .iload 4, 2, (4, 0, 0), .null), (46, .ifCond .le 17, 3, (63, 0, 0), .null), (49, .aload_n 0, 1, (0, 0, 0), .null), (50, .iload 4, 2, (4, 0, 0), .null), (52, .iload_n 1, 1, (1, 0, 0), .null), (53, .iload_n 2, 1, (2, 0, 0), .null), (54, .invokevirtual 85, 3, (49, 3, 698), .int 0), (57, .iinc 4 (-1), 3, (4, 0, 0), .int (-1)), (60, .goto (-16), 3, (44, 0, 0), .null), (63, .iload_n 1, 1, (1, 0, 0), .null), (64, .istore 4, 2, (4, 0, 0), .null), (66, .iload 4, 2, (4, 0, 0), .null), (68, .iload_n 2, 1, (2, 0, 0), .null), (69, .if_icmp .ge 25, 3, (94, 0, 0), .null), (72, .aload_n 0, 1, (0, 0, 0), .null), (73, .getfield 18, 3, (5, 5, 302), .null), (76, .aload_n 0, 1, (0, 0, 0), .null), (77, .getfield 15, 3, (5, 4, 300), .null), (80, .iload 4, 2, (4, 0, 0), .null), (82, .iaload, 1, (0, 0, 0), .null), (83, .iload 4, 2, (4, 0, 0), .null), (85, .iload_n 1, 1, (1, 0, 0), .null), (86, .isub, 1, (0, 0, 0), .null), (87, .iastore, 1, (0, 0, 0), .null), (88, .iinc 4 1, 3, (4, 0, 0), .int (1)), (91, .goto (-25), 3, (66, 0, 0), .null), (94, .return_, 1, (0, 0, 0), .null)]
/-- Glyphmill$Rows.startOf -/
def gC_51 : List (Nat × gR) := [(0, .aload_n 0, 1, (0, 0, 0), .null), (1, .getfield 31, 3, (5, 1, 296), .null), (4, .getfield 39, 3, (4, 1, 216), .null), (7, .aload_n 0, 1, (0, 0, 0), .null), (8, .getfield 35, 3, (5, 2, 297), .null), (11, .getfield 44, 3, (3, 5, 248), .null), (14, .iload_n 1, 1, (1, 0, 0), .null), (15, .iaload, 1, (0, 0, 0), .null), (16, .iaload, 1, (0, 0, 0), .null), (17, .ireturn, 1, (0, 0, 0), .null)]
/-- Glyphmill$Rows.justify -/
def gC_52 : List (Nat × gR) := [(0, .iload_n 3, 1, (3, 0, 0), .null), (1, .ifCond .gt 4, 3, (5, 0, 0), .null), (4, .return_, 1, (0, 0, 0), .null), (5, .iload_n 2, 1, (2, 0, 0), .null), (6, .iload_n 3, 1, (3, 0, 0), .null), (7, .idiv, 1, (0, 0, 0), .null), (8, .istore 4, 2, (4, 0, 0), .null), (10, .iload_n 2, 1, (2, 0, 0), .null), (11, .ifCond .ge 7, 3, (18, 0, 0), .null), (14, .iconst (-1), 1, (0, 0, 0), .int (-1)), (15, .goto 4, 3, (19, 0, 0), .null), (18, .iconst 1, 1, (0, 0, 0), .int (1)), (19, .istore 5, 2, (5, 0, 0), .null), (21, .iload_n 2, 1, (2, 0, 0), .null), (22, .iload_n 3, 1, (3, 0, 0), .null), (23, .irem, 1, (0, 0, 0), .null), (24, .invokestatic 107, 3, (0, 0, 720), .int 4), (27, .istore 6, 2, (6, 0, 0), .null), (29, .aload_n 0, 1, (0, 0, 0), .null), (30, .iload_n 1, 1, (1, 0, 0), .null), (31, .invokevirtual 60, 3, (51, 1, 685), .int 0), (34, .istore 7, 2, (7, 0, 0), .null), (36, .iload 7, 2, (7, 0, 0), .null), (38, .aload_n 0, 1, (0, 0, 0), .null), (39, .iload_n 1, 1, (1, 0, 0), .null), (40, .invokevirtual 64, 3, (47, 1, 689), .int 0), (43, .if_icmp .ge 59, 3, (102, 0, 0), .null), (46, .aload_n 0, 1, (0, 0, 0), .null), (47, .getfield 27, 3, (5, 0, 295), .null), (50, .aload_n 0, 1, (0, 0, 0), .null), (51, .getfield 15, 3, (5, 4, 300), .null), (54, .iload 7, 2, (7, 0, 0), .null), (56, .iaload, 1, (0, 0, 0), .null), (57, .invokevirtual 110, 3, (10, 1, 721), .int 0), (60, .ifCond .eq 36, 3, (96, 0, 0), .null), (63, .aload_n 0, 1, (0, 0, 0), .null), (64, .getfield 24, 3, (5, 7, 306), .null), (67, .aload_n 0, 1, (0, 0, 0), .null), (68, .getfield 15, 3, (5, 4, 300), .null), (71, .iload 7, 2, (7, 0, 0), .null), (73, .iaload, 1, (0, 0, 0), .null), (74, .dup2, 1, (0, 0, 0), .null), (75, .iaload, 1, (0, 0, 0), .null), (76, .iload 6, 2, (6, 0, 0), .null), (78, .ifCond .le 11, 3, (89, 0, 0), .null), (81, .iload 4, 2, (4, 0, 0), .null), (83, .iload 5, 2, (5, 0, 0), .null), (85, .iadd, 1, (0, 0, 0), .null), (86, .goto 5, 3, (91, 0, 0), .null), (89, .iload 4, 2, (4, 0, 0), .null), (91, .iadd, 1, (0, 0, 0), .null), (92, .iastore, 1, (0, 0, 0), .null), (93, .iinc 6 (-1), 3, (6, 0, 0), .int (-1)), (96, .iinc 7 1, 3, (7, 0, 0), .int (1)), (99, .goto (-63), 3, (36, 0, 0), .null), (102, .return_, 1, (0, 0, 0), .null)]
/-- Glyphmill$Rows.takeWidths -/
def gC_53 : List (Nat × gR) := [(0, .aload_n 0, 1, (0, 0, 0), .null), (1, .iload_n 1, 1, (1, 0, 0), .null), (2, .invokevirtual 60, 3, (51, 1, 685), .int 0), (5, .istore_n 2, 1, (2, 0, 0), .null), (6, .iload_n 2, 1, (2, 0, 0), .null), (7, .aload_n 0, 1, (0, 0, 0), .null), (8, .iload_n 1, 1, (1, 0, 0), .null), (9, .invokevirtual 64, 3, (47, 1, 689), .int 0), (12, .if_icmp .ge 24, 3, (36, 0, 0), .null), (15, .aload_n 0, 1, (0, 0, 0), .null), (16, .getfield 24, 3, (5, 7, 306), .null), (19, .iload_n 2, 1, (2, 0, 0), .null), (20, .aload_n 0, 1, (0, 0, 0), .null), (21, .getfield 27, 3, (5, 0, 295), .null), (24, .getfield 106, 3, (1, 7, 177), .null), (27, .iload_n 2, 1, (2, 0, 0), .null), (28, .iaload, 1, (0, 0, 0), .null), (29, .iastore, 1, (0, 0, 0), .null), (30, .iinc 2 1, 3, (2, 0, 0), .int (1)), (33, .goto (-27), 3, (6, 0, 0), .null), (36, .return_, 1, (0, 0, 0), .null)]
/-- Glyphmill$Rows.placeLine -/
def gC_54 : List (Nat × gR) := [(0, .aload_n 0, 1, (0, 0, 0), .null), (1, .getfield 35, 3, (5, 2, 297), .null), (4, .getfield 44, 3, (3, 5, 248), .null), (7, .iload_n 1, 1, (1, 0, 0), .null), (8, .iaload, 1, (0, 0, 0), .null), (9, .istore_n 3, 1, (3, 0, 0), .null), (10, .aload_n 0, 1, (0, 0, 0), .null), (11, .getfield 35, 3, (5, 2, 297), .null), (14, .getfield 44, 3, (3, 5, 248), .null), (17, .iload_n 1, 1, (1, 0, 0), .null), (18, .iconst 1, 1, (0, 0, 0), .int (1)), (19, .iadd, 1, (0, 0, 0), .null), (20, .iaload, 1, (0, 0, 0), .null), (21, .istore 4, 2, (4, 0, 0), .null), (23, .aload_n 0, 1, (0, 0, 0), .null), (24, .getfield 35, 3, (5, 2, 297), .null), (27, .iload_n 3, 1, (3, 0, 0), .null), (28, .iload 4, 2, (4, 0, 0), .null), (30, .invokevirtual 92, 3, (29, 2, 710), .int 0), (33, .istore 5, 2, (5, 0, 0), .null), (35, .aload_n 0, 1, (0, 0, 0), .null), (36, .getfield 31, 3, (5, 1, 296), .null), (39, .iload_n 3, 1, (3, 0, 0), .null), (40, .iload 4, 2, (4, 0, 0), .null), (42, .invokevirtual 95, 3, (30, 2, 711), .int 0), (45, .istore 6, 2, (6, 0, 0), .null), (47, .iload 6, 2, (6, 0, 0), .null), (49, .ifCond .le 24, 3, (73, 0, 0), .null), (52, .iload 5, 2, (5, 0, 0), .null), (54, .ifCond .lt 15, 3, (69, 0, 0), .null), (57, .iload 4, 2, (4, 0, 0), .null), (59, .aload_n 0, 1, (0, 0, 0), .null), (60, .getfield 31, 3, (5, 1, 296), .null), (63, .getfield 98, 3, (4, 3, 222), .null), (66, .if_icmp .ge 7, 3, (73, 0, 0), .null), (69, .iconst 1, 1, (0, 0, 0), .int (1)), (70, .goto 4, 3, (74, 0, 0), .null), (73, .iconst 0, 1, (0, 0, 0), .int (0)), (74, .istore 7, 2, (7, 0, 0), .null), (76, .aload_n 0, 1, (0, 0, 0), .null), (77, .iload_n 1, 1, (1, 0, 0), .null), (78, .invokevirtual 99, 3, (53, 1, 712), .int 0), (81, .iload 7, 2, (7, 0, 0), .null), (83, .ifCond .eq 12, 3, (95, 0, 0), .null), (86, .aload_n 0, 1, (0, 0, 0), .null), (87, .iload_n 1, 1, (1, 0, 0), .null), (88, .iload 5, 2, (5, 0, 0), .null), (90, .iload 6, 2, (6, 0, 0), .null), (92, .invokevirtual 103, 3, (52, 3, 716), .int 0), (95, .iload 7, 2, (7, 0, 0), .null), (97, .ifCond .ne 7, 3, (104, 0, 0), .null), (100, .iload_n 2, 1, (2, 0, 0), .null), (101, .ifCond .ne 7, 3, (108, 0, 0), .null), (104, .iconst 0, 1, (0, 0, 0), .int (0)), (105, .goto 5, 3, (110, 0, 0), .null), (108, .iload 5, 2, (5, 0, 0), .null), (110, .istore 8, 2, (8, 0, 0), .null), (112, .aload_n 0, 1, (0, 0, 0), .null), (113, .iload_n 1, 1, (1, 0, 0), .null), (114, .invokevirtual 60, 3, (51, 1, 685), .int 0), (117, .istore 9, 2, (9, 0, 0), .null), (119, .iload 9, 2, (9, 0, 0), .null), (121, .aload_n 0, 1, (0, 0, 0), .null), (122, .iload_n 1, 1, (1, 0, 0), .null), (123, .invokevirtual 64, 3, (47, 1, 689), .int 0), (126, .if_icmp .ge 40, 3, (166, 0, 0), .null), (129, .aload_n 0, 1, (0, 0, 0), .null), (130, .getfield 21, 3, (5, 6, 304), .null), (133, .aload_n 0, 1, (0, 0, 0), .null), (134, .getfield 15, 3, (5, 4, 300), .null), (137, .iload 9, 2, (9, 0, 0), .null), (139, .iaload, 1, (0, 0, 0), .null), (140, .iload 8, 2, (8, 0, 0), .null), (142, .iastore, 1, (0, 0, 0), .null), (143, .iload 8, 2, (8, 0, 0), .null), (145, .aload_n 0, 1, (0, 0, 0), .null), (146, .getfield 24, 3, (5, 7, 306), .null), (149, .aload_n 0, 1, (0, 0, 0), .null), (150, .getfield 15, 3, (5, 4, 300), .null), (153, .iload 9, 2, (9, 0, 0), .null), (155, .iaload, 1, (0, 0, 0), .null), (156, .iaload, 1, (0, 0, 0), .null), (157, .iadd, 1, (0, 0, 0), .null), (158, .istore 8, 2, (8, 0, 0), .null), (160, .iinc 9 1, 3, (9, 0, 0), .int (1)), (163, .goto (-44), 3, (119, 0, 0), .null), (166, .return_, 1, (0, 0, 0), .null)]
/-- Glyphmill$Rows.arrange -/
def gC_55 : List (Nat × gR) := [(0, .aload_n 0, 1, (0, 0, 0), .null), (1, .getfield 18, 3, (5, 5, 302), .null), (4, .iconst (-1), 1, (0, 0, 0), .int (-1)), (5, .invokestatic 50, 3, (0, 2, 684), .int 0), (8, .iconst 0, 1, (0, 0, 0), .int (0)), (9, .istore_n 2, 1, (2, 0, 0), .null), (10, .iload_n 2, 1, (2, 0, 0), .null), (11, .aload_n 0, 1, (0, 0, 0), .null), (12, .getfield 35, 3, (5, 2, 297), .null), (15, .getfield 56, 3, (3, 8, 254), .null), (18, .if_icmp .ge 59, 3, (77, 0, 0), .null), (21, .aload_n 0, 1, (0, 0, 0), .null), (22, .iload_n 2, 1, (2, 0, 0), .null), (23, .invokevirtual 60, 3, (51, 1, 685), .int 0), (26, .istore_n 3, 1, (3, 0, 0), .null), (27, .iload_n 3, 1, (3, 0, 0), .null), (28, .aload_n 0, 1, (0, 0, 0), .null), (29, .iload_n 2, 1, (2, 0, 0), .null), (30, .iconst 1, 1, (0, 0, 0), .int (1)), (31, .iadd, 1, (0, 0, 0), .null), (32, .invokevirtual 60, 3, (51, 1, 685), .int 0), (35, .if_icmp .ge 16, 3, (51, 0, 0), .null), (38, .aload_n 0, 1, (0, 0, 0), .null), (39, .getfield 9, 3, (5, 3, 298), .null), (42, .iload_n 3, 1, (3, 0, 0), .null), (43, .iload_n 2, 1, (2, 0, 0), .null), (44, .iastore, 1, (0, 0, 0), .null), (45, .iinc 3 1, 3, (3, 0, 0), .int (1)), (48, .goto (-21), 3, (27, 0, 0), .null), (51, .aload_n 0, 1, (0, 0, 0), .null), (52, .aload_n 0, 1, (0, 0, 0), .null), (53, .iload_n 2, 1, (2, 0, 0), .null), (54, .invokevirtual 60, 3, (51, 1, 685), .int 0), (57, .aload_n 0, 1, (0, 0, 0), .null), (58, .iload_n 2, 1, (2, 0, 0), .null), (59, .invokevirtual 64, 3, (47, 1, 689), .int 0), (62, .invokevirtual 67, 3, (50, 2, 693), .int 0), (65, .aload_n 0, 1, (0, 0, 0), .null), (66, .iload_n 2, 1, (2, 0, 0), .null), (67, .iload_n 1, 1, (1, 0, 0), .null), (68, .invokevirtual 71, 3, (54, 2, 706), .int 0), (71, .iinc 2 1, 3, (2, 0, 0), .int (1)), (74, .goto (-64), 3, (10, 0, 0), .null), (77, .return_, 1, (0, 0, 0), .null)]
/-- Glyphmill$Runs.letterScript -/
def gC_56 : List (Nat × gR) := [(0, .iload_n 0, 1, (0, 0, 0), .null), (1, .invokestatic 54, 3, (21, 1, 554), .int 1), (4, .ifCond .eq 5, 3, (9, 0, 0), .null), (7, .iconst 2, 1, (0, 0, 0), .int (2)), (8, .ireturn, 1, (0, 0, 0), .null), (9, .iload_n 0, 1, (0, 0, 0), .null), (10, .bipush 109, 2, (0, 0, 0), .int (109)), (12, .if_icmp .gt 7, 3, (19, 0, 0), .null), (15, .iconst 0, 1, (0, 0, 0), .int (0)), (16, .goto 4, 3, (20, 0, 0), .null), (19, .iconst 1, 1, (0, 0, 0), .int (1)), (20, .ireturn, 1, (0, 0, 0), .null)]
/-- Glyphmill$Runs.firstScript -/
def gC_57 : List (Nat × gR) := [(0, .iconst 0, 1, (0, 0, 0), .int (0)), (1, .istore_n 1, 1, (1, 0, 0), .null), (2, .iload_n 1, 1, (1, 0, 0), .null), (3, .aload_n 0, 1, (0, 0, 0), .null), (4, .getfield 22, 3, (6, 0, 140), .null), (7, .getfield 34, 3, (7, 5, 101), .null), (10, .if_icmp .ge 37, 3, (47, 0, 0), .null), (13, .aload_n 0, 1, (0, 0, 0), .null), (14, .getfield 22, 3, (6, 0, 140), .null), (17, .getfield 37, 3, (7, 2, 91), .null), (20, .iload_n 1, 1, (1, 0, 0), .null), (21, .caload, 1, (0, 0, 0), .null), (22, .invokestatic 41, 3, (22, 1, 550), .int 1), (25, .ifCond .eq 16, 3, (41, 0, 0), .null), (28, .aload_n 0, 1, (0, 0, 0), .null), (29, .getfield 22, 3, (6, 0, 140), .null), (32, .getfield 37, 3, (7, 2, 91), .null), (35, .iload_n 1, 1, (1, 0, 0), .null), (36, .caload, 1, (0, 0, 0), .null), (37, .invokestatic 45, 3, (56, 1, 551), .int 0), (40, .ireturn, 1, (0, 0, 0), .null), (41, .iinc 1 1, 3, (1, 0, 0), .int (1)), (44, .goto (-42), 3, (2, 0, 0), .null), (47, .iconst 0, 1, (0, 0, 0), .int (0)), (48, .ireturn, 1, (0, 0, 0), .null)]
/-- Glyphmill$Runs.divide -/
def gC_58 : List (Nat × gR) := [(0, .aload_n 0, 1, (0, 0, 0), .null), (1, .invokevirtual 30, 3, (57, 0, 546), .int 0), (4, .istore_n 1, 1, (1, 0, 0), .null), (5, .aload_n 0, 1, (0, 0, 0), .null), (6, .iconst 0, 1, (0, 0, 0), .int (0)), (7, .putfield 18, 3, (6, 4, 146), .null), (10, .iconst 0, 1, (0, 0, 0), .int (0)), (11, .istore_n 2, 1, (2, 0, 0), .null), (12, .iload_n 2, 1, (2, 0, 0), .null), (13, .aload_n 0, 1, (0, 0, 0), .null), (14, .getfield 22, 3, (6, 0, 140), .null), (17, .getfield 34, 3, (7, 5, 101), .null), (20, .if_icmp .ge 114, 3, (134, 0, 0), .null), (23, .aload_n 0, 1, (0, 0, 0), .null), (24, .getfield 22, 3, (6, 0, 140), .null), (27, .getfield 37, 3, (7, 2, 91), .null), (30, .iload_n 2, 1, (2, 0, 0), .null), (31, .caload, 1, (0, 0, 0), .null), (32, .invokestatic 41, 3, (22, 1, 550), .int 1), (35, .ifCond .eq 18, 3, (53, 0, 0), .null), (38, .aload_n 0, 1, (0, 0, 0), .null), (39, .getfield 22, 3, (6, 0, 140), .null), (42, .getfield 37, 3, (7, 2, 91), .null), (45, .iload_n 2, 1, (2, 0, 0), .null), (46, .caload, 1, (0, 0, 0), .null), (47, .invokestatic 45, 3, (56, 1, 551), .int 0), (50, .goto 4, 3, (54, 0, 0), .null), (53, .iload_n 1, 1, (1, 0, 0), .null), (54, .istore_n 1, 1, (1, 0, 0), .null), (55, .aload_n 0, 1, (0, 0, 0), .null), (56, .getfield 9, 3, (6, 2, 142), .null), (59, .iload_n 2, 1, (2, 0, 0), .null), (60, .iload_n 1, 1, (1, 0, 0), .null), (61, .iastore, 1, (0, 0, 0), .null), (62, .iload_n 2, 1, (2, 0, 0), .null), (63, .ifCond .eq 43, 3, (106, 0, 0), .null), (66, .aload_n 0, 1, (0, 0, 0), .null), (67, .getfield 9, 3, (6, 2, 142), .null), (70, .iload_n 2, 1, (2, 0, 0), .null), (71, .iaload, 1, (0, 0, 0), .null), (72, .aload_n 0, 1, (0, 0, 0), .null), (73, .getfield 9, 3, (6, 2, 142), .null), (76, .iload_n 2, 1, (2, 0, 0), .null), (77, .iconst 1, 1, (0, 0, 0), .int (1)), (78, .isub, 1, (0, 0, 0), .null), (79, .iaload, 1, (0, 0, 0), .null), (80, .if_icmp .ne 26, 3, (106, 0, 0), .null), (83, .aload_n 0, 1, (0, 0, 0), .null), (84, .getfield 26, 3, (6, 1, 141), .null), (87, .getfield 49, 3, (2, 2, 125), .null), (90, .iload_n 2, 1, (2, 0, 0), .null), (91, .iaload, 1, (0, 0, 0), .null), (92, .aload_n 0, 1, (0, 0, 0), .null), (93, .getfield 26, 3, (6, 1, 141), .null), (96, .getfield 49, 3, (2, 2, 125), .null), (99, .iload_n 2, 1, (2, 0, 0), .null), (100, .iconst 1, 1, (0, 0, 0), .int (1)), (101, .isub, 1, (0, 0, 0), .null), (102, .iaload, 1, (0, 0, 0), .null), (103, .if_icmp .eq 13, 3, (116, 0, 0), .null), (106, .aload_n 0, 1, (0, 0, 0), .null), (107, .dup, 1, (0, 0, 0), .null), (108, .getfield 18, 3, (6, 4, 146), .null), (111, .iconst 1, 1, (0, 0, 0), .int (1)), (112, .iadd, 1, (0, 0, 0), .null), (113, .putfield 18, 3, (6, 4, 146), .null), (116, .aload_n 0, 1, (0, 0, 0), .null), (117, .getfield 15, 3, (6, 3, 143), .null), (120, .iload_n 2, 1, (2, 0, 0), .null), (121, .aload_n 0, 1, (0, 0, 0), .null), (122, .getfield 18, 3, (6, 4, 146), .null), (125, .iconst 1, 1, (0, 0, 0), .int (1)), (126, .isub, 1, (0, 0, 0), .null), (127, .iastore, 1, (0, 0, 0), .null), (128, .iinc 2 1, 3, (2, 0, 0), .int (1)), (131, .goto (-119), 3, (12, 0, 0), .null), (134, .return_, 1, (0, 0, 0), .null)]
/-- Glyphmill$Sequence.levelInside -/
def gC_59 : List (Nat × gR) := [(0, .iload_n 0, 1, (0, 0, 0), .null), (1, .iconst 1, 1, (0, 0, 0), .int (1)), (2, .iadd, 1, (0, 0, 0), .null), (3, .invokestatic 48, 3, (13, 1, 492), .int 1), (6, .iload_n 1, 1, (1, 0, 0), .null), (7, .if_icmp .ne 9, 3, (16, 0, 0), .null), (10, .iload_n 0, 1, (0, 0, 0), .null), (11, .iconst 1, 1, (0, 0, 0), .int (1)), (12, .iadd, 1, (0, 0, 0), .null), (13, .goto 6, 3, (19, 0, 0), .null), (16, .iload_n 0, 1, (0, 0, 0), .null), (17, .iconst 2, 1, (0, 0, 0), .int (2)), (18, .iadd, 1, (0, 0, 0), .null), (19, .ireturn, 1, (0, 0, 0), .null)]
/-- Glyphmill$Sequence.take -/
def gC_60 : List (Nat × gR) := [(0, .aload_n 0, 1, (0, 0, 0), .null), (1, .getfield 9, 3, (7, 0, 86), .null), (4, .iload_n 1, 1, (1, 0, 0), .null), (5, .aload_n 0, 1, (0, 0, 0), .null), (6, .getfield 28, 3, (7, 5, 98), .null), (9, .iastore, 1, (0, 0, 0), .null), (10, .aload_n 0, 1, (0, 0, 0), .null), (11, .getfield 15, 3, (7, 1, 88), .null), (14, .aload_n 0, 1, (0, 0, 0), .null), (15, .getfield 28, 3, (7, 5, 98), .null), (18, .iload_n 1, 1, (1, 0, 0), .null), (19, .iastore, 1, (0, 0, 0), .null), (20, .aload_n 0, 1, (0, 0, 0), .null), (21, .getfield 18, 3, (7, 2, 90), .null), (24, .aload_n 0, 1, (0, 0, 0), .null), (25, .getfield 28, 3, (7, 5, 98), .null), (28, .iload_n 2, 1, (2, 0, 0), .null), (29, .castore, 1, (0, 0, 0), .null), (30, .aload_n 0, 1, (0, 0, 0), .null), (31, .getfield 22, 3, (7, 3, 94), .null), (34, .aload_n 0, 1, (0, 0, 0), .null), (35, .getfield 28, 3, (7, 5, 98), .null), (38, .iload_n 3, 1, (3, 0, 0), .null), (39, .iastore, 1, (0, 0, 0), .null), (40, .aload_n 0, 1, (0, 0, 0), .null), (41, .dup, 1, (0, 0, 0), .null), (42, .getfield 28, 3, (7, 5, 98), .null), (45, .iconst 1, 1, (0, 0, 0), .int (1)), (46, .iadd, 1, (0, 0, 0), .null), (47, .putfield 28, 3, (7, 5, 98), .null), (50, .return_, 1, (0, 0, 0), .null)]
/-- Glyphmill$Sequence.read -/
def gC_61 : List (Nat × gR) := [(0, .iconst 0, 1, (0, 0, 0), .int (0)), (1, .istore_n 3, 1, (3, 0, 0), .null), (2, .aload_n 0, 1, (0, 0, 0), .null), (3, .getfield 25, 3, (7, 4, 97), .null), (6, .iconst 0, 1, (0, 0, 0), .int (0)), (7, .iload_n 2, 1, (2, 0, 0), .null), (8, .iastore, 1, (0, 0, 0), .null), (9, .aload_n 0, 1, (0, 0, 0), .null), (10, .iconst 0, 1, (0, 0, 0), .int (0)), (11, .putfield 28, 3, (7, 5, 98), .null), (14, .iconst 0, 1, (0, 0, 0), .int (0)), (15, .istore 4, 2, (4, 0, 0), .null), (17, .iload 4, 2, (4, 0, 0), .null), (19, .aload_n 1, 1, (1, 0, 0), .null), (20, .getfield 32, 3, (8, 1, 45), .null), (23, .if_icmp .ge 110, 3, (133, 0, 0), .null), (26, .aload_n 1, 1, (1, 0, 0), .null), (27, .getfield 35, 3, (8, 0, 42), .null), (30, .iload 4, 2, (4, 0, 0), .null), (32, .caload, 1, (0, 0, 0), .null), (33, .istore 5, 2, (5, 0, 0), .null), (35, .aload_n 0, 1, (0, 0, 0), .null), (36, .getfield 9, 3, (7, 0, 86), .null), (39, .iload 4, 2, (4, 0, 0), .null), (41, .iconst (-1), 1, (0, 0, 0), .int (-1)), (42, .iastore, 1, (0, 0, 0), .null), (43, .iload 5, 2, (5, 0, 0), .null), (45, .invokestatic 36, 3, (3, 1, 484), .int 1), (48, .ifCond .ne 20, 3, (68, 0, 0), .null), (51, .aload_n 0, 1, (0, 0, 0), .null), (52, .iload 4, 2, (4, 0, 0), .null), (54, .iload 5, 2, (5, 0, 0), .null), (56, .aload_n 0, 1, (0, 0, 0), .null), (57, .getfield 25, 3, (7, 4, 97), .null), (60, .iload_n 3, 1, (3, 0, 0), .null), (61, .iaload, 1, (0, 0, 0), .null), (62, .invokevirtual 40, 3, (60, 3, 485), .int 0), (65, .goto 62, 3, (127, 0, 0), .null), (68, .iload 5, 2, (5, 0, 0), .null), (70, .bipush 125, 2, (0, 0, 0), .int (125)), (72, .if_icmp .ne 18, 3, (90, 0, 0), .null), (75, .iload_n 3, 1, (3, 0, 0), .null), (76, .ifCond .le 9, 3, (85, 0, 0), .null), (79, .iload_n 3, 1, (3, 0, 0), .null), (80, .iconst 1, 1, (0, 0, 0), .int (1)), (81, .isub, 1, (0, 0, 0), .null), (82, .goto 4, 3, (86, 0, 0), .null), (85, .iconst 0, 1, (0, 0, 0), .int (0)), (86, .istore_n 3, 1, (3, 0, 0), .null), (87, .goto 40, 3, (127, 0, 0), .null), (90, .iload_n 3, 1, (3, 0, 0), .null), (91, .iconst 5, 1, (0, 0, 0), .int (5)), (92, .if_icmp .ge 35, 3, (127, 0, 0), .null), (95, .aload_n 0, 1, (0, 0, 0), .null), (96, .getfield 25, 3, (7, 4, 97), .null), (99, .iload_n 3, 1, (3, 0, 0), .null), (100, .iconst 1, 1, (0, 0, 0), .int (1)), (101, .iadd, 1, (0, 0, 0), .null), (102, .aload_n 0, 1, (0, 0, 0), .null), (103, .getfield 25, 3, (7, 4, 97), .null), (106, .iload_n 3, 1, (3, 0, 0), .null), (107, .iaload, 1, (0, 0, 0), .null), (108, .iload 5, 2, (5, 0, 0), .null), (110, .bipush 123, 2, (0, 0, 0), .int (123)), (112, .if_icmp .ne 7, 3, (119, 0, 0), .null), (115, .iconst 1, 1, (0, 0, 0), .int (1)), (116, .goto 4, 3, (120, 0, 0), .null), (119, .iconst 0, 1, (0, 0, 0), .int (0)), (120, .invokestatic 44, 3, (59, 2, 489), .int 0), (123, .iastore, 1, (0, 0, 0), .null), (124, .iinc 3 1, 3, (3, 0, 0), .int (1)), (127, .iinc 4 1, 3, (4, 0, 0), .int (1)), (130, .goto (-113), 3, (17, 0, 0), .null), (133, .return_, 1, (0, 0, 0), .null)]
/-- Glyphmill.refresh -/
def gC_62 : List (Nat × gR) := [(0, .aload_n 0, 1, (0, 0, 0), .null), (1, .getfield 91, 3, (9, 11, 336), .null), (4, .ifCond .ne 4, 3, (8, 0, 0), .null), (7, .return_, 1, (0, 0, 0), .null), (8, .aload_n 0, 1, (0, 0, 0), .null), (9, .getfield 26, 3, (9, 2, 327), .null), (12, .aload_n 0, 1, (0, 0, 0), .null), (13, .getfield 10, 3, (9, 0, 325), .null), (16, .aload_n 0, 1, (0, 0, 0), .null), (17, .getfield 88, 3, (9, 10, 335), .null), (20, .invokevirtual 295, 3, (61, 2, 480), .int 0), (23, .aload_n 0, 1, (0, 0, 0), .null), (24, .getfield 35, 3, (9, 3, 328), .null), (27, .aload_n 0, 1, (0, 0, 0), .null), (28, .getfield 88, 3, (9, 10, 335), .null), (31, .invokevirtual 299, 3, (25, 1, 495), .int 0), (34, .aload_n 0, 1, (0, 0, 0), .null), (35, .getfield 44, 3, (9, 4, 329), .null), (38, .invokevirtual 302, 3, (58, 0, 542), .int 0), (41, .aload_n 0, 1, (0, 0, 0), .null), (42, .getfield 53, 3, (9, 5, 330), .null), (45, .aload_n 0, 1, (0, 0, 0), .null), (46, .getfield 19, 3, (9, 1, 326), .null), (49, .invokevirtual 305, 3, (12, 1, 555), .int 0), (52, .aload_n 0, 1, (0, 0, 0), .null), (53, .getfield 62, 3, (9, 6, 331), .null), (56, .invokevirtual 309, 3, (46, 0, 583), .int 0), (59, .aload_n 0, 1, (0, 0, 0), .null), (60, .getfield 71, 3, (9, 7, 332), .null), (63, .aload_n 0, 1, (0, 0, 0), .null), (64, .getfield 84, 3, (9, 9, 334), .null), (67, .invokevirtual 312, 3, (44, 1, 596), .int 0), (70, .aload_n 0, 1, (0, 0, 0), .null), (71, .getfield 71, 3, (9, 7, 332), .null), (74, .invokevirtual 315, 3, (42, 0, 620), .int 0), (77, .aload_n 0, 1, (0, 0, 0), .null), (78, .getfield 80, 3, (9, 8, 333), .null), (81, .aload_n 0, 1, (0, 0, 0), .null), (82, .getfield 88, 3, (9, 10, 335), .null), (85, .invokevirtual 318, 3, (55, 1, 680), .int 0), (88, .aload_n 0, 1, (0, 0, 0), .null), (89, .iconst 0, 1, (0, 0, 0), .int (0)), (90, .putfield 91, 3, (9, 11, 336), .null), (93, .return_, 1, (0, 0, 0), .null)]
/-- Glyphmill.runs -/
def gC_63 : List (Nat × gR) := [(0, .aload_n 0, 1, (0, 0, 0), .null), (1, .invokevirtual 173, 3, (62, 0, 476), .int 0), (4, .aload_n 0, 1, (0, 0, 0), .null), (5, .getfield 44, 3, (9, 4, 329), .null), (8, .getfield 193, 3, (6, 4, 147), .null), (11, .ireturn, 1, (0, 0, 0), .null)]
/-- Glyphmill.glyphs -/
def gC_64 : List (Nat × gR) := [(0, .aload_n 0, 1, (0, 0, 0), .null), (1, .invokevirtual 173, 3, (62, 0, 476), .int 0), (4, .aload_n 0, 1, (0, 0, 0), .null), (5, .getfield 53, 3, (9, 5, 330), .null), (8, .getfield 201, 3, (1, 10, 184), .null), (11, .ireturn, 1, (0, 0, 0), .null)]
/-- Glyphmill$Parts.countBreaks -/
def gC_65 : List (Nat × gR) := [(0, .aload_n 0, 1, (0, 0, 0), .null), (1, .getfield 18, 3, (4, 3, 220), .null), (4, .ifCond .le 12, 3, (16, 0, 0), .null), (7, .aload_n 0, 1, (0, 0, 0), .null), (8, .getfield 18, 3, (4, 3, 220), .null), (11, .iconst 1, 1, (0, 0, 0), .int (1)), (12, .isub, 1, (0, 0, 0), .null), (13, .goto 4, 3, (17, 0, 0), .null), (16, .iconst 0, 1, (0, 0, 0), .int (0)), (17, .ireturn, 1, (0, 0, 0), .null)]
/-- Glyphmill.breaks -/
def gC_66 : List (Nat × gR) := [(0, .aload_n 0, 1, (0, 0, 0), .null), (1, .invokevirtual 173, 3, (62, 0, 476), .int 0), (4, .aload_n 0, 1, (0, 0, 0), .null), (5, .getfield 62, 3, (9, 6, 331), .null), (8, .invokevirtual 202, 3, (65, 0, 973), .int 0), (11, .ireturn, 1, (0, 0, 0), .null)]
/-- Glyphmill.indexOfGlyph -/
def gC_67 : List (Nat × gR) := [(0, .aload_n 0, 1, (0, 0, 0), .null), (1, .getfield 26, 3, (9, 2, 327), .null), (4, .getfield 334, 3, (7, 1, 89), .null), (7, .aload_n 0, 1, (0, 0, 0), .null), (8, .getfield 53, 3, (9, 5, 330), .null), (11, .getfield 337, 3, (1, 5, 173), .null), (14, .iload_n 1, 1, (1, 0, 0), .null), (15, .iaload, 1, (0, 0, 0), .null), (16, .iaload, 1, (0, 0, 0), .null), (17, .ireturn, 1, (0, 0, 0), .null)]
/-- Glyphmill.tooWide -/
def gC_68 : List (Nat × gR) := [(0, .aload_n 0, 1, (0, 0, 0), .null), (1, .invokevirtual 173, 3, (62, 0, 476), .int 0), (4, .aload_n 0, 1, (0, 0, 0), .null), (5, .getfield 71, 3, (9, 7, 332), .null), (8, .invokevirtual 213, 3, (26, 0, 771), .int 0), (11, .ifCond .eq 7, 3, (18, 0, 0), .null), (14, .iconst (-1), 1, (0, 0, 0), .int (-1)), (15, .goto 22, 3, (37, 0, 0), .null), (18, .aload_n 0, 1, (0, 0, 0), .null), (19, .aload_n 0, 1, (0, 0, 0), .null), (20, .getfield 62, 3, (9, 6, 331), .null), (23, .getfield 210, 3, (4, 1, 217), .null), (26, .aload_n 0, 1, (0, 0, 0), .null), (27, .getfield 71, 3, (9, 7, 332), .null), (30, .getfield 217, 3, (3, 7, 252), .null), (33, .iaload, 1, (0, 0, 0), .null), (34, .invokevirtual 198, 3, (67, 1, 938), .int 0), (37, .ireturn, 1, (0, 0, 0), .null)]
/-- Glyphmill.excess -/
def gC_69 : List (Nat × gR) := [(0, .aload_n 0, 1, (0, 0, 0), .null), (1, .invokevirtual 173, 3, (62, 0, 476), .int 0), (4, .aload_n 0, 1, (0, 0, 0), .null), (5, .getfield 71, 3, (9, 7, 332), .null), (8, .invokevirtual 213, 3, (26, 0, 771), .int 0), (11, .ifCond .eq 7, 3, (18, 0, 0), .null), (14, .iconst 0, 1, (0, 0, 0), .int (0)), (15, .goto 27, 3, (42, 0, 0), .null), (18, .aload_n 0, 1, (0, 0, 0), .null), (19, .getfield 71, 3, (9, 7, 332), .null), (22, .aload_n 0, 1, (0, 0, 0), .null), (23, .getfield 71, 3, (9, 7, 332), .null), (26, .getfield 217, 3, (3, 7, 252), .null), (29, .aload_n 0, 1, (0, 0, 0), .null), (30, .getfield 71, 3, (9, 7, 332), .null), (33, .getfield 217, 3, (3, 7, 252), .null), (36, .iconst 1, 1, (0, 0, 0), .int (1)), (37, .iadd, 1, (0, 0, 0), .null), (38, .invokevirtual 220, 3, (29, 2, 987), .int 0), (41, .ineg, 1, (0, 0, 0), .null), (42, .ireturn, 1, (0, 0, 0), .null)]
/-- Glyphmill.isNeutral -/
def gC_70 : List (Nat × gR) := [(0, .iload_n 0, 1, (0, 0, 0), .null), (1, .bipush 32, 2, (0, 0, 0), .int (32)), (3, .if_icmp .eq 21, 3, (24, 0, 0), .null), (6, .iload_n 0, 1, (0, 0, 0), .null), (7, .bipush 45, 2, (0, 0, 0), .int (45)), (9, .if_icmp .eq 15, 3, (24, 0, 0), .null), (12, .iload_n 0, 1, (0, 0, 0), .null), (13, .bipush 44, 2, (0, 0, 0), .int (44)), (15, .if_icmp .eq 9, 3, (24, 0, 0), .null), (18, .iload_n 0, 1, (0, 0, 0), .null), (19, .bipush 46, 2, (0, 0, 0), .int (46)), (21, .if_icmp .ne 7, 3, (28, 0, 0), .null), (24, .iconst 1, 1, (0, 0, 0), .int (1)), (25, .goto 4, 3, (29, 0, 0), .null), (28, .iconst 0, 1, (0, 0, 0), .int (0)), (29, .ireturn, 1, (0, 0, 0), .null)]
/-- Glyphmill.isShown -/
def gC_71 : List (Nat × gR) := [(0, .iload_n 0, 1, (0, 0, 0), .null), (1, .invokestatic 145, 3, (22, 1, 844), .int 0), (4, .ifCond .ne 17, 3, (21, 0, 0), .null), (7, .iload_n 0, 1, (0, 0, 0), .null), (8, .invokestatic 357, 3, (19, 1, 845), .int 0), (11, .ifCond .ne 10, 3, (21, 0, 0), .null), (14, .iload_n 0, 1, (0, 0, 0), .null), (15, .invokestatic 360, 3, (70, 1, 846), .int 0), (18, .ifCond .eq 7, 3, (25, 0, 0), .null), (21, .iconst 1, 1, (0, 0, 0), .int (1)), (22, .goto 4, 3, (26, 0, 0), .null), (25, .iconst 0, 1, (0, 0, 0), .int (0)), (26, .ireturn, 1, (0, 0, 0), .null)]
/-- Glyphmill$Text.append -/
def gC_72 : List (Nat × gR) := [(0, .aload_n 0, 1, (0, 0, 0), .null), (1, .getfield 15, 3, (8, 1, 44), .null), (4, .bipush 50, 2, (0, 0, 0), .int (50)), (6, .if_icmp .ge 23, 3, (29, 0, 0), .null), (9, .aload_n 0, 1, (0, 0, 0), .null), (10, .getfield 9, 3, (8, 0, 41), .null), (13, .aload_n 0, 1, (0, 0, 0), .null), (14, .getfield 15, 3, (8, 1, 44), .null), (17, .iload_n 1, 1, (1, 0, 0), .null), (18, .castore, 1, (0, 0, 0), .null), (19, .aload_n 0, 1, (0, 0, 0), .null), (20, .dup, 1, (0, 0, 0), .null), (21, .getfield 15, 3, (8, 1, 44), .null), (24, .iconst 1, 1, (0, 0, 0), .int (1)), (25, .iadd, 1, (0, 0, 0), .null), (26, .putfield 15, 3, (8, 1, 44), .null), (29, .return_, 1, (0, 0, 0), .null)]
/-- Glyphmill$Text.takes -/
def gC_73 : List (Nat × gR) := [(0, .aload_n 0, 1, (0, 0, 0), .null), (1, .getfield 15, 3, (8, 1, 44), .null), (4, .bipush 50, 2, (0, 0, 0), .int (50)), (6, .if_icmp .lt 5, 3, (11, 0, 0), .null), (9, .iconst 0, 1, (0, 0, 0), .int (0)), (10, .ireturn, 1, (0, 0, 0), .null), (11, .iload_n 1, 1, (1, 0, 0), .null), (12, .invokestatic 19, 3, (3, 1, 378), .int 1), (15, .ifCond .ne 5, 3, (20, 0, 0), .null), (18, .iconst 1, 1, (0, 0, 0), .int (1)), (19, .ireturn, 1, (0, 0, 0), .null), (20, .iload_n 1, 1, (1, 0, 0), .null), (21, .bipush 125, 2, (0, 0, 0), .int (125)), (23, .if_icmp .ne 18, 3, (41, 0, 0), .null), (26, .aload_n 0, 1, (0, 0, 0), .null), (27, .invokevirtual 23, 3, (4, 0, 870), .int 0), (30, .ifCond .le 7, 3, (37, 0, 0), .null), (33, .iconst 1, 1, (0, 0, 0), .int (1)), (34, .goto 20, 3, (54, 0, 0), .null), (37, .iconst 0, 1, (0, 0, 0), .int (0)), (38, .goto 16, 3, (54, 0, 0), .null), (41, .aload_n 0, 1, (0, 0, 0), .null), (42, .invokevirtual 23, 3, (4, 0, 870), .int 0), (45, .iconst 5, 1, (0, 0, 0), .int (5)), (46, .if_icmp .ge 7, 3, (53, 0, 0), .null), (49, .iconst 1, 1, (0, 0, 0), .int (1)), (50, .goto 4, 3, (54, 0, 0), .null), (53, .iconst 0, 1, (0, 0, 0), .int (0)), (54, .ireturn, 1, (0, 0, 0), .null)]
/-- Glyphmill.add -/
def gC_74 : List (Nat × gR) := [(0, .iload_n 1, 1, (1, 0, 0), .null), (1, .invokestatic 95, 3, (71, 1, 841), .int 0), (4, .ifCond .ne 20, 3, (24, 0, 0), .null), (7, .iload_n 1, 1, (1, 0, 0), .null), (8, .invokestatic 99, 3, (3, 1, 849), .int 0), (11, .ifCond .ne 13, 3, (24, 0, 0), .null), (14, .new 102, 3, (0, 0, 850), .null), (17, .dup, 1, (0, 0, 0), .null), (18, .ldc 104, 2, (0, 0, 859), .null), (20, .invokespecial 106, 3, (0, 0, 0), .null), (23, .athrow, 1, (0, 0, 0), .null), (24, .aload_n 0, 1, (0, 0, 0), .null), (25, .getfield 10, 3, (9, 0, 325), .null), (28, .iload_n 1, 1, (1, 0, 0), .null), (29, .invokevirtual 109, 3, (73, 1, 866), .int 0), (32, .ifCond .ne 13, 3, (45, 0, 0), .null), (35, .new 113, 3, (1, 0, 772), .null), (38, .dup, 1, (0, 0, 0), .null), (39, .ldc 115, 2, (0, 0, 871), .null), (41, .invokespecial 117, 3, (0, 0, 0), .null), (44, .athrow, 1, (0, 0, 0), .null), (45, .aload_n 0, 1, (0, 0, 0), .null), (46, .getfield 10, 3, (9, 0, 325), .null), (49, .iload_n 1, 1, (1, 0, 0), .null), (50, .invokevirtual 118, 3, (72, 1, 872), .int 0), (53, .aload_n 0, 1, (0, 0, 0), .null), (54, .iconst 1, 1, (0, 0, 0), .int (1)), (55, .putfield 91, 3, (9, 11, 336), .null), (58, .aload_n 0, 1, (0, 0, 0), .null), (59, .getfield 10, 3, (9, 0, 325), .null), (62, .getfield 122, 3, (8, 1, 46), .null), (65, .ireturn, 1, (0, 0, 0), .null)]
/-- no method: the number is not used -/
def gC_75 : List (Nat × gR) := gC_2
/-- Glyphmill$Text.cutLast -/
def gC_76 : List (Nat × gR) := [(0, .aload_n 0, 1, (0, 0, 0), .null), (1, .getfield 15, 3, (8, 1, 44), .null), (4, .ifCond .le 13, 3, (17, 0, 0), .null), (7, .aload_n 0, 1, (0, 0, 0), .null), (8, .dup, 1, (0, 0, 0), .null), (9, .getfield 15, 3, (8, 1, 44), .null), (12, .iconst 1, 1, (0, 0, 0), .int (1)), (13, .isub, 1, (0, 0, 0), .null), (14, .putfield 15, 3, (8, 1, 44), .null), (17, .aload_n 0, 1, (0, 0, 0), .null), (18, .getfield 9, 3, (8, 0, 41), .null), (21, .aload_n 0, 1, (0, 0, 0), .null), (22, .getfield 15, 3, (8, 1, 44), .null), (25, .caload, 1, (0, 0, 0), .null), (26, .ireturn, 1, (0, 0, 0), .null)]
/-- Glyphmill.removeLast -/
def gC_77 : List (Nat × gR) := [(0, .aload_n 0, 1, (0, 0, 0), .null), (1, .getfield 10, 3, (9, 0, 325), .null), (4, .getfield 122, 3, (8, 1, 46), .null), (7, .ifCond .ne 13, 3, (20, 0, 0), .null), (10, .new 125, 3, (4, 0, 788), .null), (13, .dup, 1, (0, 0, 0), .null), (14, .ldc 127, 2, (0, 0, 883), .null), (16, .invokespecial 129, 3, (0, 0, 0), .null), (19, .athrow, 1, (0, 0, 0), .null), (20, .aload_n 0, 1, (0, 0, 0), .null), (21, .iconst 1, 1, (0, 0, 0), .int (1)), (22, .putfield 91, 3, (9, 11, 336), .null), (25, .aload_n 0, 1, (0, 0, 0), .null), (26, .getfield 10, 3, (9, 0, 325), .null), (29, .invokevirtual 130, 3, (76, 0, 884), .int 0), (32, .ireturn, 1, (0, 0, 0), .null)]
/-- no method: the number is not used -/
def gC_78 : List (Nat × gR) := gC_2
/-- Glyphmill$Font.changeWidth -/
def gC_79 : List (Nat × gR) := [(0, .iload_n 1, 1, (1, 0, 0), .null), (1, .sipush 128, 3, (0, 0, 0), .int (128)), (4, .if_icmp .lt 5, 3, (9, 0, 0), .null), (7, .iconst 0, 1, (0, 0, 0), .int (0)), (8, .ireturn, 1, (0, 0, 0), .null), (9, .aload_n 0, 1, (0, 0, 0), .null), (10, .getfield 9, 3, (0, 0, 62), .null), (13, .iload_n 1, 1, (1, 0, 0), .null), (14, .iaload, 1, (0, 0, 0), .null), (15, .istore_n 3, 1, (3, 0, 0), .null), (16, .aload_n 0, 1, (0, 0, 0), .null), (17, .getfield 9, 3, (0, 0, 62), .null), (20, .iload_n 1, 1, (1, 0, 0), .null), (21, .iload_n 2, 1, (2, 0, 0), .null), (22, .iastore, 1, (0, 0, 0), .null), (23, .iload_n 3, 1, (3, 0, 0), .null), (24, .ireturn, 1, (0, 0, 0), .null)]
/-- Glyphmill.setWidth -/
def gC_80 : List (Nat × gR) := [(0, .iload_n 1, 1, (1, 0, 0), .null), (1, .invokestatic 95, 3, (71, 1, 841), .int 0), (4, .ifCond .eq 14, 3, (18, 0, 0), .null), (7, .iload_n 2, 1, (2, 0, 0), .null), (8, .iconst 1, 1, (0, 0, 0), .int (1)), (9, .if_icmp .lt 9, 3, (18, 0, 0), .null), (12, .iload_n 2, 1, (2, 0, 0), .null), (13, .bipush 20, 2, (0, 0, 0), .int (20)), (15, .if_icmp .le 13, 3, (28, 0, 0), .null), (18, .new 102, 3, (0, 0, 850), .null), (21, .dup, 1, (0, 0, 0), .null), (22, .ldc 134, 2, (0, 0, 895), .null), (24, .invokespecial 106, 3, (0, 0, 0), .null), (27, .athrow, 1, (0, 0, 0), .null), (28, .aload_n 0, 1, (0, 0, 0), .null), (29, .iconst 1, 1, (0, 0, 0), .int (1)), (30, .putfield 91, 3, (9, 11, 336), .null), (33, .aload_n 0, 1, (0, 0, 0), .null), (34, .getfield 19, 3, (9, 1, 326), .null), (37, .iload_n 1, 1, (1, 0, 0), .null), (38, .iload_n 2, 1, (2, 0, 0), .null), (39, .invokevirtual 136, 3, (79, 2, 896), .int 0), (42, .ireturn, 1, (0, 0, 0), .null)]
/-- no method: the number is not used -/
def gC_81 : List (Nat × gR) := gC_2
/-- Glyphmill.setLine -/
def gC_82 : List (Nat × gR) := [(0, .iload_n 1, 1, (1, 0, 0), .null), (1, .bipush 10, 2, (0, 0, 0), .int (10)), (3, .if_icmp .lt 10, 3, (13, 0, 0), .null), (6, .iload_n 1, 1, (1, 0, 0), .null), (7, .sipush 200, 3, (0, 0, 0), .int (200)), (10, .if_icmp .le 13, 3, (23, 0, 0), .null), (13, .new 102, 3, (0, 0, 850), .null), (16, .dup, 1, (0, 0, 0), .null), (17, .ldc 140, 2, (0, 0, 907), .null), (19, .invokespecial 106, 3, (0, 0, 0), .null), (22, .athrow, 1, (0, 0, 0), .null), (23, .aload_n 0, 1, (0, 0, 0), .null), (24, .getfield 84, 3, (9, 9, 334), .null), (27, .istore_n 2, 1, (2, 0, 0), .null), (28, .aload_n 0, 1, (0, 0, 0), .null), (29, .iload_n 1, 1, (1, 0, 0), .null), (30, .putfield 84, 3, (9, 9, 334), .null), (33, .aload_n 0, 1, (0, 0, 0), .null), (34, .iconst 1, 1, (0, 0, 0), .int (1)), (35, .putfield 91, 3, (9, 11, 336), .null), (38, .iload_n 2, 1, (2, 0, 0), .null), (39, .ireturn, 1, (0, 0, 0), .null)]
/-- no method: the number is not used -/
def gC_83 : List (Nat × gR) := gC_2
/-- Glyphmill$Font.addRule -/
def gC_84 : List (Nat × gR) := [(0, .aload_n 0, 1, (0, 0, 0), .null), (1, .getfield 25, 3, (0, 4, 66), .null), (4, .bipush 20, 2, (0, 0, 0), .int (20)), (6, .if_icmp .lt 5, 3, (11, 0, 0), .null), (9, .iconst (-1), 1, (0, 0, 0), .int (-1)), (10, .ireturn, 1, (0, 0, 0), .null), (11, .aload_n 0, 1, (0, 0, 0), .null), (12, .getfield 15, 3, (0, 1, 63), .null), (15, .aload_n 0, 1, (0, 0, 0), .null), (16, .getfield 25, 3, (0, 4, 66), .null), (19, .iload_n 1, 1, (1, 0, 0), .null), (20, .iastore, 1, (0, 0, 0), .null), (21, .aload_n 0, 1, (0, 0, 0), .null), (22, .getfield 18, 3, (0, 2, 64), .null), (25, .aload_n 0, 1, (0, 0, 0), .null), (26, .getfield 25, 3, (0, 4, 66), .null), (29, .iload_n 2, 1, (2, 0, 0), .null), (30, .castore, 1, (0, 0, 0), .null), (31, .aload_n 0, 1, (0, 0, 0), .null), (32, .getfield 22, 3, (0, 3, 65), .null), (35, .aload_n 0, 1, (0, 0, 0), .null), (36, .getfield 25, 3, (0, 4, 66), .null), (39, .iload_n 3, 1, (3, 0, 0), .null), (40, .iastore, 1, (0, 0, 0), .null), (41, .aload_n 0, 1, (0, 0, 0), .null), (42, .dup, 1, (0, 0, 0), .null), (43, .getfield 25, 3, (0, 4, 66), .null), (46, .iconst 1, 1, (0, 0, 0), .int (1)), (47, .iadd, 1, (0, 0, 0), .null), (48, .putfield 25, 3, (0, 4, 66), .null), (51, .sipush 200, 3, (0, 0, 0), .int (200)), (54, .aload_n 0, 1, (0, 0, 0), .null), (55, .getfield 25, 3, (0, 4, 66), .null), (58, .iadd, 1, (0, 0, 0), .null), (59, .iconst 1, 1, (0, 0, 0), .int (1)), (60, .isub, 1, (0, 0, 0), .null), (61, .ireturn, 1, (0, 0, 0), .null)]
/-- Glyphmill$Font.canBegin -/
def gC_85 : List (Nat × gR) := [(0, .iload_n 1, 1, (1, 0, 0), .null), (1, .invokestatic 35, 3, (22, 1, 919), .int 1), (4, .ifCond .ne 11, 3, (15, 0, 0), .null), (7, .aload_n 0, 1, (0, 0, 0), .null), (8, .iload_n 1, 1, (1, 0, 0), .null), (9, .invokevirtual 39, 3, (8, 1, 575), .int 0), (12, .ifCond .eq 7, 3, (19, 0, 0), .null), (15, .iconst 1, 1, (0, 0, 0), .int (1)), (16, .goto 4, 3, (20, 0, 0), .null), (19, .iconst 0, 1, (0, 0, 0), .int (0)), (20, .ireturn, 1, (0, 0, 0), .null)]
/-- Glyphmill.addLigature -/
def gC_86 : List (Nat × gR) := [(0, .aload_n 0, 1, (0, 0, 0), .null), (1, .getfield 19, 3, (9, 1, 326), .null), (4, .iload_n 1, 1, (1, 0, 0), .null), (5, .invokevirtual 142, 3, (85, 1, 915), .int 0), (8, .ifCond .eq 21, 3, (29, 0, 0), .null), (11, .iload_n 2, 1, (2, 0, 0), .null), (12, .invokestatic 145, 3, (22, 1, 844), .int 0), (15, .ifCond .eq 14, 3, (29, 0, 0), .null), (18, .iload_n 3, 1, (3, 0, 0), .null), (19, .iconst 1, 1, (0, 0, 0), .int (1)), (20, .if_icmp .lt 9, 3, (29, 0, 0), .null), (23, .iload_n 3, 1, (3, 0, 0), .null), (24, .bipush 40, 2, (0, 0, 0), .int (40)), (26, .if_icmp .le 13, 3, (39, 0, 0), .null), (29, .new 102, 3, (0, 0, 850), .null), (32, .dup, 1, (0, 0, 0), .null), (33, .ldc 148, 2, (0, 0, 920), .null), (35, .invokespecial 106, 3, (0, 0, 0), .null), (38, .athrow, 1, (0, 0, 0), .null), (39, .aload_n 0, 1, (0, 0, 0), .null), (40, .getfield 19, 3, (9, 1, 326), .null), (43, .getfield 150, 3, (0, 4, 67), .null), (46, .bipush 20, 2, (0, 0, 0), .int (20)), (48, .if_icmp .ge 16, 3, (64, 0, 0), .null), (51, .aload_n 0, 1, (0, 0, 0), .null), (52, .getfield 19, 3, (9, 1, 326), .null), (55, .iload_n 1, 1, (1, 0, 0), .null), (56, .iload_n 2, 1, (2, 0, 0), .null), (57, .invokevirtual 151, 3, (6, 2, 921), .int 0), (60, .iconst (-1), 1, (0, 0, 0), .int (-1)), (61, .if_icmp .eq 13, 3, (74, 0, 0), .null), (64, .new 113, 3, (1, 0, 772), .null), (67, .dup, 1, (0, 0, 0), .null), (68, .ldc 155, 2, (0, 0, 922), .null), (70, .invokespecial 117, 3, (0, 0, 0), .null), (73, .athrow, 1, (0, 0, 0), .null), (74, .aload_n 0, 1, (0, 0, 0), .null), (75, .iconst 1, 1, (0, 0, 0), .int (1)), (76, .putfield 91, 3, (9, 11, 336), .null), (79, .aload_n 0, 1, (0, 0, 0), .null), (80, .getfield 19, 3, (9, 1, 326), .null), (83, .iload_n 1, 1, (1, 0, 0), .null), (84, .iload_n 2, 1, (2, 0, 0), .null), (85, .iload_n 3, 1, (3, 0, 0), .null), (86, .invokevirtual 157, 3, (84, 3, 923), .int 0), (89, .ireturn, 1, (0, 0, 0), .null)]
/-- no method: the number is not used -/
def gC_87 : List (Nat × gR) := gC_2
/-- Glyphmill.needIndex -/
def gC_88 : List (Nat × gR) := [(0, .iload_n 1, 1, (1, 0, 0), .null), (1, .ifCond .lt 14, 3, (15, 0, 0), .null), (4, .iload_n 1, 1, (1, 0, 0), .null), (5, .aload_n 0, 1, (0, 0, 0), .null), (6, .getfield 10, 3, (9, 0, 325), .null), (9, .getfield 122, 3, (8, 1, 46), .null), (12, .if_icmp .lt 14, 3, (26, 0, 0), .null), (15, .new 205, 3, (2, 0, 738), .null), (18, .dup, 1, (0, 0, 0), .null), (19, .ldc_w 321, 3, (0, 0, 747), .null), (22, .invokespecial 209, 3, (0, 0, 0), .null), (25, .athrow, 1, (0, 0, 0), .null), (26, .return_, 1, (0, 0, 0), .null)]
/-- Glyphmill.charAt -/
def gC_89 : List (Nat × gR) := [(0, .aload_n 0, 1, (0, 0, 0), .null), (1, .iload_n 1, 1, (1, 0, 0), .null), (2, .invokevirtual 161, 3, (88, 1, 734), .int 0), (5, .aload_n 0, 1, (0, 0, 0), .null), (6, .getfield 10, 3, (9, 0, 325), .null), (9, .getfield 165, 3, (8, 0, 43), .null), (12, .iload_n 1, 1, (1, 0, 0), .null), (13, .caload, 1, (0, 0, 0), .null), (14, .ireturn, 1, (0, 0, 0), .null)]
/-- no method: the number is not used -/
def gC_90 : List (Nat × gR) := gC_2
/-- Glyphmill.slotOf -/
def gC_91 : List (Nat × gR) := [(0, .aload_n 0, 1, (0, 0, 0), .null), (1, .iload_n 1, 1, (1, 0, 0), .null), (2, .invokevirtual 161, 3, (88, 1, 734), .int 0), (5, .aload_n 0, 1, (0, 0, 0), .null), (6, .getfield 26, 3, (9, 2, 327), .null), (9, .getfield 323, 3, (7, 0, 87), .null), (12, .iload_n 1, 1, (1, 0, 0), .null), (13, .iaload, 1, (0, 0, 0), .null), (14, .istore_n 2, 1, (2, 0, 0), .null), (15, .iload_n 2, 1, (2, 0, 0), .null), (16, .iconst (-1), 1, (0, 0, 0), .int (-1)), (17, .if_icmp .ne 14, 3, (31, 0, 0), .null), (20, .new 326, 3, (3, 0, 751), .null), (23, .dup, 1, (0, 0, 0), .null), (24, .ldc_w 328, 3, (0, 0, 760), .null), (27, .invokespecial 330, 3, (0, 0, 0), .null), (30, .athrow, 1, (0, 0, 0), .null), (31, .iload_n 2, 1, (2, 0, 0), .null), (32, .ireturn, 1, (0, 0, 0), .null)]
/-- Glyphmill.embeddingOf -/
def gC_92 : List (Nat × gR) := [(0, .aload_n 0, 1, (0, 0, 0), .null), (1, .invokevirtual 173, 3, (62, 0, 476), .int 0), (4, .aload_n 0, 1, (0, 0, 0), .null), (5, .getfield 26, 3, (9, 2, 327), .null), (8, .getfield 176, 3, (7, 3, 96), .null), (11, .aload_n 0, 1, (0, 0, 0), .null), (12, .iload_n 1, 1, (1, 0, 0), .null), (13, .invokevirtual 180, 3, (91, 1, 730), .int 0), (16, .iaload, 1, (0, 0, 0), .null), (17, .ireturn, 1, (0, 0, 0), .null)]
/-- no method: the number is not used -/
def gC_93 : List (Nat × gR) := gC_2
/-- Glyphmill.levelOf -/
def gC_94 : List (Nat × gR) := [(0, .aload_n 0, 1, (0, 0, 0), .null), (1, .invokevirtual 173, 3, (62, 0, 476), .int 0), (4, .aload_n 0, 1, (0, 0, 0), .null), (5, .getfield 35, 3, (9, 3, 328), .null), (8, .getfield 184, 3, (2, 2, 126), .null), (11, .aload_n 0, 1, (0, 0, 0), .null), (12, .iload_n 1, 1, (1, 0, 0), .null), (13, .invokevirtual 180, 3, (91, 1, 730), .int 0), (16, .iaload, 1, (0, 0, 0), .null), (17, .ireturn, 1, (0, 0, 0), .null)]
/-- no method: the number is not used -/
def gC_95 : List (Nat × gR) := gC_2
/-- no method: the number is not used -/
def gC_96 : List (Nat × gR) := gC_2
/-- no method: the number is not used -/
def gC_97 : List (Nat × gR) := gC_2
/-- Glyphmill.runOf -/
def gC_98 : List (Nat × gR) := [(0, .aload_n 0, 1, (0, 0, 0), .null), (1, .invokevirtual 173, 3, (62, 0, 476), .int 0), (4, .aload_n 0, 1, (0, 0, 0), .null), (5, .getfield 44, 3, (9, 4, 329), .null), (8, .getfield 190, 3, (6, 3, 145), .null), (11, .aload_n 0, 1, (0, 0, 0), .null), (12, .iload_n 1, 1, (1, 0, 0), .null), (13, .invokevirtual 180, 3, (91, 1, 730), .int 0), (16, .iaload, 1, (0, 0, 0), .null), (17, .ireturn, 1, (0, 0, 0), .null)]
/-- no method: the number is not used -/
def gC_99 : List (Nat × gR) := gC_2
/-- Glyphmill.glyphAround -/
def gC_100 : List (Nat × gR) := [(0, .aload_n 0, 1, (0, 0, 0), .null), (1, .getfield 53, 3, (9, 5, 330), .null), (4, .getfield 331, 3, (1, 3, 169), .null), (7, .aload_n 0, 1, (0, 0, 0), .null), (8, .iload_n 1, 1, (1, 0, 0), .null), (9, .invokevirtual 180, 3, (91, 1, 730), .int 0), (12, .iaload, 1, (0, 0, 0), .null), (13, .ireturn, 1, (0, 0, 0), .null)]
/-- Glyphmill.glyphOf -/
def gC_101 : List (Nat × gR) := [(0, .aload_n 0, 1, (0, 0, 0), .null), (1, .invokevirtual 173, 3, (62, 0, 476), .int 0), (4, .aload_n 0, 1, (0, 0, 0), .null), (5, .getfield 53, 3, (9, 5, 330), .null), (8, .getfield 194, 3, (1, 4, 171), .null), (11, .aload_n 0, 1, (0, 0, 0), .null), (12, .iload_n 1, 1, (1, 0, 0), .null), (13, .invokevirtual 195, 3, (100, 1, 726), .int 0), (16, .iaload, 1, (0, 0, 0), .null), (17, .ireturn, 1, (0, 0, 0), .null)]
/-- no method: the number is not used -/
def gC_102 : List (Nat × gR) := gC_2
/-- Glyphmill.glyphStart -/
def gC_103 : List (Nat × gR) := [(0, .aload_n 0, 1, (0, 0, 0), .null), (1, .invokevirtual 173, 3, (62, 0, 476), .int 0), (4, .aload_n 0, 1, (0, 0, 0), .null), (5, .aload_n 0, 1, (0, 0, 0), .null), (6, .iload_n 1, 1, (1, 0, 0), .null), (7, .invokevirtual 195, 3, (100, 1, 726), .int 0), (10, .invokevirtual 198, 3, (67, 1, 938), .int 0), (13, .ireturn, 1, (0, 0, 0), .null)]
/-- no method: the number is not used -/
def gC_104 : List (Nat × gR) := gC_2
/-- no method: the number is not used -/
def gC_105 : List (Nat × gR) := gC_2
/-- no method: the number is not used -/
def gC_106 : List (Nat × gR) := gC_2
/-- Glyphmill.needLines -/
def gC_107 : List (Nat × gR) := [(0, .aload_n 0, 1, (0, 0, 0), .null), (1, .getfield 71, 3, (9, 7, 332), .null), (4, .invokevirtual 213, 3, (26, 0, 771), .int 0), (7, .ifCond .ne 14, 3, (21, 0, 0), .null), (10, .new 113, 3, (1, 0, 772), .null), (13, .dup, 1, (0, 0, 0), .null), (14, .ldc_w 338, 3, (0, 0, 781), .null), (17, .invokespecial 117, 3, (0, 0, 0), .null), (20, .athrow, 1, (0, 0, 0), .null), (21, .return_, 1, (0, 0, 0), .null)]
/-- Glyphmill.lines -/
def gC_108 : List (Nat × gR) := [(0, .aload_n 0, 1, (0, 0, 0), .null), (1, .invokevirtual 173, 3, (62, 0, 476), .int 0), (4, .aload_n 0, 1, (0, 0, 0), .null), (5, .invokevirtual 224, 3, (107, 0, 767), .int 0), (8, .aload_n 0, 1, (0, 0, 0), .null), (9, .getfield 71, 3, (9, 7, 332), .null), (12, .getfield 227, 3, (3, 8, 255), .null), (15, .ireturn, 1, (0, 0, 0), .null)]
/-- no method: the number is not used -/
def gC_109 : List (Nat × gR) := gC_2
/-- Glyphmill$Lines.countFirstFit -/
def gC_110 : List (Nat × gR) := [(0, .iconst 0, 1, (0, 0, 0), .int (0)), (1, .istore_n 1, 1, (1, 0, 0), .null), (2, .iconst 0, 1, (0, 0, 0), .int (0)), (3, .istore_n 2, 1, (2, 0, 0), .null), (4, .iconst 1, 1, (0, 0, 0), .int (1)), (5, .istore_n 3, 1, (3, 0, 0), .null), (6, .iload_n 3, 1, (3, 0, 0), .null), (7, .aload_n 0, 1, (0, 0, 0), .null), (8, .getfield 49, 3, (3, 0, 242), .null), (11, .getfield 63, 3, (4, 3, 221), .null), (14, .if_icmp .gt 39, 3, (53, 0, 0), .null), (17, .aload_n 0, 1, (0, 0, 0), .null), (18, .getfield 49, 3, (3, 0, 242), .null), (21, .getfield 53, 3, (4, 4, 224), .null), (24, .ifCond .ne 29, 3, (53, 0, 0), .null), (27, .iload_n 1, 1, (1, 0, 0), .null), (28, .ifCond .eq 12, 3, (40, 0, 0), .null), (31, .aload_n 0, 1, (0, 0, 0), .null), (32, .iload_n 2, 1, (2, 0, 0), .null), (33, .iload_n 3, 1, (3, 0, 0), .null), (34, .invokevirtual 72, 3, (29, 2, 608), .int 0), (37, .ifCond .ge 10, 3, (47, 0, 0), .null), (40, .iload_n 3, 1, (3, 0, 0), .null), (41, .iconst 1, 1, (0, 0, 0), .int (1)), (42, .isub, 1, (0, 0, 0), .null), (43, .istore_n 2, 1, (2, 0, 0), .null), (44, .iinc 1 1, 3, (1, 0, 0), .int (1)), (47, .iinc 3 1, 3, (3, 0, 0), .int (1)), (50, .goto (-44), 3, (6, 0, 0), .null), (53, .iload_n 1, 1, (1, 0, 0), .null), (54, .ireturn, 1, (0, 0, 0), .null)]
/-- Glyphmill.linesByFirstFit -/
def gC_111 : List (Nat × gR) := [(0, .aload_n 0, 1, (0, 0, 0), .null), (1, .invokevirtual 173, 3, (62, 0, 476), .int 0), (4, .aload_n 0, 1, (0, 0, 0), .null), (5, .invokevirtual 224, 3, (107, 0, 767), .int 0), (8, .aload_n 0, 1, (0, 0, 0), .null), (9, .getfield 71, 3, (9, 7, 332), .null), (12, .invokevirtual 228, 3, (110, 0, 1000), .int 0), (15, .ireturn, 1, (0, 0, 0), .null)]
/-- no method: the number is not used -/
def gC_112 : List (Nat × gR) := gC_2
/-- Glyphmill.needLine -/
def gC_113 : List (Nat × gR) := [(0, .aload_n 0, 1, (0, 0, 0), .null), (1, .invokevirtual 224, 3, (107, 0, 767), .int 0), (4, .iload_n 1, 1, (1, 0, 0), .null), (5, .ifCond .lt 14, 3, (19, 0, 0), .null), (8, .iload_n 1, 1, (1, 0, 0), .null), (9, .aload_n 0, 1, (0, 0, 0), .null), (10, .getfield 71, 3, (9, 7, 332), .null), (13, .getfield 227, 3, (3, 8, 255), .null), (16, .if_icmp .lt 14, 3, (30, 0, 0), .null), (19, .new 205, 3, (2, 0, 738), .null), (22, .dup, 1, (0, 0, 0), .null), (23, .ldc_w 340, 3, (0, 0, 1062), .null), (26, .invokespecial 209, 3, (0, 0, 0), .null), (29, .athrow, 1, (0, 0, 0), .null), (30, .return_, 1, (0, 0, 0), .null)]
/-- Glyphmill.firstOf -/
def gC_114 : List (Nat × gR) := [(0, .aload_n 0, 1, (0, 0, 0), .null), (1, .invokevirtual 173, 3, (62, 0, 476), .int 0), (4, .aload_n 0, 1, (0, 0, 0), .null), (5, .iload_n 1, 1, (1, 0, 0), .null), (6, .invokevirtual 231, 3, (113, 1, 1058), .int 0), (9, .aload_n 0, 1, (0, 0, 0), .null), (10, .aload_n 0, 1, (0, 0, 0), .null), (11, .getfield 80, 3, (9, 8, 333), .null), (14, .iload_n 1, 1, (1, 0, 0), .null), (15, .invokevirtual 234, 3, (51, 1, 1063), .int 0), (18, .invokevirtual 198, 3, (67, 1, 938), .int 0), (21, .ireturn, 1, (0, 0, 0), .null)]
/-- no method: the number is not used -/
def gC_115 : List (Nat × gR) := gC_2
/-- Glyphmill.glyphInLines -/
def gC_116 : List (Nat × gR) := [(0, .aload_n 0, 1, (0, 0, 0), .null), (1, .iload_n 1, 1, (1, 0, 0), .null), (2, .invokevirtual 195, 3, (100, 1, 726), .int 0), (5, .istore_n 2, 1, (2, 0, 0), .null), (6, .aload_n 0, 1, (0, 0, 0), .null), (7, .invokevirtual 224, 3, (107, 0, 767), .int 0), (10, .aload_n 0, 1, (0, 0, 0), .null), (11, .getfield 71, 3, (9, 7, 332), .null), (14, .getfield 227, 3, (3, 8, 255), .null), (17, .ifCond .ne 14, 3, (31, 0, 0), .null), (20, .new 125, 3, (4, 0, 788), .null), (23, .dup, 1, (0, 0, 0), .null), (24, .ldc_w 344, 3, (0, 0, 797), .null), (27, .invokespecial 129, 3, (0, 0, 0), .null), (30, .athrow, 1, (0, 0, 0), .null), (31, .iload_n 2, 1, (2, 0, 0), .null), (32, .ireturn, 1, (0, 0, 0), .null)]
/-- Glyphmill.lineOf -/
def gC_117 : List (Nat × gR) := [(0, .aload_n 0, 1, (0, 0, 0), .null), (1, .invokevirtual 173, 3, (62, 0, 476), .int 0), (4, .aload_n 0, 1, (0, 0, 0), .null), (5, .getfield 80, 3, (9, 8, 333), .null), (8, .getfield 237, 3, (5, 3, 299), .null), (11, .aload_n 0, 1, (0, 0, 0), .null), (12, .iload_n 1, 1, (1, 0, 0), .null), (13, .invokevirtual 240, 3, (116, 1, 722), .int 0), (16, .iaload, 1, (0, 0, 0), .null), (17, .ireturn, 1, (0, 0, 0), .null)]
/-- no method: the number is not used -/
def gC_118 : List (Nat × gR) := gC_2
/-- Glyphmill.widthOf -/
def gC_119 : List (Nat × gR) := [(0, .aload_n 0, 1, (0, 0, 0), .null), (1, .invokevirtual 173, 3, (62, 0, 476), .int 0), (4, .aload_n 0, 1, (0, 0, 0), .null), (5, .iload_n 1, 1, (1, 0, 0), .null), (6, .invokevirtual 231, 3, (113, 1, 1058), .int 0), (9, .aload_n 0, 1, (0, 0, 0), .null), (10, .getfield 62, 3, (9, 6, 331), .null), (13, .aload_n 0, 1, (0, 0, 0), .null), (14, .getfield 71, 3, (9, 7, 332), .null), (17, .getfield 243, 3, (3, 5, 249), .null), (20, .iload_n 1, 1, (1, 0, 0), .null), (21, .iaload, 1, (0, 0, 0), .null), (22, .aload_n 0, 1, (0, 0, 0), .null), (23, .getfield 71, 3, (9, 7, 332), .null), (26, .getfield 243, 3, (3, 5, 249), .null), (29, .iload_n 1, 1, (1, 0, 0), .null), (30, .iconst 1, 1, (0, 0, 0), .int (1)), (31, .iadd, 1, (0, 0, 0), .null), (32, .iaload, 1, (0, 0, 0), .null), (33, .invokevirtual 244, 3, (28, 2, 1068), .int 0), (36, .ireturn, 1, (0, 0, 0), .null)]
/-- no method: the number is not used -/
def gC_120 : List (Nat × gR) := gC_2
/-- Glyphmill.badnessOf -/
def gC_121 : List (Nat × gR) := [(0, .aload_n 0, 1, (0, 0, 0), .null), (1, .invokevirtual 173, 3, (62, 0, 476), .int 0), (4, .aload_n 0, 1, (0, 0, 0), .null), (5, .iload_n 1, 1, (1, 0, 0), .null), (6, .invokevirtual 231, 3, (113, 1, 1058), .int 0), (9, .aload_n 0, 1, (0, 0, 0), .null), (10, .getfield 71, 3, (9, 7, 332), .null), (13, .aload_n 0, 1, (0, 0, 0), .null), (14, .getfield 71, 3, (9, 7, 332), .null), (17, .getfield 243, 3, (3, 5, 249), .null), (20, .iload_n 1, 1, (1, 0, 0), .null), (21, .iaload, 1, (0, 0, 0), .null), (22, .aload_n 0, 1, (0, 0, 0), .null), (23, .getfield 71, 3, (9, 7, 332), .null), (26, .getfield 243, 3, (3, 5, 249), .null), (29, .iload_n 1, 1, (1, 0, 0), .null), (30, .iconst 1, 1, (0, 0, 0), .int (1)), (31, .iadd, 1, (0, 0, 0), .null), (32, .iaload, 1, (0, 0, 0), .null), (33, .invokevirtual 247, 3, (31, 2, 1073), .int 0), (36, .ireturn, 1, (0, 0, 0), .null)]
/-- no method: the number is not used -/
def gC_122 : List (Nat × gR) := gC_2
/-- Glyphmill.demerits -/
def gC_123 : List (Nat × gR) := [(0, .aload_n 0, 1, (0, 0, 0), .null), (1, .invokevirtual 173, 3, (62, 0, 476), .int 0), (4, .aload_n 0, 1, (0, 0, 0), .null), (5, .invokevirtual 224, 3, (107, 0, 767), .int 0), (8, .aload_n 0, 1, (0, 0, 0), .null), (9, .getfield 71, 3, (9, 7, 332), .null), (12, .getfield 250, 3, (3, 9, 257), .null), (15, .lreturn, 1, (0, 0, 0), .null)]
/-- no method: the number is not used -/
def gC_124 : List (Nat × gR) := gC_2
/-- Glyphmill.needFewBreaks -/
def gC_125 : List (Nat × gR) := [(0, .aload_n 0, 1, (0, 0, 0), .null), (1, .getfield 62, 3, (9, 6, 331), .null), (4, .invokevirtual 202, 3, (65, 0, 973), .int 0), (7, .bipush 9, 2, (0, 0, 0), .int (9)), (9, .if_icmp .le 14, 3, (23, 0, 0), .null), (12, .new 326, 3, (3, 0, 751), .null), (15, .dup, 1, (0, 0, 0), .null), (16, .ldc_w 347, 3, (0, 0, 1012), .null), (19, .invokespecial 330, 3, (0, 0, 0), .null), (22, .athrow, 1, (0, 0, 0), .null), (23, .return_, 1, (0, 0, 0), .null)]
/-- java/lang/Integer.bitCount -/
def gC_126 : List (Nat × gR) := [(0, .iload_n 0, 1, (0, 0, 0), .null), (1, .iload_n 0, 1, (0, 0, 0), .null), (2, .iconst 1, 1, (0, 0, 0), .int (1)), (3, .iushr, 1, (0, 0, 0), .null), (4, .ldc_w 265, 3, (0, 0, 1025), .int (1431655765)), (7, .iand, 1, (0, 0, 0), .null), (8, .isub, 1, (0, 0, 0), .null), (9, .istore_n 0, 1, (0, 0, 0), .null), (10, .iload_n 0, 1, (0, 0, 0), .null), (11, .ldc_w 266, 3, (0, 0, 1026), .int (858993459)), (14, .iand, 1, (0, 0, 0), .null), (15, .iload_n 0, 1, (0, 0, 0), .null), (16, .iconst 2, 1, (0, 0, 0), .int (2)), (17, .iushr, 1, (0, 0, 0), .null), (18, .ldc_w 266, 3, (0, 0, 1026), .int (858993459)), (21, .iand, 1, (0, 0, 0), .null), (22, .iadd, 1, (0, 0, 0), .null), (23, .istore_n 0, 1, (0, 0, 0), .null), (24, .iload_n 0, 1, (0, 0, 0), .null), (25, .iload_n 0, 1, (0, 0, 0), .null), (26, .iconst 4, 1, (0, 0, 0), .int (4)), (27, .iushr, 1, (0, 0, 0), .null), (28, .iadd, 1, (0, 0, 0), .null), (29, .ldc_w 267, 3, (0, 0, 1027), .int (252645135)), (32, .iand, 1, (0, 0, 0), .null), (33, .istore_n 0, 1, (0, 0, 0), .null), (34, .iload_n 0, 1, (0, 0, 0), .null), (35, .iload_n 0, 1, (0, 0, 0), .null), (36, .bipush 8, 2, (0, 0, 0), .int (8)), (38, .iushr, 1, (0, 0, 0), .null), (39, .iadd, 1, (0, 0, 0), .null), (40, .istore_n 0, 1, (0, 0, 0), .null), (41, .iload_n 0, 1, (0, 0, 0), .null), (42, .iload_n 0, 1, (0, 0, 0), .null), (43, .bipush 16, 2, (0, 0, 0), .int (16)), (45, .iushr, 1, (0, 0, 0), .null), (46, .iadd, 1, (0, 0, 0), .null), (47, .istore_n 0, 1, (0, 0, 0), .null), (48, .iload_n 0, 1, (0, 0, 0), .null), (49, .bipush 63, 2, (0, 0, 0), .int (63)), (51, .iand, 1, (0, 0, 0), .null), (52, .ireturn, 1, (0, 0, 0), .null)]
/-- Glyphmill$Lines.trySet -/
def gC_127 : List (Nat × gR) := [(0, .lconst 0, 1, (0, 0, 0), .long 0), (1, .lstore_n 2, 1, (2, 0, 0), .null), (2, .iconst 0, 1, (0, 0, 0), .int (0)), (3, .istore 4, 2, (4, 0, 0), .null), (5, .iconst 1, 1, (0, 0, 0), .int (1)), (6, .istore 5, 2, (5, 0, 0), .null), (8, .iload 5, 2, (5, 0, 0), .null), (10, .aload_n 0, 1, (0, 0, 0), .null), (11, .getfield 49, 3, (3, 0, 242), .null), (14, .getfield 63, 3, (4, 3, 221), .null), (17, .if_icmp .gt 60, 3, (77, 0, 0), .null), (20, .iload 5, 2, (5, 0, 0), .null), (22, .aload_n 0, 1, (0, 0, 0), .null), (23, .getfield 49, 3, (3, 0, 242), .null), (26, .getfield 63, 3, (4, 3, 221), .null), (29, .if_icmp .eq 15, 3, (44, 0, 0), .null), (32, .iload_n 1, 1, (1, 0, 0), .null), (33, .iload 5, 2, (5, 0, 0), .null), (35, .iconst 1, 1, (0, 0, 0), .int (1)), (36, .isub, 1, (0, 0, 0), .null), (37, .ishr, 1, (0, 0, 0), .null), (38, .iconst 1, 1, (0, 0, 0), .int (1)), (39, .iand, 1, (0, 0, 0), .null), (40, .iconst 1, 1, (0, 0, 0), .int (1)), (41, .if_icmp .ne 30, 3, (71, 0, 0), .null), (44, .aload_n 0, 1, (0, 0, 0), .null), (45, .iload 4, 2, (4, 0, 0), .null), (47, .iload 5, 2, (5, 0, 0), .null), (49, .invokevirtual 64, 3, (37, 2, 604), .int 0), (52, .ifCond .ne 4, 3, (56, 0, 0), .null), (55, .return_, 1, (0, 0, 0), .null), (56, .lload_n 2, 1, (2, 0, 0), .null), (57, .aload_n 0, 1, (0, 0, 0), .null), (58, .iload 4, 2, (4, 0, 0), .null), (60, .iload 5, 2, (5, 0, 0), .null), (62, .invokevirtual 133, 3, (34, 2, 645), .int 0), (65, .ladd, 1, (0, 0, 0), .null), (66, .lstore_n 2, 1, (2, 0, 0), .null), (67, .iload 5, 2, (5, 0, 0), .null), (69, .istore 4, 2, (4, 0, 0), .null), (71, .iinc 5 1, 3, (5, 0, 0), .int (1)), (74, .goto (-66), 3, (8, 0, 0), .null), (77, .iload_n 1, 1, (1, 0, 0), .null), (78, .invokestatic 150, 3, (126, 1, 1022), .int 0), (81, .iconst 1, 1, (0, 0, 0), .int (1)), (82, .iadd, 1, (0, 0, 0), .null), (83, .istore 5, 2, (5, 0, 0), .null), (85, .aload_n 0, 1, (0, 0, 0), .null), (86, .getfield 43, 3, (3, 10, 258), .null), (89, .ldc2_w 119, 3, (0, 0, 628), .long (-1)), (92, .lcmp, 1, (0, 0, 0), .null), (93, .ifCond .eq 30, 3, (123, 0, 0), .null), (96, .lload_n 2, 1, (2, 0, 0), .null), (97, .aload_n 0, 1, (0, 0, 0), .null), (98, .getfield 43, 3, (3, 10, 258), .null), (101, .lcmp, 1, (0, 0, 0), .null), (102, .ifCond .lt 21, 3, (123, 0, 0), .null), (105, .lload_n 2, 1, (2, 0, 0), .null), (106, .aload_n 0, 1, (0, 0, 0), .null), (107, .getfield 43, 3, (3, 10, 258), .null), (110, .lcmp, 1, (0, 0, 0), .null), (111, .ifCond .ne 23, 3, (134, 0, 0), .null), (114, .iload 5, 2, (5, 0, 0), .null), (116, .aload_n 0, 1, (0, 0, 0), .null), (117, .getfield 46, 3, (3, 11, 260), .null), (120, .if_icmp .ge 14, 3, (134, 0, 0), .null), (123, .aload_n 0, 1, (0, 0, 0), .null), (124, .lload_n 2, 1, (2, 0, 0), .null), (125, .putfield 43, 3, (3, 10, 258), .null), (128, .aload_n 0, 1, (0, 0, 0), .null), (129, .iload 5, 2, (5, 0, 0), .null), (131, .putfield 46, 3, (3, 11, 260), .null), (134, .return_, 1, (0, 0, 0), .null)]
/-- Glyphmill$Lines.tryAll -/
def gC_128 : List (Nat × gR) := [(0, .aload_n 0, 1, (0, 0, 0), .null), (1, .ldc2_w 119, 3, (0, 0, 628), .long (-1)), (4, .putfield 43, 3, (3, 10, 258), .null), (7, .aload_n 0, 1, (0, 0, 0), .null), (8, .iconst 0, 1, (0, 0, 0), .int (0)), (9, .putfield 46, 3, (3, 11, 260), .null), (12, .aload_n 0, 1, (0, 0, 0), .null), (13, .getfield 49, 3, (3, 0, 242), .null), (16, .invokevirtual 144, 3, (65, 0, 1017), .int 0), (19, .istore_n 1, 1, (1, 0, 0), .null), (20, .aload_n 0, 1, (0, 0, 0), .null), (21, .getfield 49, 3, (3, 0, 242), .null), (24, .getfield 53, 3, (4, 4, 224), .null), (27, .ifCond .ne 9, 3, (36, 0, 0), .null), (30, .iload_n 1, 1, (1, 0, 0), .null), (31, .bipush 9, 2, (0, 0, 0), .int (9)), (33, .if_icmp .le 9, 3, (42, 0, 0), .null), (36, .aload_n 0, 1, (0, 0, 0), .null), (37, .lconst 0, 1, (0, 0, 0), .long 0), (38, .putfield 43, 3, (3, 10, 258), .null), (41, .return_, 1, (0, 0, 0), .null), (42, .iconst 0, 1, (0, 0, 0), .int (0)), (43, .istore_n 2, 1, (2, 0, 0), .null), (44, .iload_n 2, 1, (2, 0, 0), .null), (45, .iconst 1, 1, (0, 0, 0), .int (1)), (46, .iload_n 1, 1, (1, 0, 0), .null), (47, .ishl, 1, (0, 0, 0), .null), (48, .if_icmp .ge 14, 3, (62, 0, 0), .null), (51, .aload_n 0, 1, (0, 0, 0), .null), (52, .iload_n 2, 1, (2, 0, 0), .null), (53, .invokevirtual 147, 3, (127, 1, 1018), .int 0), (56, .iinc 2 1, 3, (2, 0, 0), .int (1)), (59, .goto (-15), 3, (44, 0, 0), .null), (62, .return_, 1, (0, 0, 0), .null)]
/-- Glyphmill.demeritsByTrying -/
def gC_129 : List (Nat × gR) := [(0, .aload_n 0, 1, (0, 0, 0), .null), (1, .invokevirtual 173, 3, (62, 0, 476), .int 0), (4, .aload_n 0, 1, (0, 0, 0), .null), (5, .invokevirtual 224, 3, (107, 0, 767), .int 0), (8, .aload_n 0, 1, (0, 0, 0), .null), (9, .invokevirtual 254, 3, (125, 0, 1008), .int 0), (12, .aload_n 0, 1, (0, 0, 0), .null), (13, .getfield 71, 3, (9, 7, 332), .null), (16, .invokevirtual 257, 3, (128, 0, 1013), .int 0), (19, .aload_n 0, 1, (0, 0, 0), .null), (20, .getfield 71, 3, (9, 7, 332), .null), (23, .getfield 260, 3, (3, 10, 259), .null), (26, .lreturn, 1, (0, 0, 0), .null)]
/-- no method: the number is not used -/
def gC_130 : List (Nat × gR) := gC_2
/-- Glyphmill.linesByTrying -/
def gC_131 : List (Nat × gR) := [(0, .aload_n 0, 1, (0, 0, 0), .null), (1, .invokevirtual 173, 3, (62, 0, 476), .int 0), (4, .aload_n 0, 1, (0, 0, 0), .null), (5, .invokevirtual 224, 3, (107, 0, 767), .int 0), (8, .aload_n 0, 1, (0, 0, 0), .null), (9, .invokevirtual 254, 3, (125, 0, 1008), .int 0), (12, .aload_n 0, 1, (0, 0, 0), .null), (13, .getfield 71, 3, (9, 7, 332), .null), (16, .invokevirtual 257, 3, (128, 0, 1013), .int 0), (19, .aload_n 0, 1, (0, 0, 0), .null), (20, .getfield 71, 3, (9, 7, 332), .null), (23, .getfield 263, 3, (3, 11, 261), .null), (26, .ireturn, 1, (0, 0, 0), .null)]
/-- no method: the number is not used -/
def gC_132 : List (Nat × gR) := gC_2
/-- Glyphmill.glyphsOf -/
def gC_133 : List (Nat × gR) := [(0, .aload_n 0, 1, (0, 0, 0), .null), (1, .invokevirtual 173, 3, (62, 0, 476), .int 0), (4, .aload_n 0, 1, (0, 0, 0), .null), (5, .iload_n 1, 1, (1, 0, 0), .null), (6, .invokevirtual 231, 3, (113, 1, 1058), .int 0), (9, .aload_n 0, 1, (0, 0, 0), .null), (10, .getfield 80, 3, (9, 8, 333), .null), (13, .iload_n 1, 1, (1, 0, 0), .null), (14, .invokevirtual 266, 3, (47, 1, 1078), .int 0), (17, .aload_n 0, 1, (0, 0, 0), .null), (18, .getfield 80, 3, (9, 8, 333), .null), (21, .iload_n 1, 1, (1, 0, 0), .null), (22, .invokevirtual 234, 3, (51, 1, 1063), .int 0), (25, .isub, 1, (0, 0, 0), .null), (26, .ireturn, 1, (0, 0, 0), .null)]
/-- no method: the number is not used -/
def gC_134 : List (Nat × gR) := gC_2
/-- Glyphmill.glyphAt -/
def gC_135 : List (Nat × gR) := [(0, .aload_n 0, 1, (0, 0, 0), .null), (1, .invokevirtual 173, 3, (62, 0, 476), .int 0), (4, .aload_n 0, 1, (0, 0, 0), .null), (5, .iload_n 1, 1, (1, 0, 0), .null), (6, .invokevirtual 231, 3, (113, 1, 1058), .int 0), (9, .aload_n 0, 1, (0, 0, 0), .null), (10, .getfield 80, 3, (9, 8, 333), .null), (13, .iload_n 1, 1, (1, 0, 0), .null), (14, .invokevirtual 234, 3, (51, 1, 1063), .int 0), (17, .istore_n 3, 1, (3, 0, 0), .null), (18, .iload_n 2, 1, (2, 0, 0), .null), (19, .ifCond .lt 17, 3, (36, 0, 0), .null), (22, .iload_n 2, 1, (2, 0, 0), .null), (23, .aload_n 0, 1, (0, 0, 0), .null), (24, .getfield 80, 3, (9, 8, 333), .null), (27, .iload_n 1, 1, (1, 0, 0), .null), (28, .invokevirtual 266, 3, (47, 1, 1078), .int 0), (31, .iload_n 3, 1, (3, 0, 0), .null), (32, .isub, 1, (0, 0, 0), .null), (33, .if_icmp .lt 14, 3, (47, 0, 0), .null), (36, .new 205, 3, (2, 0, 738), .null), (39, .dup, 1, (0, 0, 0), .null), (40, .ldc_w 269, 3, (0, 0, 1086), .null), (43, .invokespecial 209, 3, (0, 0, 0), .null), (46, .athrow, 1, (0, 0, 0), .null), (47, .aload_n 0, 1, (0, 0, 0), .null), (48, .aload_n 0, 1, (0, 0, 0), .null), (49, .getfield 80, 3, (9, 8, 333), .null), (52, .getfield 271, 3, (5, 4, 301), .null), (55, .iload_n 3, 1, (3, 0, 0), .null), (56, .iload_n 2, 1, (2, 0, 0), .null), (57, .iadd, 1, (0, 0, 0), .null), (58, .iaload, 1, (0, 0, 0), .null), (59, .invokevirtual 198, 3, (67, 1, 938), .int 0), (62, .ireturn, 1, (0, 0, 0), .null)]
/-- no method: the number is not used -/
def gC_136 : List (Nat × gR) := gC_2
/-- Glyphmill.placedGlyph -/
def gC_137 : List (Nat × gR) := [(0, .aload_n 0, 1, (0, 0, 0), .null), (1, .iload_n 1, 1, (1, 0, 0), .null), (2, .invokevirtual 240, 3, (116, 1, 722), .int 0), (5, .istore_n 2, 1, (2, 0, 0), .null), (6, .aload_n 0, 1, (0, 0, 0), .null), (7, .getfield 80, 3, (9, 8, 333), .null), (10, .getfield 274, 3, (5, 5, 303), .null), (13, .iload_n 2, 1, (2, 0, 0), .null), (14, .iaload, 1, (0, 0, 0), .null), (15, .iconst (-1), 1, (0, 0, 0), .int (-1)), (16, .if_icmp .ne 14, 3, (30, 0, 0), .null), (19, .new 125, 3, (4, 0, 788), .null), (22, .dup, 1, (0, 0, 0), .null), (23, .ldc_w 349, 3, (0, 0, 812), .null), (26, .invokespecial 129, 3, (0, 0, 0), .null), (29, .athrow, 1, (0, 0, 0), .null), (30, .iload_n 2, 1, (2, 0, 0), .null), (31, .ireturn, 1, (0, 0, 0), .null)]
/-- Glyphmill.rankOf -/
def gC_138 : List (Nat × gR) := [(0, .aload_n 0, 1, (0, 0, 0), .null), (1, .invokevirtual 173, 3, (62, 0, 476), .int 0), (4, .aload_n 0, 1, (0, 0, 0), .null), (5, .getfield 80, 3, (9, 8, 333), .null), (8, .getfield 274, 3, (5, 5, 303), .null), (11, .aload_n 0, 1, (0, 0, 0), .null), (12, .iload_n 1, 1, (1, 0, 0), .null), (13, .invokevirtual 277, 3, (137, 1, 808), .int 0), (16, .iaload, 1, (0, 0, 0), .null), (17, .ireturn, 1, (0, 0, 0), .null)]
/-- no method: the number is not used -/
def gC_139 : List (Nat × gR) := gC_2
/-- Glyphmill$Rows.countRank -/
def gC_140 : List (Nat × gR) := [(0, .aload_n 0, 1, (0, 0, 0), .null), (1, .getfield 9, 3, (5, 3, 298), .null), (4, .iload_n 1, 1, (1, 0, 0), .null), (5, .iaload, 1, (0, 0, 0), .null), (6, .istore_n 2, 1, (2, 0, 0), .null), (7, .iconst 0, 1, (0, 0, 0), .int (0)), (8, .istore_n 3, 1, (3, 0, 0), .null), (9, .aload_n 0, 1, (0, 0, 0), .null), (10, .getfield 27, 3, (5, 0, 295), .null), (13, .getfield 74, 3, (1, 6, 175), .null), (16, .iload_n 1, 1, (1, 0, 0), .null), (17, .iaload, 1, (0, 0, 0), .null), (18, .istore 4, 2, (4, 0, 0), .null), (20, .iload_n 1, 1, (1, 0, 0), .null), (21, .iconst 1, 1, (0, 0, 0), .int (1)), (22, .isub, 1, (0, 0, 0), .null), (23, .istore 5, 2, (5, 0, 0), .null), (25, .iload 5, 2, (5, 0, 0), .null), (27, .aload_n 0, 1, (0, 0, 0), .null), (28, .iload_n 2, 1, (2, 0, 0), .null), (29, .invokevirtual 60, 3, (51, 1, 685), .int 0), (32, .if_icmp .lt 42, 3, (74, 0, 0), .null), (35, .iload 4, 2, (4, 0, 0), .null), (37, .aload_n 0, 1, (0, 0, 0), .null), (38, .getfield 27, 3, (5, 0, 295), .null), (41, .getfield 74, 3, (1, 6, 175), .null), (44, .iload 5, 2, (5, 0, 0), .null), (46, .iaload, 1, (0, 0, 0), .null), (47, .invokestatic 114, 3, (0, 0, 821), .int 3), (50, .istore 4, 2, (4, 0, 0), .null), (52, .iload_n 3, 1, (3, 0, 0), .null), (53, .iload 4, 2, (4, 0, 0), .null), (55, .invokestatic 117, 3, (13, 1, 824), .int 1), (58, .ifCond .eq 7, 3, (65, 0, 0), .null), (61, .iconst 0, 1, (0, 0, 0), .int (0)), (62, .goto 4, 3, (66, 0, 0), .null), (65, .iconst 1, 1, (0, 0, 0), .int (1)), (66, .iadd, 1, (0, 0, 0), .null), (67, .istore_n 3, 1, (3, 0, 0), .null), (68, .iinc 5 (-1), 3, (5, 0, 0), .int (-1)), (71, .goto (-46), 3, (25, 0, 0), .null), (74, .aload_n 0, 1, (0, 0, 0), .null), (75, .getfield 27, 3, (5, 0, 295), .null), (78, .getfield 74, 3, (1, 6, 175), .null), (81, .iload_n 1, 1, (1, 0, 0), .null), (82, .iaload, 1, (0, 0, 0), .null), (83, .istore 4, 2, (4, 0, 0), .null), (85, .iload_n 1, 1, (1, 0, 0), .null), (86, .iconst 1, 1, (0, 0, 0), .int (1)), (87, .iadd, 1, (0, 0, 0), .null), (88, .istore 5, 2, (5, 0, 0), .null), (90, .iload 5, 2, (5, 0, 0), .null), (92, .aload_n 0, 1, (0, 0, 0), .null), (93, .iload_n 2, 1, (2, 0, 0), .null), (94, .invokevirtual 64, 3, (47, 1, 689), .int 0), (97, .if_icmp .ge 42, 3, (139, 0, 0), .null), (100, .iload 4, 2, (4, 0, 0), .null), (102, .aload_n 0, 1, (0, 0, 0), .null), (103, .getfield 27, 3, (5, 0, 295), .null), (106, .getfield 74, 3, (1, 6, 175), .null), (109, .iload 5, 2, (5, 0, 0), .null), (111, .iaload, 1, (0, 0, 0), .null), (112, .invokestatic 114, 3, (0, 0, 821), .int 3), (115, .istore 4, 2, (4, 0, 0), .null), (117, .iload_n 3, 1, (3, 0, 0), .null), (118, .iload 4, 2, (4, 0, 0), .null), (120, .invokestatic 117, 3, (13, 1, 824), .int 1), (123, .ifCond .eq 7, 3, (130, 0, 0), .null), (126, .iconst 1, 1, (0, 0, 0), .int (1)), (127, .goto 4, 3, (131, 0, 0), .null), (130, .iconst 0, 1, (0, 0, 0), .int (0)), (131, .iadd, 1, (0, 0, 0), .null), (132, .istore_n 3, 1, (3, 0, 0), .null), (133, .iinc 5 1, 3, (5, 0, 0), .int (1)), (136, .goto (-46), 3, (90, 0, 0), .null), (139, .iload_n 3, 1, (3, 0, 0), .null), (140, .ireturn, 1, (0, 0, 0), .null)]
/-- Glyphmill.rankByCounting -/
def gC_141 : List (Nat × gR) := [(0, .aload_n 0, 1, (0, 0, 0), .null), (1, .invokevirtual 173, 3, (62, 0, 476), .int 0), (4, .aload_n 0, 1, (0, 0, 0), .null), (5, .getfield 80, 3, (9, 8, 333), .null), (8, .aload_n 0, 1, (0, 0, 0), .null), (9, .iload_n 1, 1, (1, 0, 0), .null), (10, .invokevirtual 277, 3, (137, 1, 808), .int 0), (13, .invokevirtual 280, 3, (140, 1, 817), .int 0), (16, .ireturn, 1, (0, 0, 0), .null)]
/-- no method: the number is not used -/
def gC_142 : List (Nat × gR) := gC_2
/-- Glyphmill.placeOf -/
def gC_143 : List (Nat × gR) := [(0, .aload_n 0, 1, (0, 0, 0), .null), (1, .invokevirtual 173, 3, (62, 0, 476), .int 0), (4, .aload_n 0, 1, (0, 0, 0), .null), (5, .getfield 80, 3, (9, 8, 333), .null), (8, .getfield 283, 3, (5, 6, 305), .null), (11, .aload_n 0, 1, (0, 0, 0), .null), (12, .iload_n 1, 1, (1, 0, 0), .null), (13, .invokevirtual 277, 3, (137, 1, 808), .int 0), (16, .iaload, 1, (0, 0, 0), .null), (17, .ireturn, 1, (0, 0, 0), .null)]
/-- no method: the number is not used -/
def gC_144 : List (Nat × gR) := gC_2
/-- Glyphmill.justifiedWidth -/
def gC_145 : List (Nat × gR) := [(0, .aload_n 0, 1, (0, 0, 0), .null), (1, .invokevirtual 173, 3, (62, 0, 476), .int 0), (4, .aload_n 0, 1, (0, 0, 0), .null), (5, .getfield 80, 3, (9, 8, 333), .null), (8, .getfield 286, 3, (5, 7, 307), .null), (11, .aload_n 0, 1, (0, 0, 0), .null), (12, .iload_n 1, 1, (1, 0, 0), .null), (13, .invokevirtual 277, 3, (137, 1, 808), .int 0), (16, .iaload, 1, (0, 0, 0), .null), (17, .ireturn, 1, (0, 0, 0), .null)]
/-- no method: the number is not used -/
def gC_146 : List (Nat × gR) := gC_2
/-- no method: the number is not used -/
def gC_147 : List (Nat × gR) := gC_2
/-- no method: the number is not used -/
def gC_148 : List (Nat × gR) := gC_2
/-- no method: the number is not used -/
def gC_149 : List (Nat × gR) := gC_2
/-- no method: the number is not used -/
def gC_150 : List (Nat × gR) := gC_2
/-- no method: the number is not used -/
def gC_151 : List (Nat × gR) := gC_2
/-- GlyphmillLaw.some -/
def gC_152 : List (Nat × gR) := [(0, .iload_n 0, 1, (0, 0, 0), .null), (1, .iload_n 1, 1, (1, 0, 0), .null), (2, .irem, 1, (0, 0, 0), .null), (3, .istore_n 2, 1, (2, 0, 0), .null), (4, .iload_n 2, 1, (2, 0, 0), .null), (5, .ifCond .ge 9, 3, (14, 0, 0), .null), (8, .iload_n 2, 1, (2, 0, 0), .null), (9, .iload_n 1, 1, (1, 0, 0), .null), (10, .iadd, 1, (0, 0, 0), .null), (11, .goto 4, 3, (15, 0, 0), .null), (14, .iload_n 2, 1, (2, 0, 0), .null), (15, .ireturn, 1, (0, 0, 0), .null)]
/-- GlyphmillLaw.stands -/
def gC_153 : List (Nat × gR) := [(0, .iload_n 2, 1, (2, 0, 0), .null), (1, .ifCond .ne 11, 3, (12, 0, 0), .null), (4, .aload_n 0, 1, (0, 0, 0), .null), (5, .iload_n 1, 1, (1, 0, 0), .null), (6, .invokevirtual 7, 3, (117, 1, 472), .int 0), (9, .goto 47, 3, (56, 0, 0), .null), (12, .iload_n 2, 1, (2, 0, 0), .null), (13, .iconst 1, 1, (0, 0, 0), .int (1)), (14, .if_icmp .ne 11, 3, (25, 0, 0), .null), (17, .aload_n 0, 1, (0, 0, 0), .null), (18, .iload_n 1, 1, (1, 0, 0), .null), (19, .invokevirtual 13, 3, (138, 1, 804), .int 0), (22, .goto 34, 3, (56, 0, 0), .null), (25, .iload_n 2, 1, (2, 0, 0), .null), (26, .iconst 2, 1, (0, 0, 0), .int (2)), (27, .if_icmp .ne 11, 3, (38, 0, 0), .null), (30, .aload_n 0, 1, (0, 0, 0), .null), (31, .iload_n 1, 1, (1, 0, 0), .null), (32, .invokevirtual 16, 3, (141, 1, 813), .int 0), (35, .goto 21, 3, (56, 0, 0), .null), (38, .iload_n 2, 1, (2, 0, 0), .null), (39, .iconst 3, 1, (0, 0, 0), .int (3)), (40, .if_icmp .ne 11, 3, (51, 0, 0), .null), (43, .aload_n 0, 1, (0, 0, 0), .null), (44, .iload_n 1, 1, (1, 0, 0), .null), (45, .invokevirtual 19, 3, (143, 1, 825), .int 0), (48, .goto 8, 3, (56, 0, 0), .null), (51, .aload_n 0, 1, (0, 0, 0), .null), (52, .iload_n 1, 1, (1, 0, 0), .null), (53, .invokevirtual 22, 3, (145, 1, 829), .int 0), (56, .ireturn, 1, (0, 0, 0), .null), (57, .astore_n 3, 1, (3, 0, 0), .null), (58, .sipush (-1001), 3, (0, 0, 0), .int (-1001)), (61, .ireturn, 1, (0, 0, 0), .null), (62, .astore_n 3, 1, (3, 0, 0), .null), (63, .sipush (-1002), 3, (0, 0, 0), .int (-1002)), (66, .ireturn, 1, (0, 0, 0), .null), (67, .astore_n 3, 1, (3, 0, 0), .null), (68, .sipush (-1003), 3, (0, 0, 0), .int (-1003)), (71, .ireturn, 1, (0, 0, 0), .null), (72, .astore_n 3, 1, (3, 0, 0), .null), (73, .sipush (-1004), 3, (0, 0, 0), .int (-1004)), (76, .ireturn, 1, (0, 0, 0), .null)]
/-- GlyphmillLaw.adds -/
def gC_154 : List (Nat × gR) := [(0, .aload_n 0, 1, (0, 0, 0), .null), (1, .iload_n 1, 1, (1, 0, 0), .null), (2, .invokevirtual 86, 3, (74, 1, 837), .int 0), (5, .ireturn, 1, (0, 0, 0), .null), (6, .astore_n 2, 1, (2, 0, 0), .null), (7, .sipush (-1001), 3, (0, 0, 0), .int (-1001)), (10, .ireturn, 1, (0, 0, 0), .null), (11, .astore_n 2, 1, (2, 0, 0), .null), (12, .sipush (-1002), 3, (0, 0, 0), .int (-1002)), (15, .ireturn, 1, (0, 0, 0), .null)]
/-- GlyphmillLaw.removes -/
def gC_155 : List (Nat × gR) := [(0, .aload_n 0, 1, (0, 0, 0), .null), (1, .invokevirtual 92, 3, (77, 0, 879), .int 0), (4, .ireturn, 1, (0, 0, 0), .null), (5, .astore_n 1, 1, (1, 0, 0), .null), (6, .sipush (-1001), 3, (0, 0, 0), .int (-1001)), (9, .ireturn, 1, (0, 0, 0), .null)]
/-- GlyphmillLaw.widths -/
def gC_156 : List (Nat × gR) := [(0, .aload_n 0, 1, (0, 0, 0), .null), (1, .iload_n 1, 1, (1, 0, 0), .null), (2, .iload_n 2, 1, (2, 0, 0), .null), (3, .invokevirtual 96, 3, (80, 2, 891), .int 0), (6, .ireturn, 1, (0, 0, 0), .null), (7, .astore_n 3, 1, (3, 0, 0), .null), (8, .sipush (-1001), 3, (0, 0, 0), .int (-1001)), (11, .ireturn, 1, (0, 0, 0), .null)]
/-- GlyphmillLaw.sets -/
def gC_157 : List (Nat × gR) := [(0, .aload_n 0, 1, (0, 0, 0), .null), (1, .iload_n 1, 1, (1, 0, 0), .null), (2, .invokevirtual 100, 3, (82, 1, 903), .int 0), (5, .ireturn, 1, (0, 0, 0), .null), (6, .astore_n 2, 1, (2, 0, 0), .null), (7, .sipush (-1001), 3, (0, 0, 0), .int (-1001)), (10, .ireturn, 1, (0, 0, 0), .null)]
/-- GlyphmillLaw.rules -/
def gC_158 : List (Nat × gR) := [(0, .aload_n 0, 1, (0, 0, 0), .null), (1, .iload_n 1, 1, (1, 0, 0), .null), (2, .iload_n 2, 1, (2, 0, 0), .null), (3, .iload_n 3, 1, (3, 0, 0), .null), (4, .invokevirtual 103, 3, (86, 3, 911), .int 0), (7, .ireturn, 1, (0, 0, 0), .null), (8, .astore 4, 2, (4, 0, 0), .null), (10, .sipush (-1001), 3, (0, 0, 0), .int (-1001)), (13, .ireturn, 1, (0, 0, 0), .null), (14, .astore 4, 2, (4, 0, 0), .null), (16, .sipush (-1002), 3, (0, 0, 0), .int (-1002)), (19, .ireturn, 1, (0, 0, 0), .null)]
/-- GlyphmillLaw.glyph -/
def gC_159 : List (Nat × gR) := [(0, .iload_n 2, 1, (2, 0, 0), .null), (1, .ifCond .ne 11, 3, (12, 0, 0), .null), (4, .aload_n 0, 1, (0, 0, 0), .null), (5, .iload_n 1, 1, (1, 0, 0), .null), (6, .invokevirtual 107, 3, (101, 1, 930), .int 0), (9, .goto 47, 3, (56, 0, 0), .null), (12, .iload_n 2, 1, (2, 0, 0), .null), (13, .iconst 1, 1, (0, 0, 0), .int (1)), (14, .if_icmp .ne 11, 3, (25, 0, 0), .null), (17, .aload_n 0, 1, (0, 0, 0), .null), (18, .iload_n 1, 1, (1, 0, 0), .null), (19, .invokevirtual 110, 3, (103, 1, 934), .int 0), (22, .goto 34, 3, (56, 0, 0), .null), (25, .iload_n 2, 1, (2, 0, 0), .null), (26, .iconst 2, 1, (0, 0, 0), .int (2)), (27, .if_icmp .ne 11, 3, (38, 0, 0), .null), (30, .aload_n 0, 1, (0, 0, 0), .null), (31, .iload_n 1, 1, (1, 0, 0), .null), (32, .invokevirtual 113, 3, (94, 1, 942), .int 0), (35, .goto 21, 3, (56, 0, 0), .null), (38, .iload_n 2, 1, (2, 0, 0), .null), (39, .iconst 3, 1, (0, 0, 0), .int (3)), (40, .if_icmp .ne 11, 3, (51, 0, 0), .null), (43, .aload_n 0, 1, (0, 0, 0), .null), (44, .iload_n 1, 1, (1, 0, 0), .null), (45, .invokevirtual 116, 3, (98, 1, 946), .int 0), (48, .goto 8, 3, (56, 0, 0), .null), (51, .aload_n 0, 1, (0, 0, 0), .null), (52, .iload_n 1, 1, (1, 0, 0), .null), (53, .invokevirtual 119, 3, (92, 1, 950), .int 0), (56, .ireturn, 1, (0, 0, 0), .null), (57, .astore_n 3, 1, (3, 0, 0), .null), (58, .sipush (-1001), 3, (0, 0, 0), .int (-1001)), (61, .ireturn, 1, (0, 0, 0), .null), (62, .astore_n 3, 1, (3, 0, 0), .null), (63, .sipush (-1002), 3, (0, 0, 0), .int (-1002)), (66, .ireturn, 1, (0, 0, 0), .null)]
/-- GlyphmillLaw.demerits -/
def gC_160 : List (Nat × gR) := [(0, .iload_n 1, 1, (1, 0, 0), .null), (1, .ifCond .eq 10, 3, (11, 0, 0), .null), (4, .aload_n 0, 1, (0, 0, 0), .null), (5, .invokevirtual 59, 3, (129, 0, 1033), .int 0), (8, .goto 7, 3, (15, 0, 0), .null), (11, .aload_n 0, 1, (0, 0, 0), .null), (12, .invokevirtual 63, 3, (123, 0, 1037), .int 0), (15, .lreturn, 1, (0, 0, 0), .null), (16, .astore_n 2, 1, (2, 0, 0), .null), (17, .ldc2_w 66, 3, (0, 0, 1041), .long (-1001)), (20, .lreturn, 1, (0, 0, 0), .null), (21, .astore_n 2, 1, (2, 0, 0), .null), (22, .ldc2_w 68, 3, (0, 0, 1042), .long (-1002)), (25, .lreturn, 1, (0, 0, 0), .null)]
/-- GlyphmillLaw.lines -/
def gC_161 : List (Nat × gR) := [(0, .iload_n 1, 1, (1, 0, 0), .null), (1, .ifCond .ne 10, 3, (11, 0, 0), .null), (4, .aload_n 0, 1, (0, 0, 0), .null), (5, .invokevirtual 49, 3, (108, 0, 992), .int 0), (8, .goto 19, 3, (27, 0, 0), .null), (11, .iload_n 1, 1, (1, 0, 0), .null), (12, .iconst 1, 1, (0, 0, 0), .int (1)), (13, .if_icmp .ne 10, 3, (23, 0, 0), .null), (16, .aload_n 0, 1, (0, 0, 0), .null), (17, .invokevirtual 53, 3, (111, 0, 996), .int 0), (20, .goto 7, 3, (27, 0, 0), .null), (23, .aload_n 0, 1, (0, 0, 0), .null), (24, .invokevirtual 56, 3, (131, 0, 1004), .int 0), (27, .ireturn, 1, (0, 0, 0), .null), (28, .astore_n 2, 1, (2, 0, 0), .null), (29, .sipush (-1001), 3, (0, 0, 0), .int (-1001)), (32, .ireturn, 1, (0, 0, 0), .null), (33, .astore_n 2, 1, (2, 0, 0), .null), (34, .sipush (-1002), 3, (0, 0, 0), .int (-1002)), (37, .ireturn, 1, (0, 0, 0), .null)]
/-- GlyphmillLaw.sum -/
def gC_162 : List (Nat × gR) := [(0, .aload_n 0, 1, (0, 0, 0), .null), (1, .invokevirtual 122, 3, (2, 0, 366), .int 0), (4, .i2l, 1, (0, 0, 0), .null), (5, .ldc2_w 125, 3, (0, 0, 957), .long (31)), (8, .aload_n 0, 1, (0, 0, 0), .null), (9, .invokevirtual 127, 3, (5, 0, 370), .int 0), (12, .i2l, 1, (0, 0, 0), .null), (13, .lmul, 1, (0, 0, 0), .null), (14, .ladd, 1, (0, 0, 0), .null), (15, .ldc2_w 130, 3, (0, 0, 958), .long (961)), (18, .aload_n 0, 1, (0, 0, 0), .null), (19, .invokevirtual 132, 3, (63, 0, 959), .int 0), (22, .i2l, 1, (0, 0, 0), .null), (23, .lmul, 1, (0, 0, 0), .null), (24, .ladd, 1, (0, 0, 0), .null), (25, .ldc2_w 135, 3, (0, 0, 963), .long (7)), (28, .aload_n 0, 1, (0, 0, 0), .null), (29, .invokevirtual 137, 3, (64, 0, 964), .int 0), (32, .i2l, 1, (0, 0, 0), .null), (33, .lmul, 1, (0, 0, 0), .null), (34, .ladd, 1, (0, 0, 0), .null), (35, .ldc2_w 140, 3, (0, 0, 968), .long (11)), (38, .aload_n 0, 1, (0, 0, 0), .null), (39, .invokevirtual 142, 3, (66, 0, 969), .int 0), (42, .i2l, 1, (0, 0, 0), .null), (43, .lmul, 1, (0, 0, 0), .null), (44, .ladd, 1, (0, 0, 0), .null), (45, .ldc2_w 145, 3, (0, 0, 977), .long (13)), (48, .aload_n 0, 1, (0, 0, 0), .null), (49, .invokevirtual 147, 3, (68, 0, 978), .int 0), (52, .i2l, 1, (0, 0, 0), .null), (53, .lmul, 1, (0, 0, 0), .null), (54, .ladd, 1, (0, 0, 0), .null), (55, .ldc2_w 150, 3, (0, 0, 982), .long (17)), (58, .aload_n 0, 1, (0, 0, 0), .null), (59, .invokevirtual 152, 3, (69, 0, 983), .int 0), (62, .i2l, 1, (0, 0, 0), .null), (63, .lmul, 1, (0, 0, 0), .null), (64, .ladd, 1, (0, 0, 0), .null), (65, .ldc2_w 155, 3, (0, 0, 988), .long (19)), (68, .aload_n 0, 1, (0, 0, 0), .null), (69, .iconst 0, 1, (0, 0, 0), .int (0)), (70, .invokestatic 157, 3, (161, 2, 989), .int 0), (73, .i2l, 1, (0, 0, 0), .null), (74, .lmul, 1, (0, 0, 0), .null), (75, .ladd, 1, (0, 0, 0), .null), (76, .ldc2_w 162, 3, (0, 0, 1028), .long (23)), (79, .aload_n 0, 1, (0, 0, 0), .null), (80, .iconst 1, 1, (0, 0, 0), .int (1)), (81, .invokestatic 157, 3, (161, 2, 989), .int 0), (84, .i2l, 1, (0, 0, 0), .null), (85, .lmul, 1, (0, 0, 0), .null), (86, .ladd, 1, (0, 0, 0), .null), (87, .ldc2_w 164, 3, (0, 0, 1029), .long (29)), (90, .aload_n 0, 1, (0, 0, 0), .null), (91, .iconst 0, 1, (0, 0, 0), .int (0)), (92, .invokestatic 166, 3, (160, 2, 1030), .int 0), (95, .lmul, 1, (0, 0, 0), .null), (96, .ladd, 1, (0, 0, 0), .null), (97, .lstore_n 1, 1, (1, 0, 0), .null), (98, .iconst 0, 1, (0, 0, 0), .int (0)), (99, .istore_n 3, 1, (3, 0, 0), .null), (100, .iload_n 3, 1, (3, 0, 0), .null), (101, .aload_n 0, 1, (0, 0, 0), .null), (102, .invokevirtual 122, 3, (2, 0, 366), .int 0), (105, .if_icmp .ge 52, 3, (157, 0, 0), .null), (108, .ldc2_w 125, 3, (0, 0, 957), .long (31)), (111, .lload_n 1, 1, (1, 0, 0), .null), (112, .lmul, 1, (0, 0, 0), .null), (113, .aload_n 0, 1, (0, 0, 0), .null), (114, .iload_n 3, 1, (3, 0, 0), .null), (115, .invokevirtual 169, 3, (89, 1, 1043), .int 0), (118, .i2l, 1, (0, 0, 0), .null), (119, .ladd, 1, (0, 0, 0), .null), (120, .lstore_n 1, 1, (1, 0, 0), .null), (121, .ldc2_w 125, 3, (0, 0, 957), .long (31)), (124, .lload_n 1, 1, (1, 0, 0), .null), (125, .lmul, 1, (0, 0, 0), .null), (126, .aload_n 0, 1, (0, 0, 0), .null), (127, .iload_n 3, 1, (3, 0, 0), .null), (128, .iload_n 3, 1, (3, 0, 0), .null), (129, .iconst 5, 1, (0, 0, 0), .int (5)), (130, .irem, 1, (0, 0, 0), .null), (131, .invokestatic 173, 3, (159, 3, 927), .int 0), (134, .i2l, 1, (0, 0, 0), .null), (135, .ladd, 1, (0, 0, 0), .null), (136, .ldc2_w 177, 3, (0, 0, 1047), .long (3)), (139, .aload_n 0, 1, (0, 0, 0), .null), (140, .iload_n 3, 1, (3, 0, 0), .null), (141, .iload_n 3, 1, (3, 0, 0), .null), (142, .iconst 5, 1, (0, 0, 0), .int (5)), (143, .irem, 1, (0, 0, 0), .null), (144, .invokestatic 179, 3, (153, 3, 387), .int 0), (147, .i2l, 1, (0, 0, 0), .null), (148, .lmul, 1, (0, 0, 0), .null), (149, .ladd, 1, (0, 0, 0), .null), (150, .lstore_n 1, 1, (1, 0, 0), .null), (151, .iinc 3 1, 3, (3, 0, 0), .int (1)), (154, .goto (-54), 3, (100, 0, 0), .null), (157, .lload_n 1, 1, (1, 0, 0), .null), (158, .lreturn, 1, (0, 0, 0), .null)]
/-- GlyphmillLaw.glyphAt -/
def gC_163 : List (Nat × gR) := [(0, .aload_n 0, 1, (0, 0, 0), .null), (1, .iload_n 1, 1, (1, 0, 0), .null), (2, .iload_n 2, 1, (2, 0, 0), .null), (3, .invokevirtual 45, 3, (135, 2, 1082), .int 0), (6, .ireturn, 1, (0, 0, 0), .null), (7, .astore_n 3, 1, (3, 0, 0), .null), (8, .sipush (-1001), 3, (0, 0, 0), .int (-1001)), (11, .ireturn, 1, (0, 0, 0), .null), (12, .astore_n 3, 1, (3, 0, 0), .null), (13, .sipush (-1002), 3, (0, 0, 0), .int (-1002)), (16, .ireturn, 1, (0, 0, 0), .null)]
/-- GlyphmillLaw.line -/
def gC_164 : List (Nat × gR) := [(0, .iload_n 2, 1, (2, 0, 0), .null), (1, .ifCond .ne 11, 3, (12, 0, 0), .null), (4, .aload_n 0, 1, (0, 0, 0), .null), (5, .iload_n 1, 1, (1, 0, 0), .null), (6, .invokevirtual 33, 3, (114, 1, 1054), .int 0), (9, .goto 34, 3, (43, 0, 0), .null), (12, .iload_n 2, 1, (2, 0, 0), .null), (13, .iconst 1, 1, (0, 0, 0), .int (1)), (14, .if_icmp .ne 11, 3, (25, 0, 0), .null), (17, .aload_n 0, 1, (0, 0, 0), .null), (18, .iload_n 1, 1, (1, 0, 0), .null), (19, .invokevirtual 36, 3, (119, 1, 1064), .int 0), (22, .goto 21, 3, (43, 0, 0), .null), (25, .iload_n 2, 1, (2, 0, 0), .null), (26, .iconst 2, 1, (0, 0, 0), .int (2)), (27, .if_icmp .ne 11, 3, (38, 0, 0), .null), (30, .aload_n 0, 1, (0, 0, 0), .null), (31, .iload_n 1, 1, (1, 0, 0), .null), (32, .invokevirtual 39, 3, (121, 1, 1069), .int 0), (35, .goto 8, 3, (43, 0, 0), .null), (38, .aload_n 0, 1, (0, 0, 0), .null), (39, .iload_n 1, 1, (1, 0, 0), .null), (40, .invokevirtual 42, 3, (133, 1, 1074), .int 0), (43, .ireturn, 1, (0, 0, 0), .null), (44, .astore_n 3, 1, (3, 0, 0), .null), (45, .sipush (-1001), 3, (0, 0, 0), .int (-1001)), (48, .ireturn, 1, (0, 0, 0), .null), (49, .astore_n 3, 1, (3, 0, 0), .null), (50, .sipush (-1002), 3, (0, 0, 0), .int (-1002)), (53, .ireturn, 1, (0, 0, 0), .null)]
def gC_165_0 : List (Nat × gR) := [(0, .aload_n 0, 1, (0, 0, 0), .null), (1, .iconst 0, 1, (0, 0, 0), .int (0)), (2, .invokestatic 157, 3, (161, 2, 989), .int 0), (5, .istore_n 2, 1, (2, 0, 0), .null), (6, .iload_n 2, 1, (2, 0, 0), .null), (7, .ifCond .ge 57, 3, (64, 0, 0), .null), (10, .aload_n 0, 1, (0, 0, 0), .null), (11, .iconst 1, 1, (0, 0, 0), .int (1)), (12, .invokestatic 157, 3, (161, 2, 989), .int 0), (15, .sipush (-1001), 3, (0, 0, 0), .int (-1001)), (18, .if_icmp .ne 44, 3, (62, 0, 0), .null), (21, .aload_n 0, 1, (0, 0, 0), .null), (22, .iconst 2, 1, (0, 0, 0), .int (2)), (23, .invokestatic 157, 3, (161, 2, 989), .int 0), (26, .sipush (-1001), 3, (0, 0, 0), .int (-1001)), (29, .if_icmp .ne 33, 3, (62, 0, 0), .null), (32, .aload_n 0, 1, (0, 0, 0), .null), (33, .iconst 0, 1, (0, 0, 0), .int (0)), (34, .invokestatic 166, 3, (160, 2, 1030), .int 0), (37, .ldc2_w 66, 3, (0, 0, 1041), .long (-1001)), (40, .lcmp, 1, (0, 0, 0), .null), (41, .ifCond .ne 21, 3, (62, 0, 0), .null), (44, .aload_n 0, 1, (0, 0, 0), .null), (45, .invokevirtual 147, 3, (68, 0, 978), .int 0), (48, .ifCond .lt 14, 3, (62, 0, 0), .null), (51, .aload_n 0, 1, (0, 0, 0), .null), (52, .invokevirtual 152, 3, (69, 0, 983), .int 0), (55, .ifCond .le 7, 3, (62, 0, 0), .null), (58, .iconst 1, 1, (0, 0, 0), .int (1)), (59, .goto 4, 3, (63, 0, 0), .null), (62, .iconst 0, 1, (0, 0, 0), .int (0)), (63, .ireturn, 1, (0, 0, 0), .null), (64, .aload_n 0, 1, (0, 0, 0), .null), (65, .invokevirtual 147, 3, (68, 0, 978), .int 0), (68, .iconst (-1), 1, (0, 0, 0), .int (-1)), (69, .if_icmp .ne 34, 3, (103, 0, 0), .null), (72, .aload_n 0, 1, (0, 0, 0), .null), (73, .invokevirtual 152, 3, (69, 0, 983), .int 0), (76, .ifCond .ne 27, 3, (103, 0, 0), .null), (79, .aload_n 0, 1, (0, 0, 0), .null), (80, .iconst 1, 1, (0, 0, 0), .int (1)), (81, .invokestatic 157, 3, (161, 2, 989), .int 0), (84, .aload_n 0, 1, (0, 0, 0), .null), (85, .invokevirtual 142, 3, (66, 0, 969), .int 0), (88, .iconst 1, 1, (0, 0, 0), .int (1)), (89, .iadd, 1, (0, 0, 0), .null), (90, .if_icmp .gt 13, 3, (103, 0, 0), .null), (93, .iload_n 2, 1, (2, 0, 0), .null), (94, .aload_n 0, 1, (0, 0, 0), .null), (95, .invokevirtual 142, 3, (66, 0, 969), .int 0), (98, .iconst 1, 1, (0, 0, 0), .int (1)), (99, .iadd, 1, (0, 0, 0), .null), (100, .if_icmp .le 5, 3, (105, 0, 0), .null), (103, .iconst 0, 1, (0, 0, 0), .int (0)), (104, .ireturn, 1, (0, 0, 0), .null), (105, .aload_n 0, 1, (0, 0, 0), .null), (106, .invokevirtual 142, 3, (66, 0, 969), .int 0), (109, .bipush 9, 2, (0, 0, 0), .int (9)), (111, .if_icmp .le 7, 3, (118, 0, 0), .null), (114, .iconst 1, 1, (0, 0, 0), .int (1)), (115, .goto 4, 3, (119, 0, 0), .null), (118, .iconst 0, 1, (0, 0, 0), .int (0)), (119, .istore_n 3, 1, (3, 0, 0), .null), (120, .aload_n 0, 1, (0, 0, 0), .null), (121, .iconst 1, 1, (0, 0, 0), .int (1)), (122, .invokestatic 166, 3, (160, 2, 1030), .int 0), (125, .iload_n 3, 1, (3, 0, 0), .null), (126, .ifCond .eq 9, 3, (135, 0, 0), .null), (129, .ldc2_w 68, 3, (0, 0, 1042), .long (-1002)), (132, .goto 8, 3, (140, 0, 0), .null), (135, .aload_n 0, 1, (0, 0, 0), .null), (136, .iconst 0, 1, (0, 0, 0), .int (0)), (137, .invokestatic 166, 3, (160, 2, 1030), .int 0), (140, .lcmp, 1, (0, 0, 0), .null), (141, .ifCond .ne 22, 3, (163, 0, 0), .null), (144, .aload_n 0, 1, (0, 0, 0), .null), (145, .iconst 2, 1, (0, 0, 0), .int (2)), (146, .invokestatic 157, 3, (161, 2, 989), .int 0), (149, .iload_n 3, 1, (3, 0, 0), .null), (150, .ifCond .eq 9, 3, (159, 0, 0), .null), (153, .sipush (-1002), 3, (0, 0, 0), .int (-1002)), (156, .goto 4, 3, (160, 0, 0), .null), (159, .iload_n 2, 1, (2, 0, 0), .null), (160, .if_icmp .eq 5, 3, (165, 0, 0), .null), (163, .iconst 0, 1, (0, 0, 0), .int (0)), (164, .ireturn, 1, (0, 0, 0), .null), (165, .iconst 0, 1, (0, 0, 0), .int (0)), (166, .istore 4, 2, (4, 0, 0), .null), (168, .iload 4, 2, (4, 0, 0), .null), (170, .iload_n 2, 1, (2, 0, 0), .null), (171, .if_icmp .ge 210, 3, (381, 0, 0), .null), (174, .aload_n 0, 1, (0, 0, 0), .null), (175, .iload 4, 2, (4, 0, 0), .null), (177, .iconst 3, 1, (0, 0, 0), .int (3)), (178, .invokestatic 182, 3, (164, 3, 1051), .int 0), (181, .istore 5, 2, (5, 0, 0), .null), (183, .iload 5, 2, (5, 0, 0), .null), (185, .ifCond .ne 7, 3, (192, 0, 0), .null), (188, .iconst 0, 1, (0, 0, 0), .int (0)), (189, .goto 15, 3, (204, 0, 0), .null)]
def gC_165_1 : List (Nat × gR) := [(192, .aload_n 0, 1, (0, 0, 0), .null), (193, .aload_n 0, 1, (0, 0, 0), .null), (194, .iload 4, 2, (4, 0, 0), .null), (196, .iconst 0, 1, (0, 0, 0), .int (0)), (197, .invokestatic 185, 3, (163, 3, 1079), .int 0), (200, .iconst 3, 1, (0, 0, 0), .int (3)), (201, .invokestatic 179, 3, (153, 3, 387), .int 0), (204, .istore 6, 2, (6, 0, 0), .null), (206, .iload 6, 2, (6, 0, 0), .null), (208, .istore 7, 2, (7, 0, 0), .null), (210, .iconst 0, 1, (0, 0, 0), .int (0)), (211, .istore 8, 2, (8, 0, 0), .null), (213, .iload 8, 2, (8, 0, 0), .null), (215, .iload 5, 2, (5, 0, 0), .null), (217, .if_icmp .ge 93, 3, (310, 0, 0), .null), (220, .aload_n 0, 1, (0, 0, 0), .null), (221, .iload 4, 2, (4, 0, 0), .null), (223, .iload 8, 2, (8, 0, 0), .null), (225, .invokestatic 185, 3, (163, 3, 1079), .int 0), (228, .istore 9, 2, (9, 0, 0), .null), (230, .aload_n 0, 1, (0, 0, 0), .null), (231, .iload 9, 2, (9, 0, 0), .null), (233, .iconst 0, 1, (0, 0, 0), .int (0)), (234, .invokestatic 179, 3, (153, 3, 387), .int 0), (237, .iload 4, 2, (4, 0, 0), .null), (239, .if_icmp .ne 51, 3, (290, 0, 0), .null), (242, .aload_n 0, 1, (0, 0, 0), .null), (243, .iload 9, 2, (9, 0, 0), .null), (245, .iconst 1, 1, (0, 0, 0), .int (1)), (246, .invokestatic 179, 3, (153, 3, 387), .int 0), (249, .iload 8, 2, (8, 0, 0), .null), (251, .if_icmp .ne 39, 3, (290, 0, 0), .null), (254, .aload_n 0, 1, (0, 0, 0), .null), (255, .iload 9, 2, (9, 0, 0), .null), (257, .iconst 2, 1, (0, 0, 0), .int (2)), (258, .invokestatic 179, 3, (153, 3, 387), .int 0), (261, .iload 8, 2, (8, 0, 0), .null), (263, .if_icmp .ne 27, 3, (290, 0, 0), .null), (266, .aload_n 0, 1, (0, 0, 0), .null), (267, .iload 9, 2, (9, 0, 0), .null), (269, .iconst 3, 1, (0, 0, 0), .int (3)), (270, .invokestatic 179, 3, (153, 3, 387), .int 0), (273, .iload 7, 2, (7, 0, 0), .null), (275, .if_icmp .ne 15, 3, (290, 0, 0), .null), (278, .aload_n 0, 1, (0, 0, 0), .null), (279, .iload 9, 2, (9, 0, 0), .null), (281, .iconst 1, 1, (0, 0, 0), .int (1)), (282, .invokestatic 173, 3, (159, 3, 927), .int 0), (285, .iload 9, 2, (9, 0, 0), .null), (287, .if_icmp .eq 5, 3, (292, 0, 0), .null), (290, .iconst 0, 1, (0, 0, 0), .int (0)), (291, .ireturn, 1, (0, 0, 0), .null), (292, .iload 7, 2, (7, 0, 0), .null), (294, .aload_n 0, 1, (0, 0, 0), .null), (295, .iload 9, 2, (9, 0, 0), .null), (297, .iconst 4, 1, (0, 0, 0), .int (4)), (298, .invokestatic 179, 3, (153, 3, 387), .int 0), (301, .iadd, 1, (0, 0, 0), .null), (302, .istore 7, 2, (7, 0, 0), .null), (304, .iinc 8 1, 3, (8, 0, 0), .int (1)), (307, .goto (-94), 3, (213, 0, 0), .null), (310, .iload 5, 2, (5, 0, 0), .null), (312, .ifCond .le 14, 3, (326, 0, 0), .null), (315, .iload 6, 2, (6, 0, 0), .null), (317, .ifCond .lt 56, 3, (373, 0, 0), .null), (320, .iload 7, 2, (7, 0, 0), .null), (322, .iload_n 1, 1, (1, 0, 0), .null), (323, .if_icmp .gt 50, 3, (373, 0, 0), .null), (326, .aload_n 0, 1, (0, 0, 0), .null), (327, .iload 4, 2, (4, 0, 0), .null), (329, .iconst 2, 1, (0, 0, 0), .int (2)), (330, .invokestatic 182, 3, (164, 3, 1051), .int 0), (333, .ifCond .lt 40, 3, (373, 0, 0), .null), (336, .aload_n 0, 1, (0, 0, 0), .null), (337, .iload 4, 2, (4, 0, 0), .null), (339, .iconst 2, 1, (0, 0, 0), .int (2)), (340, .invokestatic 182, 3, (164, 3, 1051), .int 0), (343, .sipush 10000, 3, (0, 0, 0), .int (10000)), (346, .if_icmp .gt 27, 3, (373, 0, 0), .null), (349, .iload 4, 2, (4, 0, 0), .null), (351, .ifCond .le 24, 3, (375, 0, 0), .null), (354, .aload_n 0, 1, (0, 0, 0), .null), (355, .iload 4, 2, (4, 0, 0), .null), (357, .iconst 0, 1, (0, 0, 0), .int (0)), (358, .invokestatic 182, 3, (164, 3, 1051), .int 0), (361, .aload_n 0, 1, (0, 0, 0), .null), (362, .iload 4, 2, (4, 0, 0), .null), (364, .iconst 1, 1, (0, 0, 0), .int (1)), (365, .isub, 1, (0, 0, 0), .null), (366, .iconst 0, 1, (0, 0, 0), .int (0)), (367, .invokestatic 182, 3, (164, 3, 1051), .int 0), (370, .if_icmp .gt 5, 3, (375, 0, 0), .null), (373, .iconst 0, 1, (0, 0, 0), .int (0)), (374, .ireturn, 1, (0, 0, 0), .null), (375, .iinc 4 1, 3, (4, 0, 0), .int (1)), (378, .goto (-210), 3, (168, 0, 0), .null), (381, .iconst 0, 1, (0, 0, 0), .int (0)), (382, .istore 4, 2, (4, 0, 0), .null), (384, .iload 4, 2, (4, 0, 0), .null), (386, .aload_n 0, 1, (0, 0, 0), .null)]
def gC_165_2 : List (Nat × gR) := [(387, .invokevirtual 122, 3, (2, 0, 366), .int 0), (390, .if_icmp .ge 93, 3, (483, 0, 0), .null), (393, .aload_n 0, 1, (0, 0, 0), .null), (394, .iload 4, 2, (4, 0, 0), .null), (396, .iconst 1, 1, (0, 0, 0), .int (1)), (397, .invokestatic 179, 3, (153, 3, 387), .int 0), (400, .aload_n 0, 1, (0, 0, 0), .null), (401, .iload 4, 2, (4, 0, 0), .null), (403, .iconst 2, 1, (0, 0, 0), .int (2)), (404, .invokestatic 179, 3, (153, 3, 387), .int 0), (407, .if_icmp .ne 68, 3, (475, 0, 0), .null), (410, .aload_n 0, 1, (0, 0, 0), .null), (411, .iload 4, 2, (4, 0, 0), .null), (413, .iconst 0, 1, (0, 0, 0), .int (0)), (414, .invokestatic 173, 3, (159, 3, 927), .int 0), (417, .sipush (-1002), 3, (0, 0, 0), .int (-1002)), (420, .if_icmp .eq 25, 3, (445, 0, 0), .null), (423, .aload_n 0, 1, (0, 0, 0), .null), (424, .aload_n 0, 1, (0, 0, 0), .null), (425, .iload 4, 2, (4, 0, 0), .null), (427, .iconst 1, 1, (0, 0, 0), .int (1)), (428, .invokestatic 173, 3, (159, 3, 927), .int 0), (431, .iconst 0, 1, (0, 0, 0), .int (0)), (432, .invokestatic 173, 3, (159, 3, 927), .int 0), (435, .aload_n 0, 1, (0, 0, 0), .null), (436, .iload 4, 2, (4, 0, 0), .null), (438, .iconst 0, 1, (0, 0, 0), .int (0)), (439, .invokestatic 173, 3, (159, 3, 927), .int 0), (442, .if_icmp .ne 33, 3, (475, 0, 0), .null), (445, .aload_n 0, 1, (0, 0, 0), .null), (446, .iload 4, 2, (4, 0, 0), .null), (448, .iconst 0, 1, (0, 0, 0), .int (0)), (449, .invokestatic 173, 3, (159, 3, 927), .int 0), (452, .sipush (-1002), 3, (0, 0, 0), .int (-1002)), (455, .if_icmp .eq 22, 3, (477, 0, 0), .null), (458, .aload_n 0, 1, (0, 0, 0), .null), (459, .iload 4, 2, (4, 0, 0), .null), (461, .iconst 2, 1, (0, 0, 0), .int (2)), (462, .invokestatic 173, 3, (159, 3, 927), .int 0), (465, .aload_n 0, 1, (0, 0, 0), .null), (466, .iload 4, 2, (4, 0, 0), .null), (468, .iconst 4, 1, (0, 0, 0), .int (4)), (469, .invokestatic 173, 3, (159, 3, 927), .int 0), (472, .if_icmp .ge 5, 3, (477, 0, 0), .null), (475, .iconst 0, 1, (0, 0, 0), .int (0)), (476, .ireturn, 1, (0, 0, 0), .null), (477, .iinc 4 1, 3, (4, 0, 0), .int (1)), (480, .goto (-96), 3, (384, 0, 0), .null), (483, .iconst 1, 1, (0, 0, 0), .int (1)), (484, .ireturn, 1, (0, 0, 0), .null)]
/-- GlyphmillLaw.isSound -/
def gC_165 : List (Nat × gR) := gC_165_0 ++ (gC_165_1 ++ (gC_165_2))
def gC_166_0 : List (Nat × gR) := [(0, .new 8, 3, (0, 0, 0), .null), (3, .dup, 1, (0, 0, 0), .null), (4, .invokespecial 187, 3, (0, 0, 0), .null), (7, .astore_n 1, 1, (1, 0, 0), .null), (8, .bipush 60, 2, (0, 0, 0), .int (60)), (10, .istore_n 2, 1, (2, 0, 0), .null), (11, .iconst 0, 1, (0, 0, 0), .int (0)), (12, .istore_n 3, 1, (3, 0, 0), .null), (13, .aload_n 0, 1, (0, 0, 0), .null), (14, .iconst 0, 1, (0, 0, 0), .int (0)), (15, .invokestatic 188, 3, (0, 0, 381), .int 8), (18, .bipush 52, 2, (0, 0, 0), .int (52)), (20, .invokestatic 192, 3, (152, 2, 384), .int 0), (23, .istore 4, 2, (4, 0, 0), .null), (25, .iconst 0, 1, (0, 0, 0), .int (0)), (26, .istore 5, 2, (5, 0, 0), .null), (28, .iload 5, 2, (5, 0, 0), .null), (30, .iload 4, 2, (4, 0, 0), .null), (32, .if_icmp .ge 347, 3, (379, 0, 0), .null), (35, .aload_n 0, 1, (0, 0, 0), .null), (36, .iconst 1, 1, (0, 0, 0), .int (1)), (37, .iload 5, 2, (5, 0, 0), .null), (39, .iadd, 1, (0, 0, 0), .null), (40, .invokestatic 188, 3, (0, 0, 381), .int 8), (43, .ldc 195, 2, (0, 0, 1135), .int (100000000)), (45, .invokestatic 192, 3, (152, 2, 384), .int 0), (48, .istore 6, 2, (6, 0, 0), .null), (50, .iload 6, 2, (6, 0, 0), .null), (52, .bipush 24, 2, (0, 0, 0), .int (24)), (54, .idiv, 1, (0, 0, 0), .null), (55, .istore 7, 2, (7, 0, 0), .null), (57, .iload 5, 2, (5, 0, 0), .null), (59, .bipush 6, 2, (0, 0, 0), .int (6)), (61, .irem, 1, (0, 0, 0), .null), (62, .iconst 5, 1, (0, 0, 0), .int (5)), (63, .if_icmp .ne 7, 3, (70, 0, 0), .null), (66, .iconst 1, 1, (0, 0, 0), .int (1)), (67, .goto 4, 3, (71, 0, 0), .null), (70, .iconst 0, 1, (0, 0, 0), .int (0)), (71, .istore 8, 2, (8, 0, 0), .null), (73, .iload 8, 2, (8, 0, 0), .null), (75, .ifCond .eq 10, 3, (85, 0, 0), .null), (78, .aload_n 1, 1, (1, 0, 0), .null), (79, .invokestatic 196, 3, (162, 1, 954), .int 0), (82, .goto 4, 3, (86, 0, 0), .null), (85, .lconst 0, 1, (0, 0, 0), .long 0), (86, .lstore 9, 2, (9, 0, 0), .null), (88, .iconst 0, 1, (0, 0, 0), .int (0)), (89, .istore 11, 2, (11, 0, 0), .null), (91, .iload 6, 2, (6, 0, 0), .null), (93, .bipush 24, 2, (0, 0, 0), .int (24)), (95, .irem, 1, (0, 0, 0), .null), (96, .ifCond .ne 12, 3, (108, 0, 0), .null), (99, .aload_n 1, 1, (1, 0, 0), .null), (100, .invokestatic 200, 3, (155, 1, 876), .int 0), (103, .istore 11, 2, (11, 0, 0), .null), (105, .goto 225, 3, (330, 0, 0), .null), (108, .iload 6, 2, (6, 0, 0), .null), (110, .bipush 24, 2, (0, 0, 0), .int (24)), (112, .irem, 1, (0, 0, 0), .null), (113, .iconst 1, 1, (0, 0, 0), .int (1)), (114, .if_icmp .ne 32, 3, (146, 0, 0), .null), (117, .aload_n 1, 1, (1, 0, 0), .null), (118, .iload 7, 2, (7, 0, 0), .null), (120, .iconst 2, 1, (0, 0, 0), .int (2)), (121, .irem, 1, (0, 0, 0), .null), (122, .ifCond .ne 7, 3, (129, 0, 0), .null), (125, .iconst 1, 1, (0, 0, 0), .int (1)), (126, .goto 4, 3, (130, 0, 0), .null), (129, .iconst 0, 1, (0, 0, 0), .int (0)), (130, .invokevirtual 204, 3, (1, 1, 362), .int 0), (133, .ifCond .eq 7, 3, (140, 0, 0), .null), (136, .iconst 1, 1, (0, 0, 0), .int (1)), (137, .goto 4, 3, (141, 0, 0), .null), (140, .iconst 0, 1, (0, 0, 0), .int (0)), (141, .istore 11, 2, (11, 0, 0), .null), (143, .goto 187, 3, (330, 0, 0), .null), (146, .iload 6, 2, (6, 0, 0), .null), (148, .bipush 24, 2, (0, 0, 0), .int (24)), (150, .irem, 1, (0, 0, 0), .null), (151, .iconst 2, 1, (0, 0, 0), .int (2)), (152, .if_icmp .ne 30, 3, (182, 0, 0), .null), (155, .aload_n 1, 1, (1, 0, 0), .null), (156, .ldc 208, 2, (0, 0, 1136), .null), (158, .iload 7, 2, (7, 0, 0), .null), (160, .iconst 5, 1, (0, 0, 0), .int (5)), (161, .irem, 1, (0, 0, 0), .null), (162, .invokevirtual 210, 3, (0, 1, 1097), .int 7), (165, .iconst 1, 1, (0, 0, 0), .int (1)), (166, .iload 7, 2, (7, 0, 0), .null), (168, .iconst 5, 1, (0, 0, 0), .int (5)), (169, .idiv, 1, (0, 0, 0), .null), (170, .bipush 9, 2, (0, 0, 0), .int (9)), (172, .irem, 1, (0, 0, 0), .null), (173, .iadd, 1, (0, 0, 0), .null), (174, .invokestatic 213, 3, (156, 3, 888), .int 0), (177, .istore 11, 2, (11, 0, 0), .null), (179, .goto 151, 3, (330, 0, 0), .null), (182, .iload 6, 2, (6, 0, 0), .null), (184, .bipush 24, 2, (0, 0, 0), .int (24))]
def gC_166_1 : List (Nat × gR) := [(186, .irem, 1, (0, 0, 0), .null), (187, .iconst 3, 1, (0, 0, 0), .int (3)), (188, .if_icmp .ne 35, 3, (223, 0, 0), .null), (191, .bipush 10, 2, (0, 0, 0), .int (10)), (193, .iload 7, 2, (7, 0, 0), .null), (195, .bipush 40, 2, (0, 0, 0), .int (40)), (197, .irem, 1, (0, 0, 0), .null), (198, .iadd, 1, (0, 0, 0), .null), (199, .istore 12, 2, (12, 0, 0), .null), (201, .aload_n 1, 1, (1, 0, 0), .null), (202, .iload 12, 2, (12, 0, 0), .null), (204, .invokestatic 217, 3, (157, 2, 900), .int 0), (207, .istore 11, 2, (11, 0, 0), .null), (209, .iload 11, 2, (11, 0, 0), .null), (211, .iload_n 2, 1, (2, 0, 0), .null), (212, .if_icmp .eq 5, 3, (217, 0, 0), .null), (215, .iconst 0, 1, (0, 0, 0), .int (0)), (216, .ireturn, 1, (0, 0, 0), .null), (217, .iload 12, 2, (12, 0, 0), .null), (219, .istore_n 2, 1, (2, 0, 0), .null), (220, .goto 110, 3, (330, 0, 0), .null), (223, .iload 6, 2, (6, 0, 0), .null), (225, .bipush 24, 2, (0, 0, 0), .int (24)), (227, .irem, 1, (0, 0, 0), .null), (228, .iconst 4, 1, (0, 0, 0), .int (4)), (229, .if_icmp .ne 78, 3, (307, 0, 0), .null), (232, .aload_n 1, 1, (1, 0, 0), .null), (233, .iload 7, 2, (7, 0, 0), .null), (235, .iconst 3, 1, (0, 0, 0), .int (3)), (236, .irem, 1, (0, 0, 0), .null), (237, .ifCond .ne 16, 3, (253, 0, 0), .null), (240, .sipush 200, 3, (0, 0, 0), .int (200)), (243, .iload 7, 2, (7, 0, 0), .null), (245, .iconst 3, 1, (0, 0, 0), .int (3)), (246, .idiv, 1, (0, 0, 0), .null), (247, .iconst 3, 1, (0, 0, 0), .int (3)), (248, .irem, 1, (0, 0, 0), .null), (249, .iadd, 1, (0, 0, 0), .null), (250, .goto 12, 3, (262, 0, 0), .null), (253, .bipush 97, 2, (0, 0, 0), .int (97)), (255, .iload 7, 2, (7, 0, 0), .null), (257, .iconst 3, 1, (0, 0, 0), .int (3)), (258, .idiv, 1, (0, 0, 0), .null), (259, .iconst 3, 1, (0, 0, 0), .int (3)), (260, .irem, 1, (0, 0, 0), .null), (261, .iadd, 1, (0, 0, 0), .null), (262, .bipush 97, 2, (0, 0, 0), .int (97)), (264, .iload 7, 2, (7, 0, 0), .null), (266, .bipush 9, 2, (0, 0, 0), .int (9)), (268, .idiv, 1, (0, 0, 0), .null), (269, .iconst 3, 1, (0, 0, 0), .int (3)), (270, .irem, 1, (0, 0, 0), .null), (271, .iadd, 1, (0, 0, 0), .null), (272, .i2c, 1, (0, 0, 0), .null), (273, .iconst 1, 1, (0, 0, 0), .int (1)), (274, .iload 7, 2, (7, 0, 0), .null), (276, .bipush 27, 2, (0, 0, 0), .int (27)), (278, .idiv, 1, (0, 0, 0), .null), (279, .bipush 9, 2, (0, 0, 0), .int (9)), (281, .irem, 1, (0, 0, 0), .null), (282, .iadd, 1, (0, 0, 0), .null), (283, .invokestatic 220, 3, (158, 4, 908), .int 0), (286, .istore 11, 2, (11, 0, 0), .null), (288, .iload_n 3, 1, (3, 0, 0), .null), (289, .iload 11, 2, (11, 0, 0), .null), (291, .sipush 200, 3, (0, 0, 0), .int (200)), (294, .if_icmp .lt 7, 3, (301, 0, 0), .null), (297, .iconst 1, 1, (0, 0, 0), .int (1)), (298, .goto 4, 3, (302, 0, 0), .null), (301, .iconst 0, 1, (0, 0, 0), .int (0)), (302, .iadd, 1, (0, 0, 0), .null), (303, .istore_n 3, 1, (3, 0, 0), .null), (304, .goto 26, 3, (330, 0, 0), .null), (307, .ldc 224, 2, (0, 0, 1137), .ref 1002), (309, .astore 12, 2, (12, 0, 0), .null), (311, .aload_n 1, 1, (1, 0, 0), .null), (312, .aload 12, 2, (12, 0, 0), .null), (314, .iload 7, 2, (7, 0, 0), .null), (316, .aload 12, 2, (12, 0, 0), .null), (318, .invokevirtual 226, 3, (0, 0, 1087), .int 6), (321, .irem, 1, (0, 0, 0), .null), (322, .invokevirtual 210, 3, (0, 1, 1097), .int 7), (325, .invokestatic 227, 3, (154, 2, 833), .int 0), (328, .istore 11, 2, (11, 0, 0), .null), (330, .iload 11, 2, (11, 0, 0), .null), (332, .sipush (-1000), 3, (0, 0, 0), .int (-1000)), (335, .if_icmp .ge 18, 3, (353, 0, 0), .null), (338, .iload 8, 2, (8, 0, 0), .null), (340, .ifCond .eq 13, 3, (353, 0, 0), .null), (343, .aload_n 1, 1, (1, 0, 0), .null), (344, .invokestatic 196, 3, (162, 1, 954), .int 0), (347, .lload 9, 2, (9, 0, 0), .null), (349, .lcmp, 1, (0, 0, 0), .null), (350, .ifCond .ne 21, 3, (371, 0, 0), .null), (353, .iload 5, 2, (5, 0, 0), .null), (355, .bipush 17, 2, (0, 0, 0), .int (17)), (357, .irem, 1, (0, 0, 0), .null), (358, .bipush 16, 2, (0, 0, 0), .int (16)), (360, .if_icmp .ne 13, 3, (373, 0, 0), .null), (363, .aload_n 1, 1, (1, 0, 0), .null)]
def gC_166_2 : List (Nat × gR) := [(364, .iload_n 2, 1, (2, 0, 0), .null), (365, .invokestatic 231, 3, (165, 2, 1048), .int 0), (368, .ifCond .ne 5, 3, (373, 0, 0), .null), (371, .iconst 0, 1, (0, 0, 0), .int (0)), (372, .ireturn, 1, (0, 0, 0), .null), (373, .iinc 5 1, 3, (5, 0, 0), .int (1)), (376, .goto (-348), 3, (28, 0, 0), .null), (379, .aload_n 1, 1, (1, 0, 0), .null), (380, .iload_n 2, 1, (2, 0, 0), .null), (381, .invokestatic 231, 3, (165, 2, 1048), .int 0), (384, .ifCond .ne 5, 3, (389, 0, 0), .null), (387, .iconst 0, 1, (0, 0, 0), .int (0)), (388, .ireturn, 1, (0, 0, 0), .null), (389, .aload_n 1, 1, (1, 0, 0), .null), (390, .invokestatic 196, 3, (162, 1, 954), .int 0), (393, .lstore 5, 2, (5, 0, 0), .null), (395, .aload_n 1, 1, (1, 0, 0), .null), (396, .invokevirtual 122, 3, (2, 0, 366), .int 0), (399, .istore 7, 2, (7, 0, 0), .null), (401, .aload_n 1, 1, (1, 0, 0), .null), (402, .bipush 33, 2, (0, 0, 0), .int (33)), (404, .invokestatic 227, 3, (154, 2, 833), .int 0), (407, .sipush (-1001), 3, (0, 0, 0), .int (-1001)), (410, .if_icmp .ne 197, 3, (607, 0, 0), .null), (413, .aload_n 1, 1, (1, 0, 0), .null), (414, .bipush 93, 2, (0, 0, 0), .int (93)), (416, .invokestatic 227, 3, (154, 2, 833), .int 0), (419, .sipush (-1001), 3, (0, 0, 0), .int (-1001)), (422, .if_icmp .ne 185, 3, (607, 0, 0), .null), (425, .aload_n 1, 1, (1, 0, 0), .null), (426, .invokevirtual 127, 3, (5, 0, 370), .int 0), (429, .ifCond .ne 15, 3, (444, 0, 0), .null), (432, .aload_n 1, 1, (1, 0, 0), .null), (433, .bipush 125, 2, (0, 0, 0), .int (125)), (435, .invokestatic 227, 3, (154, 2, 833), .int 0), (438, .sipush (-1002), 3, (0, 0, 0), .int (-1002)), (441, .if_icmp .ne 166, 3, (607, 0, 0), .null), (444, .iload 7, 2, (7, 0, 0), .null), (446, .bipush 50, 2, (0, 0, 0), .int (50)), (448, .if_icmp .ne 15, 3, (463, 0, 0), .null), (451, .aload_n 1, 1, (1, 0, 0), .null), (452, .bipush 97, 2, (0, 0, 0), .int (97)), (454, .invokestatic 227, 3, (154, 2, 833), .int 0), (457, .sipush (-1002), 3, (0, 0, 0), .int (-1002)), (460, .if_icmp .ne 147, 3, (607, 0, 0), .null), (463, .aload_n 1, 1, (1, 0, 0), .null), (464, .bipush 91, 2, (0, 0, 0), .int (91)), (466, .iconst 4, 1, (0, 0, 0), .int (4)), (467, .invokestatic 213, 3, (156, 3, 888), .int 0), (470, .sipush (-1001), 3, (0, 0, 0), .int (-1001)), (473, .if_icmp .ne 134, 3, (607, 0, 0), .null), (476, .aload_n 1, 1, (1, 0, 0), .null), (477, .bipush 97, 2, (0, 0, 0), .int (97)), (479, .iconst 0, 1, (0, 0, 0), .int (0)), (480, .invokestatic 213, 3, (156, 3, 888), .int 0), (483, .sipush (-1001), 3, (0, 0, 0), .int (-1001)), (486, .if_icmp .ne 121, 3, (607, 0, 0), .null), (489, .aload_n 1, 1, (1, 0, 0), .null), (490, .bipush 97, 2, (0, 0, 0), .int (97)), (492, .bipush 21, 2, (0, 0, 0), .int (21)), (494, .invokestatic 213, 3, (156, 3, 888), .int 0), (497, .sipush (-1001), 3, (0, 0, 0), .int (-1001)), (500, .if_icmp .ne 107, 3, (607, 0, 0), .null), (503, .aload_n 1, 1, (1, 0, 0), .null), (504, .bipush 9, 2, (0, 0, 0), .int (9)), (506, .invokestatic 217, 3, (157, 2, 900), .int 0), (509, .sipush (-1001), 3, (0, 0, 0), .int (-1001)), (512, .if_icmp .ne 95, 3, (607, 0, 0), .null), (515, .aload_n 1, 1, (1, 0, 0), .null), (516, .sipush 201, 3, (0, 0, 0), .int (201)), (519, .invokestatic 217, 3, (157, 2, 900), .int 0), (522, .sipush (-1001), 3, (0, 0, 0), .int (-1001)), (525, .if_icmp .ne 82, 3, (607, 0, 0), .null), (528, .aload_n 1, 1, (1, 0, 0), .null), (529, .bipush 49, 2, (0, 0, 0), .int (49)), (531, .bipush 97, 2, (0, 0, 0), .int (97)), (533, .iconst 4, 1, (0, 0, 0), .int (4)), (534, .invokestatic 220, 3, (158, 4, 908), .int 0), (537, .sipush (-1001), 3, (0, 0, 0), .int (-1001)), (540, .if_icmp .ne 67, 3, (607, 0, 0), .null), (543, .aload_n 1, 1, (1, 0, 0), .null), (544, .bipush 97, 2, (0, 0, 0), .int (97)), (546, .bipush 49, 2, (0, 0, 0), .int (49)), (548, .iconst 4, 1, (0, 0, 0), .int (4)), (549, .invokestatic 220, 3, (158, 4, 908), .int 0), (552, .sipush (-1001), 3, (0, 0, 0), .int (-1001)), (555, .if_icmp .ne 52, 3, (607, 0, 0), .null), (558, .aload_n 1, 1, (1, 0, 0), .null), (559, .bipush 97, 2, (0, 0, 0), .int (97)), (561, .bipush 97, 2, (0, 0, 0), .int (97)), (563, .bipush 41, 2, (0, 0, 0), .int (41)), (565, .invokestatic 220, 3, (158, 4, 908), .int 0), (568, .sipush (-1001), 3, (0, 0, 0), .int (-1001)), (571, .if_icmp .ne 36, 3, (607, 0, 0), .null), (574, .aload_n 1, 1, (1, 0, 0), .null), (575, .sipush 200, 3, (0, 0, 0), .int (200)), (578, .iload_n 3, 1, (3, 0, 0), .null), (579, .iadd, 1, (0, 0, 0), .null), (580, .bipush 97, 2, (0, 0, 0), .int (97)), (582, .iconst 4, 1, (0, 0, 0), .int (4))]
def gC_166_3 : List (Nat × gR) := [(583, .invokestatic 220, 3, (158, 4, 908), .int 0), (586, .sipush (-1001), 3, (0, 0, 0), .int (-1001)), (589, .if_icmp .ne 18, 3, (607, 0, 0), .null), (592, .iload 7, 2, (7, 0, 0), .null), (594, .ifCond .ne 15, 3, (609, 0, 0), .null), (597, .aload_n 1, 1, (1, 0, 0), .null), (598, .invokestatic 200, 3, (155, 1, 876), .int 0), (601, .sipush (-1001), 3, (0, 0, 0), .int (-1001)), (604, .if_icmp .eq 5, 3, (609, 0, 0), .null), (607, .iconst 0, 1, (0, 0, 0), .int (0)), (608, .ireturn, 1, (0, 0, 0), .null), (609, .aload_n 1, 1, (1, 0, 0), .null), (610, .iload 7, 2, (7, 0, 0), .null), (612, .iconst 0, 1, (0, 0, 0), .int (0)), (613, .invokestatic 173, 3, (159, 3, 927), .int 0), (616, .sipush (-1001), 3, (0, 0, 0), .int (-1001)), (619, .if_icmp .ne 42, 3, (661, 0, 0), .null), (622, .aload_n 1, 1, (1, 0, 0), .null), (623, .iconst (-1), 1, (0, 0, 0), .int (-1)), (624, .iconst 3, 1, (0, 0, 0), .int (3)), (625, .invokestatic 173, 3, (159, 3, 927), .int 0), (628, .sipush (-1001), 3, (0, 0, 0), .int (-1001)), (631, .if_icmp .ne 30, 3, (661, 0, 0), .null), (634, .aload_n 1, 1, (1, 0, 0), .null), (635, .iload 7, 2, (7, 0, 0), .null), (637, .iconst 0, 1, (0, 0, 0), .int (0)), (638, .invokestatic 179, 3, (153, 3, 387), .int 0), (641, .sipush (-1001), 3, (0, 0, 0), .int (-1001)), (644, .if_icmp .ne 17, 3, (661, 0, 0), .null), (647, .aload_n 1, 1, (1, 0, 0), .null), (648, .invokestatic 196, 3, (162, 1, 954), .int 0), (651, .lload 5, 2, (5, 0, 0), .null), (653, .lcmp, 1, (0, 0, 0), .null), (654, .ifCond .ne 7, 3, (661, 0, 0), .null), (657, .iconst 1, 1, (0, 0, 0), .int (1)), (658, .goto 4, 3, (662, 0, 0), .null), (661, .iconst 0, 1, (0, 0, 0), .int (0)), (662, .ireturn, 1, (0, 0, 0), .null)]
/-- GlyphmillLaw.law -/
def gC_166 : List (Nat × gR) := gC_166_0 ++ (gC_166_1 ++ (gC_166_2 ++ (gC_166_3)))
def gCode : List (List (Nat × gR)) := [gC_0, gC_1, gC_2, gC_3, gC_4, gC_5, gC_6, gC_7, gC_8, gC_9, gC_10, gC_11, gC_12, gC_13, gC_14, gC_15, gC_16, gC_17, gC_18, gC_19, gC_20, gC_21, gC_22, gC_23, gC_24, gC_25, gC_26, gC_27, gC_28, gC_29, gC_30, gC_31, gC_32, gC_33, gC_34, gC_35, gC_36, gC_37, gC_38, gC_39, gC_40, gC_41, gC_42, gC_43, gC_44, gC_45, gC_46, gC_47, gC_48, gC_49, gC_50, gC_51, gC_52, gC_53, gC_54, gC_55, gC_56, gC_57, gC_58, gC_59, gC_60, gC_61, gC_62, gC_63, gC_64, gC_65, gC_66, gC_67, gC_68, gC_69, gC_70, gC_71, gC_72, gC_73, gC_74, gC_75, gC_76, gC_77, gC_78, gC_79, gC_80, gC_81, gC_82, gC_83, gC_84, gC_85, gC_86, gC_87, gC_88, gC_89, gC_90, gC_91, gC_92, gC_93, gC_94, gC_95, gC_96, gC_97, gC_98, gC_99, gC_100, gC_101, gC_102, gC_103, gC_104, gC_105, gC_106, gC_107, gC_108, gC_109, gC_110, gC_111, gC_112, gC_113, gC_114, gC_115, gC_116, gC_117, gC_118, gC_119, gC_120, gC_121, gC_122, gC_123, gC_124, gC_125, gC_126, gC_127, gC_128, gC_129, gC_130, gC_131, gC_132, gC_133, gC_134, gC_135, gC_136, gC_137, gC_138, gC_139, gC_140, gC_141, gC_142, gC_143, gC_144, gC_145, gC_146, gC_147, gC_148, gC_149, gC_150, gC_151, gC_152, gC_153, gC_154, gC_155, gC_156, gC_157, gC_158, gC_159, gC_160, gC_161, gC_162, gC_163, gC_164, gC_165, gC_166]
def gYs : List MethodName := [⟨"java/util/Arrays", "fill", "([II)V"⟩, ⟨"Glyphmill", "setBase", "(Z)Z"⟩, ⟨"Glyphmill", "length", "()I"⟩, ⟨"Glyphmill", "isMark", "(I)Z"⟩, ⟨"Glyphmill$Text", "countOpen", "()I"⟩, ⟨"Glyphmill", "open", "()I"⟩, ⟨"Glyphmill$Font", "ligature", "(IC)I"⟩, ⟨"Glyphmill$Glyphs", "ligatureWith", "(ILGlyphmill$Font;)I"⟩, ⟨"Glyphmill$Font", "isLigature", "(I)Z"⟩, ⟨"Glyphmill$Font", "glyphWidth", "(I)I"⟩, ⟨"Glyphmill$Glyphs", "isSpace", "(I)Z"⟩, ⟨"Glyphmill$Glyphs", "measure", "(LGlyphmill$Font;)V"⟩, ⟨"Glyphmill$Glyphs", "form", "(LGlyphmill$Font;)V"⟩, ⟨"Glyphmill", "isOdd", "(I)Z"⟩, ⟨"Glyphmill$Levels", "direction", "(I)I"⟩, ⟨"Glyphmill$Levels", "neutralEnd", "(II)I"⟩, ⟨"Glyphmill$Levels", "side", "(I)I"⟩, ⟨"Glyphmill$Levels", "directNeutrals", "(IIII)V"⟩, ⟨"Glyphmill$Levels", "setLevels", "(II)V"⟩, ⟨"Glyphmill", "isDigit", "(I)Z"⟩, ⟨"Glyphmill", "isLeftLetter", "(I)Z"⟩, ⟨"Glyphmill", "isRightLetter", "(I)Z"⟩, ⟨"Glyphmill", "isLetter", "(I)Z"⟩, ⟨"Glyphmill$Levels", "sortKinds", "(III)V"⟩, ⟨"Glyphmill$Levels", "stretchEnd", "(I)I"⟩, ⟨"Glyphmill$Levels", "resolve", "(I)V"⟩, ⟨"Glyphmill$Lines", "arePossible", "()Z"⟩, ⟨"Glyphmill$Lines", "bestBeginning", "()I"⟩, ⟨"Glyphmill$Parts", "naturalWidth", "(II)I"⟩, ⟨"Glyphmill$Lines", "difference", "(II)I"⟩, ⟨"Glyphmill$Parts", "keptSpaces", "(II)I"⟩, ⟨"Glyphmill$Lines", "badness", "(II)I"⟩, ⟨"Glyphmill$Glyphs", "isHyphen", "(I)Z"⟩, ⟨"Glyphmill$Parts", "isHyphenAhead", "(I)Z"⟩, ⟨"Glyphmill$Lines", "demeritsOf", "(II)J"⟩, ⟨"Glyphmill$Lines", "differsEarlier", "(II)Z"⟩, ⟨"Glyphmill$Lines", "isBetter", "(IIJ)Z"⟩, ⟨"Glyphmill$Lines", "isPossible", "(II)Z"⟩, ⟨"Glyphmill$Lines", "extend", "(I)V"⟩, ⟨"java/util/Arrays", "fill", "([JJ)V"⟩, ⟨"Glyphmill$Lines", "forgetBeginnings", "()V"⟩, ⟨"Glyphmill$Lines", "traceBack", "()V"⟩, ⟨"Glyphmill$Lines", "find", "()V"⟩, ⟨"Glyphmill$Lines", "firstTooWide", "()I"⟩, ⟨"Glyphmill$Lines", "fit", "(I)V"⟩, ⟨"Glyphmill$Parts", "isBreakAhead", "(I)Z"⟩, ⟨"Glyphmill$Parts", "cut", "()V"⟩, ⟨"Glyphmill$Rows", "endOf", "(I)I"⟩, ⟨"Glyphmill$Rows", "reverse", "(II)V"⟩, ⟨"Glyphmill$Rows", "reverseFrom", "(III)V"⟩, ⟨"Glyphmill$Rows", "orderLine", "(II)V"⟩, ⟨"Glyphmill$Rows", "startOf", "(I)I"⟩, ⟨"Glyphmill$Rows", "justify", "(III)V"⟩, ⟨"Glyphmill$Rows", "takeWidths", "(I)V"⟩, ⟨"Glyphmill$Rows", "placeLine", "(II)V"⟩, ⟨"Glyphmill$Rows", "arrange", "(I)V"⟩, ⟨"Glyphmill$Runs", "letterScript", "(C)I"⟩, ⟨"Glyphmill$Runs", "firstScript", "()I"⟩, ⟨"Glyphmill$Runs", "divide", "()V"⟩, ⟨"Glyphmill$Sequence", "levelInside", "(IZ)I"⟩, ⟨"Glyphmill$Sequence", "take", "(ICI)V"⟩, ⟨"Glyphmill$Sequence", "read", "(LGlyphmill$Text;I)V"⟩, ⟨"Glyphmill", "refresh", "()V"⟩, ⟨"Glyphmill", "runs", "()I"⟩, ⟨"Glyphmill", "glyphs", "()I"⟩, ⟨"Glyphmill$Parts", "countBreaks", "()I"⟩, ⟨"Glyphmill", "breaks", "()I"⟩, ⟨"Glyphmill", "indexOfGlyph", "(I)I"⟩, ⟨"Glyphmill", "tooWide", "()I"⟩, ⟨"Glyphmill", "excess", "()I"⟩, ⟨"Glyphmill", "isNeutral", "(I)Z"⟩, ⟨"Glyphmill", "isShown", "(I)Z"⟩, ⟨"Glyphmill$Text", "append", "(C)V"⟩, ⟨"Glyphmill$Text", "takes", "(C)Z"⟩, ⟨"Glyphmill", "add", "(C)I"⟩, ⟨"Glyphmill", "length", "()I"⟩, ⟨"Glyphmill$Text", "cutLast", "()C"⟩, ⟨"Glyphmill", "removeLast", "()C"⟩, ⟨"Glyphmill", "length", "()I"⟩, ⟨"Glyphmill$Font", "changeWidth", "(CI)I"⟩, ⟨"Glyphmill", "setWidth", "(CI)I"⟩, ⟨"Glyphmill", "length", "()I"⟩, ⟨"Glyphmill", "setLine", "(I)I"⟩, ⟨"Glyphmill", "length", "()I"⟩, ⟨"Glyphmill$Font", "addRule", "(ICI)I"⟩, ⟨"Glyphmill$Font", "canBegin", "(I)Z"⟩, ⟨"Glyphmill", "addLigature", "(ICI)I"⟩, ⟨"Glyphmill", "length", "()I"⟩, ⟨"Glyphmill", "needIndex", "(I)V"⟩, ⟨"Glyphmill", "charAt", "(I)C"⟩, ⟨"Glyphmill", "length", "()I"⟩, ⟨"Glyphmill", "slotOf", "(I)I"⟩, ⟨"Glyphmill", "embeddingOf", "(I)I"⟩, ⟨"Glyphmill", "length", "()I"⟩, ⟨"Glyphmill", "levelOf", "(I)I"⟩, ⟨"Glyphmill", "length", "()I"⟩, ⟨"Glyphmill", "length", "()I"⟩, ⟨"Glyphmill", "length", "()I"⟩, ⟨"Glyphmill", "runOf", "(I)I"⟩, ⟨"Glyphmill", "length", "()I"⟩, ⟨"Glyphmill", "glyphAround", "(I)I"⟩, ⟨"Glyphmill", "glyphOf", "(I)I"⟩, ⟨"Glyphmill", "length", "()I"⟩, ⟨"Glyphmill", "glyphStart", "(I)I"⟩, ⟨"Glyphmill", "length", "()I"⟩, ⟨"Glyphmill", "length", "()I"⟩, ⟨"Glyphmill", "length", "()I"⟩, ⟨"Glyphmill", "needLines", "()V"⟩, ⟨"Glyphmill", "lines", "()I"⟩, ⟨"Glyphmill", "length", "()I"⟩, ⟨"Glyphmill$Lines", "countFirstFit", "()I"⟩, ⟨"Glyphmill", "linesByFirstFit", "()I"⟩, ⟨"Glyphmill", "length", "()I"⟩, ⟨"Glyphmill", "needLine", "(I)V"⟩, ⟨"Glyphmill", "firstOf", "(I)I"⟩, ⟨"Glyphmill", "length", "()I"⟩, ⟨"Glyphmill", "glyphInLines", "(I)I"⟩, ⟨"Glyphmill", "lineOf", "(I)I"⟩, ⟨"Glyphmill", "length", "()I"⟩, ⟨"Glyphmill", "widthOf", "(I)I"⟩, ⟨"Glyphmill", "length", "()I"⟩, ⟨"Glyphmill", "badnessOf", "(I)I"⟩, ⟨"Glyphmill", "length", "()I"⟩, ⟨"Glyphmill", "demerits", "()J"⟩, ⟨"Glyphmill", "length", "()I"⟩, ⟨"Glyphmill", "needFewBreaks", "()V"⟩, ⟨"java/lang/Integer", "bitCount", "(I)I"⟩, ⟨"Glyphmill$Lines", "trySet", "(I)V"⟩, ⟨"Glyphmill$Lines", "tryAll", "()V"⟩, ⟨"Glyphmill", "demeritsByTrying", "()J"⟩, ⟨"Glyphmill", "length", "()I"⟩, ⟨"Glyphmill", "linesByTrying", "()I"⟩, ⟨"Glyphmill", "length", "()I"⟩, ⟨"Glyphmill", "glyphsOf", "(I)I"⟩, ⟨"Glyphmill", "length", "()I"⟩, ⟨"Glyphmill", "glyphAt", "(II)I"⟩, ⟨"Glyphmill", "length", "()I"⟩, ⟨"Glyphmill", "placedGlyph", "(I)I"⟩, ⟨"Glyphmill", "rankOf", "(I)I"⟩, ⟨"Glyphmill", "length", "()I"⟩, ⟨"Glyphmill$Rows", "countRank", "(I)I"⟩, ⟨"Glyphmill", "rankByCounting", "(I)I"⟩, ⟨"Glyphmill", "length", "()I"⟩, ⟨"Glyphmill", "placeOf", "(I)I"⟩, ⟨"Glyphmill", "length", "()I"⟩, ⟨"Glyphmill", "justifiedWidth", "(I)I"⟩, ⟨"Glyphmill", "length", "()I"⟩, ⟨"Glyphmill", "length", "()I"⟩, ⟨"Glyphmill", "length", "()I"⟩, ⟨"Glyphmill", "length", "()I"⟩, ⟨"Glyphmill", "length", "()I"⟩, ⟨"Glyphmill", "length", "()I"⟩, ⟨"GlyphmillLaw", "some", "(II)I"⟩, ⟨"GlyphmillLaw", "stands", "(LGlyphmill;II)I"⟩, ⟨"GlyphmillLaw", "adds", "(LGlyphmill;C)I"⟩, ⟨"GlyphmillLaw", "removes", "(LGlyphmill;)I"⟩, ⟨"GlyphmillLaw", "widths", "(LGlyphmill;CI)I"⟩, ⟨"GlyphmillLaw", "sets", "(LGlyphmill;I)I"⟩, ⟨"GlyphmillLaw", "rules", "(LGlyphmill;ICI)I"⟩, ⟨"GlyphmillLaw", "glyph", "(LGlyphmill;II)I"⟩, ⟨"GlyphmillLaw", "demerits", "(LGlyphmill;Z)J"⟩, ⟨"GlyphmillLaw", "lines", "(LGlyphmill;I)I"⟩, ⟨"GlyphmillLaw", "sum", "(LGlyphmill;)J"⟩, ⟨"GlyphmillLaw", "glyphAt", "(LGlyphmill;II)I"⟩, ⟨"GlyphmillLaw", "line", "(LGlyphmill;II)I"⟩, ⟨"GlyphmillLaw", "isSound", "(LGlyphmill;I)Z"⟩, ⟨"GlyphmillLaw", "law", "([I)Z"⟩]
def gBys : List ByteArray := [prog_31_method_103_code, prog_1_method_6_code, prog_1_method_8_code, prog_1_method_56_code, prog_10_method_2_code, prog_1_method_10_code, prog_2_method_5_code, prog_3_method_3_code, prog_2_method_4_code, prog_2_method_7_code, prog_3_method_5_code, prog_3_method_4_code, prog_3_method_2_code, prog_1_method_58_code, prog_4_method_4_code, prog_4_method_7_code, prog_4_method_8_code, prog_4_method_6_code, prog_4_method_9_code, prog_1_method_54_code, prog_1_method_51_code, prog_1_method_52_code, prog_1_method_53_code, prog_4_method_5_code, prog_4_method_3_code, prog_4_method_2_code, prog_5_method_2_code, prog_5_method_11_code, prog_6_method_6_code, prog_5_method_5_code, prog_6_method_7_code, prog_5_method_7_code, prog_3_method_6_code, prog_6_method_5_code, prog_5_method_8_code, prog_5_method_14_code, prog_5_method_13_code, prog_5_method_6_code, prog_5_method_12_code, prog_31_method_101_code, prog_5_method_10_code, prog_5_method_15_code, prog_5_method_9_code, prog_5_method_4_code, prog_5_method_3_code, prog_6_method_3_code, prog_6_method_2_code, prog_7_method_3_code, prog_7_method_7_code, prog_7_method_6_code, prog_7_method_5_code, prog_7_method_2_code, prog_7_method_10_code, prog_7_method_9_code, prog_7_method_8_code, prog_7_method_4_code, prog_8_method_4_code, prog_8_method_3_code, prog_8_method_2_code, prog_9_method_4_code, prog_9_method_3_code, prog_9_method_2_code, prog_1_method_40_code, prog_1_method_15_code, prog_1_method_18_code, prog_6_method_4_code, prog_1_method_19_code, prog_1_method_44_code, prog_1_method_21_code, prog_1_method_22_code, prog_1_method_55_code, prog_1_method_57_code, prog_10_method_4_code, prog_10_method_3_code, prog_1_method_2_code, prog_1_method_8_code, prog_10_method_5_code, prog_1_method_3_code, prog_1_method_8_code, prog_2_method_2_code, prog_1_method_4_code, prog_1_method_8_code, prog_1_method_5_code, prog_1_method_8_code, prog_2_method_6_code, prog_2_method_3_code, prog_1_method_7_code, prog_1_method_8_code, prog_1_method_41_code, prog_1_method_9_code, prog_1_method_8_code, prog_1_method_42_code, prog_1_method_11_code, prog_1_method_8_code, prog_1_method_12_code, prog_1_method_8_code, prog_1_method_8_code, prog_1_method_8_code, prog_1_method_14_code, prog_1_method_8_code, prog_1_method_43_code, prog_1_method_16_code, prog_1_method_8_code, prog_1_method_17_code, prog_1_method_8_code, prog_1_method_8_code, prog_1_method_8_code, prog_1_method_45_code, prog_1_method_23_code, prog_1_method_8_code, prog_5_method_16_code, prog_1_method_24_code, prog_1_method_8_code, prog_1_method_46_code, prog_1_method_25_code, prog_1_method_8_code, prog_1_method_49_code, prog_1_method_26_code, prog_1_method_8_code, prog_1_method_27_code, prog_1_method_8_code, prog_1_method_28_code, prog_1_method_8_code, prog_1_method_29_code, prog_1_method_8_code, prog_1_method_48_code, prog_21_method_49_code, prog_5_method_18_code, prog_5_method_17_code, prog_1_method_30_code, prog_1_method_8_code, prog_1_method_31_code, prog_1_method_8_code, prog_1_method_32_code, prog_1_method_8_code, prog_1_method_33_code, prog_1_method_8_code, prog_1_method_50_code, prog_1_method_34_code, prog_1_method_8_code, prog_7_method_11_code, prog_1_method_35_code, prog_1_method_8_code, prog_1_method_36_code, prog_1_method_8_code, prog_1_method_37_code, prog_1_method_8_code, prog_1_method_8_code, prog_1_method_8_code, prog_1_method_8_code, prog_1_method_8_code, prog_1_method_8_code, method_3_code, method_4_code, method_11_code, method_12_code, method_13_code, method_14_code, method_15_code, method_16_code, method_8_code, method_7_code, method_17_code, method_6_code, method_5_code, method_18_code, code]
def gMLs : List Nat := [4, 3, 1, 1, 3, 1, 4, 3, 2, 2, 2, 3, 4, 1, 1, 4, 1, 11, 5, 1, 1, 1, 1, 7, 3, 9, 1, 3, 3, 3, 3, 9, 2, 2, 7, 7, 5, 3, 5, 5, 2, 3, 3, 2, 2, 2, 2, 3, 6, 6, 5, 2, 8, 3, 10, 4, 1, 2, 3, 2, 4, 6, 1, 1, 1, 1, 1, 2, 1, 1, 1, 1, 2, 2, 2, 1, 1, 1, 1, 4, 3, 1, 3, 1, 4, 2, 4, 1, 2, 2, 1, 3, 2, 1, 2, 1, 1, 1, 2, 1, 2, 2, 1, 2, 1, 1, 1, 1, 1, 1, 4, 1, 1, 2, 2, 1, 3, 2, 1, 2, 1, 2, 1, 1, 1, 1, 1, 6, 3, 1, 1, 1, 1, 2, 1, 4, 1, 3, 2, 1, 6, 2, 1, 2, 1, 2, 1, 1, 1, 1, 1, 1, 3, 4, 3, 2, 4, 3, 5, 4, 3, 3, 4, 4, 4, 10, 13]
def gRts : List (Option FieldType) := [none, (some .boolean), (some .int), (some .boolean), (some .int), (some .int), (some .int), (some .int), (some .boolean), (some .int), (some .boolean), none, none, (some .boolean), (some .int), (some .int), (some .int), none, none, (some .boolean), (some .boolean), (some .boolean), (some .boolean), none, (some .int), none, (some .boolean), (some .int), (some .int), (some .int), (some .int), (some .int), (some .boolean), (some .boolean), (some .long), (some .boolean), (some .boolean), (some .boolean), none, none, none, none, none, (some .int), none, (some .boolean), none, (some .int), none, none, none, (some .int), none, none, none, none, (some .int), (some .int), none, (some .int), none, none, none, (some .int), (some .int), (some .int), (some .int), (some .int), (some .int), (some .int), (some .boolean), (some .boolean), none, (some .boolean), (some .int), (some .int), (some .char), (some .char), (some .int), (some .int), (some .int), (some .int), (some .int), (some .int), (some .int), (some .boolean), (some .int), (some .int), none, (some .char), (some .int), (some .int), (some .int), (some .int), (some .int), (some .int), (some .int), (some .int), (some .int), (some .int), (some .int), (some .int), (some .int), (some .int), (some .int), (some .int), (some .int), none, (some .int), (some .int), (some .int), (some .int), (some .int), none, (some .int), (some .int), (some .int), (some .int), (some .int), (some .int), (some .int), (some .int), (some .int), (some .long), (some .int), none, (some .int), none, none, (some .long), (some .int), (some .int), (some .int), (some .int), (some .int), (some .int), (some .int), (some .int), (some .int), (some .int), (some .int), (some .int), (some .int), (some .int), (some .int), (some .int), (some .int), (some .int), (some .int), (some .int), (some .int), (some .int), (some .int), (some .int), (some .int), (some .int), (some .int), (some .int), (some .int), (some .int), (some .long), (some .int), (some .long), (some .int), (some .int), (some .boolean), (some .boolean)]
def gHhs : List (List (Nat × Nat × Nat × Nat)) := [[], [], [], [], [], [], [], [], [], [], [], [], [], [], [], [], [], [], [], [], [], [], [], [], [], [], [], [], [], [], [], [], [], [], [], [], [], [], [], [], [], [], [], [], [], [], [], [], [], [], [], [], [], [], [], [], [], [], [], [], [], [], [], [], [], [], [], [], [], [], [], [], [], [], [], [], [], [], [], [], [], [], [], [], [], [], [], [], [], [], [], [], [], [], [], [], [], [], [], [], [], [], [], [], [], [], [], [], [], [], [], [], [], [], [], [], [], [], [], [], [], [], [], [], [], [], [], [], [], [], [], [], [], [], [], [], [], [], [], [], [], [], [], [], [], [], [], [], [], [], [], [], [], [(0, 56, 57, 25), (0, 56, 62, 27), (0, 56, 67, 29), (0, 56, 72, 31)], [(0, 5, 6, 90), (0, 5, 11, 29)], [(0, 4, 5, 31)], [(0, 6, 7, 90)], [(0, 5, 6, 90)], [(0, 7, 8, 90), (0, 7, 14, 29)], [(0, 56, 57, 25), (0, 56, 62, 27)], [(0, 15, 16, 29), (0, 15, 21, 27)], [(0, 27, 28, 29), (0, 27, 33, 27)], [], [(0, 6, 7, 29), (0, 6, 12, 25)], [(0, 43, 44, 29), (0, 43, 49, 25)], [], []]
/-- the rows of a table of handlers: the exception, its word's place -/
def gHes : List (List (Nat × Nat)) := [[], [], [], [], [], [], [], [], [], [], [], [], [], [], [], [], [], [], [], [], [], [], [], [], [], [], [], [], [], [], [], [], [], [], [], [], [], [], [], [], [], [], [], [], [], [], [], [], [], [], [], [], [], [], [], [], [], [], [], [], [], [], [], [], [], [], [], [], [], [], [], [], [], [], [], [], [], [], [], [], [], [], [], [], [], [], [], [], [], [], [], [], [], [], [], [], [], [], [], [], [], [], [], [], [], [], [], [], [], [], [], [], [], [], [], [], [], [], [], [], [], [], [], [], [], [], [], [], [], [], [], [], [], [], [], [], [], [], [], [], [], [], [], [], [], [], [], [], [], [], [], [], [], [(2, 390), (3, 469), (1, 470), (4, 471)], [(0, 836), (1, 470)], [(4, 471)], [(0, 836)], [(0, 836)], [(0, 836), (1, 470)], [(2, 390), (3, 469)], [(1, 470), (3, 469)], [(1, 470), (3, 469)], [], [(1, 470), (2, 390)], [(1, 470), (2, 390)], [], []]
def gFrs : List (Nat × Nat) := [(0, 0), (0, 0), (0, 0), (0, 0), (1, 20), (2, 42), (0, 0), (1, 23), (0, 0), (1, 21), (0, 0), (2, 42), (3, 64), (0, 0), (1, 20), (0, 0), (0, 0), (2, 40), (1, 20), (0, 0), (0, 0), (0, 0), (1, 20), (2, 40), (0, 0), (3, 70), (0, 0), (0, 0), (0, 0), (1, 22), (0, 0), (2, 44), (0, 0), (1, 21), (3, 72), (0, 0), (1, 26), (2, 44), (4, 98), (0, 0), (1, 24), (0, 0), (5, 122), (3, 66), (4, 87), (1, 21), (2, 42), (0, 0), (0, 0), (1, 25), (2, 50), (0, 0), (1, 22), (1, 22), (2, 49), (3, 78), (1, 20), (2, 40), (3, 61), (1, 20), (0, 0), (2, 41), (6, 144), (7, 164), (7, 164), (0, 0), (7, 164), (0, 0), (7, 164), (7, 164), (0, 0), (2, 40), (0, 0), (2, 42), (6, 82), (0, 0), (0, 0), (6, 82), (0, 0), (0, 0), (6, 82), (0, 0), (6, 82), (0, 0), (0, 0), (2, 40), (6, 82), (0, 0), (6, 82), (7, 103), (0, 0), (7, 103), (8, 164), (0, 0), (8, 164), (0, 0), (0, 0), (0, 0), (8, 164), (0, 0), (8, 125), (9, 164), (0, 0), (9, 164), (0, 0), (0, 0), (0, 0), (6, 82), (7, 164), (0, 0), (2, 44), (7, 164), (0, 0), (7, 102), (8, 164), (0, 0), (9, 146), (10, 168), (0, 0), (8, 164), (0, 0), (8, 164), (0, 0), (7, 164), (0, 0), (6, 82), (0, 0), (4, 98), (5, 123), (7, 164), (0, 0), (7, 164), (0, 0), (8, 164), (0, 0), (8, 164), (0, 0), (10, 168), (11, 190), (0, 0), (1, 22), (11, 190), (0, 0), (11, 190), (0, 0), (11, 190), (0, 0), (0, 0), (0, 0), (0, 0), (0, 0), (0, 0), (0, 0), (12, 211), (7, 103), (7, 102), (7, 104), (7, 104), (7, 105), (10, 185), (8, 184), (8, 184), (13, 234), (9, 187), (9, 185), (13, 234), (23, 10954)]
def gCos : List Nat := [0, 0, 0, 0, 0, 0, 0, 0, 0, 0, 0, 0, 0, 0, 0, 0, 0, 0, 0, 0, 0, 0, 0, 0, 0, 0, 0, 0, 0, 0, 0, 0, 0, 0, 0, 0, 0, 0, 0, 0, 0, 0, 0, 0, 0, 0, 0, 0, 0, 0, 0, 0, 0, 0, 0, 0, 0, 0, 0, 0, 0, 0, 0, 0, 0, 0, 0, 0, 0, 0, 0, 0, 0, 0, 1, 0, 0, 1, 0, 0, 1, 0, 1, 0, 0, 0, 1, 0, 1, 1, 0, 2, 2, 0, 2, 0, 0, 0, 2, 0, 2, 2, 0, 2, 0, 0, 0, 1, 1, 0, 0, 1, 0, 2, 2, 0, 4, 4, 0, 2, 0, 2, 0, 1, 0, 1, 0, 0, 0, 2, 0, 2, 0, 2, 0, 3, 0, 5, 5, 0, 0, 5, 0, 5, 0, 5, 0, 0, 0, 0, 0, 0, 0, 5, 1, 1, 1, 1, 1, 2, 2, 2, 380, 3, 2, 780, 7000]
def gNps : List Nat := [2, 1, 0, 1, 0, 0, 2, 2, 1, 1, 1, 1, 1, 1, 1, 2, 1, 4, 2, 1, 1, 1, 1, 3, 1, 1, 0, 0, 2, 2, 2, 2, 1, 1, 2, 2, 3, 2, 1, 2, 0, 0, 0, 0, 1, 1, 0, 1, 2, 3, 2, 1, 3, 1, 2, 1, 1, 0, 0, 2, 3, 2, 0, 0, 0, 0, 0, 1, 0, 0, 1, 1, 1, 1, 1, 0, 0, 0, 0, 2, 2, 0, 1, 0, 3, 1, 3, 0, 1, 1, 0, 1, 1, 0, 1, 0, 0, 0, 1, 0, 1, 1, 0, 1, 0, 0, 0, 0, 0, 0, 0, 0, 0, 1, 1, 0, 1, 1, 0, 1, 0, 1, 0, 0, 0, 0, 1, 1, 0, 0, 0, 0, 0, 1, 0, 2, 0, 1, 1, 0, 1, 1, 0, 1, 0, 1, 0, 0, 0, 0, 0, 0, 2, 3, 2, 1, 3, 2, 4, 3, 2, 2, 1, 3, 3, 2, 1]
/-- the places of a method's words in lw_tbl: its code, its class initialised, static or instance, selects -/
def gPos : List (Nat × Nat × Nat × Nat) := [(99, 42, 98, 0), (403, 39, 401, 402), (407, 39, 405, 406), (418, 39, 417, 0), (415, 40, 413, 414), (411, 39, 409, 410), (604, 41, 602, 603), (600, 46, 599, 9), (616, 41, 615, 11), (612, 41, 610, 611), (620, 46, 618, 619), (608, 46, 607, 10), (596, 46, 594, 595), (532, 39, 531, 0), (546, 44, 545, 0), (572, 44, 571, 6), (575, 44, 574, 0), (568, 44, 567, 5), (579, 44, 578, 7), (564, 39, 563, 0), (557, 39, 556, 0), (560, 39, 559, 0), (554, 39, 553, 0), (551, 44, 550, 4), (540, 44, 539, 3), (536, 44, 534, 535), (674, 48, 672, 673), (678, 48, 677, 16), (653, 47, 651, 652), (649, 48, 647, 648), (657, 47, 655, 656), (690, 48, 688, 689), (633, 46, 631, 632), (703, 47, 701, 702), (686, 48, 685, 18), (713, 48, 712, 20), (709, 48, 708, 19), (645, 48, 644, 14), (682, 48, 681, 17), (669, 42, 668, 0), (665, 48, 664, 15), (717, 48, 716, 21), (661, 48, 659, 660), (641, 48, 640, 13), (637, 48, 635, 636), (628, 47, 627, 12), (624, 47, 622, 623), (730, 49, 728, 729), (743, 49, 742, 24), (739, 49, 738, 23), (734, 49, 733, 22), (726, 49, 724, 725), (757, 49, 756, 27), (753, 49, 752, 26), (747, 49, 746, 25), (721, 49, 719, 720), (591, 45, 590, 0), (587, 45, 586, 8), (583, 45, 581, 582), (529, 43, 528, 0), (526, 43, 525, 2), (521, 43, 519, 520), (517, 39, 516, 1), (1000, 39, 998, 999), (1005, 39, 1003, 1004), (1014, 47, 1012, 1013), (1010, 39, 1008, 1009), (979, 39, 978, 34), (1019, 39, 1017, 1018), (1024, 39, 1022, 1023), (886, 39, 885, 0), (881, 39, 880, 0), (913, 40, 911, 912), (907, 40, 905, 906), (878, 39, 876, 877), (407, 39, 405, 406), (925, 40, 923, 924), (920, 39, 918, 919), (407, 39, 405, 406), (937, 41, 935, 936), (932, 39, 930, 931), (407, 39, 405, 406), (944, 39, 942, 943), (407, 39, 405, 406), (964, 41, 962, 963), (956, 41, 954, 955), (952, 39, 950, 951), (407, 39, 405, 406), (775, 39, 774, 31), (1084, 39, 1082, 1083), (407, 39, 405, 406), (771, 39, 770, 30), (991, 39, 989, 990), (407, 39, 405, 406), (983, 39, 981, 982), (407, 39, 405, 406), (407, 39, 405, 406), (407, 39, 405, 406), (987, 39, 985, 986), (407, 39, 405, 406), (767, 39, 766, 29), (971, 39, 969, 970), (407, 39, 405, 406), (975, 39, 973, 974), (407, 39, 405, 406), (407, 39, 405, 406), (407, 39, 405, 406), (808, 39, 807, 32), (1033, 39, 1031, 1032), (407, 39, 405, 406), (1041, 48, 1039, 1040), (1037, 39, 1035, 1036), (407, 39, 405, 406), (1099, 39, 1098, 37), (1095, 39, 1093, 1094), (407, 39, 405, 406), (763, 39, 762, 28), (513, 39, 511, 512), (407, 39, 405, 406), (1105, 39, 1103, 1104), (407, 39, 405, 406), (1110, 39, 1108, 1109), (407, 39, 405, 406), (1078, 39, 1076, 1077), (407, 39, 405, 406), (1049, 39, 1048, 35), (1062, 56, 1061, 0), (1059, 48, 1058, 36), (1054, 48, 1052, 1053), (1074, 39, 1072, 1073), (407, 39, 405, 406), (1045, 39, 1043, 1044), (407, 39, 405, 406), (1115, 39, 1113, 1114), (407, 39, 405, 406), (1123, 39, 1121, 1122), (407, 39, 405, 406), (849, 39, 848, 33), (845, 39, 843, 844), (407, 39, 405, 406), (858, 49, 856, 857), (854, 39, 852, 853), (407, 39, 405, 406), (866, 39, 864, 865), (407, 39, 405, 406), (870, 39, 868, 869), (407, 39, 405, 406), (407, 39, 405, 406), (407, 39, 405, 406), (407, 39, 405, 406), (407, 39, 405, 406), (407, 39, 405, 406), (424, 38, 423, 0), (427, 38, 426, 0), (873, 38, 872, 0), (916, 38, 915, 0), (928, 38, 927, 0), (940, 38, 939, 0), (948, 38, 947, 0), (967, 38, 966, 0), (1070, 38, 1069, 0), (1029, 38, 1028, 0), (994, 38, 993, 0), (1119, 38, 1118, 0), (1091, 38, 1090, 0), (1088, 38, 1087, 0), (0, 0, 0, 0)]
def gSta : List Bool := [true, false, false, true, false, false, false, false, false, false, false, false, false, true, true, false, true, false, false, true, true, true, true, false, false, false, false, false, false, false, false, false, false, false, false, false, false, false, false, true, false, false, false, false, false, false, false, false, false, false, false, false, false, false, false, false, true, false, false, true, false, false, false, false, false, false, false, false, false, false, true, true, false, false, false, false, false, false, false, false, false, false, false, false, false, false, false, false, false, false, false, false, false, false, false, false, false, false, false, false, false, false, false, false, false, false, false, false, false, false, false, false, false, false, false, false, false, false, false, false, false, false, false, false, false, false, true, false, false, false, false, false, false, false, false, false, false, false, false, false, false, false, false, false, false, false, false, false, false, false, false, false, true, true, true, true, true, true, true, true, true, true, true, true, true, true, true]
def gNP : Nat := 38
def gExs : List String := ["java/lang/IllegalArgumentException", "java/lang/IllegalStateException", "java/lang/IndexOutOfBoundsException", "java/lang/UnsupportedOperationException", "java/util/NoSuchElementException"]
/-- the class of a virtual method's receiver -/
def gCis : List Nat := [99, 9, 9, 9, 8, 9, 0, 1, 0, 0, 1, 1, 1, 9, 2, 2, 2, 2, 2, 9, 9, 9, 9, 2, 2, 2, 3, 3, 4, 3, 4, 3, 1, 4, 3, 3, 3, 3, 3, 99, 3, 3, 3, 3, 3, 4, 4, 5, 5, 5, 5, 5, 5, 5, 5, 5, 6, 6, 6, 7, 7, 7, 9, 9, 9, 4, 9, 9, 9, 9, 9, 9, 8, 8, 9, 9, 8, 9, 9, 0, 9, 9, 9, 9, 0, 0, 9, 9, 9, 9, 9, 9, 9, 9, 9, 9, 9, 9, 9, 9, 9, 9, 9, 9, 9, 9, 9, 9, 9, 9, 3, 9, 9, 9, 9, 9, 9, 9, 9, 9, 9, 9, 9, 9, 9, 9, 99, 3, 3, 9, 9, 9, 9, 9, 9, 9, 9, 9, 9, 9, 5, 9, 9, 9, 9, 9, 9, 9, 9, 9, 9, 9, 99, 99, 99, 99, 99, 99, 99, 99, 99, 99, 99, 99, 99, 99, 99]
end
section
/-! THE SMALL MACHINE: what the methods do, said over a memory of fixed shape. gI a j: the int in place j of cell a (a field or an element); gJ, gD: longs and doubles. A run has fuel; it fails (none) where it would leave its bounds. Part 05 shows that the machine does the same. -/
abbrev gMu : Type := (Nat → Nat → Int32) × (Nat → Nat → Int64) × (Nat → Nat → UInt64)
abbrev gL : Type := List (Option Value)
abbrev gF : Type := Nat × gL × List Value × gMu
abbrev gRes : Type := Option Value ⊕ Nat
abbrev gScr : Type := Option (Nat × (Nat → Int32))
abbrev gO : Type := Option (gF × List Prop)
def gsI (μ : gMu) (a j : Nat) (v : Int32) : gMu := (va_up μ.1 a (upd (μ.1 a) j v), μ.2.1, μ.2.2)
def gsJ (μ : gMu) (a j : Nat) (v : Int64) : gMu := (μ.1, va_up μ.2.1 a (vp_updL (μ.2.1 a) j v), μ.2.2)
def gsD (μ : gMu) (a j : Nat) (v : UInt64) : gMu := (μ.1, μ.2.1, va_up μ.2.2 a (vf_upd (μ.2.2 a) j v))
/-- the script's own number among the references; 1002: the text of signs -/
def gSC : Nat := 1000
/-- how many exceptions the law's methods have caught: a number kept beside the memory -/
def gGh (μ : gMu) : Nat := (μ.2.2 1001 0).toNat
def gBm (μ : gMu) : gMu := gsD μ 1001 0 (μ.2.2 1001 0 + 1)
/-- the law's text of signs -/
def gSg : List Int32 := [97, 97, 98, 98, 99, 110, 65, 32, 65, 66, 32, 49, 32, 50, 45, 44, 46, 91, 123, 125, 125, 32, 45, 32]
def gAll : List Prop → Prop
  | [] => True
  | [p] => p
  | p :: q :: r => p ∧ gAll (q :: r)
def gLk : List (Nat × gR) → Nat → Option gR
  | [], _ => none
  | (q, r) :: t, pc => if q = pc then some r else gLk t pc
def gAt (k pc : Nat) : Option gR := match gCode[k]? with
  | some t => gLk t pc
  | none => none
def mY (k : Nat) : MethodName := gYs.getD k ⟨"", "", ""⟩
def mBy (k : Nat) : ByteArray := gBys.getD k ⟨#[]⟩
def mML (k : Nat) : Nat := gMLs.getD k 0
def mRt (k : Nat) : Option FieldType := gRts.getD k none
def mHh (k : Nat) : List (Nat × Nat × Nat × Nat) := gHhs.getD k []
def mHe (k : Nat) : List (Nat × Nat) := gHes.getD k []
def mFr (k : Nat) : Nat × Nat := gFrs.getD k (0, 0)
def mCo (k : Nat) : Nat := gCos.getD k 0
def mNp (k : Nat) : Nat := gNps.getD k 0
def mPos (k : Nat) : Nat × Nat × Nat × Nat := gPos.getD k (0, 0, 0, 0)
def mSta (k : Nat) : Bool := gSta.getD k false
def mCi (k : Nat) : Nat := gCis.getD k 99
def gEx (k : Nat) : String := gExs.getD k ""
/-- a local that held the first half of a long just ahead of i is lost -/
def gKill (l : gL) (i : Nat) : gL := match i with
  | 0 => l
  | j + 1 => match l[j]? with
    | some (some v) => if v.category = 2 then l.set j none else l
    | _ => l
def gSt1 (l : gL) (i : Nat) (v : Value) : gL := (gKill l i).set i (some v)
def gSt2 (l : gL) (i : Nat) (v : Value) : gL := ((gKill l i).set i (some v)).set (i + 1) none
def gCond (c : Jvm.ClassFile.Cond) (x y : Int32) : Bool := match c with
  | .eq => decide (x = y)
  | .ne => decide (¬ x = y)
  | .lt => decide (x < y)
  | .ge => decide (y ≤ x)
  | .gt => decide (y < x)
  | .le => decide (x ≤ y)
/-- a field's value, with the references by the cells' numbers -/
def gFa (μ : gMu) (a j : Nat) (kd : Nat × Nat) : Value := match kd.1 with
  | 0 => .int (μ.1 a j)
  | 1 => .long (μ.2.1 a j)
  | _ => .ref kd.2
def gII (f : gF) (h : Int32 → Int32 → Value × List Prop) : gO := match f with
  | (pc, l, .int y :: .int x :: r, μ) => some ((pc + 1, l, (h x y).1 :: r, μ), (h x y).2)
  | _ => none
def gJJ (f : gF) (h : Int64 → Int64 → Value × List Prop) : gO := match f with
  | (pc, l, .long y :: .long x :: r, μ) => some ((pc + 1, l, (h x y).1 :: r, μ), (h x y).2)
  | _ => none
def gI1 (f : gF) (h : Int32 → Value) : gO := match f with
  | (pc, l, .int x :: r, μ) => some ((pc + 1, l, h x :: r, μ), [])
  | _ => none
def gJ1 (f : gF) (h : Int64 → Value) : gO := match f with
  | (pc, l, .long x :: r, μ) => some ((pc + 1, l, h x :: r, μ), [])
  | _ => none
def gPush (f : gF) (len : Nat) (v : Value) : gO := some ((f.1 + len, f.2.1, v :: f.2.2.1, f.2.2.2), [])
def gLdI (f : gF) (len i : Nat) : gO := match f.2.1[i]? with
  | some (some (.int x)) => gPush f len (.int x)
  | _ => none
def gLdJ (f : gF) (len i : Nat) : gO := match f.2.1[i]? with
  | some (some (.long x)) => gPush f len (.long x)
  | _ => none
def gLdF (f : gF) (len i : Nat) : gO := match f.2.1[i]? with
  | some (some (.float x)) => gPush f len (.float x)
  | _ => none
def gLdD (f : gF) (len i : Nat) : gO := match f.2.1[i]? with
  | some (some (.double x)) => gPush f len (.double x)
  | _ => none
def gLdA (f : gF) (len i : Nat) : gO := match f.2.1[i]? with
  | some (some (.ref x)) => gPush f len (.ref x)
  | _ => none
def gSto (f : gF) (len i : Nat) : gO := match f with
  | (pc, l, .int x :: r, μ) => some ((pc + len, gSt1 l i (.int x), r, μ), [])
  | (pc, l, .float x :: r, μ) => some ((pc + len, gSt1 l i (.float x), r, μ), [])
  | (pc, l, .ref x :: r, μ) => some ((pc + len, gSt1 l i (.ref x), r, μ), [])
  | (pc, l, .long x :: r, μ) => some ((pc + len, gSt2 l i (.long x), r, μ), [])
  | (pc, l, .double x :: r, μ) => some ((pc + len, gSt2 l i (.double x), r, μ), [])
  | _ => none
/-- the array that a reference names: its kind, its length -/
def gArr (q : Nat) : Option (Nat × Nat) := match gSh[q]? with
  | some (.inr x) => some x
  | _ => none
def gObj (q : Nat) : Option (Nat × List (Nat × Nat)) := match gSh[q]? with
  | some (.inl x) => some x
  | _ => none
def gALd (scr : gScr) (t : Nat) (f : gF) : gO := match f with
  | (pc, l, .int i :: .ref q :: r, μ) =>
    if q = gSC then (match scr, t with
      | some (L, xs), 0 => some ((pc + 1, l, .int (xs i.toNatClampNeg) :: r, μ), [vp_in i L])
      | _, _ => none)
    else match gArr q with
      | some (t', n) => if t' = t then some ((pc + 1, l, (if t = 4 then .double (μ.2.2 q i.toNatClampNeg) else if t = 3 then .long (μ.2.1 q i.toNatClampNeg) else .int (μ.1 q i.toNatClampNeg)) :: r, μ), [vp_in i n]) else none
      | none => none
  | _ => none
def gALen (scr : gScr) (f : gF) : gO := match f with
  | (pc, l, .ref q :: r, μ) =>
    if q = gSC then (match scr with
      | some (L, _) => some ((pc + 1, l, .int (Int32.ofNat L) :: r, μ), [])
      | none => none)
    else match gArr q with
      | some (_, n) => some ((pc + 1, l, .int (Int32.ofNat n) :: r, μ), [])
      | none => none
  | _ => none
def gIst (t : Nat) (g : Int32 → Int32) (f : gF) : gO := match f with
  | (pc, l, .int x :: .int i :: .ref q :: r, μ) =>
    if q = gSC then none else match gArr q with
      | some (t', n) => if t' = t then some ((pc + 1, l, r, gsI μ q i.toNatClampNeg (g x)), [vp_in i n]) else none
      | none => none
  | _ => none
def gJst (f : gF) : gO := match f with
  | (pc, l, .long x :: .int i :: .ref q :: r, μ) =>
    if q = gSC then none else match gArr q with
      | some (t', n) => if t' = 3 then some ((pc + 1, l, r, gsJ μ q i.toNatClampNeg x), [vp_in i n]) else none
      | none => none
  | _ => none
def gDst (f : gF) : gO := match f with
  | (pc, l, .double x :: .int i :: .ref q :: r, μ) =>
    if q = gSC then none else match gArr q with
      | some (t', n) => if t' = 4 then some ((pc + 1, l, r, gsD μ q i.toNatClampNeg x), [vp_in i n]) else none
      | none => none
  | _ => none
def gGet (ci k : Nat) (f : gF) : gO := match f with
  | (pc, l, .ref q :: r, μ) => if q = gSC then none else match gObj q with
    | some (ci', ks) => if ci' = ci then (match ks[k]? with
      | some kd => some ((pc + 3, l, gFa μ q k kd :: r, μ), [])
      | none => none) else none
    | none => none
  | _ => none
def gPut (ci k : Nat) (f : gF) : gO := match f with
  | (pc, l, .int x :: .ref q :: r, μ) => if q = gSC then none else match gObj q with
    | some (ci', ks) => if ci' = ci then (match ks[k]? with
      | some (0, 0) => some ((pc + 3, l, r, gsI μ q k x), [])
      | some (0, 1) => some ((pc + 3, l, r, gsI μ q k x), [x = 0 ∨ x = 1])
      | _ => none) else none
    | none => none
  | (pc, l, .long x :: .ref q :: r, μ) => if q = gSC then none else match gObj q with
    | some (ci', ks) => if ci' = ci then (match ks[k]? with
      | some (1, 0) => some ((pc + 3, l, r, gsJ μ q k x), [])
      | _ => none) else none
    | none => none
  | _ => none
def gMath (cv : Value) (f : gF) : gO := match cv, f with
  | .int 2, (pc, l, .int y :: .int x :: r, μ) => some ((pc + 3, l, .int (if x < y then y else x) :: r, μ), [(r.map fun v => v.category).sum ≤ 8])
  | .int 3, (pc, l, .int y :: .int x :: r, μ) => some ((pc + 3, l, .int (if y < x then y else x) :: r, μ), [(r.map fun v => v.category).sum ≤ 8])
  | .int 4, (pc, l, .int x :: r, μ) => some ((pc + 3, l, .int (if 0 ≤ x then x else 0 - x) :: r, μ), [(r.map fun v => v.category).sum ≤ 8])
  | .int 5, (pc, l, .long y :: .long x :: r, μ) => some ((pc + 3, l, .long (if y < x then y else x) :: r, μ), [(r.map fun v => v.category).sum ≤ 8])
  | _, _ => none
/-- the script's int at an index, 0 outside -/
def gAtS (scr : gScr) (f : gF) : gO := match scr, f with
  | some (L, xs), (pc, l, .int i :: .ref q :: r, μ) => if q = gSC then some ((pc + 3, l, .int (if i < Int32.ofNat L then xs i.toNatClampNeg else 0) :: r, μ), [(r.map fun v => v.category).sum ≤ 8, 0 ≤ i]) else none
  | _, _ => none
/-- length and charAt of the text of signs -/
def gStM (scr : gScr) (n : Nat) (cv : Value) (f : gF) : gO := match scr, n, cv, f with
  | some _, 0, .int 6, (pc, l, .ref q :: r, μ) => if q = 1002 then some ((pc + 3, l, .int 24 :: r, μ), [(r.map fun v => v.category).sum ≤ 8]) else none
  | some _, 1, .int 7, (pc, l, .int i :: .ref q :: r, μ) => if q = 1002 then some ((pc + 3, l, .int (gSg.getD i.toNatClampNeg 0) :: r, μ), [(r.map fun v => v.category).sum ≤ 8, vp_in i 24]) else none
  | _, _, _, _ => none
/-- one instruction that neither calls (but Math, texts and the script) nor ends -/
def gStp (scr : gScr) (r : gR) (f : gF) : gO := match r.1 with
  | .iconst _ => gPush f 1 r.2.2.2
  | .bipush _ => gPush f 2 r.2.2.2
  | .sipush _ => gPush f 3 r.2.2.2
  | .lconst _ => gPush f 1 r.2.2.2
  | .fconst _ => gPush f 1 r.2.2.2
  | .dconst _ => gPush f 1 r.2.2.2
  | .ldc _ => (match r.2.2.2 with | .int v => gPush f 2 (.int v) | .ref q => (match scr with | some _ => if q = 1002 then gPush f 2 (.ref q) else none | none => none) | _ => none)
  | .ldc_w _ => (match r.2.2.2 with | .int v => gPush f 3 (.int v) | _ => none)
  | .ldc2_w _ => (match r.2.2.2 with | .long v => gPush f 3 (.long v) | _ => none)
  | .iload_n _ => gLdI f 1 r.2.2.1.1
  | .iload _ => gLdI f 2 r.2.2.1.1
  | .lload_n _ => gLdJ f 1 r.2.2.1.1
  | .lload _ => gLdJ f 2 r.2.2.1.1
  | .fload _ => gLdF f 2 r.2.2.1.1
  | .dload _ => gLdD f 2 r.2.2.1.1
  | .aload_n _ => gLdA f 1 r.2.2.1.1
  | .aload _ => gLdA f 2 r.2.2.1.1
  | .istore_n _ => (match f.2.2.1 with | .int _ :: _ => gSto f 1 r.2.2.1.1 | _ => none)
  | .istore _ => (match f.2.2.1 with | .int _ :: _ => gSto f 2 r.2.2.1.1 | _ => none)
  | .lstore_n _ => (match f.2.2.1 with | .long _ :: _ => gSto f 1 r.2.2.1.1 | _ => none)
  | .lstore _ => (match f.2.2.1 with | .long _ :: _ => gSto f 2 r.2.2.1.1 | _ => none)
  | .fstore _ => (match f.2.2.1 with | .float _ :: _ => gSto f 2 r.2.2.1.1 | _ => none)
  | .dstore _ => (match f.2.2.1 with | .double _ :: _ => gSto f 2 r.2.2.1.1 | _ => none)
  | .astore_n _ => (match f.2.2.1 with | .ref _ :: _ => gSto f 1 r.2.2.1.1 | _ => none)
  | .astore _ => (match f.2.2.1 with | .ref _ :: _ => gSto f 2 r.2.2.1.1 | _ => none)
  | .iinc _ _ => (match f.2.1[r.2.2.1.1]?, r.2.2.2 with
    | some (some (.int x)), .int c => some ((f.1 + 3, gSt1 f.2.1 r.2.2.1.1 (.int (x + c)), f.2.2.1, f.2.2.2), [])
    | _, _ => none)
  | .dup => (match f with | (pc, l, v :: st, μ) => some ((pc + 1, l, v :: v :: st, μ), [v.category = 1]) | _ => none)
  | .pop => (match f with | (pc, l, v :: st, μ) => some ((pc + 1, l, st, μ), [v.category = 1]) | _ => none)
  | .dup2 => (match f with | (pc, l, v :: w :: st, μ) => some ((pc + 1, l, v :: w :: v :: w :: st, μ), [v.category = 1, w.category = 1]) | _ => none)
  | .iadd => gII f fun x y => (.int (x + y), [])
  | .isub => gII f fun x y => (.int (x - y), [])
  | .imul => gII f fun x y => (.int (x * y), [])
  | .iand => gII f fun x y => (.int (x &&& y), [])
  | .idiv => gII f fun x y => (.int (x / y), [¬ y = 0])
  | .irem => gII f fun x y => (.int (x - x / y * y), [¬ y = 0])
  | .ishl => gII f fun x y => (.int (x <<< (y &&& 31)), [])
  | .ishr => gII f fun x y => (.int (x >>> (y &&& 31)), [])
  | .iushr => gII f fun x y => (.int ((x.toUInt32 >>> (y.toUInt32 &&& Int32.toUInt32 31)).toInt32), [])
  | .ineg => gI1 f fun x => .int (-x)
  | .ladd => gJJ f fun x y => (.long (x + y), [])
  | .lmul => gJJ f fun x y => (.long (x * y), [])
  | .ldiv => gJJ f fun x y => (.long (x / y), [¬ y = 0])
  | .lcmp => gJJ f fun x y => (.int (lg_cmp x y), [])
  | .i2l => gI1 f fun x => .long x.toInt64
  | .l2i => gJ1 f fun x => .int x.toInt32
  | .i2c => gI1 f fun x => .int (x.toUInt32 % 65536).toInt32
  | .i2f => gI1 f fun x => .float (FP.i2f x)
  | .i2d => gI1 f fun x => .double (FP.i2d x)
  | .l2d => gJ1 f fun x => .double (FP.l2d x)
  | .fdiv => (match f with | (pc, l, .float y :: .float x :: st, μ) => some ((pc + 1, l, .float (FP.fdiv x y) :: st, μ), [vf_n32 (FP.fdiv x y)]) | _ => none)
  | .ddiv => (match f with | (pc, l, .double y :: .double x :: st, μ) => some ((pc + 1, l, .double (FP.ddiv x y) :: st, μ), [vf_n64 (FP.ddiv x y)]) | _ => none)
  | .f2d => (match f with | (pc, l, .float x :: st, μ) => some ((pc + 1, l, .double (FP.f2d x) :: st, μ), [vf_n64 (FP.f2d x)]) | _ => none)
  | .fcmp op => (match f with | (pc, l, .float y :: .float x :: st, μ) => some ((pc + 1, l, .int (Op.cmpValue (FP.fcmp x y) op) :: st, μ), []) | _ => none)
  | .dcmp op => (match f with | (pc, l, .double y :: .double x :: st, μ) => some ((pc + 1, l, .int (Op.cmpValue (FP.dcmp x y) op) :: st, μ), []) | _ => none)
  | .goto _ => some ((r.2.2.1.1, f.2), [])
  | .ifCond c _ => (match f with | (pc, l, .int x :: st, μ) => some ((if gCond c x 0 = true then r.2.2.1.1 else pc + 3, l, st, μ), []) | _ => none)
  | .if_icmp c _ => (match f with | (pc, l, .int y :: .int x :: st, μ) => some ((if gCond c x y = true then r.2.2.1.1 else pc + 3, l, st, μ), []) | _ => none)
  | .iaload => gALd scr 0 f
  | .caload => gALd none 1 f
  | .baload => gALd none 2 f
  | .laload => gALd none 3 f
  | .iastore => gIst 0 (fun x => x) f
  | .castore => gIst 1 (vp_nar .char) f
  | .bastore => gIst 2 (vp_nar .boolean) f
  | .lastore => gJst f
  | .arraylength => gALen scr f
  | .invokestatic _ => (match r.2.2.2 with | .int 8 => gAtS scr f | cv => gMath cv f)
  | .invokevirtual _ => gStM scr r.2.2.1.2.1 r.2.2.2 f
  | .getfield _ => gGet r.2.2.1.1 r.2.2.1.2.1 f
  | .putfield _ => gPut r.2.2.1.1 r.2.2.1.2.1 f
  | .tableswitch d lo hi offs => (match f with
    | (pc, l, .int x :: st, μ) => (match (if x.toInt < lo ∨ hi < x.toInt then some d else offs[(x.toInt - lo).toNat]?) with
      | some o => some ((((pc : Int) + o).toNat, l, st, μ), [0 ≤ (pc : Int) + o])
      | none => none)
    | _ => none)
  | _ => none
/-- an instruction that writes nothing into a cell -/
def gNst : Instr → Bool
  | .iastore => false
  | .castore => false
  | .bastore => false
  | .lastore => false
  | .putfield _ => false
  | _ => true
/-- a method's locals at its entry -/
def gEnt (as : List Value) (n : Nat) : gL := (as.flatMap fun v => if v.category = 2 then [some v, none] else [some v]) ++ List.replicate (n - (as.flatMap fun v => if v.category = 2 then [some v, none] else [some v]).length) none
def gRok (t : Option FieldType) (x : Int32) : Prop := match t with
  | some .int => True
  | some ty => narrow ty (.int x) = .int x
  | none => False
noncomputable def gIf {α : Type} (c : Prop) (a b : α) : α := @ite α c (Classical.propDecidable c) a b
/-- the instructions that end a method -/
noncomputable def gEnd (k : Nat) (r : gR) (f : gF) (cnt : Nat) : Option (gMu × gRes) := match r.1 with
  | .return_ => (match mRt k, f.2.2.1 with | none, [] => some (f.2.2.2, .inl none) | _, _ => none)
  | .ireturn => (match f.2.2.1 with | [.int x] => gIf (gRok (mRt k) x) (some (f.2.2.2, .inl (some (.int x)))) none | _ => none)
  | .lreturn => (match mRt k, f.2.2.1 with | some .long, [.long x] => some (f.2.2.2, .inl (some (.long x))) | _, _ => none)
  | .freturn => (match mRt k, f.2.2.1 with | some .float, [.float x] => some (f.2.2.2, .inl (some (.float x))) | _, _ => none)
  | .dreturn => (match mRt k, f.2.2.1 with | some .double, [.double x] => some (f.2.2.2, .inl (some (.double x))) | _, _ => none)
  | .new _ => (match f.2.2.1, mHh k with | [], [] => if cnt + 1 ≤ mCo k ∧ k < 166 then some (f.2.2.2, .inr r.2.2.1.1) else none | _, _ => none)
  | _ => none
/-- where a thrown e goes on in the method k: the number of the table's row -/
def gHnd (k pc e : Nat) : Option Nat := (List.range (mHh k).length).find? fun i => (match (mHh k)[i]?, (mHe k)[i]? with
  | some h, some x => decide (h.1 ≤ pc ∧ pc < h.2.1) && decide (x.1 = e)
  | _, _ => false)
/-- a run of a frame of the method k -/
noncomputable def gRun : Nat → gScr → Nat → gF → Nat → Option (gMu × gRes)
  | 0, _, _, _, _ => none
  | n + 1, scr, k, f, cnt => match gAt k f.1 with
    | none => none
    | some r =>
      let inv : Nat → Option (gMu × gRes) := fun na =>
        let k' := r.2.2.1.1
        let as := (f.2.2.1.take na).reverse
        let rest := f.2.2.1.drop na
        if as.length = na ∧ cnt + mCo k' ≤ mCo k ∧ (rest.map fun v => v.category).sum ≤ 8 ∧ k' < k ∧ (gEnt as (mML k')).length ≤ mML k' then
          (match gRun n none k' (0, gEnt as (mML k'), [], f.2.2.2) 0 with
            | some (μ', .inl v) => gRun n scr k (f.1 + 3, f.2.1, v.toList ++ rest, μ') (cnt + mCo k')
            | some (μ', .inr e) => (match mHh k with
              | [] => some (μ', .inr e)
              | _ => (match gHnd k f.1 e with
                | some i => (match (mHh k)[i]? with
                  | some h => (match gAt k h.2.2.1 with
                    | some (.astore_n _, _, (j, _), _) => gRun n scr k (h.2.2.1 + 1, (gKill f.2.1 j).set j none, [], gBm μ') (cnt + mCo k')
                    | some (.astore _, _, (j, _), _) => gRun n scr k (h.2.2.1 + 2, (gKill f.2.1 j).set j none, [], gBm μ') (cnt + mCo k')
                    | _ => none)
                  | none => none)
                | none => none))
            | none => none)
        else none
      match r.1 with
      | .invokevirtual _ => (match (f.2.2.1.drop r.2.2.1.2.1).head? with
        | some (.ref q) => if gObj q = none ∨ q = gSC ∨ (gObj q).map (fun x => x.1) ≠ some (mCi r.2.2.1.1) ∨ r.2.2.2 ≠ .int 0 then (match gStp scr r f with
            | some (f', cs) => gIf (gAll cs) (gRun n scr k f' cnt) none
            | none => none) else inv (r.2.2.1.2.1 + 1)
        | _ => none)
      | .invokestatic _ => (match r.2.2.2 with
        | .int 0 => inv r.2.2.1.2.1
        | .int 1 => inv r.2.2.1.2.1
        | _ => match gStp scr r f with
          | some (f', cs) => gIf (gAll cs) (gRun n scr k f' cnt) none
          | none => none)
      | .return_ => gEnd k r f cnt
      | .ireturn => gEnd k r f cnt
      | .lreturn => gEnd k r f cnt
      | .freturn => gEnd k r f cnt
      | .dreturn => gEnd k r f cnt
      | .new _ => gEnd k r f cnt
      | _ => match gStp scr r f with
        | some (f', cs) => gIf (gAll cs) (gRun n scr k f' cnt) none
        | none => none
end
section
/-! WHAT IS CHECKED OF THE TABLES: each row decodes, each operand is what the words say -/
/-- the throws: method, place, exception, numbers of class, text and constructor, whether wide, the text -/
def gThr : List (Nat × Nat × Nat × Nat × Nat × Nat × Bool × String) := [(74, 14, 0, 102, 104, 106, false, "not a letter, a digit, neutral or a mark"), (74, 35, 1, 113, 115, 117, false, "the text has no room for this character, or no embedding that fits"), (77, 10, 4, 125, 127, 129, false, "the text is empty"), (80, 18, 0, 102, 134, 106, false, "no such character, or the width is not 1 to 20"), (82, 13, 0, 102, 140, 106, false, "the line width is not 10 to 200"), (86, 29, 0, 102, 148, 106, false, "no such beginning, no such letter, or the width is not 1 to 40"), (86, 64, 1, 113, 155, 117, false, "there is such a rule, or there are 20 ligatures"), (88, 15, 2, 205, 321, 209, true, "there is no such index"), (91, 20, 3, 326, 328, 330, true, "it is a mark"), (107, 10, 1, 113, 338, 117, true, "lines are not possible"), (113, 19, 2, 205, 340, 209, true, "there is no such line"), (116, 20, 4, 125, 344, 129, true, "there are no lines"), (125, 12, 3, 326, 347, 330, true, "there are more than 9 break places"), (135, 36, 2, 205, 269, 209, true, "the line has no such rank"), (137, 19, 4, 125, 349, 129, true, "it is a dropped space")]
def gW (p : Nat) : Option Cond := tables_1[p]?
def mOw (k : Nat) : String := (mY k).cls
def gLen : Instr → Nat
  | .bipush _ => 2
  | .sipush _ => 3
  | .ldc _ => 2
  | .ldc_w _ => 3
  | .ldc2_w _ => 3
  | .iload _ => 2
  | .lload _ => 2
  | .fload _ => 2
  | .dload _ => 2
  | .aload _ => 2
  | .istore _ => 2
  | .lstore _ => 2
  | .fstore _ => 2
  | .dstore _ => 2
  | .astore _ => 2
  | .iinc _ _ => 3
  | .goto _ => 3
  | .ifCond _ _ => 3
  | .if_icmp _ _ => 3
  | .getfield _ => 3
  | .putfield _ => 3
  | .invokevirtual _ => 3
  | .invokestatic _ => 3
  | .invokespecial _ => 3
  | .new _ => 3
  | .newarray _ => 2
  | .tableswitch _ _ _ _ => 168
  | _ => 1
def gCk (k : Nat) (r : gR) : Bool := decide (r.2.2.1.2.1 = mNp r.2.2.1.1 ∧ mSta r.2.2.1.1 = true ∧ (mFr r.2.2.1.1).1 + 1 ≤ (mFr k).1 ∧ 8 + (mML r.2.2.1.1 + 11) + (mFr r.2.2.1.1).2 ≤ (mFr k).2)
def gChk (k pc : Nat) (r : gR) : Bool := match r.1 with
  | .iconst n => decide (r.2.2.2 = .int (Int32.ofInt n))
  | .bipush n => decide (r.2.2.2 = .int (Int8.ofInt n).toInt32)
  | .sipush n => decide (r.2.2.2 = .int (Int16.ofInt n).toInt32)
  | .lconst n => decide (r.2.2.2 = .long (Int64.ofNat (n : Nat)))
  | .fconst n => decide (n = 0 ∧ r.2.2.2 = .float FP.fconst0)
  | .dconst n => decide (n = 0 ∧ r.2.2.2 = .double FP.dconst0)
  | .ldc i => (match r.2.2.2 with | .int v => decide (gW r.2.2.1.2.2 = some (.constant (mOw k) i v)) | .ref q => decide (q = 1002 ∧ mOw k = "GlyphmillLaw" ∧ i = 224 ∧ gW r.2.2.1.2.2 = some (.stringRef "GlyphmillLaw" 224 "aabbcnA AB 1 2-,.[{}} - ")) | _ => true)
  | .ldc_w i => (match r.2.2.2 with | .int v => decide (gW r.2.2.1.2.2 = some (.constant (mOw k) i v)) | _ => true)
  | .ldc2_w i => (match r.2.2.2 with | .long v => decide (gW r.2.2.1.2.2 = some (.constantLong (mOw k) i v)) | _ => true)
  | .iload_n n => decide ((n : Nat) = r.2.2.1.1)
  | .lload_n n => decide ((n : Nat) = r.2.2.1.1)
  | .aload_n n => decide ((n : Nat) = r.2.2.1.1)
  | .iload n => decide (n = r.2.2.1.1)
  | .lload n => decide (n = r.2.2.1.1)
  | .fload n => decide (n = r.2.2.1.1)
  | .dload n => decide (n = r.2.2.1.1)
  | .aload n => decide (n = r.2.2.1.1)
  | .istore_n n => decide ((n : Nat) = r.2.2.1.1 ∧ r.2.2.1.1 < mML k)
  | .astore_n n => decide ((n : Nat) = r.2.2.1.1 ∧ r.2.2.1.1 < mML k)
  | .lstore_n n => decide ((n : Nat) = r.2.2.1.1 ∧ r.2.2.1.1 + 1 < mML k)
  | .istore n => decide (n = r.2.2.1.1 ∧ r.2.2.1.1 < mML k)
  | .fstore n => decide (n = r.2.2.1.1 ∧ r.2.2.1.1 < mML k)
  | .astore n => decide (n = r.2.2.1.1 ∧ r.2.2.1.1 < mML k)
  | .lstore n => decide (n = r.2.2.1.1 ∧ r.2.2.1.1 + 1 < mML k)
  | .dstore n => decide (n = r.2.2.1.1 ∧ r.2.2.1.1 + 1 < mML k)
  | .iinc i n => decide (i = r.2.2.1.1 ∧ r.2.2.1.1 < mML k ∧ r.2.2.2 = .int (Int32.ofInt n))
  | .goto off => decide ((pc : Int) + off = (r.2.2.1.1 : Int))
  | .ifCond _ off => decide ((pc : Int) + off = (r.2.2.1.1 : Int))
  | .if_icmp _ off => decide ((pc : Int) + off = (r.2.2.1.1 : Int))
  | .getfield i => (match gCl[r.2.2.1.1]? with
    | some q => decide (r.2.2.1.2.1 < q.2.2 ∧ gW r.2.2.1.2.2 = some (.fieldLink (mOw k) i (q.2.1 r.2.2.1.2.1).1 (q.2.1 r.2.2.1.2.1).2.1 (q.2.1 r.2.2.1.2.1).2.2.1))
    | none => false)
  | .putfield i => (match gCl[r.2.2.1.1]? with
    | some q => decide (r.2.2.1.2.1 < q.2.2 ∧ (q.2.1 r.2.2.1.2.1).2.2.2 = false ∧ gW r.2.2.1.2.2 = some (.fieldLink (mOw k) i (q.2.1 r.2.2.1.2.1).1 (q.2.1 r.2.2.1.2.1).2.1 (q.2.1 r.2.2.1.2.1).2.2.1))
    | none => false)
  | .invokevirtual i => (match r.2.2.2 with
      | .int 6 => decide (gW r.2.2.1.2.2 = some (.methodLink (mOw k) i ⟨"java/lang/String", "length", "()I"⟩) ∧ 10 ≤ (mFr k).1 ∧ 200 ≤ (mFr k).2 ∧ mOw k = "GlyphmillLaw")
      | .int 7 => decide (gW r.2.2.1.2.2 = some (.methodLink (mOw k) i ⟨"java/lang/String", "charAt", "(I)C"⟩) ∧ 10 ≤ (mFr k).1 ∧ 200 ≤ (mFr k).2 ∧ mOw k = "GlyphmillLaw")
      | _ => decide (r.2.2.1.2.1 = mNp r.2.2.1.1 ∧ mSta r.2.2.1.1 = false ∧ gW r.2.2.1.2.2 = some (.methodLink (mOw k) i (mY r.2.2.1.1)) ∧ (mFr r.2.2.1.1).1 + 1 ≤ (mFr k).1 ∧ 8 + (mML r.2.2.1.1 + 11) + (mFr r.2.2.1.1).2 ≤ (mFr k).2))
  | .invokestatic i => (match r.2.2.2 with
      | .int 0 => gCk k r && decide (gW r.2.2.1.2.2 = some (.methodLink (mOw k) i (mY r.2.2.1.1)))
      | .int 1 => gCk k r && decide (gW r.2.2.1.2.2 = some (.methodLinkNest (mOw k) i (mY r.2.2.1.1) "Glyphmill") ∧ mCo r.2.2.1.1 = 0)
      | .int 8 => decide (gW r.2.2.1.2.2 = some (.methodLink (mOw k) i ⟨"GlyphmillLaw", "at", "([II)I"⟩) ∧ 10 ≤ (mFr k).1 ∧ 200 ≤ (mFr k).2 ∧ mOw k = "GlyphmillLaw")
      | .int 2 => decide (gW r.2.2.1.2.2 = some (.methodLink (mOw k) i Lib.Math.max.name) ∧ 1 ≤ (mFr k).1 ∧ 21 ≤ (mFr k).2)
      | .int 3 => decide (gW r.2.2.1.2.2 = some (.methodLink (mOw k) i Lib.Math.min.name) ∧ 1 ≤ (mFr k).1 ∧ 21 ≤ (mFr k).2)
      | .int 4 => decide (gW r.2.2.1.2.2 = some (.methodLink (mOw k) i Lib.Math.abs.name) ∧ 1 ≤ (mFr k).1 ∧ 21 ≤ (mFr k).2)
      | .int 5 => decide (gW r.2.2.1.2.2 = some (.methodLink (mOw k) i Lib.MathLoose.min_long.x) ∧ 1 ≤ (mFr k).1 ∧ 23 ≤ (mFr k).2)
      | _ => false)
  | .new i => decide (k = 166) || gThr.any fun q => decide (q.1 = k ∧ q.2.1 = pc ∧ q.2.2.1 = r.2.2.1.1 ∧ q.2.2.2.1 = i)
  | _ => true
def gRow (k : Nat) (q : Nat × gR) : Bool := decide (decode (mBy k) q.1 = .ok (q.2.1, q.2.2.1)) && decide (q.2.2.1 = gLen q.2.1) && gChk k q.1 q.2
theorem g_ten {α : Type} {f : α → Bool} {t : List α} (n : Nat) (hn : t.length ≤ 10 * n) (h : ∀ j, j < n → ((t.drop (10 * j)).take 10).all f = true) : t.all f = true := by
  rw [List.all_eq_true]
  intro x hx
  obtain ⟨i, hi⟩ := List.getElem?_of_mem hx
  have hl := (List.getElem?_eq_some_iff.mp hi).1
  have h1 := List.all_eq_true.mp (h (i / 10) (by omega)) x
  refine h1 (List.mem_of_getElem? (i := i % 10) ?_)
  rw [List.getElem?_take_of_lt (Nat.mod_lt _ (by omega)), List.getElem?_drop, show 10 * (i / 10) + i % 10 = i by omega, hi]
set_option maxRecDepth 100000 in
theorem gOk_0 : gC_0.all (gRow 0) = true := by decide +kernel
set_option maxRecDepth 100000 in
theorem gOk_1 : gC_1.all (gRow 1) = true := by decide +kernel
set_option maxRecDepth 100000 in
theorem gOk_2 : gC_2.all (gRow 2) = true := by decide +kernel
set_option maxRecDepth 100000 in
theorem gOk_3 : gC_3.all (gRow 3) = true := by decide +kernel
set_option maxRecDepth 100000 in
theorem gOk_4 : gC_4.all (gRow 4) = true := by decide +kernel
set_option maxRecDepth 100000 in
theorem gOk_5 : gC_5.all (gRow 5) = true := by decide +kernel
set_option maxRecDepth 100000 in
theorem gOk_6 : gC_6.all (gRow 6) = true := by decide +kernel
set_option maxRecDepth 100000 in
theorem gOk_7 : gC_7.all (gRow 7) = true := by decide +kernel
set_option maxRecDepth 100000 in
theorem gOk_8 : gC_8.all (gRow 8) = true := by decide +kernel
set_option maxRecDepth 100000 in
theorem gOk_9 : gC_9.all (gRow 9) = true := by decide +kernel
set_option maxRecDepth 100000 in
theorem gOk_10 : gC_10.all (gRow 10) = true := by decide +kernel
set_option maxRecDepth 100000 in
theorem gOk_11 : gC_11.all (gRow 11) = true := by decide +kernel
set_option maxRecDepth 100000 in
theorem gOk_12 : gC_12.all (gRow 12) = true := by decide +kernel
set_option maxRecDepth 100000 in
theorem gOk_13 : gC_13.all (gRow 13) = true := by decide +kernel
set_option maxRecDepth 100000 in
theorem gOk_14 : gC_14.all (gRow 14) = true := by decide +kernel
set_option maxRecDepth 100000 in
theorem gOk_15 : gC_15.all (gRow 15) = true := by decide +kernel
set_option maxRecDepth 100000 in
theorem gOk_16 : gC_16.all (gRow 16) = true := by decide +kernel
set_option maxRecDepth 100000 in
theorem gOk_17 : gC_17.all (gRow 17) = true := by decide +kernel
set_option maxRecDepth 100000 in
theorem gOk_18 : gC_18.all (gRow 18) = true := by decide +kernel
set_option maxRecDepth 100000 in
theorem gOk_19 : gC_19.all (gRow 19) = true := by decide +kernel
set_option maxRecDepth 100000 in
theorem gOk_20 : gC_20.all (gRow 20) = true := by decide +kernel
set_option maxRecDepth 100000 in
theorem gOk_21 : gC_21.all (gRow 21) = true := by decide +kernel
set_option maxRecDepth 100000 in
theorem gOk_22 : gC_22.all (gRow 22) = true := by decide +kernel
set_option maxRecDepth 100000 in
theorem gOk_23 : gC_23.all (gRow 23) = true := by decide +kernel
set_option maxRecDepth 100000 in
theorem gOk_24 : gC_24.all (gRow 24) = true := by decide +kernel
set_option maxRecDepth 100000 in
theorem gOk_25 : gC_25.all (gRow 25) = true := by decide +kernel
set_option maxRecDepth 100000 in
theorem gOk_26 : gC_26.all (gRow 26) = true := by decide +kernel
set_option maxRecDepth 100000 in
theorem gOk_27 : gC_27.all (gRow 27) = true := by decide +kernel
set_option maxRecDepth 100000 in
theorem gOk_28 : gC_28.all (gRow 28) = true := by decide +kernel
set_option maxRecDepth 100000 in
theorem gOk_29 : gC_29.all (gRow 29) = true := by decide +kernel
set_option maxRecDepth 100000 in
theorem gOk_30 : gC_30.all (gRow 30) = true := by decide +kernel
set_option maxRecDepth 100000 in
theorem gOk_31 : gC_31.all (gRow 31) = true := by decide +kernel
set_option maxRecDepth 100000 in
theorem gOk_32 : gC_32.all (gRow 32) = true := by decide +kernel
set_option maxRecDepth 100000 in
theorem gOk_33 : gC_33.all (gRow 33) = true := by decide +kernel
set_option maxRecDepth 100000 in
theorem gOk_34 : gC_34.all (gRow 34) = true := by decide +kernel
set_option maxRecDepth 100000 in
theorem gOk_35 : gC_35.all (gRow 35) = true := by decide +kernel
set_option maxRecDepth 100000 in
theorem gOk_36 : gC_36.all (gRow 36) = true := by decide +kernel
set_option maxRecDepth 100000 in
theorem gOk_37 : gC_37.all (gRow 37) = true := by decide +kernel
set_option maxRecDepth 100000 in
theorem gOk_38 : gC_38.all (gRow 38) = true := by decide +kernel
set_option maxRecDepth 100000 in
theorem gOk_39 : gC_39.all (gRow 39) = true := by decide +kernel
set_option maxRecDepth 100000 in
theorem gOk_40 : gC_40.all (gRow 40) = true := by decide +kernel
set_option maxRecDepth 100000 in
theorem gOk_41 : gC_41.all (gRow 41) = true := by decide +kernel
set_option maxRecDepth 100000 in
theorem gOk_42 : gC_42.all (gRow 42) = true := by decide +kernel
set_option maxRecDepth 100000 in
theorem gOk_43 : gC_43.all (gRow 43) = true := by decide +kernel
set_option maxRecDepth 100000 in
theorem gOk_44 : gC_44.all (gRow 44) = true := by decide +kernel
set_option maxRecDepth 100000 in
theorem gOk_45 : gC_45.all (gRow 45) = true := by decide +kernel
set_option maxRecDepth 100000 in
theorem gOk_46 : gC_46.all (gRow 46) = true := by decide +kernel
set_option maxRecDepth 100000 in
theorem gOk_47 : gC_47.all (gRow 47) = true := by decide +kernel
set_option maxRecDepth 100000 in
theorem gOk_48 : gC_48.all (gRow 48) = true := by decide +kernel
set_option maxRecDepth 100000 in
theorem gOk_49 : gC_49.all (gRow 49) = true := by decide +kernel
set_option maxRecDepth 100000 in
theorem gOk_50 : gC_50.all (gRow 50) = true := by decide +kernel
set_option maxRecDepth 100000 in
theorem gOk_51 : gC_51.all (gRow 51) = true := by decide +kernel
set_option maxRecDepth 100000 in
theorem gOk_52 : gC_52.all (gRow 52) = true := by decide +kernel
set_option maxRecDepth 100000 in
theorem gOk_53 : gC_53.all (gRow 53) = true := by decide +kernel
set_option maxRecDepth 100000 in
theorem gOk_54 : gC_54.all (gRow 54) = true := by decide +kernel
set_option maxRecDepth 100000 in
theorem gOk_55 : gC_55.all (gRow 55) = true := by decide +kernel
set_option maxRecDepth 100000 in
theorem gOk_56 : gC_56.all (gRow 56) = true := by decide +kernel
set_option maxRecDepth 100000 in
theorem gOk_57 : gC_57.all (gRow 57) = true := by decide +kernel
set_option maxRecDepth 100000 in
theorem gOk_58 : gC_58.all (gRow 58) = true := by decide +kernel
set_option maxRecDepth 100000 in
theorem gOk_59 : gC_59.all (gRow 59) = true := by decide +kernel
set_option maxRecDepth 100000 in
theorem gOk_60 : gC_60.all (gRow 60) = true := by decide +kernel
set_option maxRecDepth 100000 in
theorem gOk_61 : gC_61.all (gRow 61) = true := by decide +kernel
set_option maxRecDepth 100000 in
theorem gOk_62 : gC_62.all (gRow 62) = true := by decide +kernel
set_option maxRecDepth 100000 in
theorem gOk_63 : gC_63.all (gRow 63) = true := by decide +kernel
set_option maxRecDepth 100000 in
theorem gOk_64 : gC_64.all (gRow 64) = true := by decide +kernel
set_option maxRecDepth 100000 in
theorem gOk_65 : gC_65.all (gRow 65) = true := by decide +kernel
set_option maxRecDepth 100000 in
theorem gOk_66 : gC_66.all (gRow 66) = true := by decide +kernel
set_option maxRecDepth 100000 in
theorem gOk_67 : gC_67.all (gRow 67) = true := by decide +kernel
set_option maxRecDepth 100000 in
theorem gOk_68 : gC_68.all (gRow 68) = true := by decide +kernel
set_option maxRecDepth 100000 in
theorem gOk_69 : gC_69.all (gRow 69) = true := by decide +kernel
set_option maxRecDepth 100000 in
theorem gOk_70 : gC_70.all (gRow 70) = true := by decide +kernel
set_option maxRecDepth 100000 in
theorem gOk_71 : gC_71.all (gRow 71) = true := by decide +kernel
set_option maxRecDepth 100000 in
theorem gOk_72 : gC_72.all (gRow 72) = true := by decide +kernel
set_option maxRecDepth 100000 in
theorem gOk_73 : gC_73.all (gRow 73) = true := by decide +kernel
set_option maxRecDepth 100000 in
theorem gOk_74 : gC_74.all (gRow 74) = true := by decide +kernel
set_option maxRecDepth 100000 in
theorem gOk_75 : gC_75.all (gRow 75) = true := by decide +kernel
set_option maxRecDepth 100000 in
theorem gOk_76 : gC_76.all (gRow 76) = true := by decide +kernel
set_option maxRecDepth 100000 in
theorem gOk_77 : gC_77.all (gRow 77) = true := by decide +kernel
set_option maxRecDepth 100000 in
theorem gOk_78 : gC_78.all (gRow 78) = true := by decide +kernel
set_option maxRecDepth 100000 in
theorem gOk_79 : gC_79.all (gRow 79) = true := by decide +kernel
set_option maxRecDepth 100000 in
theorem gOk_80 : gC_80.all (gRow 80) = true := by decide +kernel
set_option maxRecDepth 100000 in
theorem gOk_81 : gC_81.all (gRow 81) = true := by decide +kernel
set_option maxRecDepth 100000 in
theorem gOk_82 : gC_82.all (gRow 82) = true := by decide +kernel
set_option maxRecDepth 100000 in
theorem gOk_83 : gC_83.all (gRow 83) = true := by decide +kernel
set_option maxRecDepth 100000 in
theorem gOk_84 : gC_84.all (gRow 84) = true := by decide +kernel
set_option maxRecDepth 100000 in
theorem gOk_85 : gC_85.all (gRow 85) = true := by decide +kernel
set_option maxRecDepth 100000 in
theorem gOk_86 : gC_86.all (gRow 86) = true := by decide +kernel
set_option maxRecDepth 100000 in
theorem gOk_87 : gC_87.all (gRow 87) = true := by decide +kernel
set_option maxRecDepth 100000 in
theorem gOk_88 : gC_88.all (gRow 88) = true := by decide +kernel
set_option maxRecDepth 100000 in
theorem gOk_89 : gC_89.all (gRow 89) = true := by decide +kernel
set_option maxRecDepth 100000 in
theorem gOk_90 : gC_90.all (gRow 90) = true := by decide +kernel
set_option maxRecDepth 100000 in
theorem gOk_91 : gC_91.all (gRow 91) = true := by decide +kernel
set_option maxRecDepth 100000 in
theorem gOk_92 : gC_92.all (gRow 92) = true := by decide +kernel
set_option maxRecDepth 100000 in
theorem gOk_93 : gC_93.all (gRow 93) = true := by decide +kernel
set_option maxRecDepth 100000 in
theorem gOk_94 : gC_94.all (gRow 94) = true := by decide +kernel
set_option maxRecDepth 100000 in
theorem gOk_95 : gC_95.all (gRow 95) = true := by decide +kernel
set_option maxRecDepth 100000 in
theorem gOk_96 : gC_96.all (gRow 96) = true := by decide +kernel
set_option maxRecDepth 100000 in
theorem gOk_97 : gC_97.all (gRow 97) = true := by decide +kernel
set_option maxRecDepth 100000 in
theorem gOk_98 : gC_98.all (gRow 98) = true := by decide +kernel
set_option maxRecDepth 100000 in
theorem gOk_99 : gC_99.all (gRow 99) = true := by decide +kernel
set_option maxRecDepth 100000 in
theorem gOk_100 : gC_100.all (gRow 100) = true := by decide +kernel
set_option maxRecDepth 100000 in
theorem gOk_101 : gC_101.all (gRow 101) = true := by decide +kernel
set_option maxRecDepth 100000 in
theorem gOk_102 : gC_102.all (gRow 102) = true := by decide +kernel
set_option maxRecDepth 100000 in
theorem gOk_103 : gC_103.all (gRow 103) = true := by decide +kernel
set_option maxRecDepth 100000 in
theorem gOk_104 : gC_104.all (gRow 104) = true := by decide +kernel
set_option maxRecDepth 100000 in
theorem gOk_105 : gC_105.all (gRow 105) = true := by decide +kernel
set_option maxRecDepth 100000 in
theorem gOk_106 : gC_106.all (gRow 106) = true := by decide +kernel
set_option maxRecDepth 100000 in
theorem gOk_107 : gC_107.all (gRow 107) = true := by decide +kernel
set_option maxRecDepth 100000 in
theorem gOk_108 : gC_108.all (gRow 108) = true := by decide +kernel
set_option maxRecDepth 100000 in
theorem gOk_109 : gC_109.all (gRow 109) = true := by decide +kernel
set_option maxRecDepth 100000 in
theorem gOk_110 : gC_110.all (gRow 110) = true := by decide +kernel
set_option maxRecDepth 100000 in
theorem gOk_111 : gC_111.all (gRow 111) = true := by decide +kernel
set_option maxRecDepth 100000 in
theorem gOk_112 : gC_112.all (gRow 112) = true := by decide +kernel
set_option maxRecDepth 100000 in
theorem gOk_113 : gC_113.all (gRow 113) = true := by decide +kernel
set_option maxRecDepth 100000 in
theorem gOk_114 : gC_114.all (gRow 114) = true := by decide +kernel
set_option maxRecDepth 100000 in
theorem gOk_115 : gC_115.all (gRow 115) = true := by decide +kernel
set_option maxRecDepth 100000 in
theorem gOk_116 : gC_116.all (gRow 116) = true := by decide +kernel
set_option maxRecDepth 100000 in
theorem gOk_117 : gC_117.all (gRow 117) = true := by decide +kernel
set_option maxRecDepth 100000 in
theorem gOk_118 : gC_118.all (gRow 118) = true := by decide +kernel
set_option maxRecDepth 100000 in
theorem gOk_119 : gC_119.all (gRow 119) = true := by decide +kernel
set_option maxRecDepth 100000 in
theorem gOk_120 : gC_120.all (gRow 120) = true := by decide +kernel
set_option maxRecDepth 100000 in
theorem gOk_121 : gC_121.all (gRow 121) = true := by decide +kernel
set_option maxRecDepth 100000 in
theorem gOk_122 : gC_122.all (gRow 122) = true := by decide +kernel
set_option maxRecDepth 100000 in
theorem gOk_123 : gC_123.all (gRow 123) = true := by decide +kernel
set_option maxRecDepth 100000 in
theorem gOk_124 : gC_124.all (gRow 124) = true := by decide +kernel
set_option maxRecDepth 100000 in
theorem gOk_125 : gC_125.all (gRow 125) = true := by decide +kernel
set_option maxRecDepth 100000 in
theorem gOk_126 : gC_126.all (gRow 126) = true := by decide +kernel
set_option maxRecDepth 100000 in
theorem gOk_127 : gC_127.all (gRow 127) = true := by decide +kernel
set_option maxRecDepth 100000 in
theorem gOk_128 : gC_128.all (gRow 128) = true := by decide +kernel
set_option maxRecDepth 100000 in
theorem gOk_129 : gC_129.all (gRow 129) = true := by decide +kernel
set_option maxRecDepth 100000 in
theorem gOk_130 : gC_130.all (gRow 130) = true := by decide +kernel
set_option maxRecDepth 100000 in
theorem gOk_131 : gC_131.all (gRow 131) = true := by decide +kernel
set_option maxRecDepth 100000 in
theorem gOk_132 : gC_132.all (gRow 132) = true := by decide +kernel
set_option maxRecDepth 100000 in
theorem gOk_133 : gC_133.all (gRow 133) = true := by decide +kernel
set_option maxRecDepth 100000 in
theorem gOk_134 : gC_134.all (gRow 134) = true := by decide +kernel
set_option maxRecDepth 100000 in
theorem gOk_135 : gC_135.all (gRow 135) = true := by decide +kernel
set_option maxRecDepth 100000 in
theorem gOk_136 : gC_136.all (gRow 136) = true := by decide +kernel
set_option maxRecDepth 100000 in
theorem gOk_137 : gC_137.all (gRow 137) = true := by decide +kernel
set_option maxRecDepth 100000 in
theorem gOk_138 : gC_138.all (gRow 138) = true := by decide +kernel
set_option maxRecDepth 100000 in
theorem gOk_139 : gC_139.all (gRow 139) = true := by decide +kernel
set_option maxRecDepth 100000 in
theorem gOk_140 : gC_140.all (gRow 140) = true := by decide +kernel
set_option maxRecDepth 100000 in
theorem gOk_141 : gC_141.all (gRow 141) = true := by decide +kernel
set_option maxRecDepth 100000 in
theorem gOk_142 : gC_142.all (gRow 142) = true := by decide +kernel
set_option maxRecDepth 100000 in
theorem gOk_143 : gC_143.all (gRow 143) = true := by decide +kernel
set_option maxRecDepth 100000 in
theorem gOk_144 : gC_144.all (gRow 144) = true := by decide +kernel
set_option maxRecDepth 100000 in
theorem gOk_145 : gC_145.all (gRow 145) = true := by decide +kernel
set_option maxRecDepth 100000 in
theorem gOk_146 : gC_146.all (gRow 146) = true := by decide +kernel
set_option maxRecDepth 100000 in
theorem gOk_147 : gC_147.all (gRow 147) = true := by decide +kernel
set_option maxRecDepth 100000 in
theorem gOk_148 : gC_148.all (gRow 148) = true := by decide +kernel
set_option maxRecDepth 100000 in
theorem gOk_149 : gC_149.all (gRow 149) = true := by decide +kernel
set_option maxRecDepth 100000 in
theorem gOk_150 : gC_150.all (gRow 150) = true := by decide +kernel
set_option maxRecDepth 100000 in
theorem gOk_151 : gC_151.all (gRow 151) = true := by decide +kernel
set_option maxRecDepth 100000 in
theorem gOk_152 : gC_152.all (gRow 152) = true := by decide +kernel
set_option maxRecDepth 100000 in
theorem gOk_153 : gC_153.all (gRow 153) = true := by decide +kernel
set_option maxRecDepth 100000 in
theorem gOk_154 : gC_154.all (gRow 154) = true := by decide +kernel
set_option maxRecDepth 100000 in
theorem gOk_155 : gC_155.all (gRow 155) = true := by decide +kernel
set_option maxRecDepth 100000 in
theorem gOk_156 : gC_156.all (gRow 156) = true := by decide +kernel
set_option maxRecDepth 100000 in
theorem gOk_157 : gC_157.all (gRow 157) = true := by decide +kernel
set_option maxRecDepth 100000 in
theorem gOk_158 : gC_158.all (gRow 158) = true := by decide +kernel
set_option maxRecDepth 100000 in
theorem gOk_159 : gC_159.all (gRow 159) = true := by decide +kernel
set_option maxRecDepth 100000 in
theorem gOk_160 : gC_160.all (gRow 160) = true := by decide +kernel
set_option maxRecDepth 100000 in
theorem gOk_161 : gC_161.all (gRow 161) = true := by decide +kernel
set_option maxRecDepth 100000 in
theorem gOk_162 : gC_162.all (gRow 162) = true := by decide +kernel
set_option maxRecDepth 100000 in
theorem gOk_163 : gC_163.all (gRow 163) = true := by decide +kernel
set_option maxRecDepth 100000 in
theorem gOk_164 : gC_164.all (gRow 164) = true := by decide +kernel
set_option maxRecDepth 100000 in
theorem gOkM_165_0 : gC_165_0.all (gRow 165) = true := by decide +kernel
set_option maxRecDepth 100000 in
theorem gOkM_165_1 : gC_165_1.all (gRow 165) = true := by decide +kernel
set_option maxRecDepth 100000 in
theorem gOkM_165_2 : gC_165_2.all (gRow 165) = true := by decide +kernel
theorem gOk_165 : gC_165.all (gRow 165) = true := by
  unfold gC_165
  simp only [List.all_append, Bool.and_eq_true]
  exact ⟨gOkM_165_0, ⟨gOkM_165_1, gOkM_165_2⟩⟩
set_option maxRecDepth 100000 in
theorem gOkL_0_0 : ((gC_166_0.drop 0).take 10).all (gRow 166) = true := by decide +kernel
set_option maxRecDepth 100000 in
theorem gOkL_0_1 : ((gC_166_0.drop 10).take 10).all (gRow 166) = true := by decide +kernel
set_option maxRecDepth 100000 in
theorem gOkL_0_2 : ((gC_166_0.drop 20).take 10).all (gRow 166) = true := by decide +kernel
set_option maxRecDepth 100000 in
theorem gOkL_0_3 : ((gC_166_0.drop 30).take 10).all (gRow 166) = true := by decide +kernel
set_option maxRecDepth 100000 in
theorem gOkL_0_4 : ((gC_166_0.drop 40).take 10).all (gRow 166) = true := by decide +kernel
set_option maxRecDepth 100000 in
theorem gOkL_0_5 : ((gC_166_0.drop 50).take 10).all (gRow 166) = true := by decide +kernel
set_option maxRecDepth 100000 in
theorem gOkL_0_6 : ((gC_166_0.drop 60).take 10).all (gRow 166) = true := by decide +kernel
set_option maxRecDepth 100000 in
theorem gOkL_0_7 : ((gC_166_0.drop 70).take 10).all (gRow 166) = true := by decide +kernel
set_option maxRecDepth 100000 in
theorem gOkL_0_8 : ((gC_166_0.drop 80).take 10).all (gRow 166) = true := by decide +kernel
set_option maxRecDepth 100000 in
theorem gOkL_0_9 : ((gC_166_0.drop 90).take 10).all (gRow 166) = true := by decide +kernel
theorem gOkL_0 : gC_166_0.all (gRow 166) = true := g_ten 10 (by decide +kernel) (fun j hj => by
  match j, hj with
  | 0, _ => exact gOkL_0_0
  | 1, _ => exact gOkL_0_1
  | 2, _ => exact gOkL_0_2
  | 3, _ => exact gOkL_0_3
  | 4, _ => exact gOkL_0_4
  | 5, _ => exact gOkL_0_5
  | 6, _ => exact gOkL_0_6
  | 7, _ => exact gOkL_0_7
  | 8, _ => exact gOkL_0_8
  | 9, _ => exact gOkL_0_9
  | j + 10, hj => exact absurd hj (by omega))
set_option maxRecDepth 100000 in
theorem gOkL_1_0 : ((gC_166_1.drop 0).take 10).all (gRow 166) = true := by decide +kernel
set_option maxRecDepth 100000 in
theorem gOkL_1_1 : ((gC_166_1.drop 10).take 10).all (gRow 166) = true := by decide +kernel
set_option maxRecDepth 100000 in
theorem gOkL_1_2 : ((gC_166_1.drop 20).take 10).all (gRow 166) = true := by decide +kernel
set_option maxRecDepth 100000 in
theorem gOkL_1_3 : ((gC_166_1.drop 30).take 10).all (gRow 166) = true := by decide +kernel
set_option maxRecDepth 100000 in
theorem gOkL_1_4 : ((gC_166_1.drop 40).take 10).all (gRow 166) = true := by decide +kernel
set_option maxRecDepth 100000 in
theorem gOkL_1_5 : ((gC_166_1.drop 50).take 10).all (gRow 166) = true := by decide +kernel
set_option maxRecDepth 100000 in
theorem gOkL_1_6 : ((gC_166_1.drop 60).take 10).all (gRow 166) = true := by decide +kernel
set_option maxRecDepth 100000 in
theorem gOkL_1_7 : ((gC_166_1.drop 70).take 10).all (gRow 166) = true := by decide +kernel
set_option maxRecDepth 100000 in
theorem gOkL_1_8 : ((gC_166_1.drop 80).take 10).all (gRow 166) = true := by decide +kernel
set_option maxRecDepth 100000 in
theorem gOkL_1_9 : ((gC_166_1.drop 90).take 10).all (gRow 166) = true := by decide +kernel
theorem gOkL_1 : gC_166_1.all (gRow 166) = true := g_ten 10 (by decide +kernel) (fun j hj => by
  match j, hj with
  | 0, _ => exact gOkL_1_0
  | 1, _ => exact gOkL_1_1
  | 2, _ => exact gOkL_1_2
  | 3, _ => exact gOkL_1_3
  | 4, _ => exact gOkL_1_4
  | 5, _ => exact gOkL_1_5
  | 6, _ => exact gOkL_1_6
  | 7, _ => exact gOkL_1_7
  | 8, _ => exact gOkL_1_8
  | 9, _ => exact gOkL_1_9
  | j + 10, hj => exact absurd hj (by omega))
set_option maxRecDepth 100000 in
theorem gOkL_2_0 : ((gC_166_2.drop 0).take 10).all (gRow 166) = true := by decide +kernel
set_option maxRecDepth 100000 in
theorem gOkL_2_1 : ((gC_166_2.drop 10).take 10).all (gRow 166) = true := by decide +kernel
set_option maxRecDepth 100000 in
theorem gOkL_2_2 : ((gC_166_2.drop 20).take 10).all (gRow 166) = true := by decide +kernel
set_option maxRecDepth 100000 in
theorem gOkL_2_3 : ((gC_166_2.drop 30).take 10).all (gRow 166) = true := by decide +kernel
set_option maxRecDepth 100000 in
theorem gOkL_2_4 : ((gC_166_2.drop 40).take 10).all (gRow 166) = true := by decide +kernel
set_option maxRecDepth 100000 in
theorem gOkL_2_5 : ((gC_166_2.drop 50).take 10).all (gRow 166) = true := by decide +kernel
set_option maxRecDepth 100000 in
theorem gOkL_2_6 : ((gC_166_2.drop 60).take 10).all (gRow 166) = true := by decide +kernel
set_option maxRecDepth 100000 in
theorem gOkL_2_7 : ((gC_166_2.drop 70).take 10).all (gRow 166) = true := by decide +kernel
set_option maxRecDepth 100000 in
theorem gOkL_2_8 : ((gC_166_2.drop 80).take 10).all (gRow 166) = true := by decide +kernel
set_option maxRecDepth 100000 in
theorem gOkL_2_9 : ((gC_166_2.drop 90).take 10).all (gRow 166) = true := by decide +kernel
theorem gOkL_2 : gC_166_2.all (gRow 166) = true := g_ten 10 (by decide +kernel) (fun j hj => by
  match j, hj with
  | 0, _ => exact gOkL_2_0
  | 1, _ => exact gOkL_2_1
  | 2, _ => exact gOkL_2_2
  | 3, _ => exact gOkL_2_3
  | 4, _ => exact gOkL_2_4
  | 5, _ => exact gOkL_2_5
  | 6, _ => exact gOkL_2_6
  | 7, _ => exact gOkL_2_7
  | 8, _ => exact gOkL_2_8
  | 9, _ => exact gOkL_2_9
  | j + 10, hj => exact absurd hj (by omega))
set_option maxRecDepth 100000 in
theorem gOkL_3_0 : ((gC_166_3.drop 0).take 10).all (gRow 166) = true := by decide +kernel
set_option maxRecDepth 100000 in
theorem gOkL_3_1 : ((gC_166_3.drop 10).take 10).all (gRow 166) = true := by decide +kernel
set_option maxRecDepth 100000 in
theorem gOkL_3_2 : ((gC_166_3.drop 20).take 10).all (gRow 166) = true := by decide +kernel
set_option maxRecDepth 100000 in
theorem gOkL_3_3 : ((gC_166_3.drop 30).take 10).all (gRow 166) = true := by decide +kernel
theorem gOkL_3 : gC_166_3.all (gRow 166) = true := g_ten 4 (by decide +kernel) (fun j hj => by
  match j, hj with
  | 0, _ => exact gOkL_3_0
  | 1, _ => exact gOkL_3_1
  | 2, _ => exact gOkL_3_2
  | 3, _ => exact gOkL_3_3
  | j + 4, hj => exact absurd hj (by omega))
end
section
/-! every row of every method is checked -/
theorem gOkL : gC_166.all (gRow 166) = true := by
  unfold gC_166
  simp only [List.all_append, Bool.and_eq_true]
  exact ⟨gOkL_0, ⟨gOkL_1, ⟨gOkL_2, gOkL_3⟩⟩⟩
theorem g_one {k : Nat} {t u : List (Nat × gR)} (h : gCode[k]? = some u) (ht : gCode[k]? = some t) (hu : u.all (gRow k) = true) : t.all (gRow k) = true := by
  rw [h] at ht
  cases ht
  exact hu
theorem g_all {k : Nat} {t : List (Nat × gR)} (ht : gCode[k]? = some t) : t.all (gRow k) = true := by
  match k, ht with
  | 0, ht => exact g_one rfl ht gOk_0
  | 1, ht => exact g_one rfl ht gOk_1
  | 2, ht => exact g_one rfl ht gOk_2
  | 3, ht => exact g_one rfl ht gOk_3
  | 4, ht => exact g_one rfl ht gOk_4
  | 5, ht => exact g_one rfl ht gOk_5
  | 6, ht => exact g_one rfl ht gOk_6
  | 7, ht => exact g_one rfl ht gOk_7
  | 8, ht => exact g_one rfl ht gOk_8
  | 9, ht => exact g_one rfl ht gOk_9
  | 10, ht => exact g_one rfl ht gOk_10
  | 11, ht => exact g_one rfl ht gOk_11
  | 12, ht => exact g_one rfl ht gOk_12
  | 13, ht => exact g_one rfl ht gOk_13
  | 14, ht => exact g_one rfl ht gOk_14
  | 15, ht => exact g_one rfl ht gOk_15
  | 16, ht => exact g_one rfl ht gOk_16
  | 17, ht => exact g_one rfl ht gOk_17
  | 18, ht => exact g_one rfl ht gOk_18
  | 19, ht => exact g_one rfl ht gOk_19
  | 20, ht => exact g_one rfl ht gOk_20
  | 21, ht => exact g_one rfl ht gOk_21
  | 22, ht => exact g_one rfl ht gOk_22
  | 23, ht => exact g_one rfl ht gOk_23
  | 24, ht => exact g_one rfl ht gOk_24
  | 25, ht => exact g_one rfl ht gOk_25
  | 26, ht => exact g_one rfl ht gOk_26
  | 27, ht => exact g_one rfl ht gOk_27
  | 28, ht => exact g_one rfl ht gOk_28
  | 29, ht => exact g_one rfl ht gOk_29
  | 30, ht => exact g_one rfl ht gOk_30
  | 31, ht => exact g_one rfl ht gOk_31
  | 32, ht => exact g_one rfl ht gOk_32
  | 33, ht => exact g_one rfl ht gOk_33
  | 34, ht => exact g_one rfl ht gOk_34
  | 35, ht => exact g_one rfl ht gOk_35
  | 36, ht => exact g_one rfl ht gOk_36
  | 37, ht => exact g_one rfl ht gOk_37
  | 38, ht => exact g_one rfl ht gOk_38
  | 39, ht => exact g_one rfl ht gOk_39
  | 40, ht => exact g_one rfl ht gOk_40
  | 41, ht => exact g_one rfl ht gOk_41
  | 42, ht => exact g_one rfl ht gOk_42
  | 43, ht => exact g_one rfl ht gOk_43
  | 44, ht => exact g_one rfl ht gOk_44
  | 45, ht => exact g_one rfl ht gOk_45
  | 46, ht => exact g_one rfl ht gOk_46
  | 47, ht => exact g_one rfl ht gOk_47
  | 48, ht => exact g_one rfl ht gOk_48
  | 49, ht => exact g_one rfl ht gOk_49
  | 50, ht => exact g_one rfl ht gOk_50
  | 51, ht => exact g_one rfl ht gOk_51
  | 52, ht => exact g_one rfl ht gOk_52
  | 53, ht => exact g_one rfl ht gOk_53
  | 54, ht => exact g_one rfl ht gOk_54
  | 55, ht => exact g_one rfl ht gOk_55
  | 56, ht => exact g_one rfl ht gOk_56
  | 57, ht => exact g_one rfl ht gOk_57
  | 58, ht => exact g_one rfl ht gOk_58
  | 59, ht => exact g_one rfl ht gOk_59
  | 60, ht => exact g_one rfl ht gOk_60
  | 61, ht => exact g_one rfl ht gOk_61
  | 62, ht => exact g_one rfl ht gOk_62
  | 63, ht => exact g_one rfl ht gOk_63
  | 64, ht => exact g_one rfl ht gOk_64
  | 65, ht => exact g_one rfl ht gOk_65
  | 66, ht => exact g_one rfl ht gOk_66
  | 67, ht => exact g_one rfl ht gOk_67
  | 68, ht => exact g_one rfl ht gOk_68
  | 69, ht => exact g_one rfl ht gOk_69
  | 70, ht => exact g_one rfl ht gOk_70
  | 71, ht => exact g_one rfl ht gOk_71
  | 72, ht => exact g_one rfl ht gOk_72
  | 73, ht => exact g_one rfl ht gOk_73
  | 74, ht => exact g_one rfl ht gOk_74
  | 75, ht => exact g_one rfl ht gOk_75
  | 76, ht => exact g_one rfl ht gOk_76
  | 77, ht => exact g_one rfl ht gOk_77
  | 78, ht => exact g_one rfl ht gOk_78
  | 79, ht => exact g_one rfl ht gOk_79
  | 80, ht => exact g_one rfl ht gOk_80
  | 81, ht => exact g_one rfl ht gOk_81
  | 82, ht => exact g_one rfl ht gOk_82
  | 83, ht => exact g_one rfl ht gOk_83
  | 84, ht => exact g_one rfl ht gOk_84
  | 85, ht => exact g_one rfl ht gOk_85
  | 86, ht => exact g_one rfl ht gOk_86
  | 87, ht => exact g_one rfl ht gOk_87
  | 88, ht => exact g_one rfl ht gOk_88
  | 89, ht => exact g_one rfl ht gOk_89
  | 90, ht => exact g_one rfl ht gOk_90
  | 91, ht => exact g_one rfl ht gOk_91
  | 92, ht => exact g_one rfl ht gOk_92
  | 93, ht => exact g_one rfl ht gOk_93
  | 94, ht => exact g_one rfl ht gOk_94
  | 95, ht => exact g_one rfl ht gOk_95
  | 96, ht => exact g_one rfl ht gOk_96
  | 97, ht => exact g_one rfl ht gOk_97
  | 98, ht => exact g_one rfl ht gOk_98
  | 99, ht => exact g_one rfl ht gOk_99
  | 100, ht => exact g_one rfl ht gOk_100
  | 101, ht => exact g_one rfl ht gOk_101
  | 102, ht => exact g_one rfl ht gOk_102
  | 103, ht => exact g_one rfl ht gOk_103
  | 104, ht => exact g_one rfl ht gOk_104
  | 105, ht => exact g_one rfl ht gOk_105
  | 106, ht => exact g_one rfl ht gOk_106
  | 107, ht => exact g_one rfl ht gOk_107
  | 108, ht => exact g_one rfl ht gOk_108
  | 109, ht => exact g_one rfl ht gOk_109
  | 110, ht => exact g_one rfl ht gOk_110
  | 111, ht => exact g_one rfl ht gOk_111
  | 112, ht => exact g_one rfl ht gOk_112
  | 113, ht => exact g_one rfl ht gOk_113
  | 114, ht => exact g_one rfl ht gOk_114
  | 115, ht => exact g_one rfl ht gOk_115
  | 116, ht => exact g_one rfl ht gOk_116
  | 117, ht => exact g_one rfl ht gOk_117
  | 118, ht => exact g_one rfl ht gOk_118
  | 119, ht => exact g_one rfl ht gOk_119
  | 120, ht => exact g_one rfl ht gOk_120
  | 121, ht => exact g_one rfl ht gOk_121
  | 122, ht => exact g_one rfl ht gOk_122
  | 123, ht => exact g_one rfl ht gOk_123
  | 124, ht => exact g_one rfl ht gOk_124
  | 125, ht => exact g_one rfl ht gOk_125
  | 126, ht => exact g_one rfl ht gOk_126
  | 127, ht => exact g_one rfl ht gOk_127
  | 128, ht => exact g_one rfl ht gOk_128
  | 129, ht => exact g_one rfl ht gOk_129
  | 130, ht => exact g_one rfl ht gOk_130
  | 131, ht => exact g_one rfl ht gOk_131
  | 132, ht => exact g_one rfl ht gOk_132
  | 133, ht => exact g_one rfl ht gOk_133
  | 134, ht => exact g_one rfl ht gOk_134
  | 135, ht => exact g_one rfl ht gOk_135
  | 136, ht => exact g_one rfl ht gOk_136
  | 137, ht => exact g_one rfl ht gOk_137
  | 138, ht => exact g_one rfl ht gOk_138
  | 139, ht => exact g_one rfl ht gOk_139
  | 140, ht => exact g_one rfl ht gOk_140
  | 141, ht => exact g_one rfl ht gOk_141
  | 142, ht => exact g_one rfl ht gOk_142
  | 143, ht => exact g_one rfl ht gOk_143
  | 144, ht => exact g_one rfl ht gOk_144
  | 145, ht => exact g_one rfl ht gOk_145
  | 146, ht => exact g_one rfl ht gOk_146
  | 147, ht => exact g_one rfl ht gOk_147
  | 148, ht => exact g_one rfl ht gOk_148
  | 149, ht => exact g_one rfl ht gOk_149
  | 150, ht => exact g_one rfl ht gOk_150
  | 151, ht => exact g_one rfl ht gOk_151
  | 152, ht => exact g_one rfl ht gOk_152
  | 153, ht => exact g_one rfl ht gOk_153
  | 154, ht => exact g_one rfl ht gOk_154
  | 155, ht => exact g_one rfl ht gOk_155
  | 156, ht => exact g_one rfl ht gOk_156
  | 157, ht => exact g_one rfl ht gOk_157
  | 158, ht => exact g_one rfl ht gOk_158
  | 159, ht => exact g_one rfl ht gOk_159
  | 160, ht => exact g_one rfl ht gOk_160
  | 161, ht => exact g_one rfl ht gOk_161
  | 162, ht => exact g_one rfl ht gOk_162
  | 163, ht => exact g_one rfl ht gOk_163
  | 164, ht => exact g_one rfl ht gOk_164
  | 165, ht => exact g_one rfl ht gOk_165
  | 166, ht => exact g_one rfl ht gOkL
  | k + 167, ht =>
    have h1 := (List.getElem?_eq_some_iff.mp ht).1
    have h2 : gCode.length = 167 := rfl
    omega
theorem g_lk {t : List (Nat × gR)} {pc : Nat} {r : gR} (h : gLk t pc = some r) : (pc, r) ∈ t := by
  induction t with
  | nil => cases h
  | cons q t ih =>
    obtain ⟨q1, q2⟩ := q
    unfold gLk at h
    split at h
    · rename_i e
      cases h
      rw [e]
      exact List.mem_cons_self
    · exact List.mem_cons_of_mem _ (ih h)
/-- what each row says -/
theorem g_row {k pc : Nat} {r : gR} (h : gAt k pc = some r) : decode (mBy k) pc = .ok (r.1, gLen r.1) ∧ gChk k pc r = true := by
  unfold gAt at h
  split at h
  · rename_i t ht
    have h1 := List.all_eq_true.mp (g_all ht) _ (g_lk h)
    unfold gRow at h1
    simp only [Bool.and_eq_true, decide_eq_true_eq] at h1
    exact ⟨by rw [← h1.1.2]; exact h1.1.1, h1.2⟩
  · cases h
/-- what is checked of a method: its words, its descriptor -/
def gMok (k : Nat) : Bool :=
  decide (lw_tbl[(mPos k).1]? = some (match mHh k with | [] => .code (mY k) (mBy k) (mML k) (mRt k) | h => .codeWith (mY k) (mBy k) (mML k) (mRt k) h)) &&
  decide (lw_tbl[(mPos k).2.1]? = some (.initialized (mY k).cls)) &&
  (if mSta k then decide (lw_tbl[(mPos k).2.2.1]? = some (.static (mY k))) else
    decide (lw_tbl[(mPos k).2.2.1]? = some (.instanceMethod (mY k))) && decide (lw_tbl[(mPos k).2.2.2]? = some (.selects (mY k).cls (mY k) (mY k))) && decide ((gCl[mCi k]?).map (fun q => q.1) = some (mY k).cls)) &&
  decide ((mY k).cls ≠ "java/lang/invoke/MethodHandle" ∧ (mY k).cls ≠ "java/lang/invoke/VarHandle" ∧ (parseMethodDescriptor (mY k).desc).map (fun d => d.parameters.length) = some (mNp k)) &&
  plainName (mY k).cls
set_option maxRecDepth 100000 in
theorem gMok_0 : ((List.range 18).all fun i => gMok (0 + i)) = true := by decide +kernel
set_option maxRecDepth 100000 in
theorem gMok_18 : ((List.range 18).all fun i => gMok (18 + i)) = true := by decide +kernel
set_option maxRecDepth 100000 in
theorem gMok_36 : ((List.range 18).all fun i => gMok (36 + i)) = true := by decide +kernel
set_option maxRecDepth 100000 in
theorem gMok_54 : ((List.range 18).all fun i => gMok (54 + i)) = true := by decide +kernel
set_option maxRecDepth 100000 in
theorem gMok_72 : ((List.range 18).all fun i => gMok (72 + i)) = true := by decide +kernel
set_option maxRecDepth 100000 in
theorem gMok_90 : ((List.range 18).all fun i => gMok (90 + i)) = true := by decide +kernel
set_option maxRecDepth 100000 in
theorem gMok_108 : ((List.range 18).all fun i => gMok (108 + i)) = true := by decide +kernel
set_option maxRecDepth 100000 in
theorem gMok_126 : ((List.range 18).all fun i => gMok (126 + i)) = true := by decide +kernel
set_option maxRecDepth 100000 in
theorem gMok_144 : ((List.range 18).all fun i => gMok (144 + i)) = true := by decide +kernel
set_option maxRecDepth 100000 in
theorem gMok_162 : ((List.range 4).all fun i => gMok (162 + i)) = true := by decide +kernel
theorem g_mok {k : Nat} (hk : k < 166) : gMok k = true := by
  have key : ∀ a n, ((List.range n).all fun i => gMok (a + i)) = true → a ≤ k → k < a + n → gMok k = true := fun a n h h1 h2 => by
    have h3 := List.all_eq_true.mp h (k - a) (List.mem_range.mpr (by omega))
    rwa [show a + (k - a) = k by omega] at h3
  rcases Nat.lt_or_ge k 18 with h | h
  · exact key 0 18 gMok_0 (by omega) (by omega)
  rcases Nat.lt_or_ge k 36 with h | h
  · exact key 18 18 gMok_18 (by omega) (by omega)
  rcases Nat.lt_or_ge k 54 with h | h
  · exact key 36 18 gMok_36 (by omega) (by omega)
  rcases Nat.lt_or_ge k 72 with h | h
  · exact key 54 18 gMok_54 (by omega) (by omega)
  rcases Nat.lt_or_ge k 90 with h | h
  · exact key 72 18 gMok_72 (by omega) (by omega)
  rcases Nat.lt_or_ge k 108 with h | h
  · exact key 90 18 gMok_90 (by omega) (by omega)
  rcases Nat.lt_or_ge k 126 with h | h
  · exact key 108 18 gMok_108 (by omega) (by omega)
  rcases Nat.lt_or_ge k 144 with h | h
  · exact key 126 18 gMok_126 (by omega) (by omega)
  rcases Nat.lt_or_ge k 162 with h | h
  · exact key 144 18 gMok_144 (by omega) (by omega)
  rcases Nat.lt_or_ge k 166 with h | h
  · exact key 162 4 gMok_162 (by omega) (by omega)
  omega
/-- the words of the four methods of Math -/
theorem gMa : ∀ w ∈ ([.static Lib.Math.max.name, .static Lib.Math.min.name, .static Lib.Math.abs.name, .static Lib.MathLoose.min_long.x, .initialized "java/lang/Math", .code Lib.Math.max.name Lib.Math.max.code 2 (some .int), .code Lib.Math.min.name Lib.Math.min.code 2 (some .int), .code Lib.Math.abs.name Lib.Math.abs.code 1 (some .int), .code Lib.MathLoose.min_long.x Lib.MathLoose.min_long.code 4 (some .long)] : List Cond), w ∈ tables_1 ∧ goodWord w = true := by decide +kernel
end
section
/-! THE SMALL MACHINE AND THE MACHINE: how a memory of the one lies in the heap of the other -/
def gTr (ad : Nat → Nat) : Value → Value
  | .ref a => .ref (ad a)
  | v => v
theorem gTr_cat (ad : Nat → Nat) (v : Value) : (gTr ad v).category = v.category := by cases v <;> rfl
def gCell (cA : Nat → ClassId) (ad : Nat → Nat) (μ : gMu) (a : Nat) : gC → va_E
  | .inl (ci, ks) => .inr (ci, ks.mapIdx (fun j kd => gTr ad (gFa μ a j kd)))
  | .inr (t, n) => .inl (cA t, n, if t = 4 then .inr (.inr (.inr (.inl (μ.2.2 a)))) else if t = 3 then .inr (.inl (μ.2.1 a)) else .inl (μ.1 a))
def gWd (cA : Nat → ClassId) (ad : Nat → Nat) (μ : gMu) : va_W := gSh.mapIdx (fun a x => (ad a, gCell cA ad μ a x))
abbrev gTys (cA : Nat → ClassId) : List (ClassId × FieldType) := [(cA 0, .int), (cA 1, .char), (cA 2, .boolean), (cA 3, .long), (cA 4, .byte)]
def gAsc (ad : Nat → Nat) (l : gL) : List (Nat × Value) := (List.range l.length).filterMap (fun i => match l[i]? with
  | some (some v) => some (i, gTr ad v)
  | _ => none)
theorem gAsc_mem {ad : Nat → Nat} {l : gL} {q : Nat × Value} : q ∈ gAsc ad l ↔ ∃ v, l[q.1]? = some (some v) ∧ q.2 = gTr ad v := by
  unfold gAsc
  rw [List.mem_filterMap]
  constructor
  · rintro ⟨i, -, h⟩
    split at h
    · rename_i v hv
      cases h
      exact ⟨v, hv, rfl⟩
    · cases h
  · rintro ⟨v, h1, h2⟩
    refine ⟨q.1, List.mem_range.mpr (List.getElem?_eq_some_iff.mp h1).1, ?_⟩
    rw [h1]
    show some (q.1, gTr ad v) = some q
    rw [← h2]
def gLh (ls : Array Slot) (nL : Nat) (ad : Nat → Nat) (l : gL) : Prop := lv_has ls nL (gAsc ad l)
theorem gLh_at {ls : Array Slot} {nL : Nat} {ad : Nat → Nat} {l : gL} (h : gLh ls nL ad l) {i : Nat} {v : Value} (hi : l[i]? = some (some v)) : ls[i]? = some (.val (gTr ad v)) := h.2.2 (i, gTr ad v) (gAsc_mem.mpr ⟨v, hi, rfl⟩)
theorem gKill_get {l : gL} {i j : Nat} {w : Value} (h : (gKill l i)[j]? = some (some w)) : l[j]? = some (some w) ∧ ¬ (j + 1 = i ∧ w.category = 2) := by
  unfold gKill at h
  split at h
  · exact ⟨h, fun q => by omega⟩
  · rename_i i'
    split at h
    · rename_i v hv
      split at h
      · rename_i hc
        by_cases hj : j = i'
        · subst hj
          have hl := (List.getElem?_eq_some_iff.mp hv).1
          rw [List.getElem?_set_self hl] at h
          cases h
        · rw [List.getElem?_set_ne (Ne.symm hj)] at h
          exact ⟨h, fun q => hj (by omega)⟩
      · rename_i hc
        refine ⟨h, fun q => ?_⟩
        have e : j = i' := by omega
        subst e
        rw [hv] at h
        cases h
        exact hc q.2
    · rename_i hn
      refine ⟨h, fun q => ?_⟩
      have e : j = i' := by omega
      subst e
      exact hn w h
theorem gLh_st1 {ls : Array Slot} {nL : Nat} {ad : Nat → Nat} {l : gL} {i : Nat} {v : Value} (h : lv_has ls nL ((i, gTr ad v) :: (gAsc ad l).filter (fun q => !(q.1 == i) && !(q.1 + 1 == i && q.2.category == 2)))) : gLh ls nL ad (gSt1 l i v) := by
  refine ⟨h.1, h.2.1, fun q hq => h.2.2 q ?_⟩
  obtain ⟨w, h1, h2⟩ := gAsc_mem.mp hq
  obtain ⟨j, x⟩ := q
  dsimp only at h1 h2
  subst h2
  unfold gSt1 at h1
  by_cases hj : j = i
  · subst hj
    have hl : j < (gKill l j).length := by
      have := (List.getElem?_eq_some_iff.mp h1).1
      rwa [List.length_set] at this
    rw [List.getElem?_set_self hl] at h1
    cases h1
    exact List.mem_cons_self
  · rw [List.getElem?_set_ne (Ne.symm hj)] at h1
    obtain ⟨h3, h4⟩ := gKill_get h1
    refine List.mem_cons_of_mem _ (List.mem_filter.mpr ⟨gAsc_mem.mpr ⟨w, h3, rfl⟩, ?_⟩)
    rw [gTr_cat]
    simp only [Bool.and_eq_true, Bool.not_eq_true', beq_eq_false_iff_ne, ne_eq, Bool.and_eq_false_iff]
    refine ⟨hj, ?_⟩
    by_cases h5 : j + 1 = i
    · exact Or.inr (fun h6 => h4 ⟨h5, h6⟩)
    · exact Or.inl h5
theorem gLh_st2 {ls : Array Slot} {nL : Nat} {ad : Nat → Nat} {l : gL} {i : Nat} {v : Value} (h : lv_has ls nL ((i, gTr ad v) :: (gAsc ad l).filter (fun q => !(q.1 == i) && (!(q.1 == i + 1) && !(q.1 + 1 == i && q.2.category == 2))))) : gLh ls nL ad (gSt2 l i v) := by
  refine ⟨h.1, h.2.1, fun q hq => h.2.2 q ?_⟩
  obtain ⟨w, h1, h2⟩ := gAsc_mem.mp hq
  obtain ⟨j, x⟩ := q
  dsimp only at h1 h2
  subst h2
  unfold gSt2 at h1
  by_cases hj1 : j = i + 1
  · subst hj1
    have hl := (List.getElem?_eq_some_iff.mp h1).1
    rw [List.length_set] at hl
    rw [List.getElem?_set_self hl] at h1
    cases h1
  · rw [List.getElem?_set_ne (Ne.symm hj1)] at h1
    by_cases hj : j = i
    · subst hj
      have hl : j < (gKill l j).length := by
        have := (List.getElem?_eq_some_iff.mp h1).1
        rwa [List.length_set] at this
      rw [List.getElem?_set_self hl] at h1
      cases h1
      exact List.mem_cons_self
    · rw [List.getElem?_set_ne (Ne.symm hj)] at h1
      obtain ⟨h3, h4⟩ := gKill_get h1
      refine List.mem_cons_of_mem _ (List.mem_filter.mpr ⟨gAsc_mem.mpr ⟨w, h3, rfl⟩, ?_⟩)
      rw [gTr_cat]
      simp only [Bool.and_eq_true, Bool.not_eq_true', beq_eq_false_iff_ne, ne_eq, Bool.and_eq_false_iff]
      refine ⟨hj, hj1, ?_⟩
      by_cases h5 : j + 1 = i
      · exact Or.inr (fun h6 => h4 ⟨h5, h6⟩)
      · exact Or.inl h5
theorem gLh_hnd {ls : Array Slot} {nL : Nat} {ad : Nat → Nat} {l : gL} {i : Nat} {v : Value} (h : lv_has ls nL ((i, v) :: (gAsc ad l).filter (fun q => !(q.1 == i) && !(q.1 + 1 == i && q.2.category == 2)))) : gLh ls nL ad ((gKill l i).set i none) := by
  refine ⟨h.1, h.2.1, fun q hq => h.2.2 q ?_⟩
  obtain ⟨w, h1, h2⟩ := gAsc_mem.mp hq
  obtain ⟨j, x⟩ := q
  dsimp only at h1 h2
  subst h2
  by_cases hj : j = i
  · subst hj
    have hl : j < (gKill l j).length := by
      have := (List.getElem?_eq_some_iff.mp h1).1
      rwa [List.length_set] at this
    rw [List.getElem?_set_self hl] at h1
    cases h1
  · rw [List.getElem?_set_ne (Ne.symm hj)] at h1
    obtain ⟨h3, h4⟩ := gKill_get h1
    refine List.mem_cons_of_mem _ (List.mem_filter.mpr ⟨gAsc_mem.mpr ⟨w, h3, rfl⟩, ?_⟩)
    rw [gTr_cat]
    simp only [Bool.and_eq_true, Bool.not_eq_true', beq_eq_false_iff_ne, ne_eq, Bool.and_eq_false_iff]
    refine ⟨hj, ?_⟩
    by_cases h5 : j + 1 = i
    · exact Or.inr (fun h6 => h4 ⟨h5, h6⟩)
    · exact Or.inl h5
theorem gWd_get {cA : Nat → ClassId} {ad : Nat → Nat} {μ : gMu} {q : Nat} {x : gC} (h : gSh[q]? = some x) : (gWd cA ad μ)[q]? = some (ad q, gCell cA ad μ q x) := by
  unfold gWd
  rw [List.getElem?_mapIdx, h]
  rfl
theorem gWd_inv {cA : Nat → ClassId} {ad : Nat → Nat} {μ : gMu} {q : Nat} {y : Nat × va_E} (h : (gWd cA ad μ)[q]? = some y) : ∃ x, gSh[q]? = some x ∧ y = (ad q, gCell cA ad μ q x) := by
  unfold gWd at h
  rw [List.getElem?_mapIdx] at h
  cases hx : gSh[q]? with
  | none => rw [hx] at h; cases h
  | some x => rw [hx] at h; exact ⟨x, rfl, (Option.some.inj h).symm⟩
theorem gCell_congr {cA : Nat → ClassId} {ad : Nat → Nat} {μ μ' : gMu} {a : Nat} (h1 : μ'.1 a = μ.1 a) (h2 : μ'.2.1 a = μ.2.1 a) (h3 : μ'.2.2 a = μ.2.2 a) (x : gC) : gCell cA ad μ' a x = gCell cA ad μ a x := by
  have hf : ∀ (j : Nat) (kd : Nat × Nat), gFa μ' a j kd = gFa μ a j kd := by
    intro j kd
    unfold gFa
    rw [h1, h2]
  rcases x with ⟨ci, ks⟩ | ⟨t, n⟩
  · unfold gCell
    simp only [hf]
  · unfold gCell
    simp only [h1, h2, h3]
theorem gWd_set {cA : Nat → ClassId} {ad : Nat → Nat} {μ μ' : gMu} {q : Nat} {x : gC} (h : gSh[q]? = some x) (ho : ∀ a, a ≠ q → μ'.1 a = μ.1 a ∧ μ'.2.1 a = μ.2.1 a ∧ μ'.2.2 a = μ.2.2 a) : (gWd cA ad μ).set q (ad q, gCell cA ad μ' q x) = gWd cA ad μ' := by
  apply List.ext_getElem?
  intro i
  by_cases hi : i = q
  · subst hi
    have hl := (List.getElem?_eq_some_iff.mp (gWd_get (cA := cA) (ad := ad) (μ := μ) h)).1
    rw [List.getElem?_set_self hl, gWd_get h]
  · rw [List.getElem?_set_ne (Ne.symm hi)]
    cases hx : gSh[i]? with
    | none =>
      unfold gWd
      rw [List.getElem?_mapIdx, List.getElem?_mapIdx, hx]
      rfl
    | some y =>
      obtain ⟨a1, a2, a3⟩ := ho i hi
      rw [gWd_get hx, gWd_get hx, gCell_congr a1 a2 a3]
theorem gsI_off {μ : gMu} {q j : Nat} {v : Int32} {a : Nat} (h : a ≠ q) : (gsI μ q j v).1 a = μ.1 a ∧ (gsI μ q j v).2.1 a = μ.2.1 a ∧ (gsI μ q j v).2.2 a = μ.2.2 a := ⟨by unfold gsI va_up; simp [h], rfl, rfl⟩
theorem gsJ_off {μ : gMu} {q j : Nat} {v : Int64} {a : Nat} (h : a ≠ q) : (gsJ μ q j v).1 a = μ.1 a ∧ (gsJ μ q j v).2.1 a = μ.2.1 a ∧ (gsJ μ q j v).2.2 a = μ.2.2 a := ⟨rfl, by unfold gsJ va_up; simp [h], rfl⟩
theorem gsD_off {μ : gMu} {q j : Nat} {v : UInt64} {a : Nat} (h : a ≠ q) : (gsD μ q j v).1 a = μ.1 a ∧ (gsD μ q j v).2.1 a = μ.2.1 a ∧ (gsD μ q j v).2.2 a = μ.2.2 a := ⟨rfl, rfl, by unfold gsD va_up; simp [h]⟩
theorem gsI_at {μ : gMu} {q j : Nat} {v : Int32} : (gsI μ q j v).1 q = upd (μ.1 q) j v := by unfold gsI va_up; simp
theorem gsJ_at {μ : gMu} {q j : Nat} {v : Int64} : (gsJ μ q j v).2.1 q = vp_updL (μ.2.1 q) j v := by unfold gsJ va_up; simp
theorem gsD_at {μ : gMu} {q j : Nat} {v : UInt64} : (gsD μ q j v).2.2 q = vf_upd (μ.2.2 q) j v := by unfold gsD va_up; simp
/-- the addresses of two worlds of one shape are the same -/
theorem gWd_D {A : Nat → Prop} {cA : Nat → ClassId} {ad : Nat → Nat} {μ μ' : gMu} (h : va_D A (gWd cA ad μ)) : va_D A (gWd cA ad μ') := by
  have key : ∀ (k : Nat) (q : Nat × va_E), (gWd cA ad μ')[k]? = some q → ∃ q', (gWd cA ad μ)[k]? = some q' ∧ q'.1 = q.1 := by
    intro k q hk
    obtain ⟨x, h1, h2⟩ := gWd_inv hk
    subst h2
    exact ⟨_, gWd_get h1, rfl⟩
  refine ⟨fun i j x y hi hj hxy => ?_, fun k q hk => ?_⟩
  · obtain ⟨x', a1, a2⟩ := key i x hi
    obtain ⟨y', b1, b2⟩ := key j y hj
    exact h.1 i j x' y' a1 b1 (by rw [a2, b2, hxy])
  · obtain ⟨q', a1, a2⟩ := key k q hk
    rw [← a2]
    exact h.2 k q' a1
/-- the cells that a method may change -/
def gA (ad : Nat → Nat) (sz : Nat) : Nat → Prop := fun q => (∃ k, k < gSh.length ∧ q = ad k) ∨ sz ≤ q
theorem gA_D {A : Nat → Prop} {cA : Nat → ClassId} {ad : Nat → Nat} {μ : gMu} {sz : Nat} (h : va_D A (gWd cA ad μ)) : va_D (gA ad sz) (gWd cA ad μ) := ⟨h.1, fun k q hk => by
  obtain ⟨x, h1, h2⟩ := gWd_inv hk
  subst h2
  exact Or.inl ⟨k, (List.getElem?_eq_some_iff.mp h1).1, rfl⟩⟩
theorem gA_sub {A : Nat → Prop} {cA : Nat → ClassId} {ad : Nat → Nat} {μ : gMu} {sz : Nat} (h : va_D A (gWd cA ad μ)) (hA : ∀ q, sz ≤ q → A q) : ∀ q, gA ad sz q → A q := by
  rintro q (⟨k, hk, rfl⟩ | hq)
  · have h1 : gSh[k]? = some gSh[k] := List.getElem?_eq_getElem hk
    exact h.2 k _ (gWd_get h1)
  · exact hA q hq
/-- the words that go from frame to frame -/
def gG : List Cond := lw_tbl.filter goodWord
theorem gG_W {w : Cond} {pos : Nat} (h : gW pos = some w) (hg : goodWord w = true) : w ∈ gG := List.mem_filter.mpr ⟨List.mem_append_right _ (List.mem_of_getElem? h), hg⟩
theorem gG_Ma {w : Cond} (h : w ∈ ([.static Lib.Math.max.name, .static Lib.Math.min.name, .static Lib.Math.abs.name, .static Lib.MathLoose.min_long.x, .initialized "java/lang/Math", .code Lib.Math.max.name Lib.Math.max.code 2 (some .int), .code Lib.Math.min.name Lib.Math.min.code 2 (some .int), .code Lib.Math.abs.name Lib.Math.abs.code 1 (some .int), .code Lib.MathLoose.min_long.x Lib.MathLoose.min_long.code 4 (some .long)] : List Cond)) : w ∈ gG := List.mem_filter.mpr ⟨List.mem_append_right _ (gMa w h).1, (gMa w h).2⟩
end
section
/-! THE TEXT OF SIGNS AND THE SCRIPT'S READER (written by wip/p41/strgen.py): contracts of four members of String and what they call, and of the law's at -/
theorem sG_in {ws : List Cond} (h : ∀ w ∈ ws, w ∈ gG) : GoodIn gG ws := fun w hw => ⟨h w hw, good_of_word (List.mem_filter.mp (h w hw)).2⟩
/-- a text of signs at sa, its bytes at va; the JDK's two static fields -/
def sF (sa va : Nat) (A : Nat → Prop) (U : State) (H : Heap) : Prop :=
  va_O "java/lang/String" sa A U H ∧ va_OF "java/lang/String" "coder" "B" (.int 0) sa A U H ∧ va_OF "java/lang/String" "value" "[B" (.ref va) sa A U H ∧ va_T .byte va 24 (fun j => .int (gSg.getD j 0)) A U H ∧
  va_Z "java/lang/String" "COMPACT_STRINGS" "Z" (.int 1) A U H ∧ va_Zq "jdk/internal/util/Preconditions" "SIOOBE_FORMATTER" "Ljava/util/function/BiFunction;" A U H
theorem sF.moved {sa va : Nat} {A : Nat → Prop} {u U : State} {H : Heap} (hvm : u.vm.Alike U.vm) (h : sF sa va A u H) : sF sa va A U H := ⟨va_O.moved hvm h.1, va_OF.moved hvm h.2.1, va_OF.moved hvm h.2.2.1, va_T.moved hvm h.2.2.2.1, va_Z.moved hvm h.2.2.2.2.1, va_Zq.moved hvm h.2.2.2.2.2⟩
theorem sF.kept {sa va : Nat} {A : Nat → Prop} {U : State} {H H1 : Heap} (h : sF sa va A U H) (hq : ∀ a : Nat, a < H.size → ¬ A a → H1[a]? = H[a]?) : sF sa va A U H1 := ⟨h.1.kept hq, h.2.1.kept hq, h.2.2.1.kept hq, h.2.2.2.1.kept hq, h.2.2.2.2.1.kept hq, h.2.2.2.2.2.kept hq⟩
theorem sF.narrow {sa va : Nat} {A B : Nat → Prop} {U : State} {H : Heap} (h : sF sa va A U H) (hAB : ∀ q, B q → A q) : sF sa va B U H := ⟨h.1.narrow hAB, h.2.1.narrow hAB, h.2.2.1.narrow hAB, h.2.2.2.1.narrow hAB, h.2.2.2.2.1.narrow hAB, h.2.2.2.2.2.narrow hAB⟩
def sB (sa va sz : Nat) (U : State) : Prop := U.heap.size = sz ∧ sF sa va (fun q => sz ≤ q) U U.heap
theorem sB_blind {sa va sz : Nat} {av : List Value} : FrameBlind (va_Pc av (sB sa va sz)) := by
  intro a U g mk h
  obtain ⟨h0, h1, h2⟩ := h
  exact ⟨h0, h1, sF.moved (u := U) (U := U.calling g mk a) (Vm.Alike.refl U.vm) h2⟩
/-- what a callee finds -/
theorem sB_at {sa va : Nat} {A : Nat → Prop} {s U : State} {H : Heap} {locs : List Loc} (hF : sF sa va A s s.heap) (hS : va_S A s.heap H locs) (hA : ∀ q : Nat, s.heap.size ≤ q → A q) (hU : U.heap = H) (hW : s.WarmedH U.vm) : sB sa va H.size U :=
  ⟨by rw [hU], by rw [hU]; exact (sF.moved hW.alike ((hF.kept hS.2.1).narrow (fun q hq => hA q (Nat.le_trans hS.1 hq))))⟩
theorem sg_byte : ∀ j, j < 24 → (((gSg.getD j 0) &&& 255).toUInt32 % 65536).toInt32 = gSg.getD j 0 ∧ narrow .char (.int (gSg.getD j 0)) = .int (gSg.getD j 0) := by decide +kernel
theorem sg_in {i : Int32} {n : Nat} (h : vp_in i n) : ¬ i < 0 ∧ i.toNatClampNeg < n := ⟨fun q => h (Or.inl q), Nat.not_le.mp fun q => h (Or.inr q)⟩
theorem sg_lt {i : Int32} {n : Nat} (hn : n < 2 ^ 31) (h : vp_in i n) : i < Int32.ofNat n := by
  obtain ⟨h1, h2⟩ := sg_in h
  have h3 : (0 : Int) ≤ i.toInt := by
    have := Int32.not_lt.mp h1
    simpa using Int32.le_iff_toInt_le.mp this
  rw [Int32.lt_iff_toInt_lt, Int32.toInt_ofNat_of_lt hn]
  have h4 : i.toInt = (i.toNatClampNeg : Int) := by show i.toInt = ((i.toInt.toNat : Nat) : Int); omega
  omega
theorem sd_coder_0 : decode prog_24_method_152_code 0 = .ok (.getstatic 38, 3) := by decide +kernel
theorem sd_coder_3 : decode prog_24_method_152_code 3 = .ok (.ifCond .eq 10, 3) := by decide +kernel
theorem sd_coder_6 : decode prog_24_method_152_code 6 = .ok (.aload_n 0, 1) := by decide +kernel
theorem sd_coder_7 : decode prog_24_method_152_code 7 = .ok (.getfield 15, 3) := by decide +kernel
theorem sd_coder_10 : decode prog_24_method_152_code 10 = .ok (.goto 4, 3) := by decide +kernel
theorem sd_coder_14 : decode prog_24_method_152_code 14 = .ok (.ireturn, 1) := by decide +kernel
set_option maxHeartbeats 4000000 in
set_option maxRecDepth 100000 in
theorem sc_coder (l : Launch) {sa va sz : Nat} : Met l ⟨"java/lang/String", "coder", "()B"⟩ (Cond.code ⟨"java/lang/String", "coder", "()B"⟩ prog_24_method_152_code 1 (some .byte) :: gG) ({ frames := 0, cells := 0, slots := 0, locals := 0 } : Room) (va_Pc [.ref sa] (sB sa va sz)) (va_Qi (fun (r : Int32) (_ : Unit) => r = 0) (fun _ _ => True) (fun q => sz ≤ q)) 0 0 (fun q => sz ≤ q) := by
  refine Met.ofW (cc := prog_24_method_152_code) (maxL := 1) (ret := some .byte) (by decide) rfl ?_
  intro p e s m args below meth c s₁ B hml hv
  obtain ⟨rfl, hsz, hF⟩ := hv
  have hx := B.exec
  have hb := B.bytes
  have hr := B.returns
  have hts0 := atoms_spec (ws := (Cond.code ⟨"java/lang/String", "coder", "()B"⟩ prog_24_method_152_code 1 (some .byte) :: gG)) B.pre
  have hts : ∀ w ∈ gG, w.before _ s = true := fun w h => hts0 w (List.mem_cons_of_mem _ h)
  have hown : s.vm.findClass "java/lang/String" = some m.cls := findClass_of_methodNamed B.named
  have hlocks := B.notSynchronized
  subst hsz
  have hA : ∀ q : Nat, s.heap.size ≤ q → s.heap.size ≤ q := fun q h => h
  have hS : va_S (fun q => s.heap.size ≤ q) s.heap s.heap [] := va_S.rf
  have hl := lv_entry ([.ref sa]) (n := 1) (Nat.le_of_ble_eq_true rfl)
  rw [lg_entry_eq]
  generalize (lg_sl ([.ref sa]) ++ List.replicate (1 - (lg_sl ([.ref sa])).length) Slot.unset).toArray = ls at hl ⊢
  have hl : lv_has ls 1 [(0, .ref sa)] := hl
  refine va_gets hx hb hF.2.2.2.2.1 hS hown (hts (.fieldLink "java/lang/String" 38 "java/lang/String" "COMPACT_STRINGS" "Z") (gG_W (pos := 1095) (by decide +kernel) rfl)) (fun _ h9 => h9) sd_coder_0 ?_
  refine lv_if_eq (tgt := 13) hx hb sd_coder_3 rfl (fun h => absurd h (by decide)) (fun _ => ?_)
  refine lv_aload_n hx hb sd_coder_6 rfl (lv_at hl 0 rfl) ?_
  refine vk_getf hx hb hF.2.1 hS hown (hts (.fieldLink "java/lang/String" 15 "java/lang/String" "coder" "B") (gG_W (pos := 1158) (by decide +kernel) rfl)) (fun _ h9 => h9) sd_coder_7 ?_
  refine lv_goto (tgt := 14) hx hb sd_coder_10 rfl ?_
  exact W.zret hx hb hr (by decide) (fun t ht hW => ⟨⟨_, (), rfl, rfl, trivial⟩, hS.F ht⟩) hS.2.2 sd_coder_14 hlocks
theorem sd_isl_0 : decode prog_24_method_154_code 0 = .ok (.getstatic 38, 3) := by decide +kernel
theorem sd_isl_3 : decode prog_24_method_154_code 3 = .ok (.ifCond .eq 14, 3) := by decide +kernel
theorem sd_isl_6 : decode prog_24_method_154_code 6 = .ok (.aload_n 0, 1) := by decide +kernel
theorem sd_isl_7 : decode prog_24_method_154_code 7 = .ok (.getfield 15, 3) := by decide +kernel
theorem sd_isl_10 : decode prog_24_method_154_code 10 = .ok (.ifCond .ne 7, 3) := by decide +kernel
theorem sd_isl_13 : decode prog_24_method_154_code 13 = .ok (.iconst 1, 1) := by decide +kernel
theorem sd_isl_14 : decode prog_24_method_154_code 14 = .ok (.goto 4, 3) := by decide +kernel
theorem sd_isl_18 : decode prog_24_method_154_code 18 = .ok (.ireturn, 1) := by decide +kernel
set_option maxHeartbeats 4000000 in
set_option maxRecDepth 100000 in
theorem sc_isl (l : Launch) {sa va sz : Nat} : Met l ⟨"java/lang/String", "isLatin1", "()Z"⟩ (Cond.code ⟨"java/lang/String", "isLatin1", "()Z"⟩ prog_24_method_154_code 1 (some .boolean) :: gG) ({ frames := 0, cells := 0, slots := 0, locals := 0 } : Room) (va_Pc [.ref sa] (sB sa va sz)) (va_Qi (fun (r : Int32) (_ : Unit) => r = 1) (fun _ _ => True) (fun q => sz ≤ q)) 0 0 (fun q => sz ≤ q) := by
  refine Met.ofW (cc := prog_24_method_154_code) (maxL := 1) (ret := some .boolean) (by decide) rfl ?_
  intro p e s m args below meth c s₁ B hml hv
  obtain ⟨rfl, hsz, hF⟩ := hv
  have hx := B.exec
  have hb := B.bytes
  have hr := B.returns
  have hts0 := atoms_spec (ws := (Cond.code ⟨"java/lang/String", "isLatin1", "()Z"⟩ prog_24_method_154_code 1 (some .boolean) :: gG)) B.pre
  have hts : ∀ w ∈ gG, w.before _ s = true := fun w h => hts0 w (List.mem_cons_of_mem _ h)
  have hown : s.vm.findClass "java/lang/String" = some m.cls := findClass_of_methodNamed B.named
  have hlocks := B.notSynchronized
  subst hsz
  have hA : ∀ q : Nat, s.heap.size ≤ q → s.heap.size ≤ q := fun q h => h
  have hS : va_S (fun q => s.heap.size ≤ q) s.heap s.heap [] := va_S.rf
  have hl := lv_entry ([.ref sa]) (n := 1) (Nat.le_of_ble_eq_true rfl)
  rw [lg_entry_eq]
  generalize (lg_sl ([.ref sa]) ++ List.replicate (1 - (lg_sl ([.ref sa])).length) Slot.unset).toArray = ls at hl ⊢
  have hl : lv_has ls 1 [(0, .ref sa)] := hl
  refine va_gets hx hb hF.2.2.2.2.1 hS hown (hts (.fieldLink "java/lang/String" 38 "java/lang/String" "COMPACT_STRINGS" "Z") (gG_W (pos := 1095) (by decide +kernel) rfl)) (fun _ h9 => h9) sd_isl_0 ?_
  refine lv_if_eq (tgt := 17) hx hb sd_isl_3 rfl (fun h => absurd h (by decide)) (fun _ => ?_)
  refine lv_aload_n hx hb sd_isl_6 rfl (lv_at hl 0 rfl) ?_
  refine vk_getf hx hb hF.2.1 hS hown (hts (.fieldLink "java/lang/String" 15 "java/lang/String" "coder" "B") (gG_W (pos := 1158) (by decide +kernel) rfl)) (fun _ h9 => h9) sd_isl_7 ?_
  refine lv_if_ne (tgt := 17) hx hb sd_isl_10 rfl (fun h => absurd rfl h) (fun _ => ?_)
  refine lv_iconst (v := 1) hx hb sd_isl_13 (by decide) ?_
  refine lv_goto (tgt := 18) hx hb sd_isl_14 rfl ?_
  exact W.zret hx hb hr (by decide) (fun t ht hW => ⟨⟨_, (), rfl, rfl, trivial⟩, hS.F ht⟩) hS.2.2 sd_isl_18 hlocks
theorem sd_length_0 : decode prog_24_method_54_code 0 = .ok (.aload_n 0, 1) := by decide +kernel
theorem sd_length_1 : decode prog_24_method_54_code 1 = .ok (.getfield 9, 3) := by decide +kernel
theorem sd_length_4 : decode prog_24_method_54_code 4 = .ok (.arraylength, 1) := by decide +kernel
theorem sd_length_5 : decode prog_24_method_54_code 5 = .ok (.aload_n 0, 1) := by decide +kernel
theorem sd_length_6 : decode prog_24_method_54_code 6 = .ok (.invokevirtual 335, 3) := by decide +kernel
theorem sd_length_9 : decode prog_24_method_54_code 9 = .ok (.ishr, 1) := by decide +kernel
theorem sd_length_10 : decode prog_24_method_54_code 10 = .ok (.ireturn, 1) := by decide +kernel
set_option maxHeartbeats 4000000 in
set_option maxRecDepth 100000 in
theorem sc_length (l : Launch) {sa va sz : Nat} : Met l ⟨"java/lang/String", "length", "()I"⟩ (Cond.code ⟨"java/lang/String", "length", "()I"⟩ prog_24_method_54_code 1 (some .int) :: gG) ({ frames := 1, cells := 0, slots := 0, locals := 20 } : Room) (va_Pc [.ref sa] (sB sa va sz)) (va_Qi (fun (r : Int32) (_ : Unit) => r = 24) (fun _ _ => True) (fun q => sz ≤ q)) 0 0 (fun q => sz ≤ q) := by
  refine Met.ofW (cc := prog_24_method_54_code) (maxL := 1) (ret := some .int) (by decide) rfl ?_
  intro p e s m args below meth c s₁ B hml hv
  obtain ⟨rfl, hsz, hF⟩ := hv
  have hx := B.exec
  have hb := B.bytes
  have hr := B.returns
  have hts0 := atoms_spec (ws := (Cond.code ⟨"java/lang/String", "length", "()I"⟩ prog_24_method_54_code 1 (some .int) :: gG)) B.pre
  have hts : ∀ w ∈ gG, w.before _ s = true := fun w h => hts0 w (List.mem_cons_of_mem _ h)
  have hown : s.vm.findClass "java/lang/String" = some m.cls := findClass_of_methodNamed B.named
  have hlocks := B.notSynchronized
  subst hsz
  have hA : ∀ q : Nat, s.heap.size ≤ q → s.heap.size ≤ q := fun q h => h
  have hS : va_S (fun q => s.heap.size ≤ q) s.heap s.heap [] := va_S.rf
  have hl := lv_entry ([.ref sa]) (n := 1) (Nat.le_of_ble_eq_true rfl)
  rw [lg_entry_eq]
  generalize (lg_sl ([.ref sa]) ++ List.replicate (1 - (lg_sl ([.ref sa])).length) Slot.unset).toArray = ls at hl ⊢
  have hl : lv_has ls 1 [(0, .ref sa)] := hl
  refine lv_aload_n hx hb sd_length_0 rfl (lv_at hl 0 rfl) ?_
  refine vk_getf hx hb hF.2.2.1 hS hown (hts (.fieldLink "java/lang/String" 9 "java/lang/String" "value" "[B") (gG_W (pos := 1159) (by decide +kernel) rfl)) (fun _ h9 => h9) sd_length_1 ?_
  refine va_tlen (v := 24) hx hb hF.2.2.2.1 hS (by decide) sd_length_4 ?_
  refine lv_aload_n hx hb sd_length_5 rfl (lv_at hl 0 rfl) ?_
  refine va_calli (va_runV (C := "java/lang/String") (As := []) (rest := [.int 24]) ⟨hx, hb, hml, hown, hts⟩ (sc_coder l (sa := sa) (va := va)) (cwV 0 hts (sG_in (by
      intro w hw
      unfold wsV at hw
      simp only [List.cons_append, List.nil_append, List.mem_cons] at hw
      rcases hw with rfl | rfl | rfl | rfl | rfl | hw
      · exact gG_W (pos := 1091) (by decide +kernel) rfl
      · exact gG_W (pos := 1092) (by decide +kernel) rfl
      · exact gG_W (pos := 1093) (by decide +kernel) rfl
      · exact gG_W (pos := 21) (by decide +kernel) rfl
      · exact gG_W (pos := 1094) (by decide +kernel) rfl
      · exact hw)) rfl rfl rfl (by decide +kernel) ⟨Nat.le_of_ble_eq_true rfl, Nat.le_of_ble_eq_true rfl⟩) ⟨sB_blind, (by obtain ⟨cell, g1, g2, g3, -⟩ := (hF.1.kept hS.2.1); exact ⟨cell, g1, g2, g3⟩), fun U hU hW => ⟨rfl, sB_at hF hS hA hU hW⟩⟩ rfl rfl hl.1 rfl (lv_room (Nat.le_of_ble_eq_true rfl)) sd_length_6 ⟨Nat.zero_le _, Nat.zero_le _⟩) hS (fun q h1 h2 => absurd h1 (Nat.not_lt.mpr h2)) (fun q h => hA q (Nat.le_trans hS.1 h)) (fun r1 u t H1 locs1 ht hvm hw hB hz1 hk1 hS1 => ?_)
  try subst hw
  replace hS := hS1
  generalize H1 = H at hS ⊢
  generalize locs1 = locs at hS ⊢
  refine lv_ishr hx hb sd_length_9 ?_
  exact W.zret hx hb hr rfl (fun t ht hW => ⟨⟨_, (), rfl, (by decide), trivial⟩, hS.F ht⟩) hS.2.2 sd_length_10 hlocks
theorem sd_chk_0 : decode prog_33_method_11_code 0 = .ok (.iload_n 0, 1) := by decide +kernel
theorem sd_chk_1 : decode prog_33_method_11_code 1 = .ok (.ifCond .lt 8, 3) := by decide +kernel
theorem sd_chk_4 : decode prog_33_method_11_code 4 = .ok (.iload_n 0, 1) := by decide +kernel
theorem sd_chk_5 : decode prog_33_method_11_code 5 = .ok (.iload_n 1, 1) := by decide +kernel
theorem sd_chk_6 : decode prog_33_method_11_code 6 = .ok (.if_icmp .lt 10, 3) := by decide +kernel
theorem sd_chk_16 : decode prog_33_method_11_code 16 = .ok (.iload_n 0, 1) := by decide +kernel
theorem sd_chk_17 : decode prog_33_method_11_code 17 = .ok (.ireturn, 1) := by decide +kernel
set_option maxHeartbeats 4000000 in
set_option maxRecDepth 100000 in
theorem sc_chkN (l : Launch) {sa va sz : Nat} {i n : Int32} (hi : ¬ i < 0) (hn : i < n) : Met l ⟨"jdk/internal/util/Preconditions", "checkIndex", "(IILjava/util/function/BiFunction;)I"⟩ (Cond.code ⟨"jdk/internal/util/Preconditions", "checkIndex", "(IILjava/util/function/BiFunction;)I"⟩ prog_33_method_11_code 3 (some .int) :: gG) ({ frames := 0, cells := 0, slots := 0, locals := 0 } : Room) (va_Pc [.int i, .int n, .null] (sB sa va sz)) (va_Qi (fun (r : Int32) (_ : Unit) => r = i) (fun _ _ => True) (fun q => sz ≤ q)) 0 0 (fun q => sz ≤ q) := by
  refine Met.ofW (cc := prog_33_method_11_code) (maxL := 3) (ret := some .int) (by decide) rfl ?_
  intro p e s m args below meth c s₁ B hml hv
  obtain ⟨rfl, hsz, hF⟩ := hv
  have hx := B.exec
  have hb := B.bytes
  have hr := B.returns
  have hts0 := atoms_spec (ws := (Cond.code ⟨"jdk/internal/util/Preconditions", "checkIndex", "(IILjava/util/function/BiFunction;)I"⟩ prog_33_method_11_code 3 (some .int) :: gG)) B.pre
  have hts : ∀ w ∈ gG, w.before _ s = true := fun w h => hts0 w (List.mem_cons_of_mem _ h)
  have hown : s.vm.findClass "jdk/internal/util/Preconditions" = some m.cls := findClass_of_methodNamed B.named
  have hlocks := B.notSynchronized
  subst hsz
  have hA : ∀ q : Nat, s.heap.size ≤ q → s.heap.size ≤ q := fun q h => h
  have hS : va_S (fun q => s.heap.size ≤ q) s.heap s.heap [] := va_S.rf
  have hl := lv_entry ([.int i, .int n, .null]) (n := 3) (Nat.le_of_ble_eq_true rfl)
  rw [lg_entry_eq]
  generalize (lg_sl ([.int i, .int n, .null]) ++ List.replicate (3 - (lg_sl ([.int i, .int n, .null])).length) Slot.unset).toArray = ls at hl ⊢
  have hl : lv_has ls 3 [(0, .int i), (1, .int n), (2, .null)] := hl
  refine lv_iload_n hx hb sd_chk_0 rfl (lv_at hl 0 rfl) ?_
  refine lv_if_lt (tgt := 9) hx hb sd_chk_1 rfl (fun h => absurd h hi) (fun _ => ?_)
  refine lv_iload_n hx hb sd_chk_4 rfl (lv_at hl 0 rfl) ?_
  refine lv_iload_n hx hb sd_chk_5 rfl (lv_at hl 1 rfl) ?_
  refine lv_icmp_lt (tgt := 16) hx hb sd_chk_6 rfl (fun _ => ?_) (fun h => absurd hn h)
  refine lv_iload_n hx hb sd_chk_16 rfl (lv_at hl 0 rfl) ?_
  exact W.zret hx hb hr rfl (fun t ht hW => ⟨⟨_, (), rfl, rfl, trivial⟩, hS.F ht⟩) hS.2.2 sd_chk_17 hlocks
set_option maxHeartbeats 4000000 in
set_option maxRecDepth 100000 in
theorem sc_chkR (l : Launch) {sa va sz : Nat} {i n : Int32} {t9 : Nat} (hi : ¬ i < 0) (hn : i < n) : Met l ⟨"jdk/internal/util/Preconditions", "checkIndex", "(IILjava/util/function/BiFunction;)I"⟩ (Cond.code ⟨"jdk/internal/util/Preconditions", "checkIndex", "(IILjava/util/function/BiFunction;)I"⟩ prog_33_method_11_code 3 (some .int) :: gG) ({ frames := 0, cells := 0, slots := 0, locals := 0 } : Room) (va_Pc [.int i, .int n, (.ref t9)] (sB sa va sz)) (va_Qi (fun (r : Int32) (_ : Unit) => r = i) (fun _ _ => True) (fun q => sz ≤ q)) 0 0 (fun q => sz ≤ q) := by
  refine Met.ofW (cc := prog_33_method_11_code) (maxL := 3) (ret := some .int) (by decide) rfl ?_
  intro p e s m args below meth c s₁ B hml hv
  obtain ⟨rfl, hsz, hF⟩ := hv
  have hx := B.exec
  have hb := B.bytes
  have hr := B.returns
  have hts0 := atoms_spec (ws := (Cond.code ⟨"jdk/internal/util/Preconditions", "checkIndex", "(IILjava/util/function/BiFunction;)I"⟩ prog_33_method_11_code 3 (some .int) :: gG)) B.pre
  have hts : ∀ w ∈ gG, w.before _ s = true := fun w h => hts0 w (List.mem_cons_of_mem _ h)
  have hown : s.vm.findClass "jdk/internal/util/Preconditions" = some m.cls := findClass_of_methodNamed B.named
  have hlocks := B.notSynchronized
  subst hsz
  have hA : ∀ q : Nat, s.heap.size ≤ q → s.heap.size ≤ q := fun q h => h
  have hS : va_S (fun q => s.heap.size ≤ q) s.heap s.heap [] := va_S.rf
  have hl := lv_entry ([.int i, .int n, (.ref t9)]) (n := 3) (Nat.le_of_ble_eq_true rfl)
  rw [lg_entry_eq]
  generalize (lg_sl ([.int i, .int n, (.ref t9)]) ++ List.replicate (3 - (lg_sl ([.int i, .int n, (.ref t9)])).length) Slot.unset).toArray = ls at hl ⊢
  have hl : lv_has ls 3 [(0, .int i), (1, .int n), (2, (.ref t9))] := hl
  refine lv_iload_n hx hb sd_chk_0 rfl (lv_at hl 0 rfl) ?_
  refine lv_if_lt (tgt := 9) hx hb sd_chk_1 rfl (fun h => absurd h hi) (fun _ => ?_)
  refine lv_iload_n hx hb sd_chk_4 rfl (lv_at hl 0 rfl) ?_
  refine lv_iload_n hx hb sd_chk_5 rfl (lv_at hl 1 rfl) ?_
  refine lv_icmp_lt (tgt := 16) hx hb sd_chk_6 rfl (fun _ => ?_) (fun h => absurd hn h)
  refine lv_iload_n hx hb sd_chk_16 rfl (lv_at hl 0 rfl) ?_
  exact W.zret hx hb hr rfl (fun t ht hW => ⟨⟨_, (), rfl, rfl, trivial⟩, hS.F ht⟩) hS.2.2 sd_chk_17 hlocks
theorem sd_chs_0 : decode prog_24_method_155_code 0 = .ok (.iload_n 0, 1) := by decide +kernel
theorem sd_chs_1 : decode prog_24_method_155_code 1 = .ok (.iload_n 1, 1) := by decide +kernel
theorem sd_chs_2 : decode prog_24_method_155_code 2 = .ok (.getstatic 1053, 3) := by decide +kernel
theorem sd_chs_5 : decode prog_24_method_155_code 5 = .ok (.invokestatic 1059, 3) := by decide +kernel
theorem sd_chs_8 : decode prog_24_method_155_code 8 = .ok (.pop, 1) := by decide +kernel
theorem sd_chs_9 : decode prog_24_method_155_code 9 = .ok (.return_, 1) := by decide +kernel
set_option maxHeartbeats 4000000 in
set_option maxRecDepth 100000 in
theorem sc_chs (l : Launch) {sa va sz : Nat} {i n : Int32} (hi : ¬ i < 0) (hn : i < n) : Met l ⟨"java/lang/String", "checkIndex", "(II)V"⟩ (Cond.code ⟨"java/lang/String", "checkIndex", "(II)V"⟩ prog_24_method_155_code 2 (none) :: gG) ({ frames := 1, cells := 0, slots := 0, locals := 22 } : Room) (va_Pc [.int i, .int n] (sB sa va sz)) (va_Qv (fun _ : Unit => True) (fun _ _ => True) (fun q => sz ≤ q)) 0 0 (fun q => sz ≤ q) := by
  refine Met.ofW (cc := prog_24_method_155_code) (maxL := 2) (ret := none) (by decide) rfl ?_
  intro p e s m args below meth c s₁ B hml hv
  obtain ⟨rfl, hsz, hF⟩ := hv
  have hx := B.exec
  have hb := B.bytes
  have hr := B.returns
  have hts0 := atoms_spec (ws := (Cond.code ⟨"java/lang/String", "checkIndex", "(II)V"⟩ prog_24_method_155_code 2 (none) :: gG)) B.pre
  have hts : ∀ w ∈ gG, w.before _ s = true := fun w h => hts0 w (List.mem_cons_of_mem _ h)
  have hown : s.vm.findClass "java/lang/String" = some m.cls := findClass_of_methodNamed B.named
  have hlocks := B.notSynchronized
  subst hsz
  have hA : ∀ q : Nat, s.heap.size ≤ q → s.heap.size ≤ q := fun q h => h
  have hS : va_S (fun q => s.heap.size ≤ q) s.heap s.heap [] := va_S.rf
  have hl := lv_entry ([.int i, .int n]) (n := 2) (Nat.le_of_ble_eq_true rfl)
  rw [lg_entry_eq]
  generalize (lg_sl ([.int i, .int n]) ++ List.replicate (2 - (lg_sl ([.int i, .int n])).length) Slot.unset).toArray = ls at hl ⊢
  have hl : lv_has ls 2 [(0, .int i), (1, .int n)] := hl
  refine lv_iload_n hx hb sd_chs_0 rfl (lv_at hl 0 rfl) ?_
  refine lv_iload_n hx hb sd_chs_1 rfl (lv_at hl 1 rfl) ?_
  rcases hF.2.2.2.2.2 with hZ9 | ⟨t9, hZ9⟩
  · refine va_gets hx hb hZ9 hS hown (hts (.fieldLink "java/lang/String" 1053 "jdk/internal/util/Preconditions" "SIOOBE_FORMATTER" "Ljava/util/function/BiFunction;") (gG_W (pos := 1111) (by decide +kernel) rfl)) (fun _ h9 => h9) sd_chs_2 ?_
    refine va_calli (va_runS (As := [.int i, .int n, .null]) (rest := []) ⟨hx, hb, hml, hown, hts⟩ (sc_chkN l (sa := sa) (va := va) hi hn) (va_cwS 3 hts (sG_in (by
      intro w hw
      unfold va_wsS at hw
      simp only [List.cons_append, List.nil_append, List.mem_cons] at hw
      rcases hw with rfl | rfl | rfl | rfl | hw
      · exact gG_W (pos := 1113) (by decide +kernel) rfl
      · exact gG_W (pos := 1114) (by decide +kernel) rfl
      · exact gG_W (pos := 24) (by decide +kernel) rfl
      · exact gG_W (pos := 1115) (by decide +kernel) rfl
      · exact hw)) rfl rfl rfl (by decide +kernel) ⟨Nat.le_of_ble_eq_true rfl, Nat.le_of_ble_eq_true rfl⟩) ⟨sB_blind, fun U hU hW => ⟨rfl, sB_at hF hS hA hU hW⟩⟩ rfl rfl hl.1 rfl (lv_room (Nat.le_of_ble_eq_true rfl)) sd_chs_5 ⟨Nat.zero_le _, Nat.zero_le _⟩) hS (fun q h1 h2 => absurd h1 (Nat.not_lt.mpr h2)) (fun q h => hA q (Nat.le_trans hS.1 h)) (fun r1 u t H1 locs1 ht hvm hw hB hz1 hk1 hS1 => ?_)
    try subst hw
    replace hS := hS1
    generalize H1 = H at hS ⊢
    generalize locs1 = locs at hS ⊢
    refine lv_pop hx hb sd_chs_8 rfl ?_
    exact W.vret hx hb hr (fun t ht hW => ⟨⟨(), rfl, trivial, trivial⟩, hS.F ht⟩) hS.2.2 sd_chs_9 hlocks
  · refine va_gets hx hb hZ9 hS hown (hts (.fieldLink "java/lang/String" 1053 "jdk/internal/util/Preconditions" "SIOOBE_FORMATTER" "Ljava/util/function/BiFunction;") (gG_W (pos := 1111) (by decide +kernel) rfl)) (fun _ h9 => h9) sd_chs_2 ?_
    refine va_calli (va_runS (As := [.int i, .int n, .ref t9]) (rest := []) ⟨hx, hb, hml, hown, hts⟩ (sc_chkR l (sa := sa) (va := va) hi hn) (va_cwS 3 hts (sG_in (by
      intro w hw
      unfold va_wsS at hw
      simp only [List.cons_append, List.nil_append, List.mem_cons] at hw
      rcases hw with rfl | rfl | rfl | rfl | hw
      · exact gG_W (pos := 1113) (by decide +kernel) rfl
      · exact gG_W (pos := 1114) (by decide +kernel) rfl
      · exact gG_W (pos := 24) (by decide +kernel) rfl
      · exact gG_W (pos := 1115) (by decide +kernel) rfl
      · exact hw)) rfl rfl rfl (by decide +kernel) ⟨Nat.le_of_ble_eq_true rfl, Nat.le_of_ble_eq_true rfl⟩) ⟨sB_blind, fun U hU hW => ⟨rfl, sB_at hF hS hA hU hW⟩⟩ rfl rfl hl.1 rfl (lv_room (Nat.le_of_ble_eq_true rfl)) sd_chs_5 ⟨Nat.zero_le _, Nat.zero_le _⟩) hS (fun q h1 h2 => absurd h1 (Nat.not_lt.mpr h2)) (fun q h => hA q (Nat.le_trans hS.1 h)) (fun r1 u t H1 locs1 ht hvm hw hB hz1 hk1 hS1 => ?_)
    try subst hw
    replace hS := hS1
    generalize H1 = H at hS ⊢
    generalize locs1 = locs at hS ⊢
    refine lv_pop hx hb sd_chs_8 rfl ?_
    exact W.vret hx hb hr (fun t ht hW => ⟨⟨(), rfl, trivial, trivial⟩, hS.F ht⟩) hS.2.2 sd_chs_9 hlocks
theorem sd_lch_0 : decode prog_25_method_2_code 0 = .ok (.iload_n 1, 1) := by decide +kernel
theorem sd_lch_1 : decode prog_25_method_2_code 1 = .ok (.aload_n 0, 1) := by decide +kernel
theorem sd_lch_2 : decode prog_25_method_2_code 2 = .ok (.arraylength, 1) := by decide +kernel
theorem sd_lch_3 : decode prog_25_method_2_code 3 = .ok (.invokestatic 9, 3) := by decide +kernel
theorem sd_lch_6 : decode prog_25_method_2_code 6 = .ok (.aload_n 0, 1) := by decide +kernel
theorem sd_lch_7 : decode prog_25_method_2_code 7 = .ok (.iload_n 1, 1) := by decide +kernel
theorem sd_lch_8 : decode prog_25_method_2_code 8 = .ok (.baload, 1) := by decide +kernel
theorem sd_lch_9 : decode prog_25_method_2_code 9 = .ok (.sipush 255, 3) := by decide +kernel
theorem sd_lch_12 : decode prog_25_method_2_code 12 = .ok (.iand, 1) := by decide +kernel
theorem sd_lch_13 : decode prog_25_method_2_code 13 = .ok (.i2c, 1) := by decide +kernel
theorem sd_lch_14 : decode prog_25_method_2_code 14 = .ok (.ireturn, 1) := by decide +kernel
set_option maxHeartbeats 4000000 in
set_option maxRecDepth 100000 in
theorem sc_lch (l : Launch) {sa va sz : Nat} {i : Int32} (hi : vp_in i 24) : Met l ⟨"java/lang/StringLatin1", "charAt", "([BI)C"⟩ (Cond.code ⟨"java/lang/StringLatin1", "charAt", "([BI)C"⟩ prog_25_method_2_code 2 (some .char) :: gG) ({ frames := 2, cells := 0, slots := 0, locals := 43 } : Room) (va_Pc [.ref va, .int i] (sB sa va sz)) (va_Qi (fun (r : Int32) (_ : Unit) => r = gSg.getD i.toNatClampNeg 0) (fun _ _ => True) (fun q => sz ≤ q)) 0 0 (fun q => sz ≤ q) := by
  refine Met.ofW (cc := prog_25_method_2_code) (maxL := 2) (ret := some .char) (by decide) rfl ?_
  intro p e s m args below meth c s₁ B hml hv
  obtain ⟨rfl, hsz, hF⟩ := hv
  have hx := B.exec
  have hb := B.bytes
  have hr := B.returns
  have hts0 := atoms_spec (ws := (Cond.code ⟨"java/lang/StringLatin1", "charAt", "([BI)C"⟩ prog_25_method_2_code 2 (some .char) :: gG)) B.pre
  have hts : ∀ w ∈ gG, w.before _ s = true := fun w h => hts0 w (List.mem_cons_of_mem _ h)
  have hown : s.vm.findClass "java/lang/StringLatin1" = some m.cls := findClass_of_methodNamed B.named
  have hlocks := B.notSynchronized
  subst hsz
  have hA : ∀ q : Nat, s.heap.size ≤ q → s.heap.size ≤ q := fun q h => h
  have hS : va_S (fun q => s.heap.size ≤ q) s.heap s.heap [] := va_S.rf
  have hl := lv_entry ([.ref va, .int i]) (n := 2) (Nat.le_of_ble_eq_true rfl)
  rw [lg_entry_eq]
  generalize (lg_sl ([.ref va, .int i]) ++ List.replicate (2 - (lg_sl ([.ref va, .int i])).length) Slot.unset).toArray = ls at hl ⊢
  have hl : lv_has ls 2 [(0, .ref va), (1, .int i)] := hl
  obtain ⟨hi1, hi2⟩ := sg_in hi
  refine lv_iload_n hx hb sd_lch_0 rfl (lv_at hl 1 rfl) ?_
  refine lv_aload_n hx hb sd_lch_1 rfl (lv_at hl 0 rfl) ?_
  refine va_tlen (v := 24) hx hb hF.2.2.2.1 hS (by decide) sd_lch_2 ?_
  refine va_callv (va_runS (As := [.int i, .int 24]) (rest := []) ⟨hx, hb, hml, hown, hts⟩ (sc_chs l (sa := sa) (va := va) hi1 (sg_lt (by decide) hi)) (va_cwS 2 hts (sG_in (by
      intro w hw
      unfold va_wsS at hw
      simp only [List.cons_append, List.nil_append, List.mem_cons] at hw
      rcases hw with rfl | rfl | rfl | rfl | hw
      · exact gG_W (pos := 1108) (by decide +kernel) rfl
      · exact gG_W (pos := 1109) (by decide +kernel) rfl
      · exact gG_W (pos := 21) (by decide +kernel) rfl
      · exact gG_W (pos := 1110) (by decide +kernel) rfl
      · exact hw)) rfl rfl rfl (by decide +kernel) ⟨Nat.le_of_ble_eq_true rfl, Nat.le_of_ble_eq_true rfl⟩) ⟨sB_blind, fun U hU hW => ⟨rfl, sB_at hF hS hA hU hW⟩⟩ rfl rfl hl.1 rfl (lv_room (Nat.le_of_ble_eq_true rfl)) sd_lch_3 ⟨Nat.zero_le _, Nat.zero_le _⟩) hS (fun q h1 h2 => absurd h1 (Nat.not_lt.mpr h2)) (fun q h => hA q (Nat.le_trans hS.1 h)) (fun u t H1 locs1 ht hvm hw hB hz1 hk1 hS1 => ?_)
  try subst hw
  replace hS := hS1
  generalize H1 = H at hS ⊢
  generalize locs1 = locs at hS ⊢
  refine lv_aload_n hx hb sd_lch_6 rfl (lv_at hl 0 rfl) ?_
  refine lv_iload_n hx hb sd_lch_7 rfl (lv_at hl 1 rfl) ?_
  refine va_tb hx hb hF.2.2.2.1 hS hi rfl sd_lch_8 ?_
  refine lv_sipush (v := 255) hx hb sd_lch_9 (by decide) ?_
  refine lv_iand hx hb sd_lch_12 ?_
  refine lv_i2c hx hb sd_lch_13 (sg_byte _ hi2).1 ?_
  exact W.zret hx hb hr (sg_byte _ hi2).2 (fun t ht hW => ⟨⟨_, (), rfl, rfl, trivial⟩, hS.F ht⟩) hS.2.2 sd_lch_14 hlocks
theorem sd_cha_0 : decode prog_24_method_56_code 0 = .ok (.aload_n 0, 1) := by decide +kernel
theorem sd_cha_1 : decode prog_24_method_56_code 1 = .ok (.invokevirtual 492, 3) := by decide +kernel
theorem sd_cha_4 : decode prog_24_method_56_code 4 = .ok (.ifCond .eq 12, 3) := by decide +kernel
theorem sd_cha_7 : decode prog_24_method_56_code 7 = .ok (.aload_n 0, 1) := by decide +kernel
theorem sd_cha_8 : decode prog_24_method_56_code 8 = .ok (.getfield 9, 3) := by decide +kernel
theorem sd_cha_11 : decode prog_24_method_56_code 11 = .ok (.iload_n 1, 1) := by decide +kernel
theorem sd_cha_12 : decode prog_24_method_56_code 12 = .ok (.invokestatic 495, 3) := by decide +kernel
theorem sd_cha_15 : decode prog_24_method_56_code 15 = .ok (.ireturn, 1) := by decide +kernel
set_option maxHeartbeats 4000000 in
set_option maxRecDepth 100000 in
theorem sc_cha (l : Launch) {sa va sz : Nat} {i : Int32} (hi : vp_in i 24) : Met l ⟨"java/lang/String", "charAt", "(I)C"⟩ (Cond.code ⟨"java/lang/String", "charAt", "(I)C"⟩ prog_24_method_56_code 2 (some .char) :: gG) ({ frames := 3, cells := 0, slots := 0, locals := 64 } : Room) (va_Pc [.ref sa, .int i] (sB sa va sz)) (va_Qi (fun (r : Int32) (_ : Unit) => r = gSg.getD i.toNatClampNeg 0) (fun _ _ => True) (fun q => sz ≤ q)) 0 0 (fun q => sz ≤ q) := by
  refine Met.ofW (cc := prog_24_method_56_code) (maxL := 2) (ret := some .char) (by decide) rfl ?_
  intro p e s m args below meth c s₁ B hml hv
  obtain ⟨rfl, hsz, hF⟩ := hv
  have hx := B.exec
  have hb := B.bytes
  have hr := B.returns
  have hts0 := atoms_spec (ws := (Cond.code ⟨"java/lang/String", "charAt", "(I)C"⟩ prog_24_method_56_code 2 (some .char) :: gG)) B.pre
  have hts : ∀ w ∈ gG, w.before _ s = true := fun w h => hts0 w (List.mem_cons_of_mem _ h)
  have hown : s.vm.findClass "java/lang/String" = some m.cls := findClass_of_methodNamed B.named
  have hlocks := B.notSynchronized
  subst hsz
  have hA : ∀ q : Nat, s.heap.size ≤ q → s.heap.size ≤ q := fun q h => h
  have hS : va_S (fun q => s.heap.size ≤ q) s.heap s.heap [] := va_S.rf
  have hl := lv_entry ([.ref sa, .int i]) (n := 2) (Nat.le_of_ble_eq_true rfl)
  rw [lg_entry_eq]
  generalize (lg_sl ([.ref sa, .int i]) ++ List.replicate (2 - (lg_sl ([.ref sa, .int i])).length) Slot.unset).toArray = ls at hl ⊢
  have hl : lv_has ls 2 [(0, .ref sa), (1, .int i)] := hl
  refine lv_aload_n hx hb sd_cha_0 rfl (lv_at hl 0 rfl) ?_
  refine va_calli (va_runV (C := "java/lang/String") (As := []) (rest := []) ⟨hx, hb, hml, hown, hts⟩ (sc_isl l (sa := sa) (va := va)) (cwV 0 hts (sG_in (by
      intro w hw
      unfold wsV at hw
      simp only [List.cons_append, List.nil_append, List.mem_cons] at hw
      rcases hw with rfl | rfl | rfl | rfl | rfl | hw
      · exact gG_W (pos := 1101) (by decide +kernel) rfl
      · exact gG_W (pos := 1102) (by decide +kernel) rfl
      · exact gG_W (pos := 1103) (by decide +kernel) rfl
      · exact gG_W (pos := 21) (by decide +kernel) rfl
      · exact gG_W (pos := 1104) (by decide +kernel) rfl
      · exact hw)) rfl rfl rfl (by decide +kernel) ⟨Nat.le_of_ble_eq_true rfl, Nat.le_of_ble_eq_true rfl⟩) ⟨sB_blind, (by obtain ⟨cell, g1, g2, g3, -⟩ := (hF.1.kept hS.2.1); exact ⟨cell, g1, g2, g3⟩), fun U hU hW => ⟨rfl, sB_at hF hS hA hU hW⟩⟩ rfl rfl hl.1 rfl (lv_room (Nat.le_of_ble_eq_true rfl)) sd_cha_1 ⟨Nat.zero_le _, Nat.zero_le _⟩) hS (fun q h1 h2 => absurd h1 (Nat.not_lt.mpr h2)) (fun q h => hA q (Nat.le_trans hS.1 h)) (fun r1 u t H1 locs1 ht hvm hw hB hz1 hk1 hS1 => ?_)
  try subst hw
  replace hS := hS1
  generalize H1 = H at hS ⊢
  generalize locs1 = locs at hS ⊢
  refine lv_if_eq (tgt := 16) hx hb sd_cha_4 rfl (fun h => absurd h (by decide)) (fun _ => ?_)
  refine lv_aload_n hx hb sd_cha_7 rfl (lv_at hl 0 rfl) ?_
  refine vk_getf hx hb hF.2.2.1 hS hown (hts (.fieldLink "java/lang/String" 9 "java/lang/String" "value" "[B") (gG_W (pos := 1159) (by decide +kernel) rfl)) (fun _ h9 => h9) sd_cha_8 ?_
  refine lv_iload_n hx hb sd_cha_11 rfl (lv_at hl 1 rfl) ?_
  refine va_calli (va_runS (As := [.ref va, .int i]) (rest := []) ⟨hx, hb, hml, hown, hts⟩ (sc_lch l (sa := sa) (va := va) hi) (va_cwS 2 hts (sG_in (by
      intro w hw
      unfold va_wsS at hw
      simp only [List.cons_append, List.nil_append, List.mem_cons] at hw
      rcases hw with rfl | rfl | rfl | rfl | hw
      · exact gG_W (pos := 1105) (by decide +kernel) rfl
      · exact gG_W (pos := 1106) (by decide +kernel) rfl
      · exact gG_W (pos := 23) (by decide +kernel) rfl
      · exact gG_W (pos := 1107) (by decide +kernel) rfl
      · exact hw)) rfl rfl rfl (by decide +kernel) ⟨Nat.le_of_ble_eq_true rfl, Nat.le_of_ble_eq_true rfl⟩) ⟨sB_blind, fun U hU hW => ⟨rfl, sB_at hF hS hA hU hW⟩⟩ rfl rfl hl.1 rfl (lv_room (Nat.le_of_ble_eq_true rfl)) sd_cha_12 ⟨Nat.zero_le _, Nat.zero_le _⟩) hS (fun q h1 h2 => absurd h1 (Nat.not_lt.mpr h2)) (fun q h => hA q (Nat.le_trans hS.1 h)) (fun r1 u t H1 locs1 ht hvm hw hB hz1 hk1 hS1 => ?_)
  try subst hw
  replace hS := hS1
  generalize H1 = H at hS ⊢
  generalize locs1 = locs at hS ⊢
  exact W.zret hx hb hr (sg_byte _ (sg_in hi).2).2 (fun t ht hW => ⟨⟨_, (), rfl, rfl, trivial⟩, hS.F ht⟩) hS.2.2 sd_cha_15 hlocks
def sX (b L : Nat) (xs : Nat → Int32) (sz : Nat) (U : State) : Prop := U.heap.size = sz ∧ va_X b L xs U U.heap ∧ b < U.heap.size
theorem sX_blind {b L sz : Nat} {xs : Nat → Int32} {av : List Value} : FrameBlind (va_Pc av (sX b L xs sz)) := by
  intro a U g mk h
  obtain ⟨h0, h1, h2, h3⟩ := h
  exact ⟨h0, h1, va_X.moved (u := U) (U := U.calling g mk a) (Vm.Alike.refl U.vm) h2, h3⟩
theorem sX_in {i : Int32} {L : Nat} (hL : L < 2 ^ 31) (h0 : ¬ i < 0) (h : i < Int32.ofNat L) : vp_in i L := by
  have h3 : (0 : Int) ≤ i.toInt := by
    have := Int32.not_lt.mp h0
    simpa using Int32.le_iff_toInt_le.mp this
  rw [Int32.lt_iff_toInt_lt, Int32.toInt_ofNat_of_lt hL] at h
  have h4 : i.toInt = (i.toNatClampNeg : Int) := by show i.toInt = ((i.toInt.toNat : Nat) : Int); omega
  rintro (q | q)
  · exact h0 q
  · omega
theorem sd_at_0 : decode method_2_code 0 = .ok (.iload_n 1, 1) := by decide +kernel
theorem sd_at_1 : decode method_2_code 1 = .ok (.aload_n 0, 1) := by decide +kernel
theorem sd_at_2 : decode method_2_code 2 = .ok (.arraylength, 1) := by decide +kernel
theorem sd_at_3 : decode method_2_code 3 = .ok (.if_icmp .ge 9, 3) := by decide +kernel
theorem sd_at_6 : decode method_2_code 6 = .ok (.aload_n 0, 1) := by decide +kernel
theorem sd_at_7 : decode method_2_code 7 = .ok (.iload_n 1, 1) := by decide +kernel
theorem sd_at_8 : decode method_2_code 8 = .ok (.iaload, 1) := by decide +kernel
theorem sd_at_9 : decode method_2_code 9 = .ok (.goto 4, 3) := by decide +kernel
theorem sd_at_12 : decode method_2_code 12 = .ok (.iconst 0, 1) := by decide +kernel
theorem sd_at_13 : decode method_2_code 13 = .ok (.ireturn, 1) := by decide +kernel
set_option maxHeartbeats 4000000 in
set_option maxRecDepth 100000 in
theorem sc_at (l : Launch) {b L sz : Nat} {xs : Nat → Int32} {i : Int32} (hL : L < 2 ^ 31) (hi : ¬ i < 0) : Met l ⟨"GlyphmillLaw", "at", "([II)I"⟩ (Cond.code ⟨"GlyphmillLaw", "at", "([II)I"⟩ method_2_code 2 (some .int) :: gG) ({ frames := 0, cells := 0, slots := 0, locals := 0 } : Room) (va_Pc [.ref b, .int i] (sX b L xs sz)) (va_Qi (fun (r : Int32) (_ : Unit) => r = (if i < Int32.ofNat L then xs i.toNatClampNeg else 0)) (fun _ _ => True) (fun q => sz ≤ q)) 0 0 (fun q => sz ≤ q) := by
  refine Met.ofW (cc := method_2_code) (maxL := 2) (ret := some .int) (by decide) rfl ?_
  intro p e s m args below meth c s₁ B hml hv
  obtain ⟨rfl, hsz, hF⟩ := hv
  have hx := B.exec
  have hb := B.bytes
  have hr := B.returns
  have hts0 := atoms_spec (ws := (Cond.code ⟨"GlyphmillLaw", "at", "([II)I"⟩ method_2_code 2 (some .int) :: gG)) B.pre
  have hts : ∀ w ∈ gG, w.before _ s = true := fun w h => hts0 w (List.mem_cons_of_mem _ h)
  have hown : s.vm.findClass "GlyphmillLaw" = some m.cls := findClass_of_methodNamed B.named
  have hlocks := B.notSynchronized
  subst hsz
  have hA : ∀ q : Nat, s.heap.size ≤ q → s.heap.size ≤ q := fun q h => h
  have hS : va_S (fun q => s.heap.size ≤ q) s.heap s.heap [] := va_S.rf
  have hl := lv_entry ([.ref b, .int i]) (n := 2) (Nat.le_of_ble_eq_true rfl)
  rw [lg_entry_eq]
  generalize (lg_sl ([.ref b, .int i]) ++ List.replicate (2 - (lg_sl ([.ref b, .int i])).length) Slot.unset).toArray = ls at hl ⊢
  have hl : lv_has ls 2 [(0, .ref b), (1, .int i)] := hl
  obtain ⟨hX, hbl⟩ := hF
  refine lv_iload_n hx hb sd_at_0 rfl (lv_at hl 1 rfl) ?_
  refine lv_aload_n hx hb sd_at_1 rfl (lv_at hl 0 rfl) ?_
  refine va_slen hx hb hX hbl (Nat.not_le.mpr hbl) hS sd_at_2 ?_
  refine lv_icmp_ge (tgt := 12) hx hb sd_at_3 rfl (fun h => ?_) (fun h => ?_)
  · refine lv_iconst (v := 0) hx hb sd_at_12 (by decide) ?_
    exact W.zret hx hb hr rfl (fun t ht hW => ⟨⟨_, (), rfl, (if_neg (fun q => absurd q (Int32.not_lt.mpr h))).symm, trivial⟩, hS.F ht⟩) hS.2.2 sd_at_13 hlocks
  · have hlt : i < Int32.ofNat L := Int32.not_le.mp h
    refine lv_aload_n hx hb sd_at_6 rfl (lv_at hl 0 rfl) ?_
    refine lv_iload_n hx hb sd_at_7 rfl (lv_at hl 1 rfl) ?_
    refine va_sld hx hb hX hbl (Nat.not_le.mpr hbl) hS (sX_in hL hi hlt) sd_at_8 ?_
    refine lv_goto (tgt := 13) hx hb sd_at_9 rfl ?_
    exact W.zret hx hb hr rfl (fun t ht hW => ⟨⟨_, (), rfl, (if_pos hlt).symm, trivial⟩, hS.F ht⟩) hS.2.2 sd_at_13 hlocks
section SPRIM
variable {p : Program} {l : Launch} {e : Env} {R : Room} {s : State} {m : MethodId} {args : Array Value} {below : List Frame} {meth : Method} {c : Code} {H : Heap} {locs : List Loc} {cells slots : Nat} {Q : State → Prop}
variable {cc : ByteArray} {pc : Nat} {ls : Array Slot} {rest : List Value} {A : Nat → Prop} {sa va : Nat} {own : String} {nL : Nat}
theorem sp_length (hx : p.tables.exec = Jvm.exec) (hb : c.code = cc) (hml : c.maxLocals = nL) (hown : s.vm.findClass "GlyphmillLaw" = some m.cls) (hts : ∀ w ∈ gG, w.before args s = true) (hls : ls.size = nL) (hF : sF sa va A s s.heap) (hS : va_S A s.heap H locs) (hA : ∀ q, s.heap.size ≤ q → A q) (hR : 10 ≤ R.frames ∧ 200 ≤ R.locals) (hC : cells ≤ R.cells ∧ slots ≤ R.slots) (hsum : (rest.map fun v => v.category).sum ≤ 8) {idx pos : Nat} (hw : gW pos = some (.methodLink "GlyphmillLaw" idx ⟨"java/lang/String", "length", "()I"⟩)) (hdg : decode cc pc = .ok (.invokevirtual idx, 3))
    (kk : ∀ (H1 : Heap) (locs1 : List Loc), H.size ≤ H1.size → (∀ q : Nat, q < H.size → H1[q]? = H[q]?) → va_S A s.heap H1 locs1 → W p l e R s m args below meth c H1 locs1 cells slots Q (F0 m (pc + 3) ls (.int 24 :: rest))) : W p l e R s m args below meth c H locs cells slots Q (F0 m pc ls (.ref sa :: rest)) := by
  refine va_calli (va_runV (cc := cc) (nL := nL) (C := "java/lang/String") (As := []) (rest := rest) ⟨hx, hb, hml, hown, hts⟩ (sc_length l (sa := sa) (va := va)) (cwV 0 hts (sG_in (by
      intro w h9
      unfold wsV at h9
      simp only [List.cons_append, List.nil_append, List.mem_cons] at h9
      rcases h9 with rfl | rfl | rfl | rfl | rfl | h9
      · exact gG_W hw rfl
      · exact gG_W (pos := 1088) (by decide +kernel) rfl
      · exact gG_W (pos := 1089) (by decide +kernel) rfl
      · exact gG_W (pos := 21) (by decide +kernel) rfl
      · exact gG_W (pos := 1090) (by decide +kernel) rfl
      · exact h9)) rfl rfl rfl (by decide +kernel) ⟨by show 1 + 1 ≤ R.frames; omega, by show 8 + (1 + 11) + 20 ≤ R.locals; omega⟩) ⟨sB_blind, (by obtain ⟨cell, g1, g2, g3, -⟩ := (hF.1.kept hS.2.1); exact ⟨cell, g1, g2, g3⟩), fun U hU hW => ⟨rfl, sB_at hF hS hA hU hW⟩⟩ rfl rfl hls rfl (lv_room hsum) hdg ⟨hC.1, hC.2⟩) hS (fun q h1 h2 => absurd h1 (Nat.not_lt.mpr h2)) (fun q h => hA q (Nat.le_trans hS.1 h)) (fun r1 u t H1 locs1 ht hvm hw9 hB hz1 hk1 hS1 => ?_)
  subst hw9
  exact kk H1 locs1 hz1 (fun q hq => hk1 q hq (Nat.not_le.mpr hq)) hS1
theorem sp_charAt (hx : p.tables.exec = Jvm.exec) (hb : c.code = cc) (hml : c.maxLocals = nL) (hown : s.vm.findClass "GlyphmillLaw" = some m.cls) (hts : ∀ w ∈ gG, w.before args s = true) (hls : ls.size = nL) (hF : sF sa va A s s.heap) (hS : va_S A s.heap H locs) (hA : ∀ q, s.heap.size ≤ q → A q) (hR : 10 ≤ R.frames ∧ 200 ≤ R.locals) (hC : cells ≤ R.cells ∧ slots ≤ R.slots) (hsum : (rest.map fun v => v.category).sum ≤ 8) {idx pos : Nat} {i : Int32} (hi : vp_in i 24) (hw : gW pos = some (.methodLink "GlyphmillLaw" idx ⟨"java/lang/String", "charAt", "(I)C"⟩)) (hdg : decode cc pc = .ok (.invokevirtual idx, 3))
    (kk : ∀ (H1 : Heap) (locs1 : List Loc), H.size ≤ H1.size → (∀ q : Nat, q < H.size → H1[q]? = H[q]?) → va_S A s.heap H1 locs1 → W p l e R s m args below meth c H1 locs1 cells slots Q (F0 m (pc + 3) ls (.int (gSg.getD i.toNatClampNeg 0) :: rest))) : W p l e R s m args below meth c H locs cells slots Q (F0 m pc ls (.int i :: .ref sa :: rest)) := by
  refine va_calli (va_runV (cc := cc) (nL := nL) (C := "java/lang/String") (As := [.int i]) (rest := rest) ⟨hx, hb, hml, hown, hts⟩ (sc_cha l (sa := sa) (va := va) hi) (cwV 1 hts (sG_in (by
      intro w h9
      unfold wsV at h9
      simp only [List.cons_append, List.nil_append, List.mem_cons] at h9
      rcases h9 with rfl | rfl | rfl | rfl | rfl | h9
      · exact gG_W hw rfl
      · exact gG_W (pos := 1098) (by decide +kernel) rfl
      · exact gG_W (pos := 1099) (by decide +kernel) rfl
      · exact gG_W (pos := 21) (by decide +kernel) rfl
      · exact gG_W (pos := 1100) (by decide +kernel) rfl
      · exact h9)) rfl rfl rfl (by decide +kernel) ⟨by show 3 + 1 ≤ R.frames; omega, by show 8 + (2 + 11) + 64 ≤ R.locals; omega⟩) ⟨sB_blind, (by obtain ⟨cell, g1, g2, g3, -⟩ := (hF.1.kept hS.2.1); exact ⟨cell, g1, g2, g3⟩), fun U hU hW => ⟨rfl, sB_at hF hS hA hU hW⟩⟩ rfl rfl hls rfl (lv_room hsum) hdg ⟨hC.1, hC.2⟩) hS (fun q h1 h2 => absurd h1 (Nat.not_lt.mpr h2)) (fun q h => hA q (Nat.le_trans hS.1 h)) (fun r1 u t H1 locs1 ht hvm hw9 hB hz1 hk1 hS1 => ?_)
  subst hw9
  exact kk H1 locs1 hz1 (fun q hq => hk1 q hq (Nat.not_le.mpr hq)) hS1
theorem sp_at (hx : p.tables.exec = Jvm.exec) (hb : c.code = cc) (hml : c.maxLocals = nL) (hown : s.vm.findClass "GlyphmillLaw" = some m.cls) (hts : ∀ w ∈ gG, w.before args s = true) (hls : ls.size = nL) {b L : Nat} {xs : Nat → Int32} (hX : va_X b L xs s s.heap) (hbl : b < s.heap.size) (hbA : ¬ A b) (hL : L < 2 ^ 31) (hS : va_S A s.heap H locs) (hA : ∀ q, s.heap.size ≤ q → A q) (hR : 10 ≤ R.frames ∧ 200 ≤ R.locals) (hC : cells ≤ R.cells ∧ slots ≤ R.slots) (hsum : (rest.map fun v => v.category).sum ≤ 8) {idx pos : Nat} {i : Int32} (hi : ¬ i < 0) (hw : gW pos = some (.methodLink "GlyphmillLaw" idx ⟨"GlyphmillLaw", "at", "([II)I"⟩)) (hdg : decode cc pc = .ok (.invokestatic idx, 3))
    (kk : ∀ (H1 : Heap) (locs1 : List Loc), H.size ≤ H1.size → (∀ q : Nat, q < H.size → H1[q]? = H[q]?) → va_S A s.heap H1 locs1 → W p l e R s m args below meth c H1 locs1 cells slots Q (F0 m (pc + 3) ls (.int (if i < Int32.ofNat L then xs i.toNatClampNeg else 0) :: rest))) : W p l e R s m args below meth c H locs cells slots Q (F0 m pc ls (.int i :: .ref b :: rest)) := by
  refine va_calli (va_runS (cc := cc) (nL := nL) (As := [.ref b, .int i]) (rest := rest) ⟨hx, hb, hml, hown, hts⟩ (sc_at l (b := b) (L := L) (xs := xs) hL hi) (va_cwS 2 hts (sG_in (by
      intro w h9
      unfold va_wsS at h9
      simp only [List.cons_append, List.nil_append, List.mem_cons] at h9
      rcases h9 with rfl | rfl | rfl | rfl | h9
      · exact gG_W hw rfl
      · exact gG_W (pos := 382) (by decide +kernel) rfl
      · exact gG_W (pos := 0) (by decide +kernel) rfl
      · exact gG_W (pos := 383) (by decide +kernel) rfl
      · exact h9)) rfl rfl rfl (by decide +kernel) ⟨by show 0 + 1 ≤ R.frames; omega, by show 8 + (2 + 11) + 0 ≤ R.locals; omega⟩) ⟨sX_blind, fun U hU hW => ⟨rfl, ⟨by rw [hU], va_X.moved hW.alike (hX.kept (by rw [hU]; exact hS.2.1 b hbl hbA)), by rw [hU]; exact Nat.lt_of_lt_of_le hbl hS.1⟩⟩⟩ rfl rfl hls rfl (lv_room hsum) hdg ⟨hC.1, hC.2⟩) hS (fun q h1 h2 => absurd h1 (Nat.not_lt.mpr h2)) (fun q h => hA q (Nat.le_trans hS.1 h)) (fun r1 u t H1 locs1 ht hvm hw9 hB hz1 hk1 hS1 => ?_)
  subst hw9
  exact kk H1 locs1 hz1 (fun q hq => hk1 q hq (Nat.not_le.mpr hq)) hS1
end SPRIM
end
section
/-! ONE INSTRUCTION -/
/-- what holds all along a frame of the method k -/
def gX (k : Nat) (p : Program) (l : Launch) (e : Env) (R : Room) (s : State) (m : MethodId) (args : Array Value) (meth : Method) (c : Code) (cA : Nat → ClassId) (ad : Nat → Nat) (dC : Nat → ClassId) (dI : Nat → Nat → Nat) (A : Nat → Prop) (scr : gScr) : Prop :=
  p.tables.exec = Jvm.exec ∧ c.code = mBy k ∧ c.maxLocals = mML k ∧ s.vm.findClass (mOw k) = some m.cls ∧ (∀ w ∈ gG, w.before args s = true) ∧ va_K (dC, dI) gCl (gTys cA) s ∧ (∀ q, s.heap.size ≤ q → A q) ∧
  ∀ L xs, scr = some (L, xs) → va_X (ad gSC) L xs s s.heap ∧ ad gSC < s.heap.size ∧ ¬ A (ad gSC) ∧ L < 2 ^ 31 ∧ (∃ va, sF (ad 1002) va A s s.heap) ∧ vk_R "GlyphmillLaw" 224 "aabbcnA AB 1 2-,.[{}} - " (ad 1002) s
/-- a memory in the heap -/
def gM (cA : Nat → ClassId) (ad : Nat → Nat) (dC : Nat → ClassId) (dI : Nat → Nat → Nat) (A : Nat → Prop) (s : State) (μ : gMu) (H : Heap) (locs : List Loc) : Prop :=
  va_P (dC, dI) gCl (gWd cA ad μ) H ∧ va_D A (gWd cA ad μ) ∧ va_S A s.heap H locs
theorem gII_inv {f f' : gF} {cs : List Prop} {h : Int32 → Int32 → Value × List Prop} (hs : gII f h = some (f', cs)) : ∃ pc l x y r μ, f = (pc, l, .int y :: .int x :: r, μ) ∧ f' = (pc + 1, l, (h x y).1 :: r, μ) ∧ cs = (h x y).2 := by
  unfold gII at hs
  split at hs
  · cases hs; exact ⟨_, _, _, _, _, _, rfl, rfl, rfl⟩
  · cases hs
theorem gJJ_inv {f f' : gF} {cs : List Prop} {h : Int64 → Int64 → Value × List Prop} (hs : gJJ f h = some (f', cs)) : ∃ pc l x y r μ, f = (pc, l, .long y :: .long x :: r, μ) ∧ f' = (pc + 1, l, (h x y).1 :: r, μ) ∧ cs = (h x y).2 := by
  unfold gJJ at hs
  split at hs
  · cases hs; exact ⟨_, _, _, _, _, _, rfl, rfl, rfl⟩
  · cases hs
theorem gI1_inv {f f' : gF} {cs : List Prop} {h : Int32 → Value} (hs : gI1 f h = some (f', cs)) : ∃ pc l x r μ, f = (pc, l, .int x :: r, μ) ∧ f' = (pc + 1, l, h x :: r, μ) := by
  unfold gI1 at hs
  split at hs
  · cases hs; exact ⟨_, _, _, _, _, rfl, rfl⟩
  · cases hs
theorem gJ1_inv {f f' : gF} {cs : List Prop} {h : Int64 → Value} (hs : gJ1 f h = some (f', cs)) : ∃ pc l x r μ, f = (pc, l, .long x :: r, μ) ∧ f' = (pc + 1, l, h x :: r, μ) := by
  unfold gJ1 at hs
  split at hs
  · cases hs; exact ⟨_, _, _, _, _, rfl, rfl⟩
  · cases hs
theorem gArr_inv {q t n : Nat} (h : gArr q = some (t, n)) : gSh[q]? = some (.inr (t, n)) := by
  unfold gArr at h
  split at h
  · rename_i x hx
    cases h
    exact hx
  · cases h
theorem gObj_inv {q : Nat} {x : Nat × List (Nat × Nat)} (h : gObj q = some x) : gSh[q]? = some (.inl x) := by
  unfold gObj at h
  split at h
  · rename_i y hy
    cases h
    exact hy
  · cases h
theorem gALd_inv {t : Nat} {f f' : gF} {cs : List Prop} (hs : gALd none t f = some (f', cs)) : ∃ pc l i q r μ n, f = (pc, l, .int i :: .ref q :: r, μ) ∧ gSh[q]? = some (.inr (t, n)) ∧ f' = (pc + 1, l, (if t = 4 then .double (μ.2.2 q i.toNatClampNeg) else if t = 3 then .long (μ.2.1 q i.toNatClampNeg) else .int (μ.1 q i.toNatClampNeg)) :: r, μ) ∧ cs = [vp_in i n] := by
  unfold gALd at hs
  split at hs
  · split at hs
    · cases hs
    · split at hs
      · rename_i t' n hn
        split at hs
        · rename_i ht
          subst ht
          cases hs
          exact ⟨_, _, _, _, _, _, n, rfl, gArr_inv hn, rfl, rfl⟩
        · cases hs
      · cases hs
  · cases hs
theorem gIst_inv {t : Nat} {g : Int32 → Int32} {f f' : gF} {cs : List Prop} (hs : gIst t g f = some (f', cs)) : ∃ pc l x i q r μ n, f = (pc, l, .int x :: .int i :: .ref q :: r, μ) ∧ gSh[q]? = some (.inr (t, n)) ∧ f' = (pc + 1, l, r, gsI μ q i.toNatClampNeg (g x)) ∧ cs = [vp_in i n] := by
  unfold gIst at hs
  split at hs
  · split at hs
    · cases hs
    · split at hs
      · rename_i t' n hn
        split at hs
        · rename_i ht
          subst ht
          cases hs
          exact ⟨_, _, _, _, _, _, _, n, rfl, gArr_inv hn, rfl, rfl⟩
        · cases hs
      · cases hs
  · cases hs
theorem gTyN {ci : Nat} {q : vw_C} (h : gCl[ci]? = some q) : (∀ w ∈ u_ws q.1 q.2.1 q.2.2, w ∈ gG) ∧ (∀ a, a < q.2.2 → ∀ b, b < q.2.2 → a ≠ b → (q.2.1 a).2.1 ≠ (q.2.1 b).2.1) ∧ ∃ ty : Nat → FieldType, ∀ k, k < q.2.2 → parseFieldDescriptor (q.2.1 k).2.2.1 = some (ty k) := by
  have hm := List.mem_of_getElem? h
  have key : ∀ (C : String) (T : u_T) (N : Nat), (∀ w ∈ u_ws C T N, w ∈ tables_1) → ((u_ws C T N).all goodWord = true) → ∀ w ∈ u_ws C T N, w ∈ gG := fun C T N h1 h2 w hw => List.mem_filter.mpr ⟨List.mem_append_right _ (h1 w hw), List.all_eq_true.mp h2 w hw⟩
  simp only [gCl, List.mem_cons, List.not_mem_nil, or_false] at hm
  rcases hm with rfl | rfl | rfl | rfl | rfl | rfl | rfl | rfl | rfl | rfl
  · exact ⟨key _ _ _ (by decide +kernel) (by decide +kernel), nmX0, _, tyX0_ok⟩
  · exact ⟨key _ _ _ (by decide +kernel) (by decide +kernel), nmX1, _, tyX1_ok⟩
  · exact ⟨key _ _ _ (by decide +kernel) (by decide +kernel), nmX2, _, tyX2_ok⟩
  · exact ⟨key _ _ _ (by decide +kernel) (by decide +kernel), nmX3, _, tyX3_ok⟩
  · exact ⟨key _ _ _ (by decide +kernel) (by decide +kernel), nmX4, _, tyX4_ok⟩
  · exact ⟨key _ _ _ (by decide +kernel) (by decide +kernel), nmX5, _, tyX5_ok⟩
  · exact ⟨key _ _ _ (by decide +kernel) (by decide +kernel), nmX6, _, tyX6_ok⟩
  · exact ⟨key _ _ _ (by decide +kernel) (by decide +kernel), nmX7, _, tyX7_ok⟩
  · exact ⟨key _ _ _ (by decide +kernel) (by decide +kernel), nmX8, _, tyX8_ok⟩
  · exact ⟨key _ _ _ (by decide +kernel) (by decide +kernel), nmX9, _, tyX9_ok⟩
end
section
/-! ONE INSTRUCTION, case by case (written by wip/p41/stepgen.py) -/
theorem gTys_at {cA : Nat → ClassId} {q t n : Nat} (h : gArr q = some (t, n)) : ∃ (t0 : Nat) (ty : FieldType), (gTys cA)[t0]? = some (cA t, ty) := by
  have h1 : (gSh.all fun x => match x with | .inr y => decide (y.1 < 5) | .inl _ => true) = true := by decide
  have h2 : t < 5 := of_decide_eq_true (List.all_eq_true.mp h1 _ (List.mem_of_getElem? (gArr_inv h)))
  rcases (show t = 0 ∨ t = 1 ∨ t = 2 ∨ t = 3 ∨ t = 4 by omega) with rfl | rfl | rfl | rfl | rfl
  · exact ⟨0, _, rfl⟩
  · exact ⟨1, _, rfl⟩
  · exact ⟨2, _, rfl⟩
  · exact ⟨3, _, rfl⟩
  · exact ⟨4, _, rfl⟩
/-- the kinds in the shape are those of the classes' tables -/
theorem gKinds : ((List.range gSh.length).all fun q => match gSh[q]? with
    | some (.inl (ci, ks)) => (match gCl[ci]? with
      | some w => (List.range w.2.2).all fun j => (match ks[j]? with
        | some (0, 0) => decide ((w.2.1 j).2.2.1 = "I")
        | some (0, 1) => decide ((w.2.1 j).2.2.1 = "Z")
        | some (1, 0) => decide ((w.2.1 j).2.2.1 = "J")
        | _ => true)
      | none => false)
    | _ => true) = true := by decide +kernel
theorem gKind {q ci : Nat} {ks : List (Nat × Nat)} {w : vw_C} {j : Nat} {kd : Nat × Nat} (h : gSh[q]? = some (.inl (ci, ks))) (hw : gCl[ci]? = some w) (hj : j < w.2.2) (hk : ks[j]? = some kd) :
    (kd = (0, 0) → (w.2.1 j).2.2.1 = "I") ∧ (kd = (0, 1) → (w.2.1 j).2.2.1 = "Z") ∧ (kd = (1, 0) → (w.2.1 j).2.2.1 = "J") := by
  have h1 := List.all_eq_true.mp gKinds q (List.mem_range.mpr (List.getElem?_eq_some_iff.mp h).1)
  rw [h] at h1
  dsimp only at h1
  rw [hw] at h1
  dsimp only at h1
  have h2 := List.all_eq_true.mp h1 j (List.mem_range.mpr hj)
  rw [hk] at h2
  refine ⟨fun e => ?_, fun e => ?_, fun e => ?_⟩ <;> (subst e; exact of_decide_eq_true h2)
theorem gPut_inv {ad : Nat → Nat} {ci k : Nat} {f f' : gF} {cs : List Prop} (hs : gPut ci k f = some (f', cs)) (hcs : gAll cs) :
    ∃ (pc : Nat) (L : gL) (v : Value) (q : Nat) (st : List Value) (μ μ' : gMu) (ks : List (Nat × Nat)) (kd : Nat × Nat), f = (pc, L, v :: .ref q :: st, μ) ∧ f' = (pc + 3, L, st, μ') ∧ gSh[q]? = some (.inl (ci, ks)) ∧ ks[k]? = some kd ∧
      (∀ C T N, gCl[ci]? = some (C, T, N) → k < N → ∃ ty, parseFieldDescriptor (T k).2.2.1 = some ty ∧ narrow ty (gTr ad v) = gTr ad v ∧ fits ty (gTr ad v) = true) ∧
      (∀ a, a ≠ q → μ'.1 a = μ.1 a ∧ μ'.2.1 a = μ.2.1 a ∧ μ'.2.2 a = μ.2.2 a) ∧
      ks.mapIdx (fun j kd => gTr ad (gFa μ' q j kd)) = (ks.mapIdx (fun j kd => gTr ad (gFa μ q j kd))).set k (gTr ad v) := by
  have setI : ∀ (μ : gMu) (q : Nat) (ks : List (Nat × Nat)) (t : Nat) (x : Int32), ks[k]? = some (0, t) → ks.mapIdx (fun j kd => gTr ad (gFa (gsI μ q k x) q j kd)) = (ks.mapIdx (fun j kd => gTr ad (gFa μ q j kd))).set k (.int x) := by
    intro μ q ks t x hk
    apply List.ext_getElem?
    intro i
    by_cases hi : i = k
    · subst hi
      rw [List.getElem?_set_self (by rw [List.length_mapIdx]; exact (List.getElem?_eq_some_iff.mp hk).1), List.getElem?_mapIdx, hk]
      show some (gTr ad (.int ((gsI μ q i x).1 q i))) = _
      rw [gsI_at]
      simp [upd, gTr]
    · rw [List.getElem?_set_ne (Ne.symm hi), List.getElem?_mapIdx, List.getElem?_mapIdx]
      have e : ∀ kd, gFa (gsI μ q k x) q i kd = gFa μ q i kd := by
        intro kd
        unfold gFa
        rw [gsI_at]
        simp [upd, hi, gsI]
      simp only [e]
  have setJ : ∀ (μ : gMu) (q : Nat) (ks : List (Nat × Nat)) (t : Nat) (x : Int64), ks[k]? = some (1, t) → ks.mapIdx (fun j kd => gTr ad (gFa (gsJ μ q k x) q j kd)) = (ks.mapIdx (fun j kd => gTr ad (gFa μ q j kd))).set k (.long x) := by
    intro μ q ks t x hk
    apply List.ext_getElem?
    intro i
    by_cases hi : i = k
    · subst hi
      rw [List.getElem?_set_self (by rw [List.length_mapIdx]; exact (List.getElem?_eq_some_iff.mp hk).1), List.getElem?_mapIdx, hk]
      show some (gTr ad (.long ((gsJ μ q i x).2.1 q i))) = _
      rw [gsJ_at]
      simp [vp_updL, gTr]
    · rw [List.getElem?_set_ne (Ne.symm hi), List.getElem?_mapIdx, List.getElem?_mapIdx]
      have e : ∀ kd, gFa (gsJ μ q k x) q i kd = gFa μ q i kd := by
        intro kd
        unfold gFa
        rw [gsJ_at]
        simp [vp_updL, hi, gsJ]
      simp only [e]
  have pI : parseFieldDescriptor "I" = some .int := by decide +kernel
  have pZ : parseFieldDescriptor "Z" = some .boolean := by decide +kernel
  have pJ : parseFieldDescriptor "J" = some .long := by decide +kernel
  unfold gPut at hs
  split at hs
  · rename_i pc L x q st μ
    split at hs
    · cases hs
    · split at hs
      · rename_i ci' ks hks
        split at hs
        · rename_i hci
          subst hci
          have hq := gObj_inv hks
          split at hs
          · rename_i hkd
            cases hs
            refine ⟨pc, L, .int x, q, st, μ, _, ks, _, rfl, rfl, hq, hkd, fun C T N hw hj => ⟨.int, ?_, rfl, rfl⟩, fun a ha => gsI_off ha, setI μ q ks _ x hkd⟩
            have h9 := (gKind hq hw hj hkd).1 rfl
            dsimp only at h9
            rw [h9]
            exact pI
          · rename_i hkd
            cases hs
            have hx9 : x = 0 ∨ x = 1 := hcs
            refine ⟨pc, L, .int x, q, st, μ, _, ks, _, rfl, rfl, hq, hkd, fun C T N hw hj => ⟨.boolean, ?_, ?_, ?_⟩, fun a ha => gsI_off ha, setI μ q ks _ x hkd⟩
            · have h9 := (gKind hq hw hj hkd).2.1 rfl
              dsimp only at h9
              rw [h9]
              exact pZ
            · show narrow .boolean (.int x) = .int x
              rcases hx9 with rfl | rfl <;> decide
            · show fits .boolean (.int x) = true
              rcases hx9 with rfl | rfl <;> decide
          · cases hs
        · cases hs
      · cases hs
  · rename_i pc L x q st μ
    split at hs
    · cases hs
    · split at hs
      · rename_i ci' ks hks
        split at hs
        · rename_i hci
          subst hci
          have hq := gObj_inv hks
          split at hs
          · rename_i hkd
            cases hs
            refine ⟨pc, L, .long x, q, st, μ, _, ks, _, rfl, rfl, hq, hkd, fun C T N hw hj => ⟨.long, ?_, rfl, rfl⟩, fun a ha => gsJ_off ha, setJ μ q ks _ x hkd⟩
            have h9 := (gKind hq hw hj hkd).2.2 rfl
            dsimp only at h9
            rw [h9]
            exact pJ
          · cases hs
        · cases hs
      · cases hs
  · cases hs
section GSTEP
variable {p : Program} {l : Launch} {e : Env} {R : Room} {s : State} {m : MethodId} {args : Array Value} {below : List Frame} {meth : Method} {c : Code} {H : Heap} {locs : List Loc} {cells slots : Nat} {Q : State → Prop}
variable {k : Nat} {cA : Nat → ClassId} {ad : Nat → Nat} {dC : Nat → ClassId} {dI : Nat → Nat → Nat} {A : Nat → Prop} {scr : gScr} {ls : Array Slot}
set_option maxHeartbeats 4000000 in
set_option maxRecDepth 100000 in
theorem g_step {r : gR} {f f' : gF} {cs : List Prop} (X : gX k p l e R s m args meth c cA ad dC dI A scr) (hR : R.frames = (mFr k).1 ∧ R.locals = (mFr k).2) (hC : cells ≤ R.cells ∧ slots ≤ R.slots) (hr : gAt k f.1 = some r) (hs : gStp scr r f = some (f', cs)) (hcs : gAll cs) (hM : gM cA ad dC dI A s f.2.2.2 H locs) (hl : gLh ls (mML k) ad f.2.1)
    (kk : ∀ (H1 : Heap) (locs1 : List Loc) (ls1 : Array Slot), (gNst r.1 = true → H.size ≤ H1.size) → gM cA ad dC dI A s f'.2.2.2 H1 locs1 → gLh ls1 (mML k) ad f'.2.1 → W p l e R s m args below meth c H1 locs1 cells slots Q (F0 m f'.1 ls1 (f'.2.2.1.map (gTr ad)))) :
    W p l e R s m args below meth c H locs cells slots Q (F0 m f.1 ls (f.2.2.1.map (gTr ad))) := by
  obtain ⟨hx, hb, hml, hown, hts, hK, hA, hscr⟩ := X
  obtain ⟨hd, hc⟩ := g_row hr
  obtain ⟨ins, len, ⟨a1, a2, a3⟩, cv⟩ := r
  cases ins
  case iconst n =>
    obtain ⟨pc, L, st, μ⟩ := f
    have hs' : gPush (pc, L, st, μ) 1 cv = some (f', cs) := hs
    cases hs'
    have hc' := of_decide_eq_true hc
    dsimp only at hc'
    subst hc'
    exact lv_iconst hx hb hd rfl (kk H locs ls (fun _ => Nat.le_refl _) hM hl)
  case bipush n =>
    obtain ⟨pc, L, st, μ⟩ := f
    have hs' : gPush (pc, L, st, μ) 2 cv = some (f', cs) := hs
    cases hs'
    have hc' := of_decide_eq_true hc
    dsimp only at hc'
    subst hc'
    exact lv_bipush hx hb hd rfl (kk H locs ls (fun _ => Nat.le_refl _) hM hl)
  case sipush n =>
    obtain ⟨pc, L, st, μ⟩ := f
    have hs' : gPush (pc, L, st, μ) 3 cv = some (f', cs) := hs
    cases hs'
    have hc' := of_decide_eq_true hc
    dsimp only at hc'
    subst hc'
    exact lv_sipush hx hb hd rfl (kk H locs ls (fun _ => Nat.le_refl _) hM hl)
  case lconst n =>
    obtain ⟨pc, L, st, μ⟩ := f
    have hs' : gPush (pc, L, st, μ) 1 cv = some (f', cs) := hs
    cases hs'
    have hc' := of_decide_eq_true hc
    dsimp only at hc'
    subst hc'
    exact lv_lconst hx hb hd rfl (kk H locs ls (fun _ => Nat.le_refl _) hM hl)
  case fconst n =>
    obtain ⟨pc, L, st, μ⟩ := f
    have hs' : gPush (pc, L, st, μ) 1 cv = some (f', cs) := hs
    cases hs'
    have hc' := of_decide_eq_true hc
    obtain ⟨h0, h1⟩ := hc'
    subst h0
    dsimp only at h1
    subst h1
    exact lv_fconst0 hx hb hd (kk H locs ls (fun _ => Nat.le_refl _) hM hl)
  case dconst n =>
    obtain ⟨pc, L, st, μ⟩ := f
    have hs' : gPush (pc, L, st, μ) 1 cv = some (f', cs) := hs
    cases hs'
    have hc' := of_decide_eq_true hc
    obtain ⟨h0, h1⟩ := hc'
    subst h0
    dsimp only at h1
    subst h1
    exact lv_dconst0 hx hb hd (kk H locs ls (fun _ => Nat.le_refl _) hM hl)
  case ldc n =>
    obtain ⟨pc, L, st, μ⟩ := f
    cases cv
    case int v =>
      have hs' : gPush (pc, L, st, μ) 2 (.int v) = some (f', cs) := hs
      cases hs'
      have hc' : gW a3 = some _ := of_decide_eq_true hc
      exact lv_ldc hx hb hown (hts _ (gG_W hc' rfl)) hd (kk H locs ls (fun _ => Nat.le_refl _) hM hl)
    case ref q =>
      have hs' := hs
      unfold gStp at hs'
      dsimp only at hs'
      cases scr with
      | none => cases hs'
      | some sc =>
        obtain ⟨SL, xs⟩ := sc
        dsimp only at hs'
        split at hs'
        · rename_i hq
          subst hq
          cases hs'
          obtain ⟨hX1, hX2, hX3, hX4, ⟨va9, hX5⟩, hX6⟩ := hscr SL xs rfl
          have hc' : decide ((1002 : Nat) = 1002 ∧ mOw k = "GlyphmillLaw" ∧ n = 224 ∧ gW a3 = some (.stringRef "GlyphmillLaw" 224 "aabbcnA AB 1 2-,.[{}} - ")) = true := hc
          obtain ⟨-, c1, c2, -⟩ := of_decide_eq_true hc'
          subst c2
          exact va_ldcS hx hb (c1 ▸ hown) hX6 hd (kk H locs ls (fun _ => Nat.le_refl _) hM hl)
        · cases hs'
    all_goals (exact nomatch (show (none : gO) = some (f', cs) from hs))
  case ldc_w n =>
    obtain ⟨pc, L, st, μ⟩ := f
    cases cv
    case int v =>
      have hs' : gPush (pc, L, st, μ) 3 (.int v) = some (f', cs) := hs
      cases hs'
      have hc' : gW a3 = some _ := of_decide_eq_true hc
      exact lv_ldcw hx hb hown (hts _ (gG_W hc' rfl)) hd (kk H locs ls (fun _ => Nat.le_refl _) hM hl)
    all_goals (exact nomatch (show (none : gO) = some (f', cs) from hs))
  case ldc2_w n =>
    obtain ⟨pc, L, st, μ⟩ := f
    cases cv
    case long v =>
      have hs' : gPush (pc, L, st, μ) 3 (.long v) = some (f', cs) := hs
      cases hs'
      have hc' : gW a3 = some _ := of_decide_eq_true hc
      exact lv_ldc2 hx hb hown (hts _ (gG_W hc' rfl)) hd (kk H locs ls (fun _ => Nat.le_refl _) hM hl)
    all_goals (exact nomatch (show (none : gO) = some (f', cs) from hs))
  case iload_n n =>
    obtain ⟨pc, L, st, μ⟩ := f
    have hs' : gLdI (pc, L, st, μ) 1 a1 = some (f', cs) := hs
    unfold gLdI at hs'
    split at hs'
    · rename_i x h1
      cases hs'
      exact lv_iload_n hx hb hd (of_decide_eq_true hc) (gLh_at hl h1) (kk H locs ls (fun _ => Nat.le_refl _) hM hl)
    · cases hs'
  case iload n =>
    obtain ⟨pc, L, st, μ⟩ := f
    have hs' : gLdI (pc, L, st, μ) 2 a1 = some (f', cs) := hs
    unfold gLdI at hs'
    split at hs'
    · rename_i x h1
      cases hs'
      have e1 := of_decide_eq_true hc
      dsimp only at e1
      subst e1
      exact lv_iload hx hb hd (gLh_at hl h1) (kk H locs ls (fun _ => Nat.le_refl _) hM hl)
    · cases hs'
  case lload_n n =>
    obtain ⟨pc, L, st, μ⟩ := f
    have hs' : gLdJ (pc, L, st, μ) 1 a1 = some (f', cs) := hs
    unfold gLdJ at hs'
    split at hs'
    · rename_i x h1
      cases hs'
      exact lv_lload_n hx hb hd (of_decide_eq_true hc) (gLh_at hl h1) (kk H locs ls (fun _ => Nat.le_refl _) hM hl)
    · cases hs'
  case lload n =>
    obtain ⟨pc, L, st, μ⟩ := f
    have hs' : gLdJ (pc, L, st, μ) 2 a1 = some (f', cs) := hs
    unfold gLdJ at hs'
    split at hs'
    · rename_i x h1
      cases hs'
      have e1 := of_decide_eq_true hc
      dsimp only at e1
      subst e1
      exact lv_lload hx hb hd (gLh_at hl h1) (kk H locs ls (fun _ => Nat.le_refl _) hM hl)
    · cases hs'
  case fload n =>
    obtain ⟨pc, L, st, μ⟩ := f
    have hs' : gLdF (pc, L, st, μ) 2 a1 = some (f', cs) := hs
    unfold gLdF at hs'
    split at hs'
    · rename_i x h1
      cases hs'
      have e1 := of_decide_eq_true hc
      dsimp only at e1
      subst e1
      exact lv_fload hx hb hd (gLh_at hl h1) (kk H locs ls (fun _ => Nat.le_refl _) hM hl)
    · cases hs'
  case dload n =>
    obtain ⟨pc, L, st, μ⟩ := f
    have hs' : gLdD (pc, L, st, μ) 2 a1 = some (f', cs) := hs
    unfold gLdD at hs'
    split at hs'
    · rename_i x h1
      cases hs'
      have e1 := of_decide_eq_true hc
      dsimp only at e1
      subst e1
      exact lv_dload hx hb hd (gLh_at hl h1) (kk H locs ls (fun _ => Nat.le_refl _) hM hl)
    · cases hs'
  case aload_n n =>
    obtain ⟨pc, L, st, μ⟩ := f
    have hs' : gLdA (pc, L, st, μ) 1 a1 = some (f', cs) := hs
    unfold gLdA at hs'
    split at hs'
    · rename_i x h1
      cases hs'
      exact lv_aload_n hx hb hd (of_decide_eq_true hc) (gLh_at hl h1) (kk H locs ls (fun _ => Nat.le_refl _) hM hl)
    · cases hs'
  case aload n =>
    obtain ⟨pc, L, st, μ⟩ := f
    have hs' : gLdA (pc, L, st, μ) 2 a1 = some (f', cs) := hs
    unfold gLdA at hs'
    split at hs'
    · rename_i x h1
      cases hs'
      have e1 := of_decide_eq_true hc
      dsimp only at e1
      subst e1
      exact lv_aload hx hb hd (gLh_at hl h1) (kk H locs ls (fun _ => Nat.le_refl _) hM hl)
    · cases hs'
  case istore_n n =>
    obtain ⟨pc, L, st, μ⟩ := f
    have hc' := of_decide_eq_true hc
    rcases st with _ | ⟨v, st⟩
    · exact nomatch (show (none : gO) = some (f', cs) from hs)
    cases v
    case int x =>
      have hs' : some ((pc + 1, gSt1 L a1 (.int x), st, μ), []) = some (f', cs) := hs
      cases hs'
      obtain ⟨e1, e2⟩ := hc'
      dsimp only at e1 e2
      exact lv_istore_n hx hb hd e1 hl e2 rfl (fun ls1 h1 => kk H locs ls1 (fun _ => Nat.le_refl _) hM (gLh_st1 (v := .int x) h1))
    all_goals (exact nomatch (show (none : gO) = some (f', cs) from hs))
  case istore n =>
    obtain ⟨pc, L, st, μ⟩ := f
    have hc' := of_decide_eq_true hc
    rcases st with _ | ⟨v, st⟩
    · exact nomatch (show (none : gO) = some (f', cs) from hs)
    cases v
    case int x =>
      have hs' : some ((pc + 2, gSt1 L a1 (.int x), st, μ), []) = some (f', cs) := hs
      cases hs'
      obtain ⟨e1, e2⟩ := hc'
      dsimp only at e1 e2
      subst e1
      exact lv_istore hx hb hd hl e2 rfl (fun ls1 h1 => kk H locs ls1 (fun _ => Nat.le_refl _) hM (gLh_st1 (v := .int x) h1))
    all_goals (exact nomatch (show (none : gO) = some (f', cs) from hs))
  case lstore_n n =>
    obtain ⟨pc, L, st, μ⟩ := f
    have hc' := of_decide_eq_true hc
    rcases st with _ | ⟨v, st⟩
    · exact nomatch (show (none : gO) = some (f', cs) from hs)
    cases v
    case long x =>
      have hs' : some ((pc + 1, gSt2 L a1 (.long x), st, μ), []) = some (f', cs) := hs
      cases hs'
      obtain ⟨e1, e2⟩ := hc'
      dsimp only at e1 e2
      exact lv_lstore_n hx hb hd e1 hl e2 rfl (fun ls1 h1 => kk H locs ls1 (fun _ => Nat.le_refl _) hM (gLh_st2 (v := .long x) h1))
    all_goals (exact nomatch (show (none : gO) = some (f', cs) from hs))
  case lstore n =>
    obtain ⟨pc, L, st, μ⟩ := f
    have hc' := of_decide_eq_true hc
    rcases st with _ | ⟨v, st⟩
    · exact nomatch (show (none : gO) = some (f', cs) from hs)
    cases v
    case long x =>
      have hs' : some ((pc + 2, gSt2 L a1 (.long x), st, μ), []) = some (f', cs) := hs
      cases hs'
      obtain ⟨e1, e2⟩ := hc'
      dsimp only at e1 e2
      subst e1
      exact lv_lstore hx hb hd hl e2 rfl (fun ls1 h1 => kk H locs ls1 (fun _ => Nat.le_refl _) hM (gLh_st2 (v := .long x) h1))
    all_goals (exact nomatch (show (none : gO) = some (f', cs) from hs))
  case fstore n =>
    obtain ⟨pc, L, st, μ⟩ := f
    have hc' := of_decide_eq_true hc
    rcases st with _ | ⟨v, st⟩
    · exact nomatch (show (none : gO) = some (f', cs) from hs)
    cases v
    case float x =>
      have hs' : some ((pc + 2, gSt1 L a1 (.float x), st, μ), []) = some (f', cs) := hs
      cases hs'
      obtain ⟨e1, e2⟩ := hc'
      dsimp only at e1 e2
      subst e1
      exact lv_fstore hx hb hd hl e2 rfl (fun ls1 h1 => kk H locs ls1 (fun _ => Nat.le_refl _) hM (gLh_st1 (v := .float x) h1))
    all_goals (exact nomatch (show (none : gO) = some (f', cs) from hs))
  case dstore n =>
    obtain ⟨pc, L, st, μ⟩ := f
    have hc' := of_decide_eq_true hc
    rcases st with _ | ⟨v, st⟩
    · exact nomatch (show (none : gO) = some (f', cs) from hs)
    cases v
    case double x =>
      have hs' : some ((pc + 2, gSt2 L a1 (.double x), st, μ), []) = some (f', cs) := hs
      cases hs'
      obtain ⟨e1, e2⟩ := hc'
      dsimp only at e1 e2
      subst e1
      exact lv_dstore hx hb hd hl e2 rfl (fun ls1 h1 => kk H locs ls1 (fun _ => Nat.le_refl _) hM (gLh_st2 (v := .double x) h1))
    all_goals (exact nomatch (show (none : gO) = some (f', cs) from hs))
  case astore_n n =>
    obtain ⟨pc, L, st, μ⟩ := f
    have hc' := of_decide_eq_true hc
    rcases st with _ | ⟨v, st⟩
    · exact nomatch (show (none : gO) = some (f', cs) from hs)
    cases v
    case ref x =>
      have hs' : some ((pc + 1, gSt1 L a1 (.ref x), st, μ), []) = some (f', cs) := hs
      cases hs'
      obtain ⟨e1, e2⟩ := hc'
      dsimp only at e1 e2
      exact lv_astore_n hx hb hd e1 hl e2 rfl (fun ls1 h1 => kk H locs ls1 (fun _ => Nat.le_refl _) hM (gLh_st1 (v := .ref x) h1))
    all_goals (exact nomatch (show (none : gO) = some (f', cs) from hs))
  case astore n =>
    obtain ⟨pc, L, st, μ⟩ := f
    have hc' := of_decide_eq_true hc
    rcases st with _ | ⟨v, st⟩
    · exact nomatch (show (none : gO) = some (f', cs) from hs)
    cases v
    case ref x =>
      have hs' : some ((pc + 2, gSt1 L a1 (.ref x), st, μ), []) = some (f', cs) := hs
      cases hs'
      obtain ⟨e1, e2⟩ := hc'
      dsimp only at e1 e2
      subst e1
      exact lv_astore hx hb hd hl e2 rfl (fun ls1 h1 => kk H locs ls1 (fun _ => Nat.le_refl _) hM (gLh_st1 (v := .ref x) h1))
    all_goals (exact nomatch (show (none : gO) = some (f', cs) from hs))
  case iinc i n =>
    obtain ⟨pc, L, st, μ⟩ := f
    obtain ⟨e1, e2, e3⟩ := of_decide_eq_true hc
    dsimp only at e1 e2 e3
    subst e1
    subst e3
    have hs' : (match L[i]?, (Value.int (Int32.ofInt n)) with
        | some (some (.int x)), .int c => some ((pc + 3, gSt1 L i (.int (x + c)), st, μ), [])
        | _, _ => none) = some (f', cs) := hs
    split at hs'
    · rename_i x c9 h1 h2
      cases h2
      cases hs'
      have hm : (i, Value.int x) ∈ gAsc ad L := gAsc_mem.mpr ⟨.int x, h1, rfl⟩
      obtain ⟨j, hj⟩ := List.getElem?_of_mem hm
      exact lv_iinc hx hb hd hl hj rfl e2 rfl (fun ls1 h1 => kk H locs ls1 (fun _ => Nat.le_refl _) hM (gLh_st1 (v := .int _) h1))
    · cases hs'
  case dup =>
    obtain ⟨pc, L, st, μ⟩ := f
    rcases st with _ | ⟨v, st⟩
    · exact nomatch (show (none : gO) = some (f', cs) from hs)
    have hs' : some ((pc + 1, L, v :: v :: st, μ), [v.category = 1]) = some (f', cs) := hs
    cases hs'
    exact lv_dup hx hb hd (by rw [gTr_cat]; exact hcs) (kk H locs ls (fun _ => Nat.le_refl _) hM hl)
  case pop =>
    obtain ⟨pc, L, st, μ⟩ := f
    rcases st with _ | ⟨v, st⟩
    · exact nomatch (show (none : gO) = some (f', cs) from hs)
    have hs' : some ((pc + 1, L, st, μ), [v.category = 1]) = some (f', cs) := hs
    cases hs'
    exact lv_pop hx hb hd (by rw [gTr_cat]; exact hcs) (kk H locs ls (fun _ => Nat.le_refl _) hM hl)
  case dup2 =>
    obtain ⟨pc, L, st, μ⟩ := f
    rcases st with _ | ⟨v, _ | ⟨w, st⟩⟩
    · exact nomatch (show (none : gO) = some (f', cs) from hs)
    · exact nomatch (show (none : gO) = some (f', cs) from hs)
    have hs' : some ((pc + 1, L, v :: w :: v :: w :: st, μ), [v.category = 1, w.category = 1]) = some (f', cs) := hs
    cases hs'
    exact lv_dup2_11 hx hb hd (by rw [gTr_cat]; exact hcs.1) (by rw [gTr_cat]; exact hcs.2) (kk H locs ls (fun _ => Nat.le_refl _) hM hl)
  case iadd =>
    obtain ⟨pc, L, x, y, st, μ, rfl, rfl, rfl⟩ := gII_inv (h := fun x y => (.int (x + y), [])) hs
    exact lv_iadd hx hb hd (kk H locs ls (fun _ => Nat.le_refl _) hM hl)
  case isub =>
    obtain ⟨pc, L, x, y, st, μ, rfl, rfl, rfl⟩ := gII_inv (h := fun x y => (.int (x - y), [])) hs
    exact lv_isub hx hb hd (kk H locs ls (fun _ => Nat.le_refl _) hM hl)
  case imul =>
    obtain ⟨pc, L, x, y, st, μ, rfl, rfl, rfl⟩ := gII_inv (h := fun x y => (.int (x * y), [])) hs
    exact lv_imul hx hb hd (kk H locs ls (fun _ => Nat.le_refl _) hM hl)
  case iand =>
    obtain ⟨pc, L, x, y, st, μ, rfl, rfl, rfl⟩ := gII_inv (h := fun x y => (.int (x &&& y), [])) hs
    exact lv_iand hx hb hd (kk H locs ls (fun _ => Nat.le_refl _) hM hl)
  case ishl =>
    obtain ⟨pc, L, x, y, st, μ, rfl, rfl, rfl⟩ := gII_inv (h := fun x y => (.int (x <<< (y &&& 31)), [])) hs
    exact lv_ishl hx hb hd (kk H locs ls (fun _ => Nat.le_refl _) hM hl)
  case ishr =>
    obtain ⟨pc, L, x, y, st, μ, rfl, rfl, rfl⟩ := gII_inv (h := fun x y => (.int (x >>> (y &&& 31)), [])) hs
    exact lv_ishr hx hb hd (kk H locs ls (fun _ => Nat.le_refl _) hM hl)
  case idiv =>
    obtain ⟨pc, L, x, y, st, μ, rfl, rfl, rfl⟩ := gII_inv (h := fun x y => (.int (x / y), [¬ y = 0])) hs
    exact lv_idiv hx hb hd hcs (kk H locs ls (fun _ => Nat.le_refl _) hM hl)
  case irem =>
    obtain ⟨pc, L, x, y, st, μ, rfl, rfl, rfl⟩ := gII_inv (h := fun x y => (.int (x - x / y * y), [¬ y = 0])) hs
    exact lv_irem hx hb hd hcs (kk H locs ls (fun _ => Nat.le_refl _) hM hl)
  case iushr =>
    obtain ⟨pc, L, x, y, st, μ, rfl, rfl, rfl⟩ := gII_inv (h := fun x y => (.int ((x.toUInt32 >>> (y.toUInt32 &&& Int32.toUInt32 31)).toInt32), [])) hs
    exact lv_iushr hx hb hd rfl (kk H locs ls (fun _ => Nat.le_refl _) hM hl)
  case ladd =>
    obtain ⟨pc, L, x, y, st, μ, rfl, rfl, rfl⟩ := gJJ_inv (h := fun x y => (.long (x + y), [])) hs
    exact lv_ladd hx hb hd (kk H locs ls (fun _ => Nat.le_refl _) hM hl)
  case lmul =>
    obtain ⟨pc, L, x, y, st, μ, rfl, rfl, rfl⟩ := gJJ_inv (h := fun x y => (.long (x * y), [])) hs
    exact lv_lmul hx hb hd (kk H locs ls (fun _ => Nat.le_refl _) hM hl)
  case ldiv =>
    obtain ⟨pc, L, x, y, st, μ, rfl, rfl, rfl⟩ := gJJ_inv (h := fun x y => (.long (x / y), [¬ y = 0])) hs
    exact lv_ldiv hx hb hd hcs (kk H locs ls (fun _ => Nat.le_refl _) hM hl)
  case lcmp =>
    obtain ⟨pc, L, x, y, st, μ, rfl, rfl, rfl⟩ := gJJ_inv (h := fun x y => (.int (lg_cmp x y), [])) hs
    exact W.lcmp hx hb hd (kk H locs ls (fun _ => Nat.le_refl _) hM hl)
  case ineg =>
    obtain ⟨pc, L, x, st, μ, rfl, rfl⟩ := gI1_inv (h := fun x => .int (-x)) hs
    exact lv_ineg hx hb hd (kk H locs ls (fun _ => Nat.le_refl _) hM hl)
  case i2l =>
    obtain ⟨pc, L, x, st, μ, rfl, rfl⟩ := gI1_inv (h := fun x => .long x.toInt64) hs
    exact lv_i2l hx hb hd rfl (kk H locs ls (fun _ => Nat.le_refl _) hM hl)
  case l2i =>
    obtain ⟨pc, L, x, st, μ, rfl, rfl⟩ := gJ1_inv (h := fun x => .int x.toInt32) hs
    exact lv_l2i hx hb hd rfl (kk H locs ls (fun _ => Nat.le_refl _) hM hl)
  case i2c =>
    obtain ⟨pc, L, x, st, μ, rfl, rfl⟩ := gI1_inv (h := fun x => .int (x.toUInt32 % 65536).toInt32) hs
    exact lv_i2c hx hb hd rfl (kk H locs ls (fun _ => Nat.le_refl _) hM hl)
  case i2f =>
    obtain ⟨pc, L, x, st, μ, rfl, rfl⟩ := gI1_inv (h := fun x => .float (FP.i2f x)) hs
    exact lv_i2f hx hb hd (kk H locs ls (fun _ => Nat.le_refl _) hM hl)
  case i2d =>
    obtain ⟨pc, L, x, st, μ, rfl, rfl⟩ := gI1_inv (h := fun x => .double (FP.i2d x)) hs
    exact lv_i2d hx hb hd (kk H locs ls (fun _ => Nat.le_refl _) hM hl)
  case l2d =>
    obtain ⟨pc, L, x, st, μ, rfl, rfl⟩ := gJ1_inv (h := fun x => .double (FP.l2d x)) hs
    exact lv_l2d hx hb hd (kk H locs ls (fun _ => Nat.le_refl _) hM hl)
  case fdiv =>
    obtain ⟨pc, L, st, μ⟩ := f
    rcases st with _ | ⟨v, _ | ⟨w, st⟩⟩
    · exact nomatch (show (none : gO) = some (f', cs) from hs)
    · cases v <;> exact nomatch (show (none : gO) = some (f', cs) from hs)
    cases v
    case float y =>
      cases w
      case float x =>
        cases hs
        exact lv_fdiv hx hb hd hcs (kk H locs ls (fun _ => Nat.le_refl _) hM hl)
      all_goals (exact nomatch (show (none : gO) = some (f', cs) from hs))
    all_goals (exact nomatch (show (none : gO) = some (f', cs) from hs))
  case ddiv =>
    obtain ⟨pc, L, st, μ⟩ := f
    rcases st with _ | ⟨v, _ | ⟨w, st⟩⟩
    · exact nomatch (show (none : gO) = some (f', cs) from hs)
    · cases v <;> exact nomatch (show (none : gO) = some (f', cs) from hs)
    cases v
    case double y =>
      cases w
      case double x =>
        cases hs
        exact lv_ddiv hx hb hd hcs (kk H locs ls (fun _ => Nat.le_refl _) hM hl)
      all_goals (exact nomatch (show (none : gO) = some (f', cs) from hs))
    all_goals (exact nomatch (show (none : gO) = some (f', cs) from hs))
  case f2d =>
    obtain ⟨pc, L, st, μ⟩ := f
    rcases st with _ | ⟨v, st⟩
    · exact nomatch (show (none : gO) = some (f', cs) from hs)
    cases v
    case float y =>
      cases hs
      exact lv_f2d hx hb hd hcs (kk H locs ls (fun _ => Nat.le_refl _) hM hl)
    all_goals (exact nomatch (show (none : gO) = some (f', cs) from hs))
  case fcmp op =>
    obtain ⟨pc, L, st, μ⟩ := f
    rcases st with _ | ⟨v, _ | ⟨w, st⟩⟩
    · exact nomatch (show (none : gO) = some (f', cs) from hs)
    · cases v <;> exact nomatch (show (none : gO) = some (f', cs) from hs)
    cases v
    case float y =>
      cases w
      case float x =>
        cases hs
        exact lv_fcmp hx hb hd (kk H locs ls (fun _ => Nat.le_refl _) hM hl)
      all_goals (exact nomatch (show (none : gO) = some (f', cs) from hs))
    all_goals (exact nomatch (show (none : gO) = some (f', cs) from hs))
  case dcmp op =>
    obtain ⟨pc, L, st, μ⟩ := f
    rcases st with _ | ⟨v, _ | ⟨w, st⟩⟩
    · exact nomatch (show (none : gO) = some (f', cs) from hs)
    · cases v <;> exact nomatch (show (none : gO) = some (f', cs) from hs)
    cases v
    case double y =>
      cases w
      case double x =>
        cases hs
        exact lv_dcmp hx hb hd (kk H locs ls (fun _ => Nat.le_refl _) hM hl)
      all_goals (exact nomatch (show (none : gO) = some (f', cs) from hs))
    all_goals (exact nomatch (show (none : gO) = some (f', cs) from hs))
  case goto n =>
    obtain ⟨pc, L, st, μ⟩ := f
    have hs' : some ((a1, L, st, μ), []) = some (f', cs) := hs
    cases hs'
    exact lv_goto hx hb hd (of_decide_eq_true hc) (kk H locs ls (fun _ => Nat.le_refl _) hM hl)
  case ifCond cn off =>
    obtain ⟨pc, L, st, μ⟩ := f
    have hc' := of_decide_eq_true hc
    rcases st with _ | ⟨v, st⟩
    · exact nomatch (show (none : gO) = some (f', cs) from hs)
    cases v
    case int y =>
      have hs' : some ((if gCond cn y 0 = true then a1 else pc + 3, L, st, μ), []) = some (f', cs) := hs
      cases hs'
      have kt : gCond cn y 0 = true → W p l e R s m args below meth c H locs cells slots Q (F0 m a1 ls (st.map (gTr ad))) := fun h => by
        have h1 := kk H locs ls (fun _ => Nat.le_refl _) hM hl
        dsimp only at h1
        rw [if_pos h] at h1
        exact h1
      have kf : ¬ gCond cn y 0 = true → W p l e R s m args below meth c H locs cells slots Q (F0 m (pc + 3) ls (st.map (gTr ad))) := fun h => by
        have h1 := kk H locs ls (fun _ => Nat.le_refl _) hM hl
        dsimp only at h1
        rw [if_neg h] at h1
        exact h1
      cases cn
      case eq => exact lv_if_eq hx hb hd hc' (fun h => kt (decide_eq_true h)) (fun h => kf (fun h2 => h (of_decide_eq_true h2)))
      case ne => exact lv_if_ne hx hb hd hc' (fun h => kt (decide_eq_true h)) (fun h => kf (fun h2 => of_decide_eq_true h2 h))
      case lt => exact lv_if_lt hx hb hd hc' (fun h => kt (decide_eq_true h)) (fun h => kf (fun h2 => h (of_decide_eq_true h2)))
      case ge => exact lv_if_ge hx hb hd hc' (fun h => kt (decide_eq_true h)) (fun h => kf (fun h2 => h (of_decide_eq_true h2)))
      case gt => exact lv_if_gt hx hb hd hc' (fun h => kt (decide_eq_true h)) (fun h => kf (fun h2 => h (of_decide_eq_true h2)))
      case le => exact lv_if_le hx hb hd hc' (fun h => kt (decide_eq_true h)) (fun h => kf (fun h2 => h (of_decide_eq_true h2)))
    all_goals (exact nomatch (show (none : gO) = some (f', cs) from hs))
  case if_icmp cn off =>
    obtain ⟨pc, L, st, μ⟩ := f
    have hc' := of_decide_eq_true hc
    rcases st with _ | ⟨v, _ | ⟨w, st⟩⟩
    · exact nomatch (show (none : gO) = some (f', cs) from hs)
    · cases v <;> exact nomatch (show (none : gO) = some (f', cs) from hs)
    cases v
    case int y =>
      cases w
      case int x =>
        have hs' : some ((if gCond cn x y = true then a1 else pc + 3, L, st, μ), []) = some (f', cs) := hs
        cases hs'
        have kt : gCond cn x y = true → W p l e R s m args below meth c H locs cells slots Q (F0 m a1 ls (st.map (gTr ad))) := fun h => by
          have h1 := kk H locs ls (fun _ => Nat.le_refl _) hM hl
          dsimp only at h1
          rw [if_pos h] at h1
          exact h1
        have kf : ¬ gCond cn x y = true → W p l e R s m args below meth c H locs cells slots Q (F0 m (pc + 3) ls (st.map (gTr ad))) := fun h => by
          have h1 := kk H locs ls (fun _ => Nat.le_refl _) hM hl
          dsimp only at h1
          rw [if_neg h] at h1
          exact h1
        cases cn
        case eq => exact lv_icmp_eq hx hb hd hc' (fun h => kt (decide_eq_true h)) (fun h => kf (fun h2 => h (of_decide_eq_true h2)))
        case ne => exact lv_icmp_ne hx hb hd hc' (fun h => kt (decide_eq_true h)) (fun h => kf (fun h2 => of_decide_eq_true h2 h))
        case lt => exact lv_icmp_lt hx hb hd hc' (fun h => kt (decide_eq_true h)) (fun h => kf (fun h2 => h (of_decide_eq_true h2)))
        case ge => exact lv_icmp_ge hx hb hd hc' (fun h => kt (decide_eq_true h)) (fun h => kf (fun h2 => h (of_decide_eq_true h2)))
        case gt => exact lv_icmp_gt hx hb hd hc' (fun h => kt (decide_eq_true h)) (fun h => kf (fun h2 => h (of_decide_eq_true h2)))
        case le => exact lv_icmp_le hx hb hd hc' (fun h => kt (decide_eq_true h)) (fun h => kf (fun h2 => h (of_decide_eq_true h2)))
      all_goals (exact nomatch (show (none : gO) = some (f', cs) from hs))
    all_goals (exact nomatch (show (none : gO) = some (f', cs) from hs))
  case caload =>
    obtain ⟨pc, L, i, q, st, μ, n, rfl, hq, rfl, rfl⟩ := gALd_inv (t := 1) hs
    exact va_cald hx hb hK hM.1 q 1 (gWd_get hq) rfl hcs hd (kk H locs ls (fun _ => Nat.le_refl _) hM hl)
  case baload =>
    obtain ⟨pc, L, i, q, st, μ, n, rfl, hq, rfl, rfl⟩ := gALd_inv (t := 2) hs
    exact va_zald hx hb hK hM.1 q 2 (gWd_get hq) rfl hcs hd (kk H locs ls (fun _ => Nat.le_refl _) hM hl)
  case laload =>
    obtain ⟨pc, L, i, q, st, μ, n, rfl, hq, rfl, rfl⟩ := gALd_inv (t := 3) hs
    exact va_lald hx hb hK hM.1 q 3 (gWd_get hq) rfl hcs hd (kk H locs ls (fun _ => Nat.le_refl _) hM hl)
  case iaload =>
    cases scr with
    | none =>
      obtain ⟨pc, L, i, q, st, μ, n, rfl, hq, rfl, rfl⟩ := gALd_inv (t := 0) hs
      exact va_iald hx hb hK hM.1 q 0 (gWd_get hq) rfl hcs hd (kk H locs ls (fun _ => Nat.le_refl _) hM hl)
    | some sc =>
      obtain ⟨SL, xs⟩ := sc
      obtain ⟨hX1, hX2, hX3, hX4, ⟨va9, hX5⟩, hX6⟩ := hscr SL xs rfl
      have hs' : gALd (some (SL, xs)) 0 f = some (f', cs) := hs
      unfold gALd at hs'
      split at hs'
      · rename_i pc L i q st μ
        split at hs'
        · rename_i hq
          subst hq
          cases hs'
          exact va_sld hx hb hX1 hX2 hX3 hM.2.2 hcs hd (kk H locs ls (fun _ => Nat.le_refl _) hM hl)
        · split at hs'
          · rename_i t' n hn
            split at hs'
            · rename_i ht
              subst ht
              cases hs'
              exact va_iald hx hb hK hM.1 q 0 (gWd_get (gArr_inv hn)) rfl hcs hd (kk H locs ls (fun _ => Nat.le_refl _) hM hl)
            · cases hs'
          · cases hs'
      · cases hs'
  case arraylength =>
    have hs' : gALen scr f = some (f', cs) := hs
    unfold gALen at hs'
    split at hs'
    · rename_i pc L q st μ
      split at hs'
      · rename_i hq
        subst hq
        split at hs'
        · rename_i SL xs
          cases hs'
          obtain ⟨hX1, hX2, hX3, hX4, ⟨va9, hX5⟩, hX6⟩ := hscr SL xs rfl
          exact va_slen hx hb hX1 hX2 hX3 hM.2.2 hd (kk H locs ls (fun _ => Nat.le_refl _) hM hl)
        · cases hs'
      · split at hs'
        · rename_i t n hn
          cases hs'
          have ht : ∃ (t0 : Nat) (ty : FieldType), (gTys cA)[t0]? = some (cA t, ty) := gTys_at hn
          obtain ⟨t0, ty, ht⟩ := ht
          exact va_alen hx hb hK hM.1 q t0 (gWd_get (gArr_inv hn)) ht rfl hd (kk H locs ls (fun _ => Nat.le_refl _) hM hl)
        · cases hs'
    · cases hs'
  case iastore =>
    obtain ⟨pc, L, x, i, q, st, μ, n, rfl, hq, rfl, rfl⟩ := gIst_inv (t := 0) (g := fun x => x) hs
    refine va_iast hx hb hK hM.1 hM.2.1 hM.2.2 q 0 (gWd_get hq) rfl hcs hd (fun H1 locs1 hP hD hS => ?_)
    have e : (gWd cA ad μ).set q (ad q, gCell cA ad (gsI μ q i.toNatClampNeg ((fun x => x) x)) q (.inr (0, n))) = gWd cA ad (gsI μ q i.toNatClampNeg ((fun x => x) x)) := gWd_set hq (fun a ha => gsI_off ha)
    have e2 : gCell cA ad (gsI μ q i.toNatClampNeg ((fun x => x) x)) q (.inr (0, n)) = .inl (cA 0, n, .inl (upd (μ.1 q) i.toNatClampNeg ((fun x => x) x))) := by
      show (.inl (cA 0, n, .inl ((gsI μ q i.toNatClampNeg ((fun x => x) x)).1 q)) : va_E) = _
      rw [gsI_at]
    rw [e2] at e
    exact kk H1 locs1 ls (fun h9 => Bool.noConfusion (show false = true from h9)) ⟨e ▸ hP, e ▸ hD, hS⟩ hl
  case castore =>
    obtain ⟨pc, L, x, i, q, st, μ, n, rfl, hq, rfl, rfl⟩ := gIst_inv (t := 1) (g := vp_nar .char) hs
    refine va_cast hx hb hK hM.1 hM.2.1 hM.2.2 q 1 (gWd_get hq) rfl hcs hd (fun H1 locs1 hP hD hS => ?_)
    have e : (gWd cA ad μ).set q (ad q, gCell cA ad (gsI μ q i.toNatClampNeg ((vp_nar .char) x)) q (.inr (1, n))) = gWd cA ad (gsI μ q i.toNatClampNeg ((vp_nar .char) x)) := gWd_set hq (fun a ha => gsI_off ha)
    have e2 : gCell cA ad (gsI μ q i.toNatClampNeg ((vp_nar .char) x)) q (.inr (1, n)) = .inl (cA 1, n, .inl (upd (μ.1 q) i.toNatClampNeg ((vp_nar .char) x))) := by
      show (.inl (cA 1, n, .inl ((gsI μ q i.toNatClampNeg ((vp_nar .char) x)).1 q)) : va_E) = _
      rw [gsI_at]
    rw [e2] at e
    exact kk H1 locs1 ls (fun h9 => Bool.noConfusion (show false = true from h9)) ⟨e ▸ hP, e ▸ hD, hS⟩ hl
  case bastore =>
    obtain ⟨pc, L, x, i, q, st, μ, n, rfl, hq, rfl, rfl⟩ := gIst_inv (t := 2) (g := vp_nar .boolean) hs
    refine va_zast hx hb hK hM.1 hM.2.1 hM.2.2 q 2 (gWd_get hq) rfl hcs hd (fun H1 locs1 hP hD hS => ?_)
    have e : (gWd cA ad μ).set q (ad q, gCell cA ad (gsI μ q i.toNatClampNeg ((vp_nar .boolean) x)) q (.inr (2, n))) = gWd cA ad (gsI μ q i.toNatClampNeg ((vp_nar .boolean) x)) := gWd_set hq (fun a ha => gsI_off ha)
    have e2 : gCell cA ad (gsI μ q i.toNatClampNeg ((vp_nar .boolean) x)) q (.inr (2, n)) = .inl (cA 2, n, .inl (upd (μ.1 q) i.toNatClampNeg ((vp_nar .boolean) x))) := by
      show (.inl (cA 2, n, .inl ((gsI μ q i.toNatClampNeg ((vp_nar .boolean) x)).1 q)) : va_E) = _
      rw [gsI_at]
    rw [e2] at e
    exact kk H1 locs1 ls (fun h9 => Bool.noConfusion (show false = true from h9)) ⟨e ▸ hP, e ▸ hD, hS⟩ hl
  case lastore =>
    have hs' : gJst f = some (f', cs) := hs
    unfold gJst at hs'
    split at hs'
    · rename_i pc L x i q st μ
      split at hs'
      · cases hs'
      · split at hs'
        · rename_i t' n hn
          split at hs'
          · rename_i ht
            subst ht
            cases hs'
            have hq := gArr_inv hn
            refine va_last hx hb hK hM.1 hM.2.1 hM.2.2 q 3 (gWd_get hq) rfl hcs hd (fun H1 locs1 hP hD hS => ?_)
            have e : (gWd cA ad μ).set q (ad q, gCell cA ad (gsJ μ q i.toNatClampNeg x) q (.inr (3, n))) = gWd cA ad (gsJ μ q i.toNatClampNeg x) := gWd_set hq (fun a ha => gsJ_off ha)
            have e2 : gCell cA ad (gsJ μ q i.toNatClampNeg x) q (.inr (3, n)) = .inl (cA 3, n, .inr (.inl (vp_updL (μ.2.1 q) i.toNatClampNeg x))) := by
              show (.inl (cA 3, n, .inr (.inl ((gsJ μ q i.toNatClampNeg x).2.1 q))) : va_E) = _
              rw [gsJ_at]
            rw [e2] at e
            exact kk H1 locs1 ls (fun h9 => Bool.noConfusion (show false = true from h9)) ⟨e ▸ hP, e ▸ hD, hS⟩ hl
          · cases hs'
        · cases hs'
    · cases hs'
  case getfield n =>
    have hs' : gGet a1 a2 f = some (f', cs) := hs
    unfold gGet at hs'
    split at hs'
    · rename_i pc L q st μ
      split at hs'
      · cases hs'
      · split at hs'
        · rename_i ci ks hks
          split at hs'
          · rename_i hci
            subst hci
            split at hs'
            · rename_i kd hkd
              cases hs'
              have hc' : (match gCl[ci]? with
                | some q => decide (a2 < q.2.2 ∧ gW a3 = some (.fieldLink (mOw k) n (q.2.1 a2).1 (q.2.1 a2).2.1 (q.2.1 a2).2.2.1))
                | none => false) = true := hc
              split at hc'
              · rename_i w hw
                obtain ⟨h1, h2⟩ := of_decide_eq_true hc'
                obtain ⟨C9, T9, N9⟩ := w
                exact va_get hx hb hts (gTyN hw).1 hown hK hM.1 q (gWd_get (gObj_inv hks)) hw a2 h1 (hts _ (gG_W h2 rfl)) (fun _ h9 => h9) (v := gTr ad (gFa μ q a2 kd)) (by rw [List.getElem?_mapIdx, hkd]; rfl) hd (kk H locs ls (fun _ => Nat.le_refl _) hM hl)
              · cases hc'
            · cases hs'
          · cases hs'
        · cases hs'
    · cases hs'
  case putfield n =>
    have hs' : gPut a1 a2 f = some (f', cs) := hs
    obtain ⟨pc, L, v, q, st, μ, μ', ks, kd, hf, hf', hq, hkd, hty, hoff, hfv⟩ := gPut_inv (ad := ad) hs' hcs
    subst hf
    subst hf'
    have hc' : (match gCl[a1]? with
      | some q => decide (a2 < q.2.2 ∧ (q.2.1 a2).2.2.2 = false ∧ gW a3 = some (.fieldLink (mOw k) n (q.2.1 a2).1 (q.2.1 a2).2.1 (q.2.1 a2).2.2.1))
      | none => false) = true := hc
    split at hc'
    · rename_i w hw
      obtain ⟨h1, h2, h3⟩ := of_decide_eq_true hc'
      obtain ⟨C9, T9, N9⟩ := w
      obtain ⟨ty9, hty9⟩ := (gTyN hw).2.2
      have hl9 : a2 < (ks.mapIdx (fun j kd => gTr ad (gFa μ q j kd))).length := by
        rw [List.length_mapIdx]
        exact (List.getElem?_eq_some_iff.mp hkd).1
      obtain ⟨ty, hd1, hd2, hd3⟩ := hty C9 T9 N9 hw h1
      refine va_put hx hb hts (gTyN hw).1 ty9 hty9 (gTyN hw).2.1 hown hK hM.1 hM.2.1 hM.2.2 q (gWd_get hq) hw a2 h1 (hts _ (gG_W h3 rfl)) (fun _ h9 => h9) h2 hd1 hd2 hd3 hl9 hd (fun H1 locs1 hP hD hS => ?_)
      have e : (gWd cA ad μ).set q (ad q, gCell cA ad μ' q (.inl (a1, ks))) = gWd cA ad μ' := gWd_set hq hoff
      have e2 : gCell cA ad μ' q (.inl (a1, ks)) = .inr (a1, (ks.mapIdx (fun j kd => gTr ad (gFa μ q j kd))).set a2 (gTr ad v)) := by
        show (.inr (a1, ks.mapIdx (fun j kd => gTr ad (gFa μ' q j kd))) : va_E) = _
        rw [hfv]
      rw [e2] at e
      exact kk H1 locs1 ls (fun h9 => Bool.noConfusion (show false = true from h9)) ⟨e ▸ hP, e ▸ hD, hS⟩ hl
    · cases hc'
  case tableswitch d lo hi offs =>
    obtain ⟨pc, L, st, μ⟩ := f
    rcases st with _ | ⟨v, st⟩
    · exact nomatch (show (none : gO) = some (f', cs) from hs)
    cases v
    case int x =>
      have hs' : (match (if x.toInt < lo ∨ hi < x.toInt then some d else offs[(x.toInt - lo).toNat]?) with
          | some o => some ((((pc : Int) + o).toNat, L, st, μ), [0 ≤ (pc : Int) + o])
          | none => none) = some (f', cs) := hs
      split at hs'
      · rename_i o ho
        cases hs'
        have hcs' : 0 ≤ (pc : Int) + o := hcs
        split at ho
        · rename_i h1
          cases ho
          exact lv_tableOut hx hb hd h1 (by simp only; omega) (kk H locs ls (fun _ => Nat.le_refl _) hM hl)
        · rename_i h1
          rw [not_or] at h1
          exact lv_tableIn hx hb hd h1.1 h1.2 ho (by simp only; omega) (kk H locs ls (fun _ => Nat.le_refl _) hM hl)
      · cases hs'
    all_goals (exact nomatch (show (none : gO) = some (f', cs) from hs))
  case invokevirtual i =>
    have hW9 : ∀ st : List Value, ((st.map (gTr ad)).map fun v => v.category).sum = (st.map fun v => v.category).sum := fun st => by
      rw [List.map_map, show ((fun v : Value => v.category) ∘ gTr ad) = (fun v : Value => v.category) from funext (fun v => gTr_cat ad v)]
    have hz : c.maxLocals = ls.size := by rw [hml]; exact hl.1.symm
    have hs' : gStM scr a2 cv f = some (f', cs) := hs
    unfold gStM at hs'
    split at hs'
    · rename_i sc9 pc L q st μ
      split at hs'
      · rename_i hq
        subst hq
        obtain ⟨SL, xs⟩ := sc9
        cases hs'
        obtain ⟨hX1, hX2, hX3, hX4, ⟨va9, hX5⟩, hX6⟩ := hscr SL xs rfl
        have hc' : decide (gW a3 = some (.methodLink (mOw k) i ⟨"java/lang/String", "length", "()I"⟩) ∧ 10 ≤ (mFr k).1 ∧ 200 ≤ (mFr k).2 ∧ mOw k = "GlyphmillLaw") = true := hc
        obtain ⟨c1, c2, c3, c4⟩ := of_decide_eq_true hc'
        rw [c4] at c1 hown
        exact sp_length hx hb (hml.trans rfl) hown hts hl.1 hX5 hM.2.2 hA ⟨by rw [hR.1]; exact c2, by rw [hR.2]; exact c3⟩ hC (by rw [hW9]; exact hcs) c1 hd (fun H1 locs1 g1 g2 g3 => kk H1 locs1 ls (fun _ => g1) ⟨hM.1.kept (fun j z hj => g2 z.1 (hM.1 j z hj).lt), hM.2.1, g3⟩ hl)
      · cases hs'
    · rename_i sc9 pc L x9 q st μ
      split at hs'
      · rename_i hq
        subst hq
        obtain ⟨SL, xs⟩ := sc9
        cases hs'
        obtain ⟨hX1, hX2, hX3, hX4, ⟨va9, hX5⟩, hX6⟩ := hscr SL xs rfl
        have hc' : decide (gW a3 = some (.methodLink (mOw k) i ⟨"java/lang/String", "charAt", "(I)C"⟩) ∧ 10 ≤ (mFr k).1 ∧ 200 ≤ (mFr k).2 ∧ mOw k = "GlyphmillLaw") = true := hc
        obtain ⟨c1, c2, c3, c4⟩ := of_decide_eq_true hc'
        rw [c4] at c1 hown
        exact sp_charAt hx hb (hml.trans rfl) hown hts hl.1 hX5 hM.2.2 hA ⟨by rw [hR.1]; exact c2, by rw [hR.2]; exact c3⟩ hC (by rw [hW9]; exact hcs.1) hcs.2 c1 hd (fun H1 locs1 g1 g2 g3 => kk H1 locs1 ls (fun _ => g1) ⟨hM.1.kept (fun j z hj => g2 z.1 (hM.1 j z hj).lt), hM.2.1, g3⟩ hl)
      · cases hs'
    · cases hs'
  case invokestatic i =>
    by_cases h8 : cv = .int 8
    · subst h8
      have hs' : gAtS scr f = some (f', cs) := hs
      unfold gAtS at hs'
      split at hs'
      · rename_i SL xs pc L x9 q st μ
        split at hs'
        · rename_i hq
          subst hq
          cases hs'
          obtain ⟨hX1, hX2, hX3, hX4, ⟨va9, hX5⟩, hX6⟩ := hscr SL xs rfl
          have hW9 : ∀ st : List Value, ((st.map (gTr ad)).map fun v => v.category).sum = (st.map fun v => v.category).sum := fun st => by
            rw [List.map_map, show ((fun v : Value => v.category) ∘ gTr ad) = (fun v : Value => v.category) from funext (fun v => gTr_cat ad v)]
          have hc' : decide (gW a3 = some (.methodLink (mOw k) i ⟨"GlyphmillLaw", "at", "([II)I"⟩) ∧ 10 ≤ (mFr k).1 ∧ 200 ≤ (mFr k).2 ∧ mOw k = "GlyphmillLaw") = true := hc
          obtain ⟨c1, c2, c3, c4⟩ := of_decide_eq_true hc'
          rw [c4] at c1 hown
          exact sp_at hx hb (hml.trans rfl) hown hts hl.1 hX1 hX2 hX3 hX4 hM.2.2 hA ⟨by rw [hR.1]; exact c2, by rw [hR.2]; exact c3⟩ hC (by rw [hW9]; exact hcs.1) (Int32.not_lt.mpr hcs.2) c1 hd (fun H1 locs1 g1 g2 g3 => kk H1 locs1 ls (fun _ => g1) ⟨hM.1.kept (fun j z hj => g2 z.1 (hM.1 j z hj).lt), hM.2.1, g3⟩ hl)
        · cases hs'
      · cases hs'
    have hs' : gMath cv f = some (f', cs) := by
      have h9 := hs
      unfold gStp at h9
      dsimp only at h9
      split at h9
      · exact absurd rfl h8
      · exact h9
    unfold gMath at hs'
    have hW9 : ∀ st : List Value, ((st.map (gTr ad)).map fun v => v.category).sum = (st.map fun v => v.category).sum := fun st => by
      rw [List.map_map, show ((fun v : Value => v.category) ∘ gTr ad) = (fun v : Value => v.category) from funext (fun v => gTr_cat ad v)]
    have hz : c.maxLocals = ls.size := by rw [hml]; exact hl.1.symm
    split at hs'
    · rename_i pc L y x st μ
      cases hs'
      have hcs' : (st.map fun v => v.category).sum ≤ 8 := hcs
      obtain ⟨c1, c2, c3⟩ : gW a3 = some (.methodLink (mOw k) i Lib.Math.max.name) ∧ 1 ≤ (mFr k).1 ∧ 21 ≤ (mFr k).2 := of_decide_eq_true hc
      exact va_mmax hx hb hz hown (hts _ (gG_W c1 rfl)) (hts _ (gG_Ma (by simp))) (hts _ (gG_Ma (by simp))) (hts _ (gG_Ma (by simp))) (by rw [hR.1]; exact c2) (by rw [hW9, hR.2]; omega) hC.1 hC.2 hd (kk H locs ls (fun _ => Nat.le_refl _) hM hl)
    · rename_i pc L y x st μ
      cases hs'
      have hcs' : (st.map fun v => v.category).sum ≤ 8 := hcs
      obtain ⟨c1, c2, c3⟩ : gW a3 = some (.methodLink (mOw k) i Lib.Math.min.name) ∧ 1 ≤ (mFr k).1 ∧ 21 ≤ (mFr k).2 := of_decide_eq_true hc
      exact va_mmin hx hb hz hown (hts _ (gG_W c1 rfl)) (hts _ (gG_Ma (by simp))) (hts _ (gG_Ma (by simp))) (hts _ (gG_Ma (by simp))) (by rw [hR.1]; exact c2) (by rw [hW9, hR.2]; omega) hC.1 hC.2 hd (kk H locs ls (fun _ => Nat.le_refl _) hM hl)
    · rename_i pc L x st μ
      cases hs'
      have hcs' : (st.map fun v => v.category).sum ≤ 8 := hcs
      obtain ⟨c1, c2, c3⟩ : gW a3 = some (.methodLink (mOw k) i Lib.Math.abs.name) ∧ 1 ≤ (mFr k).1 ∧ 21 ≤ (mFr k).2 := of_decide_eq_true hc
      exact va_mabs hx hb hz hown (hts _ (gG_W c1 rfl)) (hts _ (gG_Ma (by simp))) (hts _ (gG_Ma (by simp))) (hts _ (gG_Ma (by simp))) (by rw [hR.1]; exact c2) (by rw [hW9, hR.2]; omega) hC.1 hC.2 hd (kk H locs ls (fun _ => Nat.le_refl _) hM hl)
    · rename_i pc L y x st μ
      cases hs'
      have hcs' : (st.map fun v => v.category).sum ≤ 8 := hcs
      obtain ⟨c1, c2, c3⟩ : gW a3 = some (.methodLink (mOw k) i Lib.MathLoose.min_long.x) ∧ 1 ≤ (mFr k).1 ∧ 23 ≤ (mFr k).2 := of_decide_eq_true hc
      exact va_mmin_long hx hb hz hown (hts _ (gG_W c1 rfl)) (hts _ (gG_Ma (by simp))) (hts _ (gG_Ma (by simp))) (hts _ (gG_Ma (by simp))) (by rw [hR.1]; exact c2) (by rw [hW9, hR.2]; omega) hC.1 hC.2 hd (kk H locs ls (fun _ => Nat.le_refl _) hM hl)
    · cases hs'
  all_goals (exact nomatch (show (none : gO) = some (f', cs) from hs))
end GSTEP
end
section
/-! CONTRACTS: what a method of the small machine says of the machine's method -/
def gNe : List Cond := [.methodLinkNest "Glyphmill$Text" 19 ⟨"Glyphmill", "isMark", "(I)Z"⟩ "Glyphmill", .methodLinkNest "Glyphmill$Sequence" 36 ⟨"Glyphmill", "isMark", "(I)Z"⟩ "Glyphmill", .methodLinkNest "Glyphmill$Sequence" 48 ⟨"Glyphmill", "isOdd", "(I)Z"⟩ "Glyphmill", .methodLinkNest "Glyphmill$Levels" 56 ⟨"Glyphmill", "isOdd", "(I)Z"⟩ "Glyphmill", .methodLinkNest "Glyphmill$Levels" 64 ⟨"Glyphmill", "isLetter", "(I)Z"⟩ "Glyphmill", .methodLinkNest "Glyphmill$Levels" 67 ⟨"Glyphmill", "isLeftLetter", "(I)Z"⟩ "Glyphmill", .methodLinkNest "Glyphmill$Levels" 70 ⟨"Glyphmill", "isDigit", "(I)Z"⟩ "Glyphmill", .methodLinkNest "Glyphmill$Runs" 41 ⟨"Glyphmill", "isLetter", "(I)Z"⟩ "Glyphmill", .methodLinkNest "Glyphmill$Runs" 54 ⟨"Glyphmill", "isRightLetter", "(I)Z"⟩ "Glyphmill", .methodLinkNest "Glyphmill$Rows" 117 ⟨"Glyphmill", "isOdd", "(I)Z"⟩ "Glyphmill", .methodLinkNest "Glyphmill$Font" 35 ⟨"Glyphmill", "isLetter", "(I)Z"⟩ "Glyphmill"]
def gNm : List String := ["java/lang/RuntimeException", "java/lang/Exception"]
def gDe : List Cond := [.declares ⟨"java/lang/RuntimeException", "<init>", "(Ljava/lang/String;)V"⟩, .declares ⟨"java/lang/Exception", "<init>", "(Ljava/lang/String;)V"⟩, .declares ⟨"java/lang/Throwable", "<init>", "(Ljava/lang/String;)V"⟩]
def gThrOk (q : Nat × Nat × Nat × Nat × Nat × Nat × Bool × String) : Bool :=
  Bundle.fit (gEx q.2.2.1) && gNm.all Bundle.fit && decide (Cond.classLink "Glyphmill" q.2.2.2.1 (gEx q.2.2.1) ∈ lw_tbl) && decide (Cond.initialized (gEx q.2.2.1) ∈ lw_tbl) &&
  ((vx_atS "Glyphmill" q.2.2.2.2.2.1 (gEx q.2.2.1) gNm).all fun w => decide (w ∈ gDe) || decide (w = .castable (gEx q.2.2.1) (gEx q.2.2.1)) || (goodWord w && decide (w ∈ lw_tbl))) &&
  ((Cond.classLink "Glyphmill" q.2.2.2.1 (gEx q.2.2.1) :: Cond.initialized (gEx q.2.2.1) :: vx_atS "Glyphmill" q.2.2.2.2.2.1 (gEx q.2.2.1) gNm).all vx_ot) &&
  decide (decode (mBy q.1) q.2.1 = .ok (.new q.2.2.2.1, 3)) && decide (decode (mBy q.1) (q.2.1 + 3) = .ok (.dup, 1)) &&
  (if q.2.2.2.2.2.2.1 then decide (decode (mBy q.1) (q.2.1 + 4) = .ok (.ldc_w q.2.2.2.2.1, 3)) && decide (decode (mBy q.1) (q.2.1 + 7) = .ok (.invokespecial q.2.2.2.2.2.1, 3)) && decide (decode (mBy q.1) (q.2.1 + 10) = .ok (.athrow, 1))
    else decide (decode (mBy q.1) (q.2.1 + 4) = .ok (.ldc q.2.2.2.2.1, 2)) && decide (decode (mBy q.1) (q.2.1 + 6) = .ok (.invokespecial q.2.2.2.2.2.1, 3)) && decide (decode (mBy q.1) (q.2.1 + 9) = .ok (.athrow, 1))) &&
  decide (mOw q.1 = "Glyphmill" ∧ 6 ≤ (mFr q.1).1 ∧ 82 ≤ (mFr q.1).2)
set_option maxRecDepth 100000 in
theorem gThr_0 : ((gThr[0]?).all fun q => decide (q.2.2.1 = 4) || gThrOk q) = true := by decide +kernel
set_option maxRecDepth 100000 in
theorem gThr_1 : ((gThr[1]?).all fun q => decide (q.2.2.1 = 4) || gThrOk q) = true := by decide +kernel
set_option maxRecDepth 100000 in
theorem gThr_2 : ((gThr[2]?).all fun q => decide (q.2.2.1 = 4) || gThrOk q) = true := by decide +kernel
set_option maxRecDepth 100000 in
theorem gThr_3 : ((gThr[3]?).all fun q => decide (q.2.2.1 = 4) || gThrOk q) = true := by decide +kernel
set_option maxRecDepth 100000 in
theorem gThr_4 : ((gThr[4]?).all fun q => decide (q.2.2.1 = 4) || gThrOk q) = true := by decide +kernel
set_option maxRecDepth 100000 in
theorem gThr_5 : ((gThr[5]?).all fun q => decide (q.2.2.1 = 4) || gThrOk q) = true := by decide +kernel
set_option maxRecDepth 100000 in
theorem gThr_6 : ((gThr[6]?).all fun q => decide (q.2.2.1 = 4) || gThrOk q) = true := by decide +kernel
set_option maxRecDepth 100000 in
theorem gThr_7 : ((gThr[7]?).all fun q => decide (q.2.2.1 = 4) || gThrOk q) = true := by decide +kernel
set_option maxRecDepth 100000 in
theorem gThr_8 : ((gThr[8]?).all fun q => decide (q.2.2.1 = 4) || gThrOk q) = true := by decide +kernel
set_option maxRecDepth 100000 in
theorem gThr_9 : ((gThr[9]?).all fun q => decide (q.2.2.1 = 4) || gThrOk q) = true := by decide +kernel
set_option maxRecDepth 100000 in
theorem gThr_10 : ((gThr[10]?).all fun q => decide (q.2.2.1 = 4) || gThrOk q) = true := by decide +kernel
set_option maxRecDepth 100000 in
theorem gThr_11 : ((gThr[11]?).all fun q => decide (q.2.2.1 = 4) || gThrOk q) = true := by decide +kernel
set_option maxRecDepth 100000 in
theorem gThr_12 : ((gThr[12]?).all fun q => decide (q.2.2.1 = 4) || gThrOk q) = true := by decide +kernel
set_option maxRecDepth 100000 in
theorem gThr_13 : ((gThr[13]?).all fun q => decide (q.2.2.1 = 4) || gThrOk q) = true := by decide +kernel
set_option maxRecDepth 100000 in
theorem gThr_14 : ((gThr[14]?).all fun q => decide (q.2.2.1 = 4) || gThrOk q) = true := by decide +kernel
theorem gThr_ok : (gThr.all fun q => decide (q.2.2.1 = 4) || gThrOk q) = true := by
  rw [List.all_eq_true]
  intro q hq
  obtain ⟨i, hi⟩ := List.getElem?_of_mem hq
  have hl : i < 15 := (List.getElem?_eq_some_iff.mp hi).1
  have key : ((gThr[i]?).all fun q => decide (q.2.2.1 = 4) || gThrOk q) = true := by
    match i, hl with
    | 0, _ => exact gThr_0
    | 1, _ => exact gThr_1
    | 2, _ => exact gThr_2
    | 3, _ => exact gThr_3
    | 4, _ => exact gThr_4
    | 5, _ => exact gThr_5
    | 6, _ => exact gThr_6
    | 7, _ => exact gThr_7
    | 8, _ => exact gThr_8
    | 9, _ => exact gThr_9
    | 10, _ => exact gThr_10
    | 11, _ => exact gThr_11
    | 12, _ => exact gThr_12
    | 13, _ => exact gThr_13
    | 14, _ => exact gThr_14
  rw [hi] at key
  exact key
theorem gNe_form : ∀ w ∈ gNe, ∃ a i x h, w = Cond.methodLinkNest a i x h := by
  intro w hw
  simp only [gNe, List.mem_cons, List.not_mem_nil, or_false] at hw
  rcases hw with rfl | rfl | rfl | rfl | rfl | rfl | rfl | rfl | rfl | rfl | rfl <;> exact ⟨_, _, _, _, rfl⟩
theorem gDe_form : ∀ w ∈ gDe, ∃ x, w = Cond.declares x := by
  intro w hw
  simp only [gDe, List.mem_cons, List.not_mem_nil, or_false] at hw
  rcases hw with rfl | rfl | rfl <;> exact ⟨_, rfl⟩
/-- facts of the tables that are no good words -/
def gFx (s : State) : Prop := (∀ w ∈ gDe, va_Nw w s) ∧ (∀ w ∈ gNe, va_Nw w s) ∧ (∀ a b, a < 5 → b < 5 → a ≠ b → va_Nc (gEx a) (gEx b) s) ∧ (∀ a, a < 5 → va_Nw (.castable (gEx a) (gEx a)) s) ∧ ∀ q ∈ gThr, ∃ sa, vk_R "Glyphmill" q.2.2.2.2.1 q.2.2.2.2.2.2.2 sa s
theorem gFx_warm {s U : State} (hW : s.WarmedH U.vm) (h : gFx s) : gFx U := by
  refine ⟨fun w hw => ?_, fun w hw => ?_, fun a b h1 h2 h3 => (h.2.2.1 a b h1 h2 h3).moved hW.alike, fun a ha => va_Nw.warmC hW (h.2.2.2.1 a ha), fun q hq => ?_⟩
  · obtain ⟨x, rfl⟩ := gDe_form w hw
    exact va_Nw.warmD hW (h.1 _ hw)
  · obtain ⟨a, i, x, h9, rfl⟩ := gNe_form w hw
    exact va_Nw.warmM hW (h.2.1 _ hw)
  · obtain ⟨sa, h1⟩ := h.2.2.2.2 q hq
    exact ⟨sa, vk_R.warm hW h1⟩
theorem gFx_same {s U : State} (hv : U.vm = s.vm) (h : gFx s) : gFx U := gFx_warm (by rw [hv]; exact State.WarmedH.refl s) h
def gTh (A : Nat → Prop) (s : State) (H : Heap) : Prop := vx_Zq Bundle.tN "UNASSIGNED_STACK" Bundle.steD A s H ∧ vx_Zq Bundle.tN "SUPPRESSED_SENTINEL" Bundle.listD A s H
def mWs (k : Nat) : List Cond := (match mHh k with | [] => Cond.code (mY k) (mBy k) (mML k) (mRt k) | h => Cond.codeWith (mY k) (mBy k) (mML k) (mRt k) h) :: gG
def mRm (k : Nat) : Room := { frames := (mFr k).1, cells := mCo k, slots := 6 * mCo k, locals := (mFr k).2 }
def gPre (cA : Nat → ClassId) (ad : Nat → Nat) (dC : Nat → ClassId) (dI : Nat → Nat → Nat) (sz : Nat) (μ : gMu) (U : State) : Prop :=
  U.heap.size = sz ∧ va_P (dC, dI) gCl (gWd cA ad μ) U.heap ∧ va_K (dC, dI) gCl (gTys cA) U ∧ va_D (fun _ => True) (gWd cA ad μ) ∧ gFx U ∧ gTh (gA ad sz) U U.heap
theorem gPre_blind {cA : Nat → ClassId} {ad : Nat → Nat} {dC : Nat → ClassId} {dI : Nat → Nat → Nat} {sz : Nat} {μ : gMu} {av : List Value} : FrameBlind (va_Pc av (gPre cA ad dC dI sz μ)) := by
  intro a U g mk h
  obtain ⟨h0, h1, h2, h3, h4, h5, h6⟩ := h
  exact ⟨h0, h1, h2, va_K.moved (u := U) (U := U.calling g mk a) (Vm.Alike.refl U.vm) h3, h4, gFx_same (s := U) (U := U.calling g mk a) rfl h5, vx_Zq.moved (u := U) (U := U.calling g mk a) (Vm.Alike.refl U.vm) h6.1, vx_Zq.moved (u := U) (U := U.calling g mk a) (Vm.Alike.refl U.vm) h6.2⟩
def gQc (cA : Nat → ClassId) (ad : Nat → Nat) (dC : Nat → ClassId) (dI : Nat → Nat → Nat) (sz z : Nat) (res : gMu × gRes) : Array Value → State → Outcome → State → Prop := fun _ st o t =>
  (∃ v, res.2 = .inl v ∧ o = .returned (v.map (gTr ad))) ∧ va_P (dC, dI) gCl (gWd cA ad res.1) t.heap ∧ va_F (gA ad sz) st t ∧ sz + gGh res.1 ≤ t.heap.size + z
def gXC (cA : Nat → ClassId) (ad : Nat → Nat) (dC : Nat → ClassId) (dI : Nat → Nat → Nat) (sz z : Nat) (res : gMu × gRes) : String → State → State → Prop := fun E st t =>
  (∃ x, res.2 = .inr x ∧ x < 5 ∧ E = gEx x) ∧ va_P (dC, dI) gCl (gWd cA ad res.1) t.heap ∧ va_F (gA ad sz) st t ∧ sz + gGh res.1 + 1 ≤ t.heap.size + z
/-- the contract of method k at these arguments, this memory, this result -/
def gCt (l : Launch) (k : Nat) (as : List Value) (μ : gMu) (res : gMu × gRes) : Prop := ∀ cA ad dC dI sz,
  vx_Met l (mY k) (mWs k) (mRm k) (va_Pc (as.map (gTr ad)) (gPre cA ad dC dI sz μ)) (gQc cA ad dC dI sz (gGh μ) res) (gXC cA ad dC dI sz (gGh μ) res) (mCo k) (6 * mCo k) (gA ad sz)
theorem gG_in {ws : List Cond} (h : ∀ w ∈ ws, w ∈ gG) : GoodIn gG ws := fun w hw => ⟨h w hw, good_of_word (List.mem_filter.mp (h w hw)).2⟩
theorem gG_P {w : Cond} {pos : Nat} (h : lw_tbl[pos]? = some w) (hg : goodWord w = true) : w ∈ gG := List.mem_filter.mpr ⟨List.mem_of_getElem? h, hg⟩
/-- a method's facts -/
theorem gMf {k : Nat} (hk : k < 166) : (∀ w ∈ mWs k, w ∈ gG) ∧ Cond.initialized (mY k).cls ∈ gG ∧ (mSta k = true → Cond.static (mY k) ∈ gG) ∧ (mSta k = false → Cond.instanceMethod (mY k) ∈ gG ∧ Cond.selects (mY k).cls (mY k) (mY k) ∈ gG ∧ ∃ q, gCl[mCi k]? = some q ∧ q.1 = (mY k).cls) ∧
    ((mY k).cls ≠ "java/lang/invoke/MethodHandle" ∧ (mY k).cls ≠ "java/lang/invoke/VarHandle" ∧ (parseMethodDescriptor (mY k).desc).map (fun d => d.parameters.length) = some (mNp k)) ∧ plainName (mY k).cls = true := by
  have h := g_mok hk
  unfold gMok at h
  simp only [Bool.and_eq_true, decide_eq_true_eq] at h
  obtain ⟨⟨⟨⟨h1, h2⟩, h3⟩, h4⟩, h5⟩ := h
  refine ⟨?_, gG_P h2 rfl, fun hs => ?_, fun hs => ?_, h4, h5⟩
  · intro w hw
    unfold mWs at hw
    rcases List.mem_cons.mp hw with rfl | hw
    · refine gG_P h1 ?_
      split <;> rfl
    · exact hw
  · rw [if_pos hs] at h3
    exact gG_P (of_decide_eq_true h3) rfl
  · rw [hs] at h3
    simp only [Bool.false_eq_true, if_false, Bool.and_eq_true, decide_eq_true_eq] at h3
    obtain ⟨⟨h6, h7⟩, h8⟩ := h3
    refine ⟨gG_P h6 rfl, gG_P h7 rfl, ?_⟩
    cases hq : gCl[mCi k]? with
    | none => rw [hq] at h8; cases h8
    | some q => rw [hq] at h8; exact ⟨q, rfl, Option.some.inj h8⟩
theorem gNe_bool : (tables_1.all fun w => match w with | .methodLinkNest _ _ x _ => decide (x.name = "<init>") || decide (w ∈ gNe) | _ => true) = true := by decide +kernel
theorem gNm_bool : ((List.range 166).all fun k => decide ((mY k).name ≠ "<init>")) = true := by decide +kernel
theorem gNe_all {o h : String} {i k pos : Nat} (hw : gW pos = some (.methodLinkNest o i (mY k) h)) (hk : k < 166) : Cond.methodLinkNest o i (mY k) h ∈ gNe := by
  have h1 := List.all_eq_true.mp gNe_bool _ (List.mem_of_getElem? hw)
  have h2 := of_decide_eq_true (List.all_eq_true.mp gNm_bool k (List.mem_range.mpr hk))
  simp only [Bool.or_eq_true, decide_eq_true_eq] at h1
  exact h1.resolve_left h2
section GCALL
variable {p : Program} {l : Launch} {e : Env} {R : Room} {s : State} {m : MethodId} {args : Array Value} {below : List Frame} {meth : Method} {c : Code} {H : Heap} {locs : List Loc} {cells slots : Nat} {Q : State → Prop}
variable {k : Nat} {cA : Nat → ClassId} {ad : Nat → Nat} {dC : Nat → ClassId} {dI : Nat → Nat → Nat} {A : Nat → Prop} {scr : gScr} {ls : Array Slot}
/-- what a callee finds -/
theorem gPre_at {μ : gMu} {U : State} (hK : va_K (dC, dI) gCl (gTys cA) s) (hA : ∀ q, s.heap.size ≤ q → A q) (hM : gM cA ad dC dI A s μ H locs) (fx : gFx s) (th : gTh A s s.heap) (hU : U.heap = H) (hW : s.WarmedH U.vm) : gPre cA ad dC dI H.size μ U := by
  have hsub : ∀ q, gA ad H.size q → A q := gA_sub hM.2.1 (fun q hq => hA q (Nat.le_trans hM.2.2.1 hq))
  refine ⟨by rw [hU], by rw [hU]; exact hM.1, va_K.moved hW.alike hK, hM.2.1.weaken (fun _ _ _ _ => trivial), gFx_warm hW fx, ?_, ?_⟩
  · rw [hU]
    exact vx_Zq.moved hW.alike ((th.1.kept hM.2.2.2.1).narrow hsub)
  · rw [hU]
    exact vx_Zq.moved hW.alike ((th.2.kept hM.2.2.2.1).narrow hsub)
theorem g_runV {r : gR} {i pc q k' : Nat} {A1 rest : List Value} {ks : List (Nat × Nat)} {μ : gMu} {res : gMu × gRes} {L0 : gL} (X : gX k p l e R s m args meth c cA ad dC dI A scr) (fx : gFx s) (th : gTh A s s.heap) (hM : gM cA ad dC dI A s μ H locs) (hl : gLh ls (mML k) ad L0)
    (hr : gAt k pc = some r) (hi : r.1 = .invokevirtual i) (hcv : r.2.2.2 = .int 0) (hk' : r.2.2.1.1 = k') (hk : k' < 166) (hnp : A1.length = r.2.2.1.2.1) (hq : gObj q = some (mCi k', ks)) (hct : gCt l k' (.ref q :: A1) μ res) (hh : mHh k' = [])
    (hR : R.frames = (mFr k).1 ∧ R.locals = (mFr k).2) (hcs : cells + mCo k' ≤ R.cells ∧ slots + 6 * mCo k' ≤ R.slots) (hW : (rest.map fun v => v.category).sum ≤ 8) :
    vx_Run p l e R s m args below meth c H locs cells slots (mCo k') (6 * mCo k') (F0 m pc ls ((A1.reverse ++ .ref q :: rest).map (gTr ad))) (rest.map (gTr ad)) (gQc cA ad dC dI H.size (gGh μ) res (Value.ref (ad q) :: A1.map (gTr ad)).toArray) (gXC cA ad dC dI H.size (gGh μ) res) (gA ad H.size) := by
  obtain ⟨hx, hb, hml, hown, hts, hK, hA, hscr⟩ := X
  obtain ⟨hd, hc⟩ := g_row hr
  obtain ⟨ins, len, ⟨a1, a2, a3⟩, cv⟩ := r
  dsimp only at hi hk' hnp hcv
  subst hi
  subst hcv
  subst hk'
  have hc' : decide (a2 = mNp a1 ∧ mSta a1 = false ∧ gW a3 = some (.methodLink (mOw k) i (mY a1)) ∧ (mFr a1).1 + 1 ≤ (mFr k).1 ∧ 8 + (mML a1 + 11) + (mFr a1).2 ≤ (mFr k).2) = true := hc
  obtain ⟨c1, c2, c3, c4, c5⟩ := of_decide_eq_true hc'
  obtain ⟨f1, f2, -, f4, f5, -⟩ := gMf hk
  obtain ⟨g1, g2, w, g3, g4⟩ := f4 c2
  have hws : mWs a1 = Cond.code (mY a1) (mBy a1) (mML a1) (mRt a1) :: gG := by unfold mWs; rw [hh]
  have hG : GoodIn gG (wsV (mOw k) i (mY a1).cls (mY a1) (mWs a1)) := gG_in (by
    intro w9 hw9
    unfold wsV at hw9
    simp only [List.cons_append, List.nil_append, List.mem_cons] at hw9
    rcases hw9 with rfl | rfl | rfl | rfl | hw9
    · exact gG_W c3 rfl
    · exact g1
    · exact g2
    · exact f2
    · exact f1 _ hw9)
  have hcat : ((rest.map (gTr ad)).map fun v => v.category).sum ≤ 8 := by
    rw [List.map_map, show ((fun v : Value => v.category) ∘ gTr ad) = (fun v : Value => v.category) from funext (fun v => gTr_cat ad v)]
    exact hW
  refine vx_runV (As := A1.map (gTr ad)) (n := mNp a1) ⟨hx, hb, hml, hown, hts⟩ (hct cA ad dC dI H.size) (cwV (mNp a1) hts hG hws rfl rfl ⟨rfl, f5⟩ ⟨by rw [hR.1]; exact c4, by rw [hR.2]; exact c5⟩) ⟨gPre_blind, ?_, fun U hU hW9 => ⟨rfl, gPre_at hK hA hM fx th hU hW9⟩⟩ rfl ?_ hl.1 ?_ (lv_room hcat) hd hcs
  · have := va_recv hK hM.1 g3 (gWd_get (gObj_inv hq))
    rwa [g4] at this
  · rw [List.length_map, hnp, c1]
  · show (A1.reverse ++ .ref q :: rest).map (gTr ad) = _
    simp [gTr]
theorem g_runS {r : gR} {i pc k' : Nat} {as rest : List Value} {μ : gMu} {res : gMu × gRes} {L0 : gL} (X : gX k p l e R s m args meth c cA ad dC dI A scr) (fx : gFx s) (th : gTh A s s.heap) (hM : gM cA ad dC dI A s μ H locs) (hl : gLh ls (mML k) ad L0)
    (hr : gAt k pc = some r) (hi : r.1 = .invokestatic i) (h01 : r.2.2.2 = .int 0 ∨ r.2.2.2 = .int 1) (hk' : r.2.2.1.1 = k') (hk : k' < 166) (hnp : as.length = r.2.2.1.2.1) (hct : gCt l k' as μ res)
    (hR : R.frames = (mFr k).1 ∧ R.locals = (mFr k).2) (hcs : cells + mCo k' ≤ R.cells ∧ slots + 6 * mCo k' ≤ R.slots) (hW : (rest.map fun v => v.category).sum ≤ 8) (hres : mCo k' = 0 → ∃ v, res.2 = .inl v) (hhN : r.2.2.2 = .int 1 → mHh k' = []) :
    vx_Run p l e R s m args below meth c H locs cells slots (mCo k') (6 * mCo k') (F0 m pc ls ((as.reverse ++ rest).map (gTr ad))) (rest.map (gTr ad)) (gQc cA ad dC dI H.size (gGh μ) res (as.map (gTr ad)).toArray) (gXC cA ad dC dI H.size (gGh μ) res) (gA ad H.size) := by
  obtain ⟨hx, hb, hml, hown, hts, hK, hA, hscr⟩ := X
  obtain ⟨hd, hc⟩ := g_row hr
  obtain ⟨ins, len, ⟨a1, a2, a3⟩, cv⟩ := r
  dsimp only at hi hk' hnp hhN
  subst hi
  subst hk'
  have hcc : gCk k (.invokestatic i, len, (a1, a2, a3), cv) = true ∧ ((cv = .int 0 ∧ gW a3 = some (.methodLink (mOw k) i (mY a1))) ∨ (cv = .int 1 ∧ gW a3 = some (.methodLinkNest (mOw k) i (mY a1) "Glyphmill") ∧ mCo a1 = 0)) := by
    rcases h01 with h01 | h01 <;> (dsimp only at h01; subst h01)
    · have hc' : (gCk k (.invokestatic i, len, (a1, a2, a3), .int 0) && decide (gW a3 = some (.methodLink (mOw k) i (mY a1)))) = true := hc
      rw [Bool.and_eq_true] at hc'
      exact ⟨hc'.1, Or.inl ⟨rfl, of_decide_eq_true hc'.2⟩⟩
    · have hc' : (gCk k (.invokestatic i, len, (a1, a2, a3), .int 1) && decide (gW a3 = some (.methodLinkNest (mOw k) i (mY a1) "Glyphmill") ∧ mCo a1 = 0)) = true := hc
      rw [Bool.and_eq_true] at hc'
      exact ⟨hc'.1, Or.inr ⟨rfl, of_decide_eq_true hc'.2⟩⟩
  obtain ⟨hc1, hc2⟩ := hcc
  obtain ⟨c1, c2, c4, c5⟩ := of_decide_eq_true hc1
  dsimp only at c1 c2 c4 c5
  obtain ⟨f1, f2, f3, -, f5, -⟩ := gMf hk
  have hst := f3 c2
  have hcat : ((rest.map (gTr ad)).map fun v => v.category).sum ≤ 8 := by
    rw [List.map_map, show ((fun v : Value => v.category) ∘ gTr ad) = (fun v : Value => v.category) from funext (fun v => gTr_cat ad v)]
    exact hW
  have hlen : (as.map (gTr ad)).length = mNp a1 := by rw [List.length_map, hnp, c1]
  have hstk : (as.reverse ++ rest).map (gTr ad) = (as.map (gTr ad)).reverse ++ rest.map (gTr ad) := by simp
  rcases hc2 with ⟨hcv, c3⟩ | ⟨hcv, c3, c6⟩
  · skip
    have hG : GoodIn gG (va_wsS (mOw k) i (mY a1) (mWs a1)) := gG_in (by
      intro w9 hw9
      unfold va_wsS at hw9
      simp only [List.cons_append, List.nil_append, List.mem_cons] at hw9
      rcases hw9 with rfl | rfl | rfl | hw9
      · exact gG_W c3 rfl
      · exact hst
      · exact f2
      · exact f1 _ hw9)
    cases hhE : mHh a1 with
    | nil =>
      have hws : mWs a1 = Cond.code (mY a1) (mBy a1) (mML a1) (mRt a1) :: gG := by unfold mWs; rw [hhE]
      exact vx_runS (As := as.map (gTr ad)) (n := mNp a1) ⟨hx, hb, hml, hown, hts⟩ (hct cA ad dC dI H.size) (va_cwS (mNp a1) hts hG hws rfl rfl f5 ⟨by rw [hR.1]; exact c4, by rw [hR.2]; exact c5⟩) ⟨gPre_blind, fun U hU hW9 => ⟨rfl, gPre_at hK hA hM fx th hU hW9⟩⟩ rfl hlen hl.1 hstk (lv_room hcat) hd hcs
    | cons h0 hs0 =>
      have hws : mWs a1 = Cond.codeWith (mY a1) (mBy a1) (mML a1) (mRt a1) (h0 :: hs0) :: gG := by unfold mWs; rw [hhE]
      exact vx_runSX (hh := h0 :: hs0) (As := as.map (gTr ad)) (n := mNp a1) ⟨hx, hb, hml, hown, hts⟩ (hct cA ad dC dI H.size) (vx_cwSW (mNp a1) hts hG hws rfl rfl f5 ⟨by rw [hR.1]; exact c4, by rw [hR.2]; exact c5⟩) ⟨gPre_blind, fun U hU hW9 => ⟨rfl, gPre_at hK hA hM fx th hU hW9⟩⟩ rfl hlen hl.1 hstk (lv_room hcat) hd hcs
  · have hws : mWs a1 = Cond.code (mY a1) (mBy a1) (mML a1) (mRt a1) :: gG := by unfold mWs; rw [hhN hcv]
    obtain ⟨v, hv⟩ := hres c6
    have hMet : Met l (mY a1) (mWs a1) (mRm a1) (va_Pc (as.map (gTr ad)) (gPre cA ad dC dI H.size μ)) (gQc cA ad dC dI H.size (gGh μ) res) (mCo a1) (6 * mCo a1) (gA ad H.size) := by
      intro p9 e9 ha9 hf9 hc9 s9 m9 args9 below9 hfr9 hap9 hP9 hK9
      obtain ⟨n9, o9, h1, h2, h3, h4⟩ := hct cA ad dC dI H.size p9 e9 ha9 hf9 hc9 s9 m9 args9 below9 hfr9 hap9 hP9 hK9
      rcases h4 with h4 | ⟨q9, -, E9, ce9, L9, ⟨⟨x9, hx9, -⟩, -⟩, -⟩
      · exact ⟨n9, o9, h1, h2, h3, h4⟩
      · rw [hv] at hx9
        cases hx9
    have hne : Cond.methodLinkNest (mOw k) i (mY a1) "Glyphmill" ∈ gNe := gNe_all c3 hk
    have hrun : va_Run p l e R s m args below meth c H locs cells slots (mCo a1) (6 * mCo a1) (F0 m pc ls ((as.reverse ++ rest).map (gTr ad))) (rest.map (gTr ad)) (gQc cA ad dC dI H.size (gGh μ) res (as.map (gTr ad)).toArray) (gA ad H.size) :=
      va_runSN (As := as.map (gTr ad)) (n := mNp a1) ⟨hx, hb, hml, hown, hts⟩ hMet ⟨va_cnB (mNp a1) hts (gG_in f1) hws rfl rfl (fx.2.1 _ hne) (hts _ f2) f5 ⟨by rw [hR.1]; exact c4, by rw [hR.2]; exact c5⟩, hts _ hst, trivial⟩ ⟨gPre_blind, fun U hU hW9 => ⟨rfl, gPre_at hK hA hM fx th hU hW9⟩⟩ rfl hlen hl.1 hstk (lv_room hcat) hd hcs
    exact fun T hT X9 => Or.inl (hrun T hT X9)
/-- behind a call -/
theorem g_after {μ : gMu} {res : gMu × gRes} {pc mc ms : Nat} {st0 rest : List Value} {a : Array Value} (hA : ∀ q, s.heap.size ≤ q → A q) (hM : gM cA ad dC dI A s μ H locs)
    (hr : vx_Run p l e R s m args below meth c H locs cells slots mc ms (F0 m pc ls st0) rest (gQc cA ad dC dI H.size (gGh μ) res a) (gXC cA ad dC dI H.size (gGh μ) res) (gA ad H.size))
    (kn : ∀ v, res.2 = .inl v → ∀ (H1 : Heap) (locs1 : List Loc), H.size + gGh res.1 ≤ H1.size + gGh μ → gM cA ad dC dI A s res.1 H1 locs1 → W p l e R s m args below meth c H1 locs1 (cells + mc) (slots + ms) Q (F0 m (pc + 3) ls ((v.map (gTr ad)).toList ++ rest)))
    (kx : ∀ x, res.2 = .inr x → x < 5 → ∀ (q9 : Addr) (ce : Cell) (H1 : Heap) (locs1 : List Loc), H.size + gGh res.1 + 1 ≤ H1.size + gGh μ → gM cA ad dC dI A s res.1 H1 locs1 → H1[q9]? = some ce → ce.vm = .none → s.vm.findClass (gEx x) = some ce.cls → vx_W p l e R s m args below meth c H1 locs1 (cells + mc) (slots + ms) Q (F0 m pc ls rest) q9) :
    W p l e R s m args below meth c H locs cells slots Q (F0 m pc ls st0) := by
  have hsub : ∀ q, gA ad H.size q → A q := gA_sub hM.2.1 (fun q hq => hA q (Nat.le_trans hM.2.2.1 hq))
  intro T hT X
  rcases hr T hT X with ⟨v, st₀, t, T', L, h0, X', hL, e1, e2, ⟨⟨v', hv', ho⟩, hP1, hF, hG1⟩, st⟩ | ⟨q, st₀, t, T', L, E, ce, h0, X', hL, e1, e2, ⟨⟨x, hx, hx6, hE⟩, hP1, hF, hG1⟩, hce, hcv, hcl, st⟩
  · cases ho
    obtain ⟨k1, k2, k3⟩ := vx_keep h0 e1 hM.2.2 (fun q _ h => hsub q h) hsub hL hF
    obtain ⟨t2, a1, b1⟩ := kn v' hv' T'.heap (locs ++ L) (by rw [e1]; exact hG1) ⟨by rw [e1]; exact hP1, gWd_D hM.2.1, k3⟩ T' rfl X'
    exact ⟨t2, st t2 a1, b1⟩
  · subst hE
    obtain ⟨k1, k2, k3⟩ := vx_keep h0 e1 hM.2.2 (fun q _ h => hsub q h) hsub hL hF
    obtain ⟨t2, a1, b1⟩ := kx x hx hx6 q ce T'.heap (locs ++ L) (by rw [e1]; exact hG1) ⟨by rw [e1]; exact hP1, gWd_D hM.2.1, k3⟩ (by rw [e1]; exact hce) hcv hcl T' rfl X'
    exact ⟨t2, st.trans a1, b1⟩
end GCALL
end
section
/-! A FRAME OF A METHOD: a run of the small machine is one of the machine -/
def gInvP (n : Nat) (scr : gScr) (k : Nat) (r : gR) (f : gF) (cnt : Nat) (res : gMu × gRes) (na : Nat) : Prop :=
  (f.2.2.1.take na).reverse.length = na ∧ cnt + mCo r.2.2.1.1 ≤ mCo k ∧ ((f.2.2.1.drop na).map fun v => v.category).sum ≤ 8 ∧ r.2.2.1.1 < k ∧ (gEnt (f.2.2.1.take na).reverse (mML r.2.2.1.1)).length ≤ mML r.2.2.1.1 ∧
  ∃ μ' x, gRun n none r.2.2.1.1 (0, gEnt (f.2.2.1.take na).reverse (mML r.2.2.1.1), [], f.2.2.2) 0 = some (μ', x) ∧
    ((∃ v, x = .inl v ∧ gRun n scr k (f.1 + 3, f.2.1, v.toList ++ f.2.2.1.drop na, μ') (cnt + mCo r.2.2.1.1) = some res) ∨
     (∃ y, x = .inr y ∧ mHh k = [] ∧ res = (μ', .inr y)) ∨
     ∃ y i h r2 len, x = .inr y ∧ gHnd k f.1 y = some i ∧ (mHh k)[i]? = some h ∧ gAt k h.2.2.1 = some r2 ∧ ((∃ n9, r2.1 = .astore_n n9 ∧ len = 1) ∨ (∃ n9, r2.1 = .astore n9 ∧ len = 2)) ∧
       gRun n scr k (h.2.2.1 + len, (gKill f.2.1 r2.2.2.1.1).set r2.2.2.1.1 none, [], gBm μ') (cnt + mCo r.2.2.1.1) = some res)
theorem gRun_plain {n : Nat} {scr : gScr} {k : Nat} {r : gR} {f : gF} {cnt : Nat} {res : gMu × gRes} (h : (match gStp scr r f with
        | some (f', cs) => gIf (gAll cs) (gRun n scr k f' cnt) none
        | none => none) = some res) : ∃ f' cs, gStp scr r f = some (f', cs) ∧ gAll cs ∧ gRun n scr k f' cnt = some res := by
  split at h
  · rename_i f' cs hs
    unfold gIf at h
    split at h
    · rename_i hc
      exact ⟨f', cs, hs, hc, h⟩
    · cases h
  · cases h
theorem gRun_inv0 {n : Nat} {scr : gScr} {k : Nat} {r : gR} {f : gF} {cnt : Nat} {res : gMu × gRes} {na : Nat} (h : (if (f.2.2.1.take na).reverse.length = na ∧ cnt + mCo r.2.2.1.1 ≤ mCo k ∧ ((f.2.2.1.drop na).map fun v => v.category).sum ≤ 8 ∧ r.2.2.1.1 < k ∧ (gEnt (f.2.2.1.take na).reverse (mML r.2.2.1.1)).length ≤ mML r.2.2.1.1 then
          (match gRun n none r.2.2.1.1 (0, gEnt (f.2.2.1.take na).reverse (mML r.2.2.1.1), [], f.2.2.2) 0 with
            | some (μ', .inl v) => gRun n scr k (f.1 + 3, f.2.1, v.toList ++ f.2.2.1.drop na, μ') (cnt + mCo r.2.2.1.1)
            | some (μ', .inr y) => (match mHh k with
              | [] => some (μ', .inr y)
              | _ => (match gHnd k f.1 y with
                | some i => (match (mHh k)[i]? with
                  | some h => (match gAt k h.2.2.1 with
                    | some (.astore_n _, _, (j, _), _) => gRun n scr k (h.2.2.1 + 1, (gKill f.2.1 j).set j none, [], gBm μ') (cnt + mCo r.2.2.1.1)
                    | some (.astore _, _, (j, _), _) => gRun n scr k (h.2.2.1 + 2, (gKill f.2.1 j).set j none, [], gBm μ') (cnt + mCo r.2.2.1.1)
                    | _ => none)
                  | none => none)
                | none => none))
            | none => none)
        else none) = some res) : gInvP n scr k r f cnt res na := by
  split at h
  · rename_i hc
    obtain ⟨c1, c2, c3, c4, c5⟩ := hc
    refine ⟨c1, c2, c3, c4, c5, ?_⟩
    split at h
    · rename_i μ' v hr
      exact ⟨μ', _, hr, Or.inl ⟨v, rfl, h⟩⟩
    · rename_i μ' y hr
      refine ⟨μ', _, hr, Or.inr ?_⟩
      split at h
      · rename_i hh
        cases h
        exact Or.inl ⟨y, rfl, hh, rfl⟩
      · split at h
        · rename_i i hi
          split at h
          · rename_i hx hhx
            split at h
            · rename_i n9 len9 j a9 b9 hat
              exact Or.inr ⟨y, i, hx, _, 1, rfl, hi, hhx, hat, Or.inl ⟨_, rfl, rfl⟩, h⟩
            · rename_i n9 len9 j a9 b9 hat
              exact Or.inr ⟨y, i, hx, _, 2, rfl, hi, hhx, hat, Or.inr ⟨_, rfl, rfl⟩, h⟩
            · cases h
          · cases h
        · cases h
    · cases h
  · cases h
set_option maxHeartbeats 4000000 in
theorem gRun_inv {n : Nat} {scr : gScr} {k : Nat} {f : gF} {cnt : Nat} {res : gMu × gRes} (h : gRun (n + 1) scr k f cnt = some res) : ∃ r, gAt k f.1 = some r ∧
    ((∃ f' cs, gStp scr r f = some (f', cs) ∧ gAll cs ∧ gRun n scr k f' cnt = some res) ∨ gEnd k r f cnt = some res ∨
     (∃ i q, r.1 = .invokevirtual i ∧ (f.2.2.1.drop r.2.2.1.2.1).head? = some (.ref q) ∧ (gObj q).map (fun x => x.1) = some (mCi r.2.2.1.1) ∧ r.2.2.2 = .int 0 ∧ gInvP n scr k r f cnt res (r.2.2.1.2.1 + 1)) ∨
     (∃ i, r.1 = .invokestatic i ∧ (r.2.2.2 = .int 0 ∨ r.2.2.2 = .int 1) ∧ gInvP n scr k r f cnt res r.2.2.1.2.1)) := by
  unfold gRun at h
  split at h
  · cases h
  · rename_i r hr
    refine ⟨r, hr, ?_⟩
    obtain ⟨ins, len, ⟨a1, a2, a3⟩, cv⟩ := r
    cases ins
    case invokevirtual i =>
      dsimp only at h
      split at h
      · rename_i q hq
        split at h
        · exact Or.inl (gRun_plain h)
        · rename_i hc
          rw [not_or, not_or, not_or] at hc
          exact Or.inr (Or.inr (Or.inl ⟨i, q, rfl, hq, Classical.not_not.mp hc.2.2.1, Classical.not_not.mp hc.2.2.2, gRun_inv0 h⟩))
      · cases h
    case invokestatic i =>
      dsimp only at h
      split at h
      · exact Or.inr (Or.inr (Or.inr ⟨i, rfl, Or.inl rfl, gRun_inv0 h⟩))
      · exact Or.inr (Or.inr (Or.inr ⟨i, rfl, Or.inr rfl, gRun_inv0 h⟩))
      · exact Or.inl (gRun_plain h)
    case return_ => exact Or.inr (Or.inl h)
    case ireturn => exact Or.inr (Or.inl h)
    case lreturn => exact Or.inr (Or.inl h)
    case freturn => exact Or.inr (Or.inl h)
    case dreturn => exact Or.inr (Or.inl h)
    case new i => exact Or.inr (Or.inl h)
    all_goals exact Or.inl (gRun_plain h)
/-- a thrown exception is one of six, and is paid -/
theorem gEnd_thr {k cnt x : Nat} {r : gR} {f : gF} {μ' : gMu} (hr : gAt k f.1 = some r) (h : gEnd k r f cnt = some (μ', .inr x)) : cnt + 1 ≤ mCo k ∧ x < 5 ∧ k < 166 ∧ f.2.2.1 = [] ∧ mHh k = [] ∧ μ' = f.2.2.2 ∧ ∃ i q, r.1 = .new i ∧ q ∈ gThr ∧ q.1 = k ∧ q.2.1 = f.1 ∧ q.2.2.1 = x ∧ q.2.2.2.1 = i := by
  obtain ⟨hd, hc⟩ := g_row hr
  obtain ⟨ins, len, ⟨a1, a2, a3⟩, cv⟩ := r
  unfold gEnd at h
  cases ins
  case return_ => dsimp only at h; split at h <;> cases h
  case ireturn =>
    dsimp only at h
    split at h
    · unfold gIf at h
      split at h <;> cases h
    · cases h
  case lreturn => dsimp only at h; split at h <;> cases h
  case freturn => dsimp only at h; split at h <;> cases h
  case dreturn => dsimp only at h; split at h <;> cases h
  case new i =>
    dsimp only at h
    split at h
    · rename_i h1 h2
      split at h
      · rename_i h3
        have hc' : (decide (k = 166) || gThr.any fun q => decide (q.1 = k ∧ q.2.1 = f.1 ∧ q.2.2.1 = a1 ∧ q.2.2.2.1 = i)) = true := hc
        cases h
        rw [Bool.or_eq_true] at hc'
        rcases hc' with hc' | hc'
        · have := of_decide_eq_true hc'
          omega
        · obtain ⟨q, hq, h4⟩ := List.any_eq_true.mp hc'
          obtain ⟨q1, q2, q3, q4⟩ := of_decide_eq_true h4
          have h6 : ∀ q ∈ gThr, q.2.2.1 < 5 := by decide
          exact ⟨h3.1, by rw [← q3]; exact h6 q hq, h3.2, h1, h2, rfl, i, q, rfl, hq, q1, q2, q3, q4⟩
      · cases h
    · cases h
  all_goals cases h
theorem gRun_thr : ∀ (n : Nat) {scr : gScr} {k : Nat} {f : gF} {cnt : Nat} {μ' : gMu} {x : Nat}, gRun n scr k f cnt = some (μ', .inr x) → cnt + 1 ≤ mCo k ∧ x < 5
  | 0, _, _, _, _, _, _, h => by cases h
  | n + 1, scr, k, f, cnt, μ', x, h => by
    obtain ⟨r, hr, h1⟩ := gRun_inv h
    have key : ∀ na, gInvP n scr k r f cnt (μ', .inr x) na → cnt + 1 ≤ mCo k ∧ x < 5 := by
      rintro na ⟨-, c2, -, -, -, μ2, y, hy, h2⟩
      rcases h2 with ⟨v, -, h3⟩ | ⟨z, hz, -, h3⟩ | ⟨z, i, hh, r2, len, -, -, -, -, -, h3⟩
      · have := gRun_thr n h3
        exact ⟨by omega, this.2⟩
      · subst hz
        cases h3
        have := gRun_thr n hy
        exact ⟨by omega, this.2⟩
      · have := gRun_thr n h3
        exact ⟨by omega, this.2⟩
    rcases h1 with ⟨f', cs, -, -, h2⟩ | h2 | ⟨i, q, -, -, -, -, h2⟩ | ⟨i, -, -, h2⟩
    · exact gRun_thr n h2
    · have := gEnd_thr hr h2
      exact ⟨this.1, this.2.1⟩
    · exact key _ h2
    · exact key _ h2
/-- what is checked of the tables of handlers -/
def gHok (k : Nat) : Bool := decide ((mHe k).length = (mHh k).length) && (List.range (mHh k).length).all fun i => (match (mHh k)[i]?, (mHe k)[i]? with
  | some h, some x => decide (h.2.2.2 ≠ 0 ∧ x.1 < 5) && decide (gW x.2 = some (.classLink (mOw k) h.2.2.2 (gEx x.1)))
  | _, _ => false)
theorem gHok_all : ((List.range 167).all gHok) = true := by decide +kernel
theorem gHok_at {k i : Nat} {h : Nat × Nat × Nat × Nat} (hk : k < 167) (hi : (mHh k)[i]? = some h) : ∃ x, (mHe k)[i]? = some x ∧ h.2.2.2 ≠ 0 ∧ x.1 < 5 ∧ Cond.classLink (mOw k) h.2.2.2 (gEx x.1) ∈ gG := by
  have h1 := List.all_eq_true.mp gHok_all k (List.mem_range.mpr hk)
  unfold gHok at h1
  rw [Bool.and_eq_true] at h1
  have h2 := List.all_eq_true.mp h1.2 i (List.mem_range.mpr (List.getElem?_eq_some_iff.mp hi).1)
  rw [hi] at h2
  cases hx : (mHe k)[i]? with
  | none => rw [hx] at h2; cases h2
  | some x =>
    rw [hx] at h2
    simp only [Bool.and_eq_true, decide_eq_true_eq] at h2
    exact ⟨x, rfl, h2.1.1, h2.1.2, gG_W h2.2 rfl⟩
theorem gHsta : ((List.range 166).all fun k => (mHh k).isEmpty || (mSta k && decide (mCo k ≠ 0))) = true := by decide +kernel
theorem gVirt {k pc i : Nat} {r : gR} (hr : gAt k pc = some r) (hi : r.1 = .invokevirtual i) (hcv : r.2.2.2 = .int 0) (hk : r.2.2.1.1 < 166) : mHh r.2.2.1.1 = [] := by
  obtain ⟨hd, hc⟩ := g_row hr
  obtain ⟨ins, len, ⟨a1, a2, a3⟩, cv⟩ := r
  dsimp only at hi hcv
  subst hi
  subst hcv
  have hc9 : decide (a2 = mNp a1 ∧ mSta a1 = false ∧ gW a3 = some (.methodLink (mOw k) i (mY a1)) ∧ (mFr a1).1 + 1 ≤ (mFr k).1 ∧ 8 + (mML a1 + 11) + (mFr a1).2 ≤ (mFr k).2) = true := hc
  obtain ⟨-, c2, -⟩ := of_decide_eq_true hc9
  dsimp only at c2 hk ⊢
  have h1 := List.all_eq_true.mp gHsta a1 (List.mem_range.mpr hk)
  rw [c2] at h1
  simpa using h1
theorem gNestHh {k pc i : Nat} {r : gR} (hr : gAt k pc = some r) (hi : r.1 = .invokestatic i) (hv : r.2.2.2 = .int 1) (hk : r.2.2.1.1 < 166) : mHh r.2.2.1.1 = [] := by
  obtain ⟨hd, hc⟩ := g_row hr
  obtain ⟨ins, len, ⟨a1, a2, a3⟩, cv⟩ := r
  dsimp only at hi hv hk ⊢
  subst hi
  subst hv
  have hc' : (gCk k (.invokestatic i, len, (a1, a2, a3), .int 1) && decide (gW a3 = some (.methodLinkNest (mOw k) i (mY a1) "Glyphmill") ∧ mCo a1 = 0)) = true := hc
  rw [Bool.and_eq_true] at hc'
  obtain ⟨-, c6⟩ := of_decide_eq_true hc'.2
  have h1 := List.all_eq_true.mp gHsta a1 (List.mem_range.mpr hk)
  rw [c6] at h1
  simpa using h1
/-! the count of caught exceptions: only a catch moves it -/
theorem gPush_22 {f f' : gF} {len : Nat} {v : Value} {cs : List Prop} (h : gPush f len v = some (f', cs)) : f'.2.2.2.2.2 = f.2.2.2.2.2 := by
  cases h
  rfl
theorem gLdI_22 {f f' : gF} {len i : Nat} {cs : List Prop} (h : gLdI f len i = some (f', cs)) : f'.2.2.2.2.2 = f.2.2.2.2.2 := by
  unfold gLdI at h
  split at h
  · exact gPush_22 h
  · cases h
theorem gLdJ_22 {f f' : gF} {len i : Nat} {cs : List Prop} (h : gLdJ f len i = some (f', cs)) : f'.2.2.2.2.2 = f.2.2.2.2.2 := by
  unfold gLdJ at h
  split at h
  · exact gPush_22 h
  · cases h
theorem gLdF_22 {f f' : gF} {len i : Nat} {cs : List Prop} (h : gLdF f len i = some (f', cs)) : f'.2.2.2.2.2 = f.2.2.2.2.2 := by
  unfold gLdF at h
  split at h
  · exact gPush_22 h
  · cases h
theorem gLdD_22 {f f' : gF} {len i : Nat} {cs : List Prop} (h : gLdD f len i = some (f', cs)) : f'.2.2.2.2.2 = f.2.2.2.2.2 := by
  unfold gLdD at h
  split at h
  · exact gPush_22 h
  · cases h
theorem gLdA_22 {f f' : gF} {len i : Nat} {cs : List Prop} (h : gLdA f len i = some (f', cs)) : f'.2.2.2.2.2 = f.2.2.2.2.2 := by
  unfold gLdA at h
  split at h
  · exact gPush_22 h
  · cases h
theorem gSto_22 {f f' : gF} {len i : Nat} {cs : List Prop} (h : gSto f len i = some (f', cs)) : f'.2.2.2.2.2 = f.2.2.2.2.2 := by
  unfold gSto at h
  split at h <;> first | (cases h; rfl) | cases h
theorem gII_22 {f f' : gF} {g : Int32 → Int32 → Value × List Prop} {cs : List Prop} (h : gII f g = some (f', cs)) : f'.2.2.2.2.2 = f.2.2.2.2.2 := by
  unfold gII at h
  split at h <;> first | (cases h; rfl) | cases h
theorem gJJ_22 {f f' : gF} {g : Int64 → Int64 → Value × List Prop} {cs : List Prop} (h : gJJ f g = some (f', cs)) : f'.2.2.2.2.2 = f.2.2.2.2.2 := by
  unfold gJJ at h
  split at h <;> first | (cases h; rfl) | cases h
theorem gI1_22 {f f' : gF} {g : Int32 → Value} {cs : List Prop} (h : gI1 f g = some (f', cs)) : f'.2.2.2.2.2 = f.2.2.2.2.2 := by
  unfold gI1 at h
  split at h <;> first | (cases h; rfl) | cases h
theorem gJ1_22 {f f' : gF} {g : Int64 → Value} {cs : List Prop} (h : gJ1 f g = some (f', cs)) : f'.2.2.2.2.2 = f.2.2.2.2.2 := by
  unfold gJ1 at h
  split at h <;> first | (cases h; rfl) | cases h
theorem gALd_22 {scr : gScr} {f f' : gF} {t : Nat} {cs : List Prop} (h : gALd scr t f = some (f', cs)) : f'.2.2.2.2.2 = f.2.2.2.2.2 := by
  unfold gALd at h
  split at h
  · split at h
    · split at h <;> first | (cases h; rfl) | cases h
    · split at h
      · split at h <;> first | (cases h; rfl) | cases h
      · cases h
  · cases h
theorem gALen_22 {scr : gScr} {f f' : gF} {cs : List Prop} (h : gALen scr f = some (f', cs)) : f'.2.2.2.2.2 = f.2.2.2.2.2 := by
  unfold gALen at h
  split at h
  · split at h
    · split at h <;> first | (cases h; rfl) | cases h
    · split at h <;> first | (cases h; rfl) | cases h
  · cases h
theorem gIst_22 {f f' : gF} {t : Nat} {g : Int32 → Int32} {cs : List Prop} (h : gIst t g f = some (f', cs)) : f'.2.2.2.2.2 = f.2.2.2.2.2 := by
  unfold gIst at h
  split at h
  · split at h
    · cases h
    · split at h
      · split at h <;> first | (cases h; rfl) | cases h
      · cases h
  · cases h
theorem gJst_22 {f f' : gF} {cs : List Prop} (h : gJst f = some (f', cs)) : f'.2.2.2.2.2 = f.2.2.2.2.2 := by
  unfold gJst at h
  split at h
  · split at h
    · cases h
    · split at h
      · split at h <;> first | (cases h; rfl) | cases h
      · cases h
  · cases h
theorem gGet_22 {f f' : gF} {ci k : Nat} {cs : List Prop} (h : gGet ci k f = some (f', cs)) : f'.2.2.2.2.2 = f.2.2.2.2.2 := by
  unfold gGet at h
  split at h
  · split at h
    · cases h
    · split at h
      · split at h
        · split at h <;> first | (cases h; rfl) | cases h
        · cases h
      · cases h
  · cases h
theorem gPut_22 {f f' : gF} {ci k : Nat} {cs : List Prop} (h : gPut ci k f = some (f', cs)) : f'.2.2.2.2.2 = f.2.2.2.2.2 := by
  unfold gPut at h
  split at h
  · split at h
    · cases h
    · split at h
      · split at h
        · split at h <;> first | (cases h; rfl) | cases h
        · cases h
      · cases h
  · split at h
    · cases h
    · split at h
      · split at h
        · split at h <;> first | (cases h; rfl) | cases h
        · cases h
      · cases h
  · cases h
theorem gMath_22 {cv : Value} {f f' : gF} {cs : List Prop} (h : gMath cv f = some (f', cs)) : f'.2.2.2.2.2 = f.2.2.2.2.2 := by
  unfold gMath at h
  split at h <;> first | (cases h; rfl) | cases h
theorem gAtS_22 {scr : gScr} {f f' : gF} {cs : List Prop} (h : gAtS scr f = some (f', cs)) : f'.2.2.2.2.2 = f.2.2.2.2.2 := by
  unfold gAtS at h
  split at h
  · split at h <;> first | (cases h; rfl) | cases h
  · cases h
theorem gStM_22 {scr : gScr} {n : Nat} {cv : Value} {f f' : gF} {cs : List Prop} (h : gStM scr n cv f = some (f', cs)) : f'.2.2.2.2.2 = f.2.2.2.2.2 := by
  unfold gStM at h
  split at h
  · split at h <;> first | (cases h; rfl) | cases h
  · split at h <;> first | (cases h; rfl) | cases h
  · cases h
theorem gStp_22 {scr : gScr} {r : gR} {f f' : gF} {cs : List Prop} (h : gStp scr r f = some (f', cs)) : f'.2.2.2.2.2 = f.2.2.2.2.2 := by
  obtain ⟨ins, len, ⟨a1, a2, a3⟩, cv⟩ := r
  unfold gStp at h
  cases ins
  all_goals (dsimp only at h)
  all_goals first
    | exact gPush_22 h
    | exact gLdI_22 h
    | exact gLdJ_22 h
    | exact gLdF_22 h
    | exact gLdD_22 h
    | exact gLdA_22 h
    | exact gII_22 h
    | exact gJJ_22 h
    | exact gI1_22 h
    | exact gJ1_22 h
    | exact gALd_22 h
    | exact gALen_22 h
    | exact gIst_22 h
    | exact gJst_22 h
    | exact gGet_22 h
    | exact gPut_22 h
    | exact gStM_22 h
    | (cases h; done)
    | (cases h; rfl)
    | (split at h <;> first | exact gPush_22 h | exact gSto_22 h | exact gAtS_22 h | exact gMath_22 h | (cases h; rfl) | (cases h; done) | (split at h <;> first | (cases h; rfl) | (cases h; done) | (split at h <;> first | exact gPush_22 h | (cases h; rfl) | (cases h; done))))
theorem gStp_gh {scr : gScr} {r : gR} {f f' : gF} {cs : List Prop} (h : gStp scr r f = some (f', cs)) : gGh f'.2.2.2 = gGh f.2.2.2 := by
  unfold gGh
  rw [gStp_22 h]
theorem gBm_gh (μ : gMu) : gGh (gBm μ) ≤ gGh μ + 1 := by
  have e : (gBm μ).2.2 1001 0 = μ.2.2 1001 0 + 1 := by
    unfold gBm gsD va_up vf_upd
    simp
  unfold gGh
  rw [e, UInt64.toNat_add]
  exact Nat.mod_le _ _
theorem gWd_Bm (cA : Nat → ClassId) (ad : Nat → Nat) (μ : gMu) : gWd cA ad (gBm μ) = gWd cA ad μ := by
  unfold gWd
  refine List.ext_getElem? (fun i => ?_)
  rw [List.getElem?_mapIdx, List.getElem?_mapIdx]
  cases hi : gSh[i]? with
  | none => rfl
  | some x =>
    have hl : i < gSh.length := (List.getElem?_eq_some_iff.mp hi).1
    have hl9 : gSh.length = 43 := rfl
    have hne : i ≠ 1001 := by omega
    have e := gsD_off (μ := μ) (q := 1001) (j := 0) (v := μ.2.2 1001 0 + 1) hne
    rcases x with ⟨ci, ks⟩ | ⟨t, n⟩
    · show some (ad i, gCell cA ad (gBm μ) i (.inl (ci, ks))) = some (ad i, gCell cA ad μ i (.inl (ci, ks)))
      unfold gCell gFa gBm
      dsimp only
      rw [e.1, e.2.1]
    · show some (ad i, gCell cA ad (gBm μ) i (.inr (t, n))) = some (ad i, gCell cA ad μ i (.inr (t, n)))
      unfold gCell gBm
      dsimp only
      rw [e.1, e.2.1, e.2.2]
theorem gM_Bm {cA : Nat → ClassId} {ad : Nat → Nat} {dC : Nat → ClassId} {dI : Nat → Nat → Nat} {A : Nat → Prop} {s : State} {μ : gMu} {H : Heap} {locs : List Loc} (h : gM cA ad dC dI A s μ H locs) : gM cA ad dC dI A s (gBm μ) H locs := by
  unfold gM
  rw [gWd_Bm]
  exact h
theorem gHno : ((List.range 152).all fun k => (mHh k).isEmpty) = true := by decide +kernel
theorem gHno_at {k : Nat} (hk : k < 152) : mHh k = [] := by
  have h1 := List.all_eq_true.mp gHno k (List.mem_range.mpr hk)
  simpa using h1
set_option maxRecDepth 100000 in
theorem gNs_law : ((List.range 15).all fun i => match gCode[152 + i]? with | some t => t.all (fun q => gNst q.2.1) | none => false) = true := by decide +kernel
theorem gNs_at {k pc : Nat} {r : gR} (hk : k < 167) (hk2 : ¬ k < 152) (h : gAt k pc = some r) : gNst r.1 = true := by
  have h1 := List.all_eq_true.mp gNs_law (k - 152) (List.mem_range.mpr (by omega))
  rw [show 152 + (k - 152) = k by omega] at h1
  unfold gAt at h
  split at h
  · rename_i t ht
    rw [ht] at h1
    exact List.all_eq_true.mp h1 _ (g_lk h)
  · cases h
theorem gEnd_gh {k cnt : Nat} {r : gR} {f : gF} {res : gMu × gRes} (h : gEnd k r f cnt = some res) : res.1 = f.2.2.2 := by
  obtain ⟨ins, len, ⟨a1, a2, a3⟩, cv⟩ := r
  unfold gEnd at h
  cases ins
  case return_ => dsimp only at h; split at h <;> first | (cases h; rfl) | cases h
  case ireturn =>
    dsimp only at h
    split at h
    · unfold gIf at h
      split at h <;> first | (cases h; rfl) | cases h
    · cases h
  case lreturn => dsimp only at h; split at h <;> first | (cases h; rfl) | cases h
  case freturn => dsimp only at h; split at h <;> first | (cases h; rfl) | cases h
  case dreturn => dsimp only at h; split at h <;> first | (cases h; rfl) | cases h
  case new i =>
    dsimp only at h
    split at h
    · split at h <;> first | (cases h; rfl) | cases h
    · cases h
  all_goals cases h
theorem gRun_gh : ∀ (n : Nat) {scr : gScr} {k : Nat} {f : gF} {cnt : Nat} {res : gMu × gRes}, k < 152 → gRun n scr k f cnt = some res → gGh res.1 = gGh f.2.2.2
  | 0, _, _, _, _, _, _, h => by cases h
  | n + 1, scr, k, f, cnt, res, hk, h => by
    obtain ⟨r, hr, h1⟩ := gRun_inv h
    have key : ∀ na, gInvP n scr k r f cnt res na → gGh res.1 = gGh f.2.2.2 := by
      rintro na ⟨-, -, -, c4, -, μ2, y, hy, h2⟩
      have h0 := gRun_gh n (by omega) hy
      dsimp only at h0
      rcases h2 with ⟨v, -, h3⟩ | ⟨z, hz, -, h3⟩ | ⟨z, i, hh, r2, len, -, -, h4, -, -, h3⟩
      · rw [gRun_gh n hk h3]
        exact h0
      · subst h3
        exact h0
      · rw [gHno_at hk] at h4
        cases h4
    rcases h1 with ⟨f', cs, hs, -, h2⟩ | h2 | ⟨i, q, -, -, -, -, h2⟩ | ⟨i, -, -, h2⟩
    · rw [gRun_gh n hk h2]
      exact gStp_gh hs
    · rw [gEnd_gh h2]
    · exact key _ h2
    · exact key _ h2
section GFRAME
variable {p : Program} {l : Launch} {e : Env} {R : Room} {s : State} {m : MethodId} {args : Array Value} {below : List Frame} {meth : Method} {c : Code} {Q : State → Prop}
variable {k : Nat} {cA : Nat → ClassId} {ad : Nat → Nat} {dC : Nat → ClassId} {dI : Nat → Nat → Nat} {A : Nat → Prop} {scr : gScr}
/-- caught here -/
theorem g_hnd {H : Heap} {locs : List Loc} {cells slots : Nat} {ls : Array Slot} {rest : List Value} {pc y i len : Nat} {h : Nat × Nat × Nat × Nat} {r2 : gR} {ce : Cell} {q : Addr} {L0 : gL} (X : gX k p l e R s m args meth c cA ad dC dI A scr) (fx : gFx s) (hk : k < 167) (htab : c.exceptionTable.toList = tableOf (mHh k)) (hl : gLh ls (mML k) ad L0)
    (hi : gHnd k pc y = some i) (hh : (mHh k)[i]? = some h) (hr2 : gAt k h.2.2.1 = some r2) (hlen : (∃ n9, r2.1 = .astore_n n9 ∧ len = 1) ∨ (∃ n9, r2.1 = .astore n9 ∧ len = 2)) (hy : y < 5)
    (hcell : H[q]? = some ce) (hv : ce.vm = .none) (hcl : s.vm.findClass (gEx y) = some ce.cls)
    (kk : ∀ ls1, gLh ls1 (mML k) ad ((gKill L0 r2.2.2.1.1).set r2.2.2.1.1 none) → W p l e R s m args below meth c H locs cells slots Q (F0 m (h.2.2.1 + len) ls1 [])) :
    vx_W p l e R s m args below meth c H locs cells slots Q (F0 m pc ls rest) q := by
  obtain ⟨hx, hb, hml, hown, hts, hK, hA, hscr⟩ := X
  unfold gHnd at hi
  rw [List.find?_range_eq_some] at hi
  obtain ⟨h1, h2, h3⟩ := hi
  obtain ⟨x, hx1, hx2, hx3, hx4⟩ := gHok_at hk hh
  rw [hh, hx1] at h1
  simp only [Bool.and_eq_true, decide_eq_true_eq] at h1
  obtain ⟨⟨h4, h5⟩, h6⟩ := h1
  have hil : i < (tableOf (mHh k)).length := by
    unfold tableOf
    rw [List.length_map]
    exact (List.getElem?_eq_some_iff.mp hh).1
  have htx : (tableOf (mHh k))[i]? = some ⟨h.1, h.2.1, h.2.2.1, h.2.2.2⟩ := by
    unfold tableOf
    rw [List.getElem?_map, hh]
    rfl
  have hsplit : tableOf (mHh k) = (tableOf (mHh k)).take i ++ ⟨h.1, h.2.1, h.2.2.1, h.2.2.2⟩ :: (tableOf (mHh k)).drop (i + 1) := by
    have e1 : (tableOf (mHh k))[i] = ⟨h.1, h.2.1, h.2.2.1, h.2.2.2⟩ := (List.getElem?_eq_some_iff.mp htx).2
    rw [← e1, ← List.drop_eq_getElem_cons hil, List.take_append_drop]
  refine vx_catch hown ((tableOf (mHh k)).take i) ⟨h.1, h.2.1, h.2.2.1, h.2.2.2⟩ ((tableOf (mHh k)).drop (i + 1)) (by rw [htab]; exact hsplit) ?_ (by simp [covers, h4, h5]) hx2 (hts _ hx4) (va_Nw.use rfl (by rw [h6]; exact fx.2.2.2.1 y hy)) hcell hv hcl ?_
  · intro z hz
    obtain ⟨j, hj⟩ := List.getElem?_of_mem hz
    have hji : j < i := by
      have := (List.getElem?_eq_some_iff.mp hj).1
      rw [List.length_take] at this
      omega
    rw [List.getElem?_take_of_lt hji] at hj
    unfold tableOf at hj
    rw [List.getElem?_map] at hj
    cases hhj : (mHh k)[j]? with
    | none => rw [hhj] at hj; cases hj
    | some hj' =>
      rw [hhj] at hj
      cases hj
      obtain ⟨x', hx1', hx2', hx3', hx4'⟩ := gHok_at hk hhj
      have h7 := h3 j hji
      rw [hhj, hx1'] at h7
      by_cases hcov : hj'.1 ≤ pc ∧ pc < hj'.2.1
      · right
        refine ⟨hx2', gEx x'.1, hts _ hx4', fx.2.2.1 y x'.1 hy hx3' (fun hne => ?_)⟩
        subst hne
        simp [hcov] at h7
      · left
        show covers _ pc = false
        unfold covers
        simp only [Bool.and_eq_false_iff, decide_eq_false_iff_not]
        rcases Classical.not_and_iff_not_or_not.mp hcov with h8 | h8
        · exact Or.inl h8
        · exact Or.inr h8
  · obtain ⟨hd2, hc2⟩ := g_row hr2
    obtain ⟨ins, len2, ⟨a1, a2, a3⟩, cv⟩ := r2
    rcases hlen with ⟨n9, e9, el⟩ | ⟨n9, e9, el⟩
    · dsimp only at e9
      subst e9
      subst el
      obtain ⟨c1, c2⟩ := of_decide_eq_true hc2
      dsimp only at c1 c2
      exact lv_astore_n hx hb hd2 c1 hl c2 rfl (fun ls1 hl1 => kk ls1 (gLh_hnd hl1))
    · dsimp only at e9
      subst e9
      subst el
      obtain ⟨c1, c2⟩ := of_decide_eq_true hc2
      dsimp only at c1 c2
      subst c1
      exact lv_astore hx hb hd2 hl c2 rfl (fun ls1 hl1 => kk ls1 (gLh_hnd hl1))
set_option maxHeartbeats 4000000 in
theorem g_frame (N : Nat) {z : Nat} (ih : ∀ n, n < N → ∀ (k : Nat) (as : List Value) (μ : gMu) (res : gMu × gRes), k < 166 → (gEnt as (mML k)).length ≤ mML k → gRun n none k (0, gEnt as (mML k), [], μ) 0 = some res → gCt l k as μ res)
    (X : gX k p l e R s m args meth c cA ad dC dI A scr) (fx : gFx s) (th : gTh A s s.heap) (hk : k < 167) (htab : mHh k = [] ∨ c.exceptionTable.toList = tableOf (mHh k)) (hR : R.frames = (mFr k).1 ∧ R.locals = (mFr k).2) {c0 s0 : Nat} (hc0 : c0 + mCo k ≤ R.cells ∧ s0 + 6 * mCo k ≤ R.slots) {res : gMu × gRes}
    (kend : ∀ (f : gF) (cnt : Nat) (r : gR) (H : Heap) (locs : List Loc) (ls : Array Slot), gAt k f.1 = some r → gEnd k r f cnt = some res → cnt ≤ mCo k → gM cA ad dC dI A s f.2.2.2 H locs → s.heap.size + gGh f.2.2.2 ≤ H.size + z → gLh ls (mML k) ad f.2.1 → W p l e R s m args below meth c H locs (c0 + cnt) (s0 + 6 * cnt) Q (F0 m f.1 ls (f.2.2.1.map (gTr ad))))
    (kout : ∀ (μ' : gMu) (x pc cnt : Nat) (H : Heap) (locs : List Loc) (ls : Array Slot) (rest : List Value) (q9 : Addr) (ce : Cell), res = (μ', .inr x) → x < 5 → mHh k = [] → cnt ≤ mCo k → gM cA ad dC dI A s μ' H locs → s.heap.size + gGh μ' + 1 ≤ H.size + z → H[q9]? = some ce → ce.vm = .none → s.vm.findClass (gEx x) = some ce.cls → vx_W p l e R s m args below meth c H locs (c0 + cnt) (s0 + 6 * cnt) Q (F0 m pc ls rest) q9) :
    ∀ (n : Nat), n ≤ N → ∀ (f : gF) (cnt : Nat) (H : Heap) (locs : List Loc) (ls : Array Slot), gRun n scr k f cnt = some res → cnt ≤ mCo k → gM cA ad dC dI A s f.2.2.2 H locs → s.heap.size + gGh f.2.2.2 ≤ H.size + z → (k < 152 → gGh f.2.2.2 = z) → gLh ls (mML k) ad f.2.1 → W p l e R s m args below meth c H locs (c0 + cnt) (s0 + 6 * cnt) Q (F0 m f.1 ls (f.2.2.1.map (gTr ad))) := by
  intro n
  induction n with
  | zero => intro _ f cnt H locs ls h; cases h
  | succ n ihn =>
    intro hn f cnt H locs ls h hcnt hM hG hZ hl
    obtain ⟨r, hr, h1⟩ := gRun_inv h
    have hA := X.2.2.2.2.2.2.1
    have go : ∀ (na : Nat) (st0 : List Value) (a : Array Value), gInvP n scr k r f cnt res na →
        (∀ (res1 : gMu × gRes), gCt l r.2.2.1.1 (f.2.2.1.take na).reverse f.2.2.2 res1 → (mCo r.2.2.1.1 = 0 → ∃ v, res1.2 = .inl v) → (f.2.2.1.take na).reverse.length = na → ((f.2.2.1.drop na).map fun v => v.category).sum ≤ 8 → r.2.2.1.1 < 166 → (c0 + cnt + mCo r.2.2.1.1 ≤ R.cells ∧ s0 + 6 * cnt + 6 * mCo r.2.2.1.1 ≤ R.slots) →
          vx_Run p l e R s m args below meth c H locs (c0 + cnt) (s0 + 6 * cnt) (mCo r.2.2.1.1) (6 * mCo r.2.2.1.1) (F0 m f.1 ls st0) ((f.2.2.1.drop na).map (gTr ad)) (gQc cA ad dC dI H.size (gGh f.2.2.2) res1 a) (gXC cA ad dC dI H.size (gGh f.2.2.2) res1) (gA ad H.size)) →
        W p l e R s m args below meth c H locs (c0 + cnt) (s0 + 6 * cnt) Q (F0 m f.1 ls st0) := by
      intro na st0 a hP hrun
      obtain ⟨c1, c2, c3, c4, c5, μ', x, hx, h2⟩ := hP
      have e1 : c0 + cnt + mCo r.2.2.1.1 = c0 + (cnt + mCo r.2.2.1.1) := by omega
      have e2 : s0 + 6 * cnt + 6 * mCo r.2.2.1.1 = s0 + 6 * (cnt + mCo r.2.2.1.1) := by omega
      have hct := ih n (by omega) r.2.2.1.1 _ f.2.2.2 (μ', x) (by omega) c5 hx
      refine g_after hA hM (hrun (μ', x) hct (fun h0 => ?_) c1 c3 (by omega) ⟨by omega, by omega⟩) (fun v hv H1 locs1 hGc hM1 => ?_) (fun y hy hy6 q9 ce H1 locs1 hGc hM1 hce hcv hcl => ?_)
      · cases x with
        | inl v => exact ⟨v, rfl⟩
        | inr y =>
          have := gRun_thr n hx
          omega
      · dsimp only at hv
        subst hv
        rcases h2 with ⟨v', hv', h3⟩ | ⟨z, hz, -, -⟩ | ⟨z, i, hh, r2, len, hz, -⟩
        · cases hv'
          rw [e1, e2]
          have h4 := ihn (by omega) (f.1 + 3, f.2.1, v.toList ++ f.2.2.1.drop na, μ') (cnt + mCo r.2.2.1.1) H1 locs1 ls h3 c2 hM1 (by show s.heap.size + gGh μ' ≤ H1.size + z; dsimp only at hGc; omega) (fun h152 => (gRun_gh n (by omega) hx).trans (hZ h152)) hl
          dsimp only at h4
          rw [List.map_append] at h4
          have e3 : (v.map (gTr ad)).toList = v.toList.map (gTr ad) := by cases v <;> rfl
          rw [e3]
          exact h4
        · cases hz
        · cases hz
      · dsimp only at hy
        subst hy
        rw [e1, e2]
        rcases h2 with ⟨v', hv', -⟩ | ⟨z, hz, hh, h3⟩ | ⟨z, i, hh, r2, len, hz, g1, g2, g3, g4, h3⟩
        · cases hv'
        · cases hz
          exact kout μ' y f.1 (cnt + mCo r.2.2.1.1) H1 locs1 ls _ q9 ce h3 hy6 hh c2 hM1 (by dsimp only at hGc; omega) hce hcv hcl
        · cases hz
          exact g_hnd X fx hk (htab.resolve_left (fun e9 => by rw [e9] at g2; cases g2)) hl g1 g2 g3 g4 hy6 hce hcv hcl (fun ls1 hl1 => ihn (by omega) (hh.2.2.1 + len, _, [], gBm μ') (cnt + mCo r.2.2.1.1) H1 locs1 ls1 h3 c2 (gM_Bm hM1) (by have := gBm_gh μ'; show s.heap.size + gGh (gBm μ') ≤ H1.size + z; dsimp only at hGc; omega) (fun h152 => by rw [gHno_at h152] at g2; cases g2) hl1)
    rcases h1 with ⟨f', cs, hs, hcs, h2⟩ | h2 | ⟨i, q, hi, hq, hci, hcv0, h2⟩ | ⟨i, hi, h01, h2⟩
    · exact g_step X hR ⟨by omega, by omega⟩ hr hs hcs hM hl (fun H1 locs1 ls1 hns hM1 hl1 => ihn (by omega) f' cnt H1 locs1 ls1 h2 hcnt hM1 (by
        rw [gStp_gh hs]
        by_cases h152 : k < 152
        · have h8 := hZ h152
          have h9 := hM1.2.2.1
          omega
        · have h9 := hns (gNs_at hk h152 hr)
          omega) (fun h152 => (gStp_gh hs).trans (hZ h152)) hl1)
    · exact kend f cnt r H locs ls hr h2 hcnt hM hG hl
    · have hdrop : f.2.2.1.drop r.2.2.1.2.1 = .ref q :: f.2.2.1.drop (r.2.2.1.2.1 + 1) := by
        cases hd9 : f.2.2.1.drop r.2.2.1.2.1 with
        | nil => rw [hd9] at hq; cases hq
        | cons v9 t9 =>
          rw [hd9] at hq
          cases hq
          rw [← List.drop_drop, hd9]
          rfl
      have htake : f.2.2.1.take (r.2.2.1.2.1 + 1) = f.2.2.1.take r.2.2.1.2.1 ++ [.ref q] := by
        have hl9 : r.2.2.1.2.1 < f.2.2.1.length := by
          rcases Nat.lt_or_ge r.2.2.1.2.1 f.2.2.1.length with h9 | h9
          · exact h9
          · rw [List.drop_eq_nil_of_le h9] at hdrop
            cases hdrop
        rw [List.take_succ_eq_append_getElem hl9]
        rw [List.drop_eq_getElem_cons hl9] at hdrop
        rw [(List.cons.inj hdrop).1]
      obtain ⟨ks, hks⟩ : ∃ ks, gObj q = some (mCi r.2.2.1.1, ks) := by
        cases ho : gObj q with
        | none => rw [ho] at hci; cases hci
        | some x => rw [ho] at hci; exact ⟨x.2, by rw [← Option.some.inj hci]⟩
      refine go (r.2.2.1.2.1 + 1) _ (Value.ref (ad q) :: ((f.2.2.1.take r.2.2.1.2.1).reverse).map (gTr ad)).toArray h2 (fun res1 hct _ hlen9 hsum hk9 hcs9 => ?_)
      have e9 : (f.2.2.1.take (r.2.2.1.2.1 + 1)).reverse = .ref q :: (f.2.2.1.take r.2.2.1.2.1).reverse := by rw [htake]; simp
      rw [e9] at hct hlen9
      have hlen8 : (f.2.2.1.take r.2.2.1.2.1).reverse.length = r.2.2.1.2.1 := by simpa using hlen9
      have hst : f.2.2.1 = ((f.2.2.1.take r.2.2.1.2.1).reverse).reverse ++ .ref q :: f.2.2.1.drop (r.2.2.1.2.1 + 1) := by
        rw [List.reverse_reverse, ← hdrop, List.take_append_drop]
      have hmh : mHh r.2.2.1.1 = [] := gVirt hr hi hcv0 hk9
      have h10 := g_runV (below := below) (pc := f.1) (rest := f.2.2.1.drop (r.2.2.1.2.1 + 1)) X fx th hM hl hr hi hcv0 rfl hk9 hlen8 hks hct hmh hR hcs9 hsum
      rw [← hst] at h10
      exact h10
    · refine go r.2.2.1.2.1 _ ((f.2.2.1.take r.2.2.1.2.1).reverse.map (gTr ad)).toArray h2 (fun res1 hct h0 hlen9 hsum hk9 hcs9 => ?_)
      have hst : f.2.2.1 = ((f.2.2.1.take r.2.2.1.2.1).reverse).reverse ++ f.2.2.1.drop r.2.2.1.2.1 := by
        rw [List.reverse_reverse, List.take_append_drop]
      have h10 := g_runS (below := below) (pc := f.1) (rest := f.2.2.1.drop r.2.2.1.2.1) X fx th hM hl hr hi h01 rfl hk9 hlen9 hct hR hcs9 hsum h0 (fun h9 => gNestHh hr hi h9 hk9)
      rw [← hst] at h10
      exact h10
end GFRAME
end
section
/-! NoSuchElementException WITH A TEXT: on this JDK its constructor calls its superclass' by another number (13) than the kit's chain of constructors supposes (7), so its throw is walked here; the proofs of gq_ctor and gq_throw follow those of the library and of the kit for the other classes (BundleOwnThrow: ctorThrowS; vx_throwS, vx_throwSW). -/
def gqX : String := "java/util/NoSuchElementException"
def gqR : String := "java/lang/RuntimeException"
def gqB : ByteArray := ⟨#[0x2a, 0x2b, 0xb7, 0x00, 0x0d, 0xb1]⟩
theorem gqB_0 : decode gqB 0 = .ok (.aload_n 0, 1) := by decide +kernel
theorem gqB_1 : decode gqB 1 = .ok (.aload_n 1, 1) := by decide +kernel
theorem gqB_2 : decode gqB 2 = .ok (.invokespecial 13, 3) := by decide +kernel
theorem gqB_5 : decode gqB 5 = .ok (.return_, 1) := by decide +kernel
def gqTl (own : String) (ic : Nat) : List Cond :=
  [.methodLink own ic (Bundle.initS gqX), .instantiable gqX 6, .castable gqX gqX, .selects gqX Bundle.tFill0 Bundle.tFill0, .selects gqX Bundle.tFill Bundle.tFill,
   .lays gqX Bundle.tN "cause" "Ljava/lang/Throwable;", .lays gqX Bundle.tN "stackTrace" Bundle.steD, .lays gqX Bundle.tN "suppressedExceptions" Bundle.listD, .lays gqX Bundle.tN "detailMessage" "Ljava/lang/String;",
   .isRef (.static Bundle.tN "UNASSIGNED_STACK" Bundle.steD), .isRef (.static Bundle.tN "SUPPRESSED_SENTINEL" Bundle.listD),
   .fieldLink Bundle.tN 198 Bundle.tN "backtrace" "Ljava/lang/Object;", .lays Bundle.tN Bundle.tN "backtrace" "Ljava/lang/Object;", .lays gqX Bundle.tN "backtrace" "Ljava/lang/Object;"]
def gqAt (own : String) (ic : Nat) : List Cond :=
  Bundle.throwableAtoms ++ Bundle.throwableSAtoms ++ (Bundle.passSAtoms gqX gqR 13 gqB ++ Bundle.chainSAtoms gqR ["java/lang/Exception"]) ++ gqTl own ic
section GQ
variable {p : Program} {l : Launch} {e : Env} {R : Room} {s : State} {m₀ : MethodId} {args : Array Value} {below : List Frame} {meth : Method} {c : Code} {W0 : State} {locs : List Loc} {cells slots : Nat}
set_option maxHeartbeats 4000000 in
theorem gq_ctor (X : Stand p l e R s m₀ args below meth c W0 locs cells slots) (hexec : p.tables.exec = Jvm.exec) (htr : e.platform.stackTraces = false) {own : String} {ic : Nat}
    (hown : s.vm.findClass own = some m₀.cls) (h : ∀ a ∈ gqAt own ic, a.before args s = true)
    (hlocs : ∀ x ∈ locs, ∀ cell, s.heap[x.base]? = some cell → cell.vm.isStatics = false)
    {a : Addr} {cX : ClassId} {kX : Class} (hfoundX : s.vm.findClass gqX = some cX) (hkX : s.vm.classes[cX]? = some kX) (hcell : W0.heap[a]? = some (freshCell cX kX)) (hnew : s.heap.size ≤ a)
    {msg : Value} (hmsg : msg.isRef = true)
    {g : JFrame} (hg : g.method = m₀) (hsize : g.locals.size = c.maxLocals) (hlocked : g.locked = none) (hentered : g.entered = []) {rest : List Value} (hstack : g.stack = msg :: .ref a :: .ref a :: rest)
    (hd6 : decode c.code g.pc = .ok (.invokespecial ic, 3)) (hd9 : decode c.code (g.pc + 3) = .ok (.athrow, 1)) (hout : ∀ x ∈ c.exceptionTable.toList, covers x (g.pc + 3) = false)
    (hRframes : 5 < R.frames) (hRlocals : 2 * g.monitorRoom + ((Value.ref a :: rest).map fun v => v.category).sum + (13 * 3 + 42) ≤ R.locals) (hlocks : meth.locks = false) :
    ∃ U : State, Steps p.tables e below (W0.setTop g) U ∧ U.status = .running ∧ Ended U below (.threw a) ∧ s.WarmedH U.vm ∧ s.sameButNew ({ U with vm := s.vm } : State) locs cells slots ∧
      ∃ ce, U.heap[a]? = some ce ∧ ce.vm = .none ∧ s.vm.findClass gqX = some ce.cls := by
  have howns : e.platform.frameOwnsMonitors = true := by rw [X.admits.platform]
  have hfin : e.platform.finalization = false := by rw [X.admits.platform]
  have hpl : e.platform.magicAccessors = ({} : Platform).magicAccessors := by rw [X.admits.platform]
  have hT : ∀ x, x ∈ Bundle.throwableAtoms → x.before args s = true := fun x hx => h x (by simp [gqAt, hx])
  have hTS : ∀ x, x ∈ Bundle.throwableSAtoms → x.before args s = true := fun x hx => h x (by simp [gqAt, hx])
  have hP : ∀ x, x ∈ Bundle.passSAtoms gqX gqR 13 gqB → x.before args s = true := fun x hx => h x (by simp [gqAt, hx])
  have hC : ∀ x, x ∈ Bundle.chainSAtoms gqR ["java/lang/Exception"] → x.before args s = true := fun x hx => h x (by simp [gqAt, hx])
  have hL : ∀ x, x ∈ gqTl own ic → x.before args s = true := fun x hx => h x (by simp [gqAt, hx])
  have a' : ∀ x, x ∈ gqTl own ic → x.holds args s none s [] = true := fun x hx => hL x hx
  obtain ⟨T, Z0, L, -, Y⟩ := ThrowableC.of_atoms (args := args) howns hfin hpl hT
  obtain ⟨Z, M, LZ, LM, hnZ⟩ := Init0T.ofS_atoms (args := args) hpl L Y hTS
  obtain ⟨P2, Ps, hlen, L2, hLs, hP2m, hlink1, hlink⟩ := Bundle.chainS (args := args) hpl hnZ ["java/lang/Exception"] gqR (by decide) (fun n hn => by simp only [List.mem_cons, List.not_mem_nil, or_false] at hn; subst hn; decide) hC
  obtain ⟨P1, L1, hP1m, hs1⟩ := PassC.ofS_atoms (args := args) (s := s) hpl (X := gqX) (Y := gqR) (by decide) (by decide) gqB_0 gqB_1 gqB_2 gqB_5 hP
  have hsup1 : P1.sup = P2.m := Option.some.inj (hs1.symm.trans hP2m)
  have hfound : s.vm.findClass gqX = some P1.m.cls := findClass_of_methodNamed hP1m
  cases Option.some.inj (hfoundX.symm.trans hfound)
  obtain ⟨c1, kX', hc1, hk, hord, -, -, hn6⟩ := Cond.instantiable_spec (a' (.instantiable gqX 6) (by simp [gqTl]))
  cases Option.some.inj (hc1.symm.trans hfound)
  cases Option.some.inj (hkX.symm.trans hk)
  have hsel0 : selectMethod e.platform s.vm P1.m.cls T.fill0 = .method T.fill0 := by
    obtain ⟨c2, r2, m2, q1, q2, q3, q4, -⟩ := Cond.selects_spec (a' (.selects gqX Bundle.tFill0 Bundle.tFill0) (by simp [gqTl]))
    cases Option.some.inj (q1.symm.trans hfound)
    cases Option.some.inj (q2.symm.trans (State.methodFound?_of_named Y.fill0 (by decide)))
    cases Option.some.inj (q3.symm.trans Y.fill0)
    rw [Launch.admits_selectMethod X.admits]; exact q4
  have hselF : selectMethod e.platform s.vm P1.m.cls T.fill = .method T.fill := by
    obtain ⟨c2, r2, m2, q1, q2, q3, q4, -⟩ := Cond.selects_spec (a' (.selects gqX Bundle.tFill Bundle.tFill) (by simp [gqTl]))
    cases Option.some.inj (q1.symm.trans hfound)
    cases Option.some.inj (q2.symm.trans (State.methodFound?_of_named Y.fill (by decide)))
    cases Option.some.inj (q3.symm.trans Y.fill)
    rw [Launch.admits_selectMethod X.admits]; exact q4
  obtain ⟨cellS0, hcS0, hiss⟩ := Y.statics
  obtain ⟨u0, hu0⟩ := Cond.staticRefV Y.unassigned L.unassignedStatic L.statics hcS0 hiss (a' (.isRef (.static Bundle.tN "UNASSIGNED_STACK" Bundle.steD)) (by simp [gqTl]))
  obtain ⟨sen, hsen⟩ := Cond.staticRefV Y.sentinel L.sentinelStatic L.statics hcS0 hiss (a' (.isRef (.static Bundle.tN "SUPPRESSED_SENTINEL" Bundle.listD)) (by simp [gqTl]))
  obtain ⟨ci198, i198, fB, hk198, hg198, ha198, hsB, -, hnB, htB, hffB⟩ := Cond.ownField (t := .object "java/lang/Object") Y.found L.cls (by decide +kernel) (a' (.fieldLink Bundle.tN 198 Bundle.tN "backtrace" "Ljava/lang/Object;") (by simp [gqTl])) (a' (.lays Bundle.tN Bundle.tN "backtrace" "Ljava/lang/Object;") (by simp [gqTl])) e.platform hpl
  obtain ⟨cellS, hcS', heS, -, hkeep⟩ := X.same.2.2.2.2.2 T.aS cellS0 hcS0
  have hcellS : W0.heap[T.aS]? = some cellS := hcS'
  have hout' : ∀ i, (⟨T.aS, i⟩ : Loc) ∉ locs := fun i hmem => by
    have := hlocs _ hmem cellS0 hcS0
    rw [hiss] at this; cases this
  have hknownS : cellS.vm ≠ .unknown := by
    rw [heS]; intro hu
    rw [show cellS0.vm = .unknown from hu] at hiss
    cases hiss
  have hneS : T.aS ≠ a := Nat.ne_of_lt (Nat.lt_of_lt_of_le (Array.getElem?_eq_some_iff.mp hcS0).1 hnew)
  obtain ⟨iM, hffM⟩ := Y.msg
  obtain ⟨tyC, dC, hdC, hdnC⟩ := Cond.laysAt hfound hk Y.cause (a' (.lays gqX Bundle.tN "cause" "Ljava/lang/Throwable;") (by simp [gqTl]))
  obtain ⟨tyS, dS, hdS, hdnS⟩ := Cond.laysAt hfound hk Y.stack (a' (.lays gqX Bundle.tN "stackTrace" Bundle.steD) (by simp [gqTl]))
  obtain ⟨tyP, dP, hdP, hdnP⟩ := Cond.laysAt hfound hk Y.supp (a' (.lays gqX Bundle.tN "suppressedExceptions" Bundle.listD) (by simp [gqTl]))
  obtain ⟨tyM, dM, hdM, hdnM⟩ := Cond.laysAt hfound hk hffM (a' (.lays gqX Bundle.tN "detailMessage" "Ljava/lang/String;") (by simp [gqTl]))
  obtain ⟨tyB, dB, hdB, hdnB⟩ := Cond.laysAt hfound hk hffB (a' (.lays gqX Bundle.tN "backtrace" "Ljava/lang/Object;") (by simp [gqTl]))
  have bC := Cond.laysApart hdB hdC hdnB hdnC (by rw [hnB, Y.causeName]; decide)
  have bS := Cond.laysApart hdB hdS hdnB hdnS (by rw [hnB, Y.stackName]; decide)
  have bP := Cond.laysApart hdB hdP hdnB hdnP (by rw [hnB, Y.suppName]; decide)
  have hskip : SkipFacts T e.platform s (fun u => u) u0 ((preparedCellV T.toThrowableT (freshCell P1.m.cls kX) a u0 sen).withEntry W0.cur) :=
    ⟨{ ci198 := ci198, i198 := i198, fBack := fB }, ⟨hk198, hg198, ha198, hsB⟩, by
      have := fresh_default (c := P1.m.cls) tyB
      rw [htB] at this
      simpa [preparedCellV, Cell.setSlot, Cell.withEntry, Array.getElem?_setIfInBounds, bC, bS, bP, bC.symm, bS.symm, bP.symm, defaultValue] using this, fun _ _ => rfl⟩
  obtain ⟨tm, methC, cdC, kC, vm₁, hnC, -, -, -, -, -, -, -, hW₁, st1⟩ := Steps.initColdS (tb := p.tables) (e := e) (below := below) (s := s) (U := W0) X.here hexec X.warmed hpl hown (t := Bundle.initS gqX) rfl rfl (by decide)
    (a' (.methodLink own ic (Bundle.initS gqX)) (by simp [gqTl])) (hP (.instanceMethod (Bundle.initS gqX)) (by simp [Bundle.passSAtoms])) (bytes := gqB) (maxL := 2) (hP (.code (Bundle.initS gqX) gqB 2 none) (by simp [Bundle.passSAtoms]))
    (f := g) hg (a := a) (msg := msg) (rest := .ref a :: rest) hstack hd6
  cases Option.some.inj (hnC.symm.trans hP1m)
  have X₁ := X.noted hW₁
  have hall : ∀ P ∈ P1 :: P2 :: Ps, P.LinksS e.platform s := fun P hP9 => by
    rcases List.mem_cons.mp hP9 with rfl | hP9
    · exact L1
    · rcases List.mem_cons.mp hP9 with rfl | hP9
      · exact L2
      · exact hLs P hP9
  obtain ⟨vm₂, X₂, st2⟩ := X₁.ctorMessageOffV hexec (g := { g with stack := .ref a :: rest }) hg hsize T L Z LZ M LM (P1 :: P2 :: Ps)
    hall ⟨hsup1, hlink1, hlink⟩ (u0 := u0) (sen := sen) (self := a) hmsg (cell := freshCell P1.m.cls kX) (cellS := cellS)
    hcell (fun _ => by simp) (by simp) rfl rfl hsel0 hselF hcellS hneS hknownS (by rw [hkeep _ (hout' _)]; exact hu0) (by rw [hkeep _ (hout' _)]; exact hsen)
    (Takes.of_laid hk hord tyC (by rw [Y.causeType]; rfl)) (Takes.of_laid hk hord tyS (by rw [Y.stackType]; exact fits_refV_array _ u0)) (Takes.of_laid hk hord tyP (by rw [Y.suppType]; exact fits_refV_object _ sen))
    (Takes.of_laid hk hord tyM (by rw [Y.msgType]; exact fits_refV_object _ ⟨msg, hmsg⟩)) Y.objLocals hskip htr [] hd6
    (by simp only [List.length_cons, hlen, List.length_nil]; omega) (by simp only [List.length_cons, hlen, List.length_nil]; omega)
  obtain ⟨hwalk, hrun, hended, hWU, hsame⟩ := X₂.athrowLeaves hexec (g := { g with stack := .ref a :: rest, pc := g.pc + 3 }) hg hlocked hentered hout (a := a) (rest := rest) rfl hd9
  have hlt : a < ((W0.setVm vm₁).setVm vm₂).heap.size := (Array.getElem?_eq_some_iff.mp hcell).1
  have hU := heapAt_setCell_self (s := (W0.setVm vm₁).setVm vm₂) (plainBareV T.toThrowableT (freshCell P1.m.cls kX) a u0 sen msg) hlt
  refine ⟨_, st1 _ (fun acts => ?_), hrun, hended, hWU, hsame.weaken (fun y hy hlt' => ?_) (Nat.le_refl _) (Nat.le_refl _), _, hU, rfl, hfound⟩
  · rw [doInvoke_state]
    exact st2 _ hwalk
  · rcases List.mem_append.mp hy with h1 | h1
    · exact h1
    · exfalso
      have hb : y.base = a := by
        simp only [List.mem_cons, List.not_mem_nil, or_false] at h1
        rcases h1 with rfl | rfl | rfl | rfl | rfl <;> rfl
      rw [hb] at hlt'
      exact Nat.not_lt.mpr hnew hlt'
end GQ
section GQ2
variable {p : Program} {l : Launch} {e : Env} {R : Room} {s : State} {m : MethodId} {args : Array Value} {below : List Frame} {meth : Method} {c : Code} {H : Heap} {locs : List Loc} {cells slots : Nat}
variable {Qc : Array Value → State → Outcome → State → Prop} {XC : String → State → State → Prop} {free : Addr → Prop} {ls : Array Slot} {rest : List Value}
set_option maxHeartbeats 4000000 in
theorem gq_throw {cc : ByteArray} {pc o : Nat} (hexec : p.tables.exec = Jvm.exec) (hb : c.code = cc) (hl : l.stackTraces = false) {own text : String} {ik is ic mc ms sa : Nat} {A : Nat → Prop}
    (hown : s.vm.findClass own = some m.cls)
    (hk : (Cond.classLink own ik gqX).before args s = true) (hini : (Cond.initialized gqX).before args s = true) (hstr : vk_R own is text sa s) (hat : ∀ w ∈ (gqAt own ic).filter vx_no, w.before args s = true)
    (hgood : ∀ w ∈ Cond.classLink own ik gqX :: Cond.initialized gqX :: (gqAt own ic).filter vx_no, vx_ot w = true)
    (hU : vx_Zq Bundle.tN "UNASSIGNED_STACK" Bundle.steD A s s.heap) (hN : vx_Zq Bundle.tN "SUPPRESSED_SENTINEL" Bundle.listD A s s.heap) (hS : va_S A s.heap H locs) (hsize : ls.size = c.maxLocals)
    (d0 : decode cc pc = .ok (.new ik, 3)) (d3 : decode cc (pc + 3) = .ok (.dup, 1)) (d4 : (decode cc (pc + 4) = .ok (.ldc is, 2) ∧ o = 2) ∨ (decode cc (pc + 4) = .ok (.ldc_w is, 3) ∧ o = 3)) (d6 : decode cc (pc + 4 + o) = .ok (.invokespecial ic, 3)) (d9 : decode cc (pc + 4 + o + 3) = .ok (.athrow, 1))
    (hout : ∀ x ∈ c.exceptionTable.toList, covers x (pc + 4 + o + 3) = false)
    (hRframes : 5 < R.frames) (hRlocals : (rest.map fun v => v.category).sum + 82 ≤ R.locals) (hRcells : cells + 1 ≤ R.cells) (hRslots : slots + 6 ≤ R.slots) (hlocks : meth.locks = false)
    (hx : ∀ t : State, s.vm.Alike t.vm → H.size + 1 ≤ t.heap.size → (∀ q : Nat, q < H.size → t.heap[q]? = H[q]?) → XC gqX s t)
    (hf : ∀ z ∈ locs, free z.base) (hc : cells + 1 ≤ mc) (hs : slots + 6 ≤ ms) :
    W p l e R s m args below meth c H locs cells slots (vx_MQ below Qc XC args s mc ms free) (F0 m pc ls rest) := by
  intro T hT X
  have htr : e.platform.stackTraces = false := (show e.platform.stackTraces = l.stackTraces by rw [X.admits.platform]).trans hl
  have Y := vx_rebase X (R' := { frames := R.frames, locals := R.locals, cells := 1, slots := 6 }) (Nat.le_refl _) (Nat.le_refl _) hRcells hRslots
  obtain ⟨s', hA⟩ : ∃ z, z = (T.setVm s.vm).setFrames (.invoking m args :: below) := ⟨_, rfl⟩
  rw [← hA] at Y
  have hvm : s'.vm = s.vm := by rw [hA]; rfl
  have hhp : s'.heap = H := by rw [hA]; exact hT
  have hW0 : s.WarmedH s'.vm := by rw [hvm]; exact State.WarmedH.refl s
  have hat' : ∀ w ∈ (gqAt own ic).filter vx_no, w.before args s' = true := fun w hw => vx_ot_at hW0 hvm.symm (hgood w (List.mem_cons_of_mem _ (List.mem_cons_of_mem _ hw))) (hat w hw)
  have hk' : (Cond.classLink own ik gqX).before args s' = true := vx_ot_at hW0 hvm.symm (hgood _ List.mem_cons_self) hk
  have hini' : (Cond.initialized gqX).before args s' = true := vx_ot_at hW0 hvm.symm (hgood _ (List.mem_cons_of_mem _ List.mem_cons_self)) hini
  have hU' : vx_Zq Bundle.tN "UNASSIGNED_STACK" Bundle.steD A s' s'.heap := by rw [hhp]; exact vx_Zq.moved hW0.alike (hU.kept hS.2.1)
  have hN' : vx_Zq Bundle.tN "SUPPRESSED_SENTINEL" Bundle.listD A s' s'.heap := by rw [hhp]; exact vx_Zq.moved hW0.alike (hN.kept hS.2.1)
  have h : ∀ w ∈ gqAt own ic, w.before args s' = true := vx_own hat' (vx_isRefq hU'.1) (vx_isRefq hN'.1) hU'.2.word hN'.2.word
  have hown' : s'.vm.findClass own = some m.cls := by rw [hvm]; exact hown
  have hins : (Cond.instantiable gqX 6).before args s' = true := h _ (by simp [gqAt, gqTl])
  obtain ⟨vm₁, cX, kX, hfX, hkX, -, -, X₁, st1⟩ := Y.newCold hexec (own := own) (C := gqX) (index := ik) (n := 6) hown' hk' hins hini'
    (g := F0 m pc ls rest) rfl (by rw [hb]; exact d0) (Nat.le_refl _) (Nat.le_refl _)
  generalize hT1 : (T.setVm vm₁).pushCell { cls := cX, slots := kX.instanceTypes.map defaultValue, vm := .none } = T1 at X₁ st1
  have hcat : (Value.ref T.heap.size).category = 1 := rfl
  have hcellA : T1.heap[T.heap.size]? = some (freshCell cX kX) := by rw [← hT1]; exact State.heap_pushCell_size _ _
  have d3' : decode c.code (pc + 3) = .ok (.dup, 1) := by rw [hb]; exact d3
  have hstr' : vk_R own is text sa s' := vk_R.warm hW0 hstr
  obtain ⟨U, hsteps, hrun, hend, hW, hsame, ce, hce, hO1, hO2⟩ := gq_ctor X₁ hexec htr (own := own) (ic := ic) hown' h (fun x hx => nomatch hx) hfX hkX hcellA (by rw [hhp, hT]; exact Nat.le_refl _) (msg := .ref sa) rfl
    (g := { method := m, pc := pc + 4 + o, locals := ls, stack := .ref sa :: .ref T.heap.size :: .ref T.heap.size :: rest, locked := none }) rfl hsize rfl rfl (rest := rest) rfl
    (by rw [hb]; exact d6) (by rw [hb]; exact d9) hout hRframes (by
      show 2 * 0 + _ + _ ≤ _
      simp only [List.map_cons, List.sum_cons, hcat]
      show 2 * 0 + (1 + (rest.map fun v => v.category).sum) + (13 * 3 + 42) ≤ R.locals
      omega) hlocks
  obtain ⟨f1, f2⟩ := vx_frame hsame
  rw [hhp] at f1 f2
  have hWs : s.WarmedH U.vm := State.WarmedH.trans hW0 hW
  have hcl : s.vm.findClass gqX = some ce.cls := by
    have h9 := hO2
    rw [hvm] at h9
    exact h9
  have hall : s.sameButNew ({ U with vm := s.vm } : State) locs mc ms := by
    subst hA
    obtain ⟨e1, e2⟩ := hsame
    rw [State.setFrames_setFrames] at e1
    have h2 : (T.setVm s.vm).sameButNew ({ U with vm := s.vm } : State) [] (0 + 1) (0 + 6) := ⟨e1, e2⟩
    have h3 := X.same.trans h2
    rw [List.append_nil] at h3
    exact h3.mono hc hs
  refine ⟨U, ?_, .threw T.heap.size, hrun, hend, Or.inr ⟨T.heap.size, rfl, gqX, ce, locs, hx U hWs.alike (by rw [← hT]; exact (Array.getElem?_eq_some_iff.mp hce).1) (fun q hq => f2 q hq (fun z hz => nomatch hz)), hce, hO1, hcl, hWs, hall, hf⟩⟩
  refine st1 _ ?_
  show Steps p.tables e below (T1.setTop { method := m, pc := pc + 3, locals := ls, stack := .ref T.heap.size :: rest, locked := none }) _
  jvm_step X₁.here [X₁.here.top, hexec, d3', Value.category]
  rcases d4 with ⟨d4, ho⟩ | ⟨d4, ho⟩
  · subst ho
    exact X₁.ldcString hexec (own := own) (text := text) (index := is) (a := sa) hown' hstr'.1 hstr'.2
      (g := { method := m, pc := pc + 4, locals := ls, stack := .ref T.heap.size :: .ref T.heap.size :: rest, locked := none }) rfl (by rw [hb]; exact d4) _ hsteps
  · subst ho
    exact X₁.ldcStringW hexec (own := own) (text := text) (index := is) (a := sa) hown' hstr'.1 hstr'.2
      (g := { method := m, pc := pc + 4, locals := ls, stack := .ref T.heap.size :: .ref T.heap.size :: rest, locked := none }) rfl (by rw [hb]; exact d4) _ hsteps
end GQ2
def gqOk (q : Nat × Nat × Nat × Nat × Nat × Nat × Bool × String) : Bool :=
  decide (Cond.classLink "Glyphmill" q.2.2.2.1 gqX ∈ lw_tbl) && decide (Cond.initialized gqX ∈ lw_tbl) &&
  (((gqAt "Glyphmill" q.2.2.2.2.2.1).filter vx_no).all fun w => decide (w ∈ gDe) || decide (w = .castable gqX gqX) || (goodWord w && decide (w ∈ lw_tbl))) &&
  ((Cond.classLink "Glyphmill" q.2.2.2.1 gqX :: Cond.initialized gqX :: (gqAt "Glyphmill" q.2.2.2.2.2.1).filter vx_no).all vx_ot) &&
  decide (decode (mBy q.1) q.2.1 = .ok (.new q.2.2.2.1, 3)) && decide (decode (mBy q.1) (q.2.1 + 3) = .ok (.dup, 1)) &&
  (if q.2.2.2.2.2.2.1 then decide (decode (mBy q.1) (q.2.1 + 4) = .ok (.ldc_w q.2.2.2.2.1, 3)) && decide (decode (mBy q.1) (q.2.1 + 7) = .ok (.invokespecial q.2.2.2.2.2.1, 3)) && decide (decode (mBy q.1) (q.2.1 + 10) = .ok (.athrow, 1))
    else decide (decode (mBy q.1) (q.2.1 + 4) = .ok (.ldc q.2.2.2.2.1, 2)) && decide (decode (mBy q.1) (q.2.1 + 6) = .ok (.invokespecial q.2.2.2.2.2.1, 3)) && decide (decode (mBy q.1) (q.2.1 + 9) = .ok (.athrow, 1))) &&
  decide (mOw q.1 = "Glyphmill" ∧ 6 ≤ (mFr q.1).1 ∧ 82 ≤ (mFr q.1).2)
set_option maxRecDepth 100000 in
theorem gqOk_2 : ((gThr[2]?).all fun q => decide (q.2.2.1 = 4) && gqOk q) = true := by decide +kernel
set_option maxRecDepth 100000 in
theorem gqOk_12 : ((gThr[12]?).all fun q => decide (q.2.2.1 = 4) && gqOk q) = true := by decide +kernel
set_option maxRecDepth 100000 in
theorem gqOk_15 : ((gThr[15]?).all fun q => decide (q.2.2.1 = 4) && gqOk q) = true := by decide +kernel
theorem gqOk_all : ∀ q ∈ gThr, q.2.2.1 = 4 → gqOk q = true := by
  intro q hq h4
  obtain ⟨i, hi⟩ := List.getElem?_of_mem hq
  have hl : i < 17 := (List.getElem?_eq_some_iff.mp hi).1
  have hn : ((List.range 17).all fun i => (i == 2 || i == 12 || i == 15) || ((gThr[i]?).all fun q => decide (¬ q.2.2.1 = 4))) = true := by decide
  have h1 := List.all_eq_true.mp hn i (List.mem_range.mpr hl)
  rw [hi] at h1
  simp only [Bool.or_eq_true, beq_iff_eq, Option.all_some, decide_eq_true_eq] at h1
  rcases h1 with ((h1 | h1) | h1) | h1
  · subst h1
    have h2 := gqOk_2
    rw [hi, Option.all_some, Bool.and_eq_true] at h2
    exact h2.2
  · subst h1
    have h2 := gqOk_12
    rw [hi, Option.all_some, Bool.and_eq_true] at h2
    exact h2.2
  · subst h1
    have h2 := gqOk_15
    rw [hi, Option.all_some, Bool.and_eq_true] at h2
    exact h2.2
  · exact absurd h4 h1
end
section
/-! EVERY RUN OF THE SMALL MACHINE IS A CONTRACT -/
theorem gEnt_args {ad : Nat → Nat} {r : Nat} : ∀ (as : List Value) (i j : Nat) (v : Value), ((as.flatMap fun v => if v.category = 2 then [some v, none] else [some v]) ++ List.replicate r none)[j]? = some (some v) → (i + j, gTr ad v) ∈ lv_args i (as.map (gTr ad))
  | [], i, j, v, h => by
    simp only [List.flatMap_nil, List.nil_append] at h
    have := List.mem_of_getElem? h
    have := (List.mem_replicate.mp this).2
    cases this
  | a :: as, i, j, v, h => by
    rw [List.flatMap_cons, List.append_assoc] at h
    rw [List.map_cons, lv_args, gTr_cat]
    by_cases hc : a.category = 2
    · rw [if_pos hc] at h ⊢
      match j, h with
      | 0, h =>
        cases h
        exact List.mem_cons_self
      | 1, h => cases h
      | j + 2, h =>
        have h1 := gEnt_args (ad := ad) as (i + 2) j v h
        rw [show i + 2 + j = i + (j + 2) by omega] at h1
        exact List.mem_cons_of_mem _ h1
    · rw [if_neg hc] at h ⊢
      match j, h with
      | 0, h =>
        cases h
        exact List.mem_cons_self
      | j + 1, h =>
        have h1 := gEnt_args (ad := ad) as (i + 1) j v h
        rw [show i + 1 + j = i + (j + 1) by omega] at h1
        exact List.mem_cons_of_mem _ h1
theorem gEnt_sl {ad : Nat → Nat} (as : List Value) : (lg_sl (as.map (gTr ad))).length = (as.flatMap fun v => if v.category = 2 then [some v, none] else [some v]).length := by
  induction as with
  | nil => rfl
  | cons a as ih =>
    unfold lg_sl at ih ⊢
    rw [List.map_cons, List.flatMap_cons, List.flatMap_cons, List.length_append, List.length_append, ih, gTr_cat]
    split <;> rfl
theorem gEnt_lh {ad : Nat → Nat} {as : List Value} {n : Nat} {ls : Array Slot} (h : lv_has ls n (lv_args 0 (as.map (gTr ad)))) : gLh ls n ad (gEnt as n) := by
  refine ⟨h.1, h.2.1, fun q hq => h.2.2 q ?_⟩
  obtain ⟨v, h1, h2⟩ := gAsc_mem.mp hq
  obtain ⟨j, w⟩ := q
  dsimp only at h1 h2
  subst h2
  have h3 := gEnt_args (ad := ad) as 0 j v h1
  rwa [Nat.zero_add] at h3
section GSOUND
variable {p : Program} {l : Launch} {e : Env} {R : Room} {s : State} {m : MethodId} {args : Array Value} {below : List Frame} {meth : Method} {c : Code}
variable {k : Nat} {cA : Nat → ClassId} {ad : Nat → Nat} {dC : Nat → ClassId} {dI : Nat → Nat → Nat}
theorem g_thrN {z : Nat} {H : Heap} {locs : List Loc} {ls : Array Slot} {pc cnt x : Nat} {L : gL} {μ : gMu} {scr : gScr} {q : Nat × Nat × Nat × Nat × Nat × Nat × Bool × String} (hfl : l.stackTraces = false) (X : gX k p l e R s m args meth c cA ad dC dI (gA ad s.heap.size) scr) (fx : gFx s) (th : gTh (gA ad s.heap.size) s s.heap)
    (htab : c.exceptionTable.toList = tableOf (mHh k)) (hlocks : meth.locks = false) (hR : R.frames = (mFr k).1 ∧ R.locals = (mFr k).2 ∧ R.cells = mCo k ∧ R.slots = 6 * mCo k)
    (hM : gM cA ad dC dI (gA ad s.heap.size) s μ H locs) (hG : s.heap.size + gGh μ ≤ H.size + z) (hl : gLh ls (mML k) ad L) (hcnt : cnt + 1 ≤ mCo k) (hh : mHh k = []) (hq : q ∈ gThr) (q1 : q.1 = k) (q2 : q.2.1 = pc) (q3 : q.2.2.1 = x) (hN : q.2.2.1 = 4) :
    W p l e R s m args below meth c H locs cnt (6 * cnt) (vx_MQ below (gQc cA ad dC dI s.heap.size z (μ, .inr x)) (gXC cA ad dC dI s.heap.size z (μ, .inr x)) args s (mCo k) (6 * mCo k) (gA ad s.heap.size)) (F0 m pc ls []) := by
  obtain ⟨hx, hb, hml, hown, hts, hK, hA, hscr⟩ := X
  have hok := gqOk_all q hq hN
  unfold gqOk at hok
  simp only [Bool.and_eq_true] at hok
  obtain ⟨⟨⟨⟨⟨⟨⟨b3, b4⟩, b5⟩, b6⟩, b7⟩, b8⟩, b9⟩, b10⟩ := hok
  obtain ⟨d1, d2, d3⟩ := of_decide_eq_true b10
  have hX4 : gEx x = gqX := by rw [← q3, hN]; rfl
  subst q1
  subst q2
  rw [d1] at hown
  have w3 : Cond.classLink "Glyphmill" q.2.2.2.1 gqX ∈ gG := List.mem_filter.mpr ⟨of_decide_eq_true b3, rfl⟩
  have w4 : Cond.initialized gqX ∈ gG := List.mem_filter.mpr ⟨of_decide_eq_true b4, rfl⟩
  have hat : ∀ w ∈ (gqAt "Glyphmill" q.2.2.2.2.2.1).filter vx_no, w.before args s = true := by
    intro w hw
    have h7 := List.all_eq_true.mp b5 w hw
    simp only [Bool.or_eq_true, Bool.and_eq_true, decide_eq_true_eq] at h7
    rcases h7 with (h7 | h7) | ⟨h7, h8⟩
    · obtain ⟨x9, rfl⟩ := gDe_form w h7
      exact va_Nw.use rfl (fx.1 _ h7)
    · rw [h7]
      exact va_Nw.use rfl (fx.2.2.2.1 4 (by omega))
    · exact hts _ (List.mem_filter.mpr ⟨h8, h7⟩)
  have hgood : ∀ w ∈ Cond.classLink "Glyphmill" q.2.2.2.1 gqX :: Cond.initialized gqX :: (gqAt "Glyphmill" q.2.2.2.2.2.1).filter vx_no, vx_ot w = true := fun w hw => List.all_eq_true.mp b6 w hw
  obtain ⟨sa, hsa⟩ := fx.2.2.2.2 q hq
  have hout : ∀ pc9, ∀ x ∈ c.exceptionTable.toList, covers x pc9 = false := by
    intro pc9 x9 hx9
    rw [htab, hh] at hx9
    cases hx9
  have hxc : ∀ t : State, s.vm.Alike t.vm → H.size + 1 ≤ t.heap.size → (∀ q : Nat, q < H.size → t.heap[q]? = H[q]?) → gXC cA ad dC dI s.heap.size z (μ, .inr x) gqX s t := by
    intro t _ hz hk9
    refine ⟨⟨x, rfl, by omega, hX4.symm⟩, hM.1.kept (fun j z hj => hk9 z.1 (hM.1 j z hj).lt), ⟨by have := hM.2.2.1; omega, fun z hz9 hnA => ?_⟩, by show s.heap.size + gGh _ + 1 ≤ t.heap.size + z; omega⟩
    rw [hk9 z (Nat.lt_of_lt_of_le hz9 hM.2.2.1)]
    exact hM.2.2.2.1 z hz9 hnA
  have hz : ls.size = c.maxLocals := by rw [hml]; exact hl.1
  by_cases hw : q.2.2.2.2.2.2.1 = true
  · rw [if_pos hw] at b9
    simp only [Bool.and_eq_true, decide_eq_true_eq] at b9
    exact gq_throw (o := 3) hx hb hfl hown (hts _ w3) (hts _ w4) hsa hat hgood th.1 th.2 hM.2.2 hz (of_decide_eq_true b7) (of_decide_eq_true b8) (Or.inr ⟨b9.1.1, rfl⟩) b9.1.2 b9.2 (hout _) (by rw [hR.1]; omega) (by rw [hR.2.1]; exact Nat.le_trans (Nat.le_refl 82) d3) (by rw [hR.2.2.1]; exact hcnt) (by rw [hR.2.2.2]; omega) hlocks hxc hM.2.2.2.2 hcnt (by omega)
  · rw [if_neg hw] at b9
    simp only [Bool.and_eq_true, decide_eq_true_eq] at b9
    exact gq_throw (o := 2) hx hb hfl hown (hts _ w3) (hts _ w4) hsa hat hgood th.1 th.2 hM.2.2 hz (of_decide_eq_true b7) (of_decide_eq_true b8) (Or.inl ⟨b9.1.1, rfl⟩) b9.1.2 b9.2 (hout _) (by rw [hR.1]; omega) (by rw [hR.2.1]; exact Nat.le_trans (Nat.le_refl 82) d3) (by rw [hR.2.2.1]; exact hcnt) (by rw [hR.2.2.2]; omega) hlocks hxc hM.2.2.2.2 hcnt (by omega)
/-- the end of a method -/
theorem g_end {z : Nat} {H : Heap} {locs : List Loc} {ls : Array Slot} {f : gF} {cnt : Nat} {r : gR} {res : gMu × gRes} {scr : gScr} (hfl : l.stackTraces = false) (X : gX k p l e R s m args meth c cA ad dC dI (gA ad s.heap.size) scr) (fx : gFx s) (th : gTh (gA ad s.heap.size) s s.heap)
    (htab : c.exceptionTable.toList = tableOf (mHh k)) (hret : meth.sig.returnType = mRt k) (hlocks : meth.locks = false) (hR : R.frames = (mFr k).1 ∧ R.locals = (mFr k).2 ∧ R.cells = mCo k ∧ R.slots = 6 * mCo k)
    (hr : gAt k f.1 = some r) (he : gEnd k r f cnt = some res) (hcnt : cnt ≤ mCo k) (hM : gM cA ad dC dI (gA ad s.heap.size) s f.2.2.2 H locs) (hG : s.heap.size + gGh f.2.2.2 ≤ H.size + z) (hl : gLh ls (mML k) ad f.2.1) :
    W p l e R s m args below meth c H locs cnt (6 * cnt) (vx_MQ below (gQc cA ad dC dI s.heap.size z res) (gXC cA ad dC dI s.heap.size z res) args s (mCo k) (6 * mCo k) (gA ad s.heap.size)) (F0 m f.1 ls (f.2.2.1.map (gTr ad))) := by
  have hX := X
  obtain ⟨hx, hb, hml, hown, hts, hK, hA, hscr⟩ := X
  obtain ⟨hd, hc⟩ := g_row hr
  obtain ⟨μ', x⟩ := res
  cases x with
  | inr y =>
    obtain ⟨h1, h2, h3, h4, h5, h6, i, q, hi, hq, q1, q2, q3, q4⟩ := gEnd_thr hr he
    obtain ⟨pc, L, st, μ⟩ := f
    dsimp only at h4 h6 q2 hM hG hl hd ⊢
    subst h4
    subst h6
    have hok0 := List.all_eq_true.mp gThr_ok q hq
    rw [Bool.or_eq_true] at hok0
    rcases hok0 with hN | hok
    · exact g_thrN hfl hX fx th htab hlocks hR hM hG hl h1 h5 hq q1 q2 q3 (of_decide_eq_true hN)
    unfold gThrOk at hok
    simp only [Bool.and_eq_true] at hok
    obtain ⟨⟨⟨⟨⟨⟨⟨⟨⟨b1, b2⟩, b3⟩, b4⟩, b5⟩, b6⟩, b7⟩, b8⟩, b9⟩, b10⟩ := hok
    obtain ⟨d1, d2, d3⟩ := of_decide_eq_true b10
    subst q1
    subst q2
    subst q3
    subst q4
    rw [d1] at hown
    have w3 : Cond.classLink "Glyphmill" q.2.2.2.1 (gEx q.2.2.1) ∈ gG := List.mem_filter.mpr ⟨of_decide_eq_true b3, rfl⟩
    have w4 : Cond.initialized (gEx q.2.2.1) ∈ gG := List.mem_filter.mpr ⟨of_decide_eq_true b4, rfl⟩
    have hat : ∀ w ∈ vx_atS "Glyphmill" q.2.2.2.2.2.1 (gEx q.2.2.1) gNm, w.before args s = true := by
      intro w hw
      have h7 := List.all_eq_true.mp b5 w hw
      simp only [Bool.or_eq_true, Bool.and_eq_true, decide_eq_true_eq] at h7
      rcases h7 with (h7 | h7) | ⟨h7, h8⟩
      · obtain ⟨x9, rfl⟩ := gDe_form w h7
        exact va_Nw.use rfl (fx.1 _ h7)
      · rw [h7]
        exact va_Nw.use rfl (fx.2.2.2.1 _ h2)
      · exact hts _ (List.mem_filter.mpr ⟨h8, h7⟩)
    have hgood : ∀ w ∈ Cond.classLink "Glyphmill" q.2.2.2.1 (gEx q.2.2.1) :: Cond.initialized (gEx q.2.2.1) :: vx_atS "Glyphmill" q.2.2.2.2.2.1 (gEx q.2.2.1) gNm, vx_ot w = true := fun w hw => List.all_eq_true.mp b6 w hw
    obtain ⟨sa, hsa⟩ := fx.2.2.2.2 q hq
    have hout : ∀ pc9, ∀ x ∈ c.exceptionTable.toList, covers x pc9 = false := by
      intro pc9 x9 hx9
      rw [htab, h5] at hx9
      cases hx9
    have hxc : ∀ t : State, s.vm.Alike t.vm → H.size + 1 ≤ t.heap.size → (∀ q : Nat, q < H.size → t.heap[q]? = H[q]?) → gXC cA ad dC dI s.heap.size z (μ', .inr q.2.2.1) (gEx q.2.2.1) s t := by
      intro t _ hz hk9
      refine ⟨⟨_, rfl, h2, rfl⟩, hM.1.kept (fun j z hj => hk9 z.1 (hM.1 j z hj).lt), ⟨by have := hM.2.2.1; omega, fun z hz9 hnA => ?_⟩, by show s.heap.size + gGh _ + 1 ≤ t.heap.size + z; omega⟩
      rw [hk9 z (Nat.lt_of_lt_of_le hz9 hM.2.2.1)]
      exact hM.2.2.2.1 z hz9 hnA
    have hz : ls.size = c.maxLocals := by rw [hml]; exact hl.1
    have hns : ∀ n ∈ gNm, Bundle.fit n = true := fun n hn => List.all_eq_true.mp b2 n hn
    by_cases hw : q.2.2.2.2.2.2.1 = true
    · rw [if_pos hw] at b9
      simp only [Bool.and_eq_true, decide_eq_true_eq] at b9
      exact vx_throwSW hx hb hfl hown b1 hns (hts _ w3) (hts _ w4) hsa hat hgood th.1 th.2 hM.2.2 hz (of_decide_eq_true b7) (of_decide_eq_true b8) b9.1.1 b9.1.2 b9.2 (hout _) (by rw [hR.1]; exact d2) (by rw [hR.2.1]; exact d3) (by rw [hR.2.2.1]; exact h1) (by rw [hR.2.2.2]; omega) hlocks hxc hM.2.2.2.2 h1 (by omega)
    · rw [if_neg hw] at b9
      simp only [Bool.and_eq_true, decide_eq_true_eq] at b9
      exact vx_throwS hx hb hfl hown b1 hns (hts _ w3) (hts _ w4) hsa hat hgood th.1 th.2 hM.2.2 hz (of_decide_eq_true b7) (of_decide_eq_true b8) b9.1.1 b9.1.2 b9.2 (hout _) (by rw [hR.1]; exact d2) (by rw [hR.2.1]; exact d3) (by rw [hR.2.2.1]; exact h1) (by rw [hR.2.2.2]; omega) hlocks hxc hM.2.2.2.2 h1 (by omega)
  | inl v =>
    have hQ : ∀ (w : Option Value), w = v.map (gTr ad) → f.2.2.2 = μ' → ∀ t : State, t.heap = H → s.WarmedH t.vm → gQc cA ad dC dI s.heap.size z (μ', .inl v) args s (.returned w) t := by
      intro w hw hμ t ht _
      subst hw
      subst hμ
      exact ⟨⟨v, rfl, rfl⟩, by rw [ht]; exact hM.1, hM.2.2.F ht, by rw [ht]; exact hG⟩
    obtain ⟨ins, len, ⟨a1, a2, a3⟩, cv⟩ := r
    obtain ⟨pc, L, st, μ⟩ := f
    dsimp only at hM hl hd hQ ⊢
    refine W.widen hcnt (Nat.mul_le_mul_left 6 hcnt) (vx_ret ?_)
    unfold gEnd at he
    cases ins
    case return_ =>
      dsimp only at he
      split at he
      · rename_i h1
        cases he
        exact W.vret hx hb (hret.trans h1) (hQ none rfl rfl) hM.2.2.2.2 hd hlocks
      · cases he
    case ireturn =>
      dsimp only at he
      split at he
      · rename_i x
        unfold gIf at he
        split at he
        · rename_i h1
          cases he
          cases hty : mRt k with
          | none => rw [hty] at h1; exact h1.elim
          | some ty =>
            rw [hty] at h1
            have hn : narrow ty (.int x) = .int x := by
              cases ty
              case int => rfl
              all_goals exact h1
            exact W.zret hx hb (hret.trans hty) hn (hQ (some (.int x)) rfl rfl) hM.2.2.2.2 hd hlocks
        · cases he
      · cases he
    case lreturn =>
      dsimp only at he
      split at he
      · rename_i x h1
        cases he
        exact W.lret hx hb (hret.trans h1) (hQ (some (.long x)) rfl rfl) hM.2.2.2.2 hd hlocks
      · cases he
    case freturn =>
      dsimp only at he
      split at he
      · rename_i x h1
        cases he
        exact W.fret hx hb (hret.trans h1) (hQ (some (.float x)) rfl rfl) hM.2.2.2.2 hd hlocks
      · cases he
    case dreturn =>
      dsimp only at he
      split at he
      · rename_i x h1
        cases he
        exact W.dret hx hb (hret.trans h1) (hQ (some (.double x)) rfl rfl) hM.2.2.2.2 hd hlocks
      · cases he
    case new i =>
      dsimp only at he
      split at he
      · split at he <;> cases he
      · cases he
    all_goals cases he
end GSOUND
set_option maxHeartbeats 4000000 in
theorem g_ct (l : Launch) (hfl : l.stackTraces = false) : ∀ (n k : Nat) (as : List Value) (μ : gMu) (res : gMu × gRes), k < 166 → (gEnt as (mML k)).length ≤ mML k → gRun n none k (0, gEnt as (mML k), [], μ) 0 = some res → gCt l k as μ res := by
  intro n
  induction n using Nat.strongRecOn with
  | ind n ih =>
    intro k as μ res hk hent hrun cA ad dC dI sz
    obtain ⟨-, -, -, -, f5, f6⟩ := gMf hk
    have hsl : (lg_sl (as.map (gTr ad))).length ≤ mML k := by
      rw [gEnt_sl]
      unfold gEnt at hent
      rw [List.length_append] at hent
      omega
    have body : ∀ p e s m args below meth c s₁, BodyLoose p l (mY k) (headSpec (mWs k) (mRm k)) (mBy k) (mML k) (mRt k) e s m args below meth c s₁ → c.maxLocals = mML k → c.exceptionTable.toList = tableOf (mHh k) → va_Pc (as.map (gTr ad)) (gPre cA ad dC dI sz μ) args s →
        W p l e (headSpec (mWs k) (mRm k)).room s m args below meth c s.heap [] 0 0 (vx_MQ below (gQc cA ad dC dI sz (gGh μ) res) (gXC cA ad dC dI sz (gGh μ) res) args s (mCo k) (6 * mCo k) (gA ad sz)) (entryFrame m args (mML k)) := by
      intro p e s m args below meth c s₁ B hml htab hv
      obtain ⟨rfl, hsz, hP, hK, hD0, fx, th⟩ := hv
      subst hsz
      have hts := atoms_spec (ws := mWs k) B.pre
      have hown : s.vm.findClass (mOw k) = some m.cls := findClass_of_methodNamed B.named
      have hA : ∀ q : Nat, s.heap.size ≤ q → gA ad s.heap.size q := fun q h => Or.inr h
      have X : gX k p l e (headSpec (mWs k) (mRm k)).room s m (as.map (gTr ad)).toArray meth c cA ad dC dI (gA ad s.heap.size) none := ⟨B.exec, B.bytes, hml, hown, fun w hw => hts w (List.mem_cons_of_mem _ hw), hK, hA, fun _ _ h => nomatch h⟩
      have hM : gM cA ad dC dI (gA ad s.heap.size) s μ s.heap [] := ⟨hP, gA_D hD0, va_S.rf⟩
      have hl := lv_entry (as.map (gTr ad)) (n := mML k) hsl
      rw [lg_entry_eq]
      generalize (lg_sl (as.map (gTr ad)) ++ List.replicate (mML k - (lg_sl (as.map (gTr ad))).length) Slot.unset).toArray = ls at hl ⊢
      have hl9 : gLh ls (mML k) ad (gEnt as (mML k)) := gEnt_lh hl
      refine g_frame (z := gGh μ) (c0 := 0) (s0 := 0) n ih X fx th (by omega) (Or.inr htab) ⟨rfl, rfl⟩ ⟨by rw [Nat.zero_add]; exact Nat.le_refl _, by rw [Nat.zero_add]; exact Nat.le_refl _⟩ (fun f cnt r H locs ls1 hr he hcnt hM1 hG1 hl1 => ?_) (fun μ' x pc cnt H locs ls1 rest q9 ce hres hx6 hh hcnt hM1 hG1 hce hcv hcl => ?_) n (Nat.le_refl n) (0, gEnt as (mML k), [], μ) 0 s.heap [] ls hrun (Nat.zero_le _) hM (Nat.le_refl _) (fun _ => rfl) hl9
      · rw [Nat.zero_add, Nat.zero_add]
        exact g_end hfl X fx th htab B.returns B.notSynchronized ⟨rfl, rfl, rfl, rfl⟩ hr he hcnt hM1 hG1 hl1
      · rw [Nat.zero_add, Nat.zero_add]
        subst hres
        exact vx_out (fun x9 hx9 => by rw [htab, hh] at hx9; cases hx9) B.notSynchronized hce hcv hcl (fun t ht _ => ⟨⟨x, rfl, hx6, rfl⟩, by rw [ht]; exact hM1.1, hM1.2.2.F ht, by rw [ht]; exact hG1⟩) hM1.2.2.2.2 hcnt (Nat.mul_le_mul_left 6 hcnt)
    cases hh : mHh k with
    | nil =>
      have hws : mWs k = Cond.code (mY k) (mBy k) (mML k) (mRt k) :: gG := by unfold mWs; rw [hh]
      exact vx_ofW f6 hws (fun p e s m args below meth c s₁ B hml ht hv => body p e s m args below meth c s₁ B hml (by
        rw [hh]
        exact List.eq_nil_iff_forall_not_mem.mpr (fun x hx => ht x hx)) hv)
    | cons h0 hs0 =>
      have hws : mWs k = Cond.codeWith (mY k) (mBy k) (mML k) (mRt k) (h0 :: hs0) :: gG := by unfold mWs; rw [hh]
      refine vx_ofWH f6 hws (fun p e s m args below meth c s₁ B hml hv => body p e s m args below meth c s₁ B hml ?_ hv)
      have h9 : (Cond.codeWith (mY k) (mBy k) (mML k) (mRt k) (h0 :: hs0)).before args s = true := atoms_spec (ws := mWs k) B.pre _ (by rw [hws]; exact List.mem_cons_self)
      have h8 := vx_table (x := mY k) (p := p) B h9
      rw [hh]
      exact h8
end
section
/-! PURE RULES: how a run of the small machine is shown, from its end backwards -/
theorem gMath_0 (f : gF) : gMath (.int 0) f = none := by
  obtain ⟨pc, l, st, μ⟩ := f
  rcases st with _ | ⟨a, _ | ⟨b, st⟩⟩
  · rfl
  · cases a <;> rfl
  · cases a <;> cases b <;> rfl
theorem gMath_1 (f : gF) : gMath (.int 1) f = none := by
  obtain ⟨pc, l, st, μ⟩ := f
  rcases st with _ | ⟨a, _ | ⟨b, st⟩⟩
  · rfl
  · cases a <;> rfl
  · cases a <;> cases b <;> rfl
theorem gRun_plainI {n : Nat} {scr : gScr} {k : Nat} {r : gR} {f f' : gF} {cnt : Nat} {cs : List Prop} (hr : gAt k f.1 = some r) (hs : gStp scr r f = some (f', cs)) (hc : gAll cs) : gRun (n + 1) scr k f cnt = gRun n scr k f' cnt := by
  have key : (match gStp scr r f with
        | some (f', cs) => gIf (gAll cs) (gRun n scr k f' cnt) none
        | none => none) = gRun n scr k f' cnt := by
    rw [hs]
    show gIf (gAll cs) (gRun n scr k f' cnt) none = _
    unfold gIf
    exact if_pos hc
  rw [gRun, hr]
  obtain ⟨ins, len, ⟨a1, a2, a3⟩, cv⟩ := r
  cases ins
  case invokevirtual i =>
    have hs9 : gStM scr a2 cv f = some (f', cs) := hs
    unfold gStM at hs9
    split at hs9
    · exact (if_pos (Or.inr (Or.inr (Or.inr (by decide))))).trans key
    · exact (if_pos (Or.inr (Or.inr (Or.inr (by decide))))).trans key
    · cases hs9
  case invokestatic i =>
    dsimp only
    split
    · have hs' : gMath (.int 0) f = some (f', cs) := hs
      rw [gMath_0] at hs'
      cases hs'
    · have hs' : gMath (.int 1) f = some (f', cs) := hs
      rw [gMath_1] at hs'
      cases hs'
    · exact key
  case return_ => exact nomatch (show (none : gO) = some (f', cs) from hs)
  case ireturn => exact nomatch (show (none : gO) = some (f', cs) from hs)
  case lreturn => exact nomatch (show (none : gO) = some (f', cs) from hs)
  case freturn => exact nomatch (show (none : gO) = some (f', cs) from hs)
  case dreturn => exact nomatch (show (none : gO) = some (f', cs) from hs)
  case new i => exact nomatch (show (none : gO) = some (f', cs) from hs)
  all_goals exact key
theorem gRun_endI {n : Nat} {scr : gScr} {k : Nat} {r : gR} {f : gF} {cnt : Nat} {res : gMu × gRes} (hr : gAt k f.1 = some r) (he : gEnd k r f cnt = some res) : gRun (n + 1) scr k f cnt = some res := by
  rw [gRun, hr]
  obtain ⟨ins, len, ⟨a1, a2, a3⟩, cv⟩ := r
  cases ins
  case return_ => exact he
  case ireturn => exact he
  case lreturn => exact he
  case freturn => exact he
  case dreturn => exact he
  case new i => exact he
  all_goals exact nomatch (show (none : Option (gMu × gRes)) = some res from he)
theorem gRun_inv1 {n : Nat} {scr : gScr} {k : Nat} {r : gR} {f : gF} {cnt : Nat} {res : gMu × gRes} {na : Nat} (h : gInvP n scr k r f cnt res na) : (if (f.2.2.1.take na).reverse.length = na ∧ cnt + mCo r.2.2.1.1 ≤ mCo k ∧ ((f.2.2.1.drop na).map fun v => v.category).sum ≤ 8 ∧ r.2.2.1.1 < k ∧ (gEnt (f.2.2.1.take na).reverse (mML r.2.2.1.1)).length ≤ mML r.2.2.1.1 then
          (match gRun n none r.2.2.1.1 (0, gEnt (f.2.2.1.take na).reverse (mML r.2.2.1.1), [], f.2.2.2) 0 with
            | some (μ', .inl v) => gRun n scr k (f.1 + 3, f.2.1, v.toList ++ f.2.2.1.drop na, μ') (cnt + mCo r.2.2.1.1)
            | some (μ', .inr y) => (match mHh k with
              | [] => some (μ', .inr y)
              | _ => (match gHnd k f.1 y with
                | some i => (match (mHh k)[i]? with
                  | some h => (match gAt k h.2.2.1 with
                    | some (.astore_n _, _, (j, _), _) => gRun n scr k (h.2.2.1 + 1, (gKill f.2.1 j).set j none, [], gBm μ') (cnt + mCo r.2.2.1.1)
                    | some (.astore _, _, (j, _), _) => gRun n scr k (h.2.2.1 + 2, (gKill f.2.1 j).set j none, [], gBm μ') (cnt + mCo r.2.2.1.1)
                    | _ => none)
                  | none => none)
                | none => none))
            | none => none)
        else none) = some res := by
  obtain ⟨c1, c2, c3, c4, c5, μ', x, hx, h2⟩ := h
  rw [if_pos ⟨c1, c2, c3, c4, c5⟩, hx]
  rcases h2 with ⟨v, rfl, h3⟩ | ⟨y, rfl, hh, rfl⟩ | ⟨y, i, hh, r2, len, rfl, h3, h4, h5, h6, h7⟩
  · exact h3
  · dsimp only
    rw [hh]
  · dsimp only
    have hne : mHh k ≠ [] := fun e => by rw [e] at h4; cases h4
    split
    · rename_i e
      exact absurd e hne
    · rw [h3]
      dsimp only
      rw [h4]
      dsimp only
      rw [h5]
      obtain ⟨ins, len9, ⟨a1, a2, a3⟩, cv⟩ := r2
      rcases h6 with ⟨n9, e1, e2⟩ | ⟨n9, e1, e2⟩
      · dsimp only at e1
        subst e1
        subst e2
        exact h7
      · dsimp only at e1
        subst e1
        subst e2
        exact h7
theorem gRun_virtI {n : Nat} {scr : gScr} {k i q : Nat} {r : gR} {f : gF} {cnt : Nat} {res : gMu × gRes} (hr : gAt k f.1 = some r) (hi : r.1 = .invokevirtual i) (hq : (f.2.2.1.drop r.2.2.1.2.1).head? = some (.ref q)) (hci : (gObj q).map (fun x => x.1) = some (mCi r.2.2.1.1)) (hsc : q ≠ gSC) (hcv : r.2.2.2 = .int 0)
    (h : gInvP n scr k r f cnt res (r.2.2.1.2.1 + 1)) : gRun (n + 1) scr k f cnt = some res := by
  rw [gRun, hr]
  obtain ⟨ins, len, ⟨a1, a2, a3⟩, cv⟩ := r
  dsimp only at hi
  subst hi
  dsimp only at hq hci ⊢
  rw [hq]
  dsimp only
  rw [if_neg (by
    rintro (h1 | h1 | h1 | h1)
    · rw [h1] at hci; cases hci
    · exact hsc h1
    · exact h1 hci
    · exact h1 hcv)]
  exact gRun_inv1 h
theorem gRun_statI {n : Nat} {scr : gScr} {k i : Nat} {r : gR} {f : gF} {cnt : Nat} {res : gMu × gRes} (hr : gAt k f.1 = some r) (hi : r.1 = .invokestatic i) (h01 : r.2.2.2 = .int 0 ∨ r.2.2.2 = .int 1)
    (h : gInvP n scr k r f cnt res r.2.2.1.2.1) : gRun (n + 1) scr k f cnt = some res := by
  rw [gRun, hr]
  obtain ⟨ins, len, ⟨a1, a2, a3⟩, cv⟩ := r
  dsimp only at hi h01
  subst hi
  rcases h01 with rfl | rfl
  · exact gRun_inv1 h
  · exact gRun_inv1 h
theorem gObj_sc {q : Nat} {x : Nat} (h : (gObj q).map (fun x => x.1) = some x) : q ≠ gSC := by
  intro e
  subst e
  cases h
theorem gRun_mono1 : ∀ (n : Nat) {scr : gScr} {k : Nat} {f : gF} {cnt : Nat} {res : gMu × gRes}, gRun n scr k f cnt = some res → gRun (n + 1) scr k f cnt = some res
  | 0, _, _, _, _, _, h => by cases h
  | n + 1, scr, k, f, cnt, res, h => by
    obtain ⟨r, hr, h1⟩ := gRun_inv h
    have key : ∀ na, gInvP n scr k r f cnt res na → gInvP (n + 1) scr k r f cnt res na := by
      rintro na ⟨c1, c2, c3, c4, c5, μ', x, hx, h2⟩
      refine ⟨c1, c2, c3, c4, c5, μ', x, gRun_mono1 n hx, ?_⟩
      rcases h2 with ⟨v, e, h3⟩ | h3 | ⟨y, i, hh, r2, len, e1, e2, e3, e4, e5, h3⟩
      · exact Or.inl ⟨v, e, gRun_mono1 n h3⟩
      · exact Or.inr (Or.inl h3)
      · exact Or.inr (Or.inr ⟨y, i, hh, r2, len, e1, e2, e3, e4, e5, gRun_mono1 n h3⟩)
    rcases h1 with ⟨f', cs, hs, hcs, h2⟩ | h2 | ⟨i, q, hi, hq, hci, hcv, h2⟩ | ⟨i, hi, h01, h2⟩
    · rw [gRun_plainI hr hs hcs]
      exact gRun_mono1 n h2
    · exact gRun_endI hr h2
    · exact gRun_virtI hr hi hq hci (gObj_sc hci) hcv (key _ h2)
    · exact gRun_statI hr hi h01 (key _ h2)
theorem gRun_mono {n n' : Nat} {scr : gScr} {k : Nat} {f : gF} {cnt : Nat} {res : gMu × gRes} (hn : n ≤ n') (h : gRun n scr k f cnt = some res) : gRun n' scr k f cnt = some res := by
  induction hn with
  | refl => exact h
  | step _ ih => exact gRun_mono1 _ ih
/-- the frame comes to an end with P -/
def gWp (scr : gScr) (k : Nat) (f : gF) (cnt : Nat) (P : gMu → gRes → Prop) : Prop := ∃ n μ' x, gRun n scr k f cnt = some (μ', x) ∧ P μ' x
/-- a call of the method k -/
def gCl' (k : Nat) (as : List Value) (μ : gMu) (P : gMu → gRes → Prop) : Prop := gWp none k (0, gEnt as (mML k), [], μ) 0 P
theorem gWp_imp {scr : gScr} {k : Nat} {f : gF} {cnt : Nat} {P P' : gMu → gRes → Prop} (h : gWp scr k f cnt P) (hp : ∀ μ x, P μ x → P' μ x) : gWp scr k f cnt P' := by
  obtain ⟨n, μ', x, h1, h2⟩ := h
  exact ⟨n, μ', x, h1, hp _ _ h2⟩
def gSts (t : List (Nat × gR)) (scr : gScr) : Nat → gF → gO
  | 0, f => some (f, [])
  | n + 1, f => match gLk t f.1 with
    | none => none
    | some r => match gStp scr r f with
      | none => none
      | some (f', cs) => match gSts t scr n f' with
        | none => none
        | some (f2, cs2) => some (f2, cs ++ cs2)
theorem gAll_app : ∀ (a b : List Prop), gAll (a ++ b) → gAll a ∧ gAll b
  | [], _, h => ⟨trivial, h⟩
  | [p], [], h => ⟨h, trivial⟩
  | [p], q :: r, h => ⟨h.1, h.2⟩
  | p :: q :: r, b, h => by
    have h1 := gAll_app (q :: r) b h.2
    exact ⟨⟨h.1, h1.1⟩, h1.2⟩
theorem gWp_sts {t : List (Nat × gR)} {scr : gScr} {k : Nat} (ht : gCode[k]? = some t) : ∀ (n : Nat) {f f' : gF} {cnt : Nat} {cs : List Prop} {P : gMu → gRes → Prop}, gSts t scr n f = some (f', cs) → gAll cs → gWp scr k f' cnt P → gWp scr k f cnt P
  | 0, f, f', cnt, cs, P, hs, _, h => by
    cases hs
    exact h
  | n + 1, f, f', cnt, cs, P, hs, hc, h => by
    unfold gSts at hs
    split at hs
    · cases hs
    · rename_i r hr
      split at hs
      · cases hs
      · rename_i f1 cs1 h1
        split at hs
        · cases hs
        · rename_i f2 cs2 h2
          cases hs
          obtain ⟨a1, a2⟩ := gAll_app _ _ hc
          obtain ⟨m, μ', x, hm, hp⟩ := gWp_sts ht n h2 a2 h
          have hat : gAt k f.1 = some r := by unfold gAt; rw [ht]; exact hr
          exact ⟨m + 1, μ', x, by rw [gRun_plainI hat h1 a1]; exact hm, hp⟩
/-- a branch on one int -/
theorem gWp_if {t : List (Nat × gR)} {scr : gScr} {k : Nat} (ht : gCode[k]? = some t) {pc len a1 a2 a3 : Nat} {cn : Jvm.ClassFile.Cond} {off : Int} {l : gL} {x : Int32} {st : List Value} {μ : gMu} {cnt : Nat} {cv : Value} {P : gMu → gRes → Prop} (hr : gLk t pc = some (.ifCond cn off, len, (a1, a2, a3), cv))
    (h : (gCond cn x 0 = true → gWp scr k (a1, l, st, μ) cnt P) ∧ (¬ gCond cn x 0 = true → gWp scr k (pc + 3, l, st, μ) cnt P)) : gWp scr k (pc, l, .int x :: st, μ) cnt P := by
  have hat : gAt k pc = some (.ifCond cn off, len, (a1, a2, a3), cv) := by unfold gAt; rw [ht]; exact hr
  by_cases hc : gCond cn x 0 = true
  · obtain ⟨m, μ', y, hm, hp⟩ := h.1 hc
    refine ⟨m + 1, μ', y, ?_, hp⟩
    rw [gRun_plainI (f := (pc, l, .int x :: st, μ)) (f' := (a1, l, st, μ)) (cs := []) hat (by show some ((if gCond cn x 0 = true then a1 else pc + 3, l, st, μ), []) = _; rw [if_pos hc]) trivial]
    exact hm
  · obtain ⟨m, μ', y, hm, hp⟩ := h.2 hc
    refine ⟨m + 1, μ', y, ?_, hp⟩
    rw [gRun_plainI (f := (pc, l, .int x :: st, μ)) (f' := (pc + 3, l, st, μ)) (cs := []) hat (by show some ((if gCond cn x 0 = true then a1 else pc + 3, l, st, μ), []) = _; rw [if_neg hc]) trivial]
    exact hm
theorem gWp_icmp {t : List (Nat × gR)} {scr : gScr} {k : Nat} (ht : gCode[k]? = some t) {pc len a1 a2 a3 : Nat} {cn : Jvm.ClassFile.Cond} {off : Int} {l : gL} {x y : Int32} {st : List Value} {μ : gMu} {cnt : Nat} {cv : Value} {P : gMu → gRes → Prop} (hr : gLk t pc = some (.if_icmp cn off, len, (a1, a2, a3), cv))
    (h : (gCond cn x y = true → gWp scr k (a1, l, st, μ) cnt P) ∧ (¬ gCond cn x y = true → gWp scr k (pc + 3, l, st, μ) cnt P)) : gWp scr k (pc, l, .int y :: .int x :: st, μ) cnt P := by
  have hat : gAt k pc = some (.if_icmp cn off, len, (a1, a2, a3), cv) := by unfold gAt; rw [ht]; exact hr
  by_cases hc : gCond cn x y = true
  · obtain ⟨m, μ', z, hm, hp⟩ := h.1 hc
    refine ⟨m + 1, μ', z, ?_, hp⟩
    rw [gRun_plainI (f := (pc, l, .int y :: .int x :: st, μ)) (f' := (a1, l, st, μ)) (cs := []) hat (by show some ((if gCond cn x y = true then a1 else pc + 3, l, st, μ), []) = _; rw [if_pos hc]) trivial]
    exact hm
  · obtain ⟨m, μ', z, hm, hp⟩ := h.2 hc
    refine ⟨m + 1, μ', z, ?_, hp⟩
    rw [gRun_plainI (f := (pc, l, .int y :: .int x :: st, μ)) (f' := (pc + 3, l, st, μ)) (cs := []) hat (by show some ((if gCond cn x y = true then a1 else pc + 3, l, st, μ), []) = _; rw [if_neg hc]) trivial]
    exact hm
theorem gWp_end {t : List (Nat × gR)} {scr : gScr} {k : Nat} (ht : gCode[k]? = some t) {r : gR} {f : gF} {cnt : Nat} {μ' : gMu} {x : gRes} {P : gMu → gRes → Prop} (hr : gLk t f.1 = some r) (he : gEnd k r f cnt = some (μ', x)) (hp : P μ' x) : gWp scr k f cnt P := by
  have hat : gAt k f.1 = some r := by unfold gAt; rw [ht]; exact hr
  exact ⟨1, μ', x, gRun_endI hat he, hp⟩
theorem gEnd_int {k cnt : Nat} {a : Nat} {b : Nat × Nat × Nat} {cv : Value} {pc : Nat} {l : gL} {x : Int32} {μ : gMu} (h : gRok (mRt k) x) : gEnd k (.ireturn, a, b, cv) (pc, l, [.int x], μ) cnt = some (μ, .inl (some (.int x))) := by
  show gIf (gRok (mRt k) x) (some (μ, (Sum.inl (some (Value.int x)) : gRes))) none = _
  unfold gIf
  exact if_pos h
/-- what a frame owes behind a call: it goes on, or the exception leaves, or it is caught -/
def gAfter (scr : gScr) (k k' pc : Nat) (l : gL) (rest : List Value) (cnt : Nat) (P : gMu → gRes → Prop) : gMu → gRes → Prop := fun μ' x =>
  (∃ v, x = .inl v ∧ gWp scr k (pc + 3, l, v.toList ++ rest, μ') (cnt + mCo k') P) ∨
  (∃ y, x = .inr y ∧ mHh k = [] ∧ P μ' (.inr y)) ∨
  ∃ y i h r2 len, x = .inr y ∧ gHnd k pc y = some i ∧ (mHh k)[i]? = some h ∧ gAt k h.2.2.1 = some r2 ∧ ((∃ n9, r2.1 = .astore_n n9 ∧ len = 1) ∨ (∃ n9, r2.1 = .astore n9 ∧ len = 2)) ∧ gWp scr k (h.2.2.1 + len, (gKill l r2.2.2.1.1).set r2.2.2.1.1 none, [], gBm μ') (cnt + mCo k') P
theorem gInv_of {scr : gScr} {k : Nat} {r : gR} {f : gF} {cnt na : Nat} {as rest : List Value} {P : gMu → gRes → Prop} (has : (f.2.2.1.take na).reverse = as) (hrest : f.2.2.1.drop na = rest) (hlen : as.length = na)
    (hnum : cnt + mCo r.2.2.1.1 ≤ mCo k ∧ (rest.map fun v => v.category).sum ≤ 8 ∧ r.2.2.1.1 < k ∧ (gEnt as (mML r.2.2.1.1)).length ≤ mML r.2.2.1.1)
    (h : gCl' r.2.2.1.1 as f.2.2.2 (gAfter scr k r.2.2.1.1 f.1 f.2.1 rest cnt P)) : ∃ n μ' x, gInvP n scr k r f cnt (μ', x) na ∧ P μ' x := by
  obtain ⟨n1, μ1, x1, h1, h2⟩ := h
  subst has
  subst hrest
  rcases h2 with ⟨v, rfl, n2, μ2, x2, h3, h4⟩ | ⟨y, rfl, hh, hp⟩ | ⟨y, i, hh, r2, len, rfl, e1, e2, e3, e4, n2, μ2, x2, h3, h4⟩
  · exact ⟨max n1 n2, μ2, x2, ⟨hlen, hnum.1, hnum.2.1, hnum.2.2.1, hnum.2.2.2, μ1, _, gRun_mono (Nat.le_max_left _ _) h1, Or.inl ⟨v, rfl, gRun_mono (Nat.le_max_right _ _) h3⟩⟩, h4⟩
  · exact ⟨n1, μ1, _, ⟨hlen, hnum.1, hnum.2.1, hnum.2.2.1, hnum.2.2.2, μ1, _, h1, Or.inr (Or.inl ⟨y, rfl, hh, rfl⟩)⟩, hp⟩
  · exact ⟨max n1 n2, μ2, x2, ⟨hlen, hnum.1, hnum.2.1, hnum.2.2.1, hnum.2.2.2, μ1, _, gRun_mono (Nat.le_max_left _ _) h1, Or.inr (Or.inr ⟨y, i, hh, r2, len, rfl, e1, e2, e3, e4, gRun_mono (Nat.le_max_right _ _) h3⟩)⟩, h4⟩
theorem gWp_stat {t : List (Nat × gR)} {scr : gScr} {k : Nat} (ht : gCode[k]? = some t) {pc i len k' na a3 c01 : Nat} {l : gL} {as rest st : List Value} {μ : gMu} {cnt : Nat} {P : gMu → gRes → Prop} (hr : gLk t pc = some (.invokestatic i, len, (k', na, a3), .int (Int32.ofNat c01))) (h01 : c01 = 0 ∨ c01 = 1)
    (has : (st.take na).reverse = as) (hrest : st.drop na = rest) (hlen : as.length = na) (hnum : cnt + mCo k' ≤ mCo k ∧ (rest.map fun v => v.category).sum ≤ 8 ∧ k' < k ∧ (gEnt as (mML k')).length ≤ mML k')
    (h : gCl' k' as μ (gAfter scr k k' pc l rest cnt P)) : gWp scr k (pc, l, st, μ) cnt P := by
  have hat : gAt k pc = some (.invokestatic i, len, (k', na, a3), .int (Int32.ofNat c01)) := by unfold gAt; rw [ht]; exact hr
  obtain ⟨n, μ', x, h1, h2⟩ := gInv_of (r := (.invokestatic i, len, (k', na, a3), .int (Int32.ofNat c01))) (f := (pc, l, st, μ)) has hrest hlen hnum h
  exact ⟨n + 1, μ', x, gRun_statI (i := i) (f := (pc, l, st, μ)) hat rfl (by rcases h01 with rfl | rfl; exact Or.inl rfl; exact Or.inr rfl) h1, h2⟩
theorem gWp_virt {t : List (Nat × gR)} {scr : gScr} {k : Nat} (ht : gCode[k]? = some t) {pc i len k' np a3 q : Nat} {l : gL} {as rest st : List Value} {μ : gMu} {cnt : Nat} {P : gMu → gRes → Prop} (hr : gLk t pc = some (.invokevirtual i, len, (k', np, a3), .int 0)) (hq : (st.drop np).head? = some (.ref q)) (hci : (gObj q).map (fun x => x.1) = some (mCi k'))
    (has : (st.take (np + 1)).reverse = as) (hrest : st.drop (np + 1) = rest) (hlen : as.length = np + 1) (hnum : cnt + mCo k' ≤ mCo k ∧ (rest.map fun v => v.category).sum ≤ 8 ∧ k' < k ∧ (gEnt as (mML k')).length ≤ mML k')
    (h : gCl' k' as μ (gAfter scr k k' pc l rest cnt P)) : gWp scr k (pc, l, st, μ) cnt P := by
  have hat : gAt k pc = some (.invokevirtual i, len, (k', np, a3), .int 0) := by unfold gAt; rw [ht]; exact hr
  obtain ⟨n, μ', x, h1, h2⟩ := gInv_of (r := (.invokevirtual i, len, (k', np, a3), .int 0)) (f := (pc, l, st, μ)) has hrest hlen hnum h
  exact ⟨n + 1, μ', x, gRun_virtI (i := i) (q := q) (f := (pc, l, st, μ)) hat rfl hq hci (gObj_sc hci) rfl h1, h2⟩
end
