/-! CONTRACTS: what a method of the small machine says of the machine's method -/
def gNe : List Cond := [.methodLinkNest "Glyphmill$Text" 19 ⟨"Glyphmill", "isMark", "(I)Z"⟩ "Glyphmill", .methodLinkNest "Glyphmill$Sequence" 36 ⟨"Glyphmill", "isMark", "(I)Z"⟩ "Glyphmill", .methodLinkNest "Glyphmill$Sequence" 48 ⟨"Glyphmill", "isOdd", "(I)Z"⟩ "Glyphmill", .methodLinkNest "Glyphmill$Levels" 56 ⟨"Glyphmill", "isOdd", "(I)Z"⟩ "Glyphmill", .methodLinkNest "Glyphmill$Levels" 64 ⟨"Glyphmill", "isLetter", "(I)Z"⟩ "Glyphmill", .methodLinkNest "Glyphmill$Levels" 67 ⟨"Glyphmill", "isLeftLetter", "(I)Z"⟩ "Glyphmill", .methodLinkNest "Glyphmill$Levels" 70 ⟨"Glyphmill", "isDigit", "(I)Z"⟩ "Glyphmill", .methodLinkNest "Glyphmill$Runs" 41 ⟨"Glyphmill", "isLetter", "(I)Z"⟩ "Glyphmill", .methodLinkNest "Glyphmill$Runs" 54 ⟨"Glyphmill", "isRightLetter", "(I)Z"⟩ "Glyphmill", .methodLinkNest "Glyphmill$Rows" 117 ⟨"Glyphmill", "isOdd", "(I)Z"⟩ "Glyphmill", .methodLinkNest "Glyphmill$Font" 35 ⟨"Glyphmill", "isLetter", "(I)Z"⟩ "Glyphmill"]
def gNm : List String := ["java/lang/RuntimeException", "java/lang/Exception"]
def gDe : List Cond := [.declares ⟨"java/lang/RuntimeException", "<init>", "(Ljava/lang/String;)V"⟩, .declares ⟨"java/lang/Exception", "<init>", "(Ljava/lang/String;)V"⟩, .declares ⟨"java/lang/Throwable", "<init>", "(Ljava/lang/String;)V"⟩]
def gThrOk (q : Nat × Nat × Nat × Nat × Nat × Nat × Bool × String) : Bool :=
  Bundle.fit (gEx q.2.2.1) && gNm.all Bundle.fit && decide (Cond.classLink "Glyphmill" q.2.2.2.1 (gEx q.2.2.1) ∈ lw_tbl) && decide (Cond.initialized (gEx q.2.2.1) ∈ lw_tbl) &&
  ((vx_atS "Glyphmill" q.2.2.2.2.2.1 (gEx q.2.2.1) gNm).all fun w => decide (w ∈ gDe) || decide (w = .castable (gEx q.2.2.1) (gEx q.2.2.1)) || (goodWord w && decide (w ∈ lw_tbl))) &&
  ((Cond.classLink "Glyphmill" q.2.2.2.1 (gEx q.2.2.1) :: Cond.initialized (gEx q.2.2.1) :: vx_atS "Glyphmill" q.2.2.2.2.2.1 (gEx q.2.2.1) gNm).all vx_ot) &&
  decide (decode (mBy q.1) q.2.1 = .ok (.new q.2.2.2.1, 3)) && decide (decode (mBy q.1) (q.2.1 + 3) = .ok (.dup, 1)) &&
  (if q.2.2.2.2.2.2.1 then decide (decode (mBy q.1) (q.2.1 + 4) = .ok (.ldc_w q.2.2.2.2.1, 3)) && decide (decode (mBy q.1) (q.2.1 + 7) = .ok (.invokespecial q.2.2.2.2.2.1, 3)) && decide (decode (mBy q.1) (q.2.1 + 10) = .ok (.athrow, 1))
    else decide (decode (mBy q.1) (q.2.1 + 4) = .ok (.ldc q.2.2.2.2.1, 2)) && decide (decode (mBy q.1) (q.2.1 + 6) = .ok (.invokespecial q.2.2.2.2.2.1, 3)) && decide (decode (mBy q.1) (q.2.1 + 9) = .ok (.athrow, 1))) &&
  decide (mOw q.1 = "Glyphmill" ∧ 6 ≤ (mFr q.1).1 ∧ 82 ≤ (mFr q.1).2)
set_option maxRecDepth 100000 in
theorem gThr_0 : ((gThr[0]?).all fun q => decide (q.2.2.1 = 4) || gThrOk q) = true := by decide +kernel
set_option maxRecDepth 100000 in
theorem gThr_1 : ((gThr[1]?).all fun q => decide (q.2.2.1 = 4) || gThrOk q) = true := by decide +kernel
set_option maxRecDepth 100000 in
theorem gThr_2 : ((gThr[2]?).all fun q => decide (q.2.2.1 = 4) || gThrOk q) = true := by decide +kernel
set_option maxRecDepth 100000 in
theorem gThr_3 : ((gThr[3]?).all fun q => decide (q.2.2.1 = 4) || gThrOk q) = true := by decide +kernel
set_option maxRecDepth 100000 in
theorem gThr_4 : ((gThr[4]?).all fun q => decide (q.2.2.1 = 4) || gThrOk q) = true := by decide +kernel
set_option maxRecDepth 100000 in
theorem gThr_5 : ((gThr[5]?).all fun q => decide (q.2.2.1 = 4) || gThrOk q) = true := by decide +kernel
set_option maxRecDepth 100000 in
theorem gThr_6 : ((gThr[6]?).all fun q => decide (q.2.2.1 = 4) || gThrOk q) = true := by decide +kernel
set_option maxRecDepth 100000 in
theorem gThr_7 : ((gThr[7]?).all fun q => decide (q.2.2.1 = 4) || gThrOk q) = true := by decide +kernel
set_option maxRecDepth 100000 in
theorem gThr_8 : ((gThr[8]?).all fun q => decide (q.2.2.1 = 4) || gThrOk q) = true := by decide +kernel
set_option maxRecDepth 100000 in
theorem gThr_9 : ((gThr[9]?).all fun q => decide (q.2.2.1 = 4) || gThrOk q) = true := by decide +kernel
set_option maxRecDepth 100000 in
theorem gThr_10 : ((gThr[10]?).all fun q => decide (q.2.2.1 = 4) || gThrOk q) = true := by decide +kernel
set_option maxRecDepth 100000 in
theorem gThr_11 : ((gThr[11]?).all fun q => decide (q.2.2.1 = 4) || gThrOk q) = true := by decide +kernel
set_option maxRecDepth 100000 in
theorem gThr_12 : ((gThr[12]?).all fun q => decide (q.2.2.1 = 4) || gThrOk q) = true := by decide +kernel
set_option maxRecDepth 100000 in
theorem gThr_13 : ((gThr[13]?).all fun q => decide (q.2.2.1 = 4) || gThrOk q) = true := by decide +kernel
set_option maxRecDepth 100000 in
theorem gThr_14 : ((gThr[14]?).all fun q => decide (q.2.2.1 = 4) || gThrOk q) = true := by decide +kernel
theorem gThr_ok : (gThr.all fun q => decide (q.2.2.1 = 4) || gThrOk q) = true := by
  rw [List.all_eq_true]
  intro q hq
  obtain ⟨i, hi⟩ := List.getElem?_of_mem hq
  have hl : i < 15 := (List.getElem?_eq_some_iff.mp hi).1
  have key : ((gThr[i]?).all fun q => decide (q.2.2.1 = 4) || gThrOk q) = true := by
    match i, hl with
    | 0, _ => exact gThr_0
    | 1, _ => exact gThr_1
    | 2, _ => exact gThr_2
    | 3, _ => exact gThr_3
    | 4, _ => exact gThr_4
    | 5, _ => exact gThr_5
    | 6, _ => exact gThr_6
    | 7, _ => exact gThr_7
    | 8, _ => exact gThr_8
    | 9, _ => exact gThr_9
    | 10, _ => exact gThr_10
    | 11, _ => exact gThr_11
    | 12, _ => exact gThr_12
    | 13, _ => exact gThr_13
    | 14, _ => exact gThr_14
  rw [hi] at key
  exact key
theorem gNe_form : ∀ w ∈ gNe, ∃ a i x h, w = Cond.methodLinkNest a i x h := by
  intro w hw
  simp only [gNe, List.mem_cons, List.not_mem_nil, or_false] at hw
  rcases hw with rfl | rfl | rfl | rfl | rfl | rfl | rfl | rfl | rfl | rfl | rfl <;> exact ⟨_, _, _, _, rfl⟩
theorem gDe_form : ∀ w ∈ gDe, ∃ x, w = Cond.declares x := by
  intro w hw
  simp only [gDe, List.mem_cons, List.not_mem_nil, or_false] at hw
  rcases hw with rfl | rfl | rfl <;> exact ⟨_, rfl⟩
/-- facts of the tables that are no good words -/
def gFx (s : State) : Prop := (∀ w ∈ gDe, va_Nw w s) ∧ (∀ w ∈ gNe, va_Nw w s) ∧ (∀ a b, a < 5 → b < 5 → a ≠ b → va_Nc (gEx a) (gEx b) s) ∧ (∀ a, a < 5 → va_Nw (.castable (gEx a) (gEx a)) s) ∧ ∀ q ∈ gThr, ∃ sa, vk_R "Glyphmill" q.2.2.2.2.1 q.2.2.2.2.2.2.2 sa s
theorem gFx_warm {s U : State} (hW : s.WarmedH U.vm) (h : gFx s) : gFx U := by
  refine ⟨fun w hw => ?_, fun w hw => ?_, fun a b h1 h2 h3 => (h.2.2.1 a b h1 h2 h3).moved hW.alike, fun a ha => va_Nw.warmC hW (h.2.2.2.1 a ha), fun q hq => ?_⟩
  · obtain ⟨x, rfl⟩ := gDe_form w hw
    exact va_Nw.warmD hW (h.1 _ hw)
  · obtain ⟨a, i, x, h9, rfl⟩ := gNe_form w hw
    exact va_Nw.warmM hW (h.2.1 _ hw)
  · obtain ⟨sa, h1⟩ := h.2.2.2.2 q hq
    exact ⟨sa, vk_R.warm hW h1⟩
theorem gFx_same {s U : State} (hv : U.vm = s.vm) (h : gFx s) : gFx U := gFx_warm (by rw [hv]; exact State.WarmedH.refl s) h
def gTh (A : Nat → Prop) (s : State) (H : Heap) : Prop := vx_Zq Bundle.tN "UNASSIGNED_STACK" Bundle.steD A s H ∧ vx_Zq Bundle.tN "SUPPRESSED_SENTINEL" Bundle.listD A s H
def mWs (k : Nat) : List Cond := (match mHh k with | [] => Cond.code (mY k) (mBy k) (mML k) (mRt k) | h => Cond.codeWith (mY k) (mBy k) (mML k) (mRt k) h) :: gG
def mRm (k : Nat) : Room := { frames := (mFr k).1, cells := mCo k, slots := 6 * mCo k, locals := (mFr k).2 }
def gPre (cA : Nat → ClassId) (ad : Nat → Nat) (dC : Nat → ClassId) (dI : Nat → Nat → Nat) (sz : Nat) (μ : gMu) (U : State) : Prop :=
  U.heap.size = sz ∧ va_P (dC, dI) gCl (gWd cA ad μ) U.heap ∧ va_K (dC, dI) gCl (gTys cA) U ∧ va_D (fun _ => True) (gWd cA ad μ) ∧ gFx U ∧ gTh (gA ad sz) U U.heap
theorem gPre_blind {cA : Nat → ClassId} {ad : Nat → Nat} {dC : Nat → ClassId} {dI : Nat → Nat → Nat} {sz : Nat} {μ : gMu} {av : List Value} : FrameBlind (va_Pc av (gPre cA ad dC dI sz μ)) := by
  intro a U g mk h
  obtain ⟨h0, h1, h2, h3, h4, h5, h6⟩ := h
  exact ⟨h0, h1, h2, va_K.moved (u := U) (U := U.calling g mk a) (Vm.Alike.refl U.vm) h3, h4, gFx_same (s := U) (U := U.calling g mk a) rfl h5, vx_Zq.moved (u := U) (U := U.calling g mk a) (Vm.Alike.refl U.vm) h6.1, vx_Zq.moved (u := U) (U := U.calling g mk a) (Vm.Alike.refl U.vm) h6.2⟩
def gQc (cA : Nat → ClassId) (ad : Nat → Nat) (dC : Nat → ClassId) (dI : Nat → Nat → Nat) (sz z : Nat) (res : gMu × gRes) : Array Value → State → Outcome → State → Prop := fun _ st o t =>
  (∃ v, res.2 = .inl v ∧ o = .returned (v.map (gTr ad))) ∧ va_P (dC, dI) gCl (gWd cA ad res.1) t.heap ∧ va_F (gA ad sz) st t ∧ sz + gGh res.1 ≤ t.heap.size + z
def gXC (cA : Nat → ClassId) (ad : Nat → Nat) (dC : Nat → ClassId) (dI : Nat → Nat → Nat) (sz z : Nat) (res : gMu × gRes) : String → State → State → Prop := fun E st t =>
  (∃ x, res.2 = .inr x ∧ x < 5 ∧ E = gEx x) ∧ va_P (dC, dI) gCl (gWd cA ad res.1) t.heap ∧ va_F (gA ad sz) st t ∧ sz + gGh res.1 + 1 ≤ t.heap.size + z
/-- the contract of method k at these arguments, this memory, this result -/
def gCt (l : Launch) (k : Nat) (as : List Value) (μ : gMu) (res : gMu × gRes) : Prop := ∀ cA ad dC dI sz,
  vx_Met l (mY k) (mWs k) (mRm k) (va_Pc (as.map (gTr ad)) (gPre cA ad dC dI sz μ)) (gQc cA ad dC dI sz (gGh μ) res) (gXC cA ad dC dI sz (gGh μ) res) (mCo k) (6 * mCo k) (gA ad sz)
theorem gG_in {ws : List Cond} (h : ∀ w ∈ ws, w ∈ gG) : GoodIn gG ws := fun w hw => ⟨h w hw, good_of_word (List.mem_filter.mp (h w hw)).2⟩
theorem gG_P {w : Cond} {pos : Nat} (h : lw_tbl[pos]? = some w) (hg : goodWord w = true) : w ∈ gG := List.mem_filter.mpr ⟨List.mem_of_getElem? h, hg⟩
/-- a method's facts -/
theorem gMf {k : Nat} (hk : k < 166) : (∀ w ∈ mWs k, w ∈ gG) ∧ Cond.initialized (mY k).cls ∈ gG ∧ (mSta k = true → Cond.static (mY k) ∈ gG) ∧ (mSta k = false → Cond.instanceMethod (mY k) ∈ gG ∧ Cond.selects (mY k).cls (mY k) (mY k) ∈ gG ∧ ∃ q, gCl[mCi k]? = some q ∧ q.1 = (mY k).cls) ∧
    ((mY k).cls ≠ "java/lang/invoke/MethodHandle" ∧ (mY k).cls ≠ "java/lang/invoke/VarHandle" ∧ (parseMethodDescriptor (mY k).desc).map (fun d => d.parameters.length) = some (mNp k)) ∧ plainName (mY k).cls = true := by
  have h := g_mok hk
  unfold gMok at h
  simp only [Bool.and_eq_true, decide_eq_true_eq] at h
  obtain ⟨⟨⟨⟨h1, h2⟩, h3⟩, h4⟩, h5⟩ := h
  refine ⟨?_, gG_P h2 rfl, fun hs => ?_, fun hs => ?_, h4, h5⟩
  · intro w hw
    unfold mWs at hw
    rcases List.mem_cons.mp hw with rfl | hw
    · refine gG_P h1 ?_
      split <;> rfl
    · exact hw
  · rw [if_pos hs] at h3
    exact gG_P (of_decide_eq_true h3) rfl
  · rw [hs] at h3
    simp only [Bool.false_eq_true, if_false, Bool.and_eq_true, decide_eq_true_eq] at h3
    obtain ⟨⟨h6, h7⟩, h8⟩ := h3
    refine ⟨gG_P h6 rfl, gG_P h7 rfl, ?_⟩
    cases hq : gCl[mCi k]? with
    | none => rw [hq] at h8; cases h8
    | some q => rw [hq] at h8; exact ⟨q, rfl, Option.some.inj h8⟩
theorem gNe_bool : (tables_1.all fun w => match w with | .methodLinkNest _ _ x _ => decide (x.name = "<init>") || decide (w ∈ gNe) | _ => true) = true := by decide +kernel
theorem gNm_bool : ((List.range 166).all fun k => decide ((mY k).name ≠ "<init>")) = true := by decide +kernel
theorem gNe_all {o h : String} {i k pos : Nat} (hw : gW pos = some (.methodLinkNest o i (mY k) h)) (hk : k < 166) : Cond.methodLinkNest o i (mY k) h ∈ gNe := by
  have h1 := List.all_eq_true.mp gNe_bool _ (List.mem_of_getElem? hw)
  have h2 := of_decide_eq_true (List.all_eq_true.mp gNm_bool k (List.mem_range.mpr hk))
  simp only [Bool.or_eq_true, decide_eq_true_eq] at h1
  exact h1.resolve_left h2
section GCALL
variable {p : Program} {l : Launch} {e : Env} {R : Room} {s : State} {m : MethodId} {args : Array Value} {below : List Frame} {meth : Method} {c : Code} {H : Heap} {locs : List Loc} {cells slots : Nat} {Q : State → Prop}
variable {k : Nat} {cA : Nat → ClassId} {ad : Nat → Nat} {dC : Nat → ClassId} {dI : Nat → Nat → Nat} {A : Nat → Prop} {scr : gScr} {ls : Array Slot}
/-- what a callee finds -/
theorem gPre_at {μ : gMu} {U : State} (hK : va_K (dC, dI) gCl (gTys cA) s) (hA : ∀ q, s.heap.size ≤ q → A q) (hM : gM cA ad dC dI A s μ H locs) (fx : gFx s) (th : gTh A s s.heap) (hU : U.heap = H) (hW : s.WarmedH U.vm) : gPre cA ad dC dI H.size μ U := by
  have hsub : ∀ q, gA ad H.size q → A q := gA_sub hM.2.1 (fun q hq => hA q (Nat.le_trans hM.2.2.1 hq))
  refine ⟨by rw [hU], by rw [hU]; exact hM.1, va_K.moved hW.alike hK, hM.2.1.weaken (fun _ _ _ _ => trivial), gFx_warm hW fx, ?_, ?_⟩
  · rw [hU]
    exact vx_Zq.moved hW.alike ((th.1.kept hM.2.2.2.1).narrow hsub)
  · rw [hU]
    exact vx_Zq.moved hW.alike ((th.2.kept hM.2.2.2.1).narrow hsub)
theorem g_runV {r : gR} {i pc q k' : Nat} {A1 rest : List Value} {ks : List (Nat × Nat)} {μ : gMu} {res : gMu × gRes} {L0 : gL} (X : gX k p l e R s m args meth c cA ad dC dI A scr) (fx : gFx s) (th : gTh A s s.heap) (hM : gM cA ad dC dI A s μ H locs) (hl : gLh ls (mML k) ad L0)
    (hr : gAt k pc = some r) (hi : r.1 = .invokevirtual i) (hcv : r.2.2.2 = .int 0) (hk' : r.2.2.1.1 = k') (hk : k' < 166) (hnp : A1.length = r.2.2.1.2.1) (hq : gObj q = some (mCi k', ks)) (hct : gCt l k' (.ref q :: A1) μ res) (hh : mHh k' = [])
    (hR : R.frames = (mFr k).1 ∧ R.locals = (mFr k).2) (hcs : cells + mCo k' ≤ R.cells ∧ slots + 6 * mCo k' ≤ R.slots) (hW : (rest.map fun v => v.category).sum ≤ 8) :
    vx_Run p l e R s m args below meth c H locs cells slots (mCo k') (6 * mCo k') (F0 m pc ls ((A1.reverse ++ .ref q :: rest).map (gTr ad))) (rest.map (gTr ad)) (gQc cA ad dC dI H.size (gGh μ) res (Value.ref (ad q) :: A1.map (gTr ad)).toArray) (gXC cA ad dC dI H.size (gGh μ) res) (gA ad H.size) := by
  obtain ⟨hx, hb, hml, hown, hts, hK, hA, hscr⟩ := X
  obtain ⟨hd, hc⟩ := g_row hr
  obtain ⟨ins, len, ⟨a1, a2, a3⟩, cv⟩ := r
  dsimp only at hi hk' hnp hcv
  subst hi
  subst hcv
  subst hk'
  have hc' : decide (a2 = mNp a1 ∧ mSta a1 = false ∧ gW a3 = some (.methodLink (mOw k) i (mY a1)) ∧ (mFr a1).1 + 1 ≤ (mFr k).1 ∧ 8 + (mML a1 + 11) + (mFr a1).2 ≤ (mFr k).2) = true := hc
  obtain ⟨c1, c2, c3, c4, c5⟩ := of_decide_eq_true hc'
  obtain ⟨f1, f2, -, f4, f5, -⟩ := gMf hk
  obtain ⟨g1, g2, w, g3, g4⟩ := f4 c2
  have hws : mWs a1 = Cond.code (mY a1) (mBy a1) (mML a1) (mRt a1) :: gG := by unfold mWs; rw [hh]
  have hG : GoodIn gG (wsV (mOw k) i (mY a1).cls (mY a1) (mWs a1)) := gG_in (by
    intro w9 hw9
    unfold wsV at hw9
    simp only [List.cons_append, List.nil_append, List.mem_cons] at hw9
    rcases hw9 with rfl | rfl | rfl | rfl | hw9
    · exact gG_W c3 rfl
    · exact g1
    · exact g2
    · exact f2
    · exact f1 _ hw9)
  have hcat : ((rest.map (gTr ad)).map fun v => v.category).sum ≤ 8 := by
    rw [List.map_map, show ((fun v : Value => v.category) ∘ gTr ad) = (fun v : Value => v.category) from funext (fun v => gTr_cat ad v)]
    exact hW
  refine vx_runV (As := A1.map (gTr ad)) (n := mNp a1) ⟨hx, hb, hml, hown, hts⟩ (hct cA ad dC dI H.size) (cwV (mNp a1) hts hG hws rfl rfl ⟨rfl, f5⟩ ⟨by rw [hR.1]; exact c4, by rw [hR.2]; exact c5⟩) ⟨gPre_blind, ?_, fun U hU hW9 => ⟨rfl, gPre_at hK hA hM fx th hU hW9⟩⟩ rfl ?_ hl.1 ?_ (lv_room hcat) hd hcs
  · have := va_recv hK hM.1 g3 (gWd_get (gObj_inv hq))
    rwa [g4] at this
  · rw [List.length_map, hnp, c1]
  · show (A1.reverse ++ .ref q :: rest).map (gTr ad) = _
    simp [gTr]
theorem g_runS {r : gR} {i pc k' : Nat} {as rest : List Value} {μ : gMu} {res : gMu × gRes} {L0 : gL} (X : gX k p l e R s m args meth c cA ad dC dI A scr) (fx : gFx s) (th : gTh A s s.heap) (hM : gM cA ad dC dI A s μ H locs) (hl : gLh ls (mML k) ad L0)
    (hr : gAt k pc = some r) (hi : r.1 = .invokestatic i) (h01 : r.2.2.2 = .int 0 ∨ r.2.2.2 = .int 1) (hk' : r.2.2.1.1 = k') (hk : k' < 166) (hnp : as.length = r.2.2.1.2.1) (hct : gCt l k' as μ res)
    (hR : R.frames = (mFr k).1 ∧ R.locals = (mFr k).2) (hcs : cells + mCo k' ≤ R.cells ∧ slots + 6 * mCo k' ≤ R.slots) (hW : (rest.map fun v => v.category).sum ≤ 8) (hres : mCo k' = 0 → ∃ v, res.2 = .inl v) (hhN : r.2.2.2 = .int 1 → mHh k' = []) :
    vx_Run p l e R s m args below meth c H locs cells slots (mCo k') (6 * mCo k') (F0 m pc ls ((as.reverse ++ rest).map (gTr ad))) (rest.map (gTr ad)) (gQc cA ad dC dI H.size (gGh μ) res (as.map (gTr ad)).toArray) (gXC cA ad dC dI H.size (gGh μ) res) (gA ad H.size) := by
  obtain ⟨hx, hb, hml, hown, hts, hK, hA, hscr⟩ := X
  obtain ⟨hd, hc⟩ := g_row hr
  obtain ⟨ins, len, ⟨a1, a2, a3⟩, cv⟩ := r
  dsimp only at hi hk' hnp hhN
  subst hi
  subst hk'
  have hcc : gCk k (.invokestatic i, len, (a1, a2, a3), cv) = true ∧ ((cv = .int 0 ∧ gW a3 = some (.methodLink (mOw k) i (mY a1))) ∨ (cv = .int 1 ∧ gW a3 = some (.methodLinkNest (mOw k) i (mY a1) "Glyphmill") ∧ mCo a1 = 0)) := by
    rcases h01 with h01 | h01 <;> (dsimp only at h01; subst h01)
    · have hc' : (gCk k (.invokestatic i, len, (a1, a2, a3), .int 0) && decide (gW a3 = some (.methodLink (mOw k) i (mY a1)))) = true := hc
      rw [Bool.and_eq_true] at hc'
      exact ⟨hc'.1, Or.inl ⟨rfl, of_decide_eq_true hc'.2⟩⟩
    · have hc' : (gCk k (.invokestatic i, len, (a1, a2, a3), .int 1) && decide (gW a3 = some (.methodLinkNest (mOw k) i (mY a1) "Glyphmill") ∧ mCo a1 = 0)) = true := hc
      rw [Bool.and_eq_true] at hc'
      exact ⟨hc'.1, Or.inr ⟨rfl, of_decide_eq_true hc'.2⟩⟩
  obtain ⟨hc1, hc2⟩ := hcc
  obtain ⟨c1, c2, c4, c5⟩ := of_decide_eq_true hc1
  dsimp only at c1 c2 c4 c5
  obtain ⟨f1, f2, f3, -, f5, -⟩ := gMf hk
  have hst := f3 c2
  have hcat : ((rest.map (gTr ad)).map fun v => v.category).sum ≤ 8 := by
    rw [List.map_map, show ((fun v : Value => v.category) ∘ gTr ad) = (fun v : Value => v.category) from funext (fun v => gTr_cat ad v)]
    exact hW
  have hlen : (as.map (gTr ad)).length = mNp a1 := by rw [List.length_map, hnp, c1]
  have hstk : (as.reverse ++ rest).map (gTr ad) = (as.map (gTr ad)).reverse ++ rest.map (gTr ad) := by simp
  rcases hc2 with ⟨hcv, c3⟩ | ⟨hcv, c3, c6⟩
  · skip
    have hG : GoodIn gG (va_wsS (mOw k) i (mY a1) (mWs a1)) := gG_in (by
      intro w9 hw9
      unfold va_wsS at hw9
      simp only [List.cons_append, List.nil_append, List.mem_cons] at hw9
      rcases hw9 with rfl | rfl | rfl | hw9
      · exact gG_W c3 rfl
      · exact hst
      · exact f2
      · exact f1 _ hw9)
    cases hhE : mHh a1 with
    | nil =>
      have hws : mWs a1 = Cond.code (mY a1) (mBy a1) (mML a1) (mRt a1) :: gG := by unfold mWs; rw [hhE]
      exact vx_runS (As := as.map (gTr ad)) (n := mNp a1) ⟨hx, hb, hml, hown, hts⟩ (hct cA ad dC dI H.size) (va_cwS (mNp a1) hts hG hws rfl rfl f5 ⟨by rw [hR.1]; exact c4, by rw [hR.2]; exact c5⟩) ⟨gPre_blind, fun U hU hW9 => ⟨rfl, gPre_at hK hA hM fx th hU hW9⟩⟩ rfl hlen hl.1 hstk (lv_room hcat) hd hcs
    | cons h0 hs0 =>
      have hws : mWs a1 = Cond.codeWith (mY a1) (mBy a1) (mML a1) (mRt a1) (h0 :: hs0) :: gG := by unfold mWs; rw [hhE]
      exact vx_runSX (hh := h0 :: hs0) (As := as.map (gTr ad)) (n := mNp a1) ⟨hx, hb, hml, hown, hts⟩ (hct cA ad dC dI H.size) (vx_cwSW (mNp a1) hts hG hws rfl rfl f5 ⟨by rw [hR.1]; exact c4, by rw [hR.2]; exact c5⟩) ⟨gPre_blind, fun U hU hW9 => ⟨rfl, gPre_at hK hA hM fx th hU hW9⟩⟩ rfl hlen hl.1 hstk (lv_room hcat) hd hcs
  · have hws : mWs a1 = Cond.code (mY a1) (mBy a1) (mML a1) (mRt a1) :: gG := by unfold mWs; rw [hhN hcv]
    obtain ⟨v, hv⟩ := hres c6
    have hMet : Met l (mY a1) (mWs a1) (mRm a1) (va_Pc (as.map (gTr ad)) (gPre cA ad dC dI H.size μ)) (gQc cA ad dC dI H.size (gGh μ) res) (mCo a1) (6 * mCo a1) (gA ad H.size) := by
      intro p9 e9 ha9 hf9 hc9 s9 m9 args9 below9 hfr9 hap9 hP9 hK9
      obtain ⟨n9, o9, h1, h2, h3, h4⟩ := hct cA ad dC dI H.size p9 e9 ha9 hf9 hc9 s9 m9 args9 below9 hfr9 hap9 hP9 hK9
      rcases h4 with h4 | ⟨q9, -, E9, ce9, L9, ⟨⟨x9, hx9, -⟩, -⟩, -⟩
      · exact ⟨n9, o9, h1, h2, h3, h4⟩
      · rw [hv] at hx9
        cases hx9
    have hne : Cond.methodLinkNest (mOw k) i (mY a1) "Glyphmill" ∈ gNe := gNe_all c3 hk
    have hrun : va_Run p l e R s m args below meth c H locs cells slots (mCo a1) (6 * mCo a1) (F0 m pc ls ((as.reverse ++ rest).map (gTr ad))) (rest.map (gTr ad)) (gQc cA ad dC dI H.size (gGh μ) res (as.map (gTr ad)).toArray) (gA ad H.size) :=
      va_runSN (As := as.map (gTr ad)) (n := mNp a1) ⟨hx, hb, hml, hown, hts⟩ hMet ⟨va_cnB (mNp a1) hts (gG_in f1) hws rfl rfl (fx.2.1 _ hne) (hts _ f2) f5 ⟨by rw [hR.1]; exact c4, by rw [hR.2]; exact c5⟩, hts _ hst, trivial⟩ ⟨gPre_blind, fun U hU hW9 => ⟨rfl, gPre_at hK hA hM fx th hU hW9⟩⟩ rfl hlen hl.1 hstk (lv_room hcat) hd hcs
    exact fun T hT X9 => Or.inl (hrun T hT X9)
/-- behind a call -/
theorem g_after {μ : gMu} {res : gMu × gRes} {pc mc ms : Nat} {st0 rest : List Value} {a : Array Value} (hA : ∀ q, s.heap.size ≤ q → A q) (hM : gM cA ad dC dI A s μ H locs)
    (hr : vx_Run p l e R s m args below meth c H locs cells slots mc ms (F0 m pc ls st0) rest (gQc cA ad dC dI H.size (gGh μ) res a) (gXC cA ad dC dI H.size (gGh μ) res) (gA ad H.size))
    (kn : ∀ v, res.2 = .inl v → ∀ (H1 : Heap) (locs1 : List Loc), H.size + gGh res.1 ≤ H1.size + gGh μ → gM cA ad dC dI A s res.1 H1 locs1 → W p l e R s m args below meth c H1 locs1 (cells + mc) (slots + ms) Q (F0 m (pc + 3) ls ((v.map (gTr ad)).toList ++ rest)))
    (kx : ∀ x, res.2 = .inr x → x < 5 → ∀ (q9 : Addr) (ce : Cell) (H1 : Heap) (locs1 : List Loc), H.size + gGh res.1 + 1 ≤ H1.size + gGh μ → gM cA ad dC dI A s res.1 H1 locs1 → H1[q9]? = some ce → ce.vm = .none → s.vm.findClass (gEx x) = some ce.cls → vx_W p l e R s m args below meth c H1 locs1 (cells + mc) (slots + ms) Q (F0 m pc ls rest) q9) :
    W p l e R s m args below meth c H locs cells slots Q (F0 m pc ls st0) := by
  have hsub : ∀ q, gA ad H.size q → A q := gA_sub hM.2.1 (fun q hq => hA q (Nat.le_trans hM.2.2.1 hq))
  intro T hT X
  rcases hr T hT X with ⟨v, st₀, t, T', L, h0, X', hL, e1, e2, ⟨⟨v', hv', ho⟩, hP1, hF, hG1⟩, st⟩ | ⟨q, st₀, t, T', L, E, ce, h0, X', hL, e1, e2, ⟨⟨x, hx, hx6, hE⟩, hP1, hF, hG1⟩, hce, hcv, hcl, st⟩
  · cases ho
    obtain ⟨k1, k2, k3⟩ := vx_keep h0 e1 hM.2.2 (fun q _ h => hsub q h) hsub hL hF
    obtain ⟨t2, a1, b1⟩ := kn v' hv' T'.heap (locs ++ L) (by rw [e1]; exact hG1) ⟨by rw [e1]; exact hP1, gWd_D hM.2.1, k3⟩ T' rfl X'
    exact ⟨t2, st t2 a1, b1⟩
  · subst hE
    obtain ⟨k1, k2, k3⟩ := vx_keep h0 e1 hM.2.2 (fun q _ h => hsub q h) hsub hL hF
    obtain ⟨t2, a1, b1⟩ := kx x hx hx6 q ce T'.heap (locs ++ L) (by rw [e1]; exact hG1) ⟨by rw [e1]; exact hP1, gWd_D hM.2.1, k3⟩ (by rw [e1]; exact hce) hcv hcl T' rfl X'
    exact ⟨t2, st.trans a1, b1⟩
end GCALL
