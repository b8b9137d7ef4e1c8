/-! THE STATEMENT IS FALSE AS IT IS PRINTED. On a script of 36 ints (35, 437, 461, 437, ..) the law comes to its end and has made more than 448 new cells: so the frame's number, 448, is passed -/
def rf_xs : List Int32 := [35, 437, 461, 437, 461, 437, 461, 437, 461, 437, 461, 437, 461, 437, 461, 437, 461, 437, 461, 437, 461, 437, 461, 437, 461, 437, 461, 437, 461, 437, 461, 437, 461, 437, 461, 437]
theorem rf_x0 : rf_xs.getD 0 0 = 35 := rfl
theorem rf_x : ∀ k, k < 35 → rf_xs.getD (k + 1) 0 = Vk k := by decide +kernel
theorem rf_c0 : lI (kT 0) 0 gMu0 := ⟨⟨⟨rfl, fun j h => absurd h (Nat.not_lt_zero j), rfl, rfl, rfl, fun j _ => rfl, fun j h => absurd h (Nat.not_lt_zero j), fun j h => absurd h (Nat.not_lt_zero j), fun j h => absurd h (Nat.not_lt_zero j)⟩, rfl, rfl, Or.inl rfl⟩, rfl⟩
set_option maxHeartbeats 4000000 in
/-- from every start with that script and room enough the law ends, with 449 new cells at least -/
theorem rf_walk (l : Launch) (hflags : l.flags = flags0) (b : Addr) : MetFree l x (headSpec (Jvm.Cond.code x code maxLocals ret :: tables_1) rf_room) (fun args s => args = #[.ref b] ∧ s.IntsAt b rf_xs ∧ (Jvm.Cond.and given_1 narrow_1).before args s = true) (fun _ _ _ _ _ => True) (fun _ s _ t => s.heap.size + 449 ≤ t.heap.size) := by
  refine MetFree.of_bodyS (code := code) (maxLocals := maxLocals) (ret := ret) (by decide) ?_ ?_
  · intro args s m h hn
    obtain ⟨meth, c, h1, h2, h3, h4, h5, h6, -, -⟩ := Cond.code_spec hn (atoms_spec (ws := Jvm.Cond.code x code maxLocals ret :: tables_1) h _ List.mem_cons_self)
    exact ⟨meth, c, h1, h2, h3, h4, h5, h6⟩
  · intro p e s m args below meth c s₁ B hml0 hP _
    obtain ⟨rfl, hx, hgv⟩ := hP
    obtain ⟨scr, harrAt, hlist, hof, hsmall⟩ := hx
    obtain ⟨hcb, hkn, -, -⟩ := State.arrayAt?_spec harrAt
    have hown : s.vm.findClass "GlyphmillLaw" = some m.cls := findClass_of_methodNamed B.named
    have hts0 : ∀ c ∈ (Jvm.Cond.code x code maxLocals ret :: tables_1), c.before #[Value.ref b] s = true := atoms_spec (ws := Jvm.Cond.code x code maxLocals ret :: tables_1) B.pre
    have hts : ∀ w ∈ lw_tbl, w.before #[Value.ref b] s = true := k2_hts_sels lw_privs (fun w hw => hts0 w (List.mem_cons_of_mem _ hw)) lw_privs_ok
    have hml : c.maxLocals = 13 := B.maxLocals_eq (hts0 _ List.mem_cons_self)
    have X₀ : Stand p l e rf_room s m #[Value.ref b] below meth c s₁ [] 0 0 := Stand.of_body B
    have hh0 : s₁.heap = s.heap := by rw [B.state]; rfl
    have hsz : scr.slots.size = rf_xs.length := by rw [← Array.length_toList, hlist, List.length_map]
    have hval : ∀ j : Nat, j < rf_xs.length → scr.slots[j]? = some (.int (rf_xs.getD j 0)) := fun j hj => by
      rw [← Array.getElem?_toList, hlist]
      simp [hj]
    have hbl : b < s.heap.size := (Array.getElem?_eq_some_iff.mp hcb).1
    have hX : va_X b 36 (fun j => rf_xs.getD j 0) s s.heap := ⟨scr, hcb, hof, hkn, hsz, hval⟩
    have K : W p l e rf_room s m #[Value.ref b] below meth c s₁.heap [] 0 0 (MQ below rf_Qc #[Value.ref b] s 8000 50000 (fun q : Nat => s.heap.size ≤ q)) (entryFrame m ([Value.ref b] : List Value).toArray 13) := by
      rw [hh0]
      exact rf_enter l hflags B.exec B.bytes B.returns hml hown hts hX hbl B.notSynchronized hgv (by decide) (w_8 (xs := fun j => rf_xs.getD j 0) rf_x0 rf_x rf_c0)
    obtain ⟨t, a1, o, b1, b2, b3, -⟩ := K s₁ rfl X₀
    exact ⟨t, o, a1, b1, b2, b3⟩
/-- the witness's start, with that script -/
def rf_cells : Array Value := #[.int 35, .int 437, .int 461, .int 437, .int 461, .int 437, .int 461, .int 437, .int 461, .int 437, .int 461, .int 437, .int 461, .int 437, .int 461, .int 437, .int 461, .int 437, .int 461, .int 437, .int 461, .int 437, .int 461, .int 437, .int 461, .int 437, .int 461, .int 437, .int 461, .int 437, .int 461, .int 437, .int 461, .int 437, .int 461, .int 437]
def rf_s : State := start1.aboutOf rf_cells

set_option maxRecDepth 16384 in
theorem rf_on : (Jvm.Cond.code x code maxLocals ret :: tables_1).all (fun c => c.onTables || c.before start1.args0 rf_s) = true := by decide +kernel
theorem rf_words : ∀ c ∈ (Jvm.Cond.code x code maxLocals ret :: tables_1), c.before start1.args0 rf_s = true := by
  intro c hc
  have h1 := start1.words c hc
  have h3 := List.all_eq_true.mp rf_on c hc
  cases ho : c.onTables with
  | true => exact va_tabs ho (show start1.about.vm = rf_s.vm from rfl) h1
  | false =>
    rw [ho] at h3
    simpa using h3
set_option maxRecDepth 16384 in
theorem rf_given : (Jvm.Cond.and given_1 narrow_1).before start1.args0 rf_s = true := by decide +kernel
set_option maxRecDepth 16384 in
theorem rf_rest : rest_1_c.before start1.args0 rf_s = true := by decide +kernel
set_option maxRecDepth 16384 in
theorem rf_app1 : (headSpec (Jvm.Cond.code x code maxLocals ret :: tables_1) room_1).applies x start1.e0.platform rf_s = true :=
  (Spec.applies_iff (m := ⟨0, 0⟩) (args := start1.args0) (below := Lib.HandBits.below0) rfl).mpr ⟨rfl, rfl, rfl, by decide +kernel, by decide +kernel, by decide +kernel, launch0.hasRoom_least _ room_1 (by decide +kernel) (by decide +kernel) (by decide +kernel) (by decide +kernel) (by decide +kernel) (by decide +kernel), atoms_intro rf_words⟩
set_option maxRecDepth 16384 in
theorem rf_app2 : (headSpec (Jvm.Cond.code x code maxLocals ret :: tables_1) rf_room).applies x start1.e0.platform rf_s = true :=
  (Spec.applies_iff (m := ⟨0, 0⟩) (args := start1.args0) (below := Lib.HandBits.below0) rfl).mpr ⟨rfl, rfl, rfl, by decide +kernel, by decide +kernel, by decide +kernel, launch0.hasRoom_least _ rf_room (by decide +kernel) (by decide +kernel) (by decide +kernel) (by decide +kernel) (by decide +kernel) (by decide +kernel), atoms_intro rf_words⟩
set_option maxRecDepth 16384 in
theorem rf_start : AtStart classFile x code maxLocals ret World_1 tables_1 room_1 Calls_1 rest_1 Pre_1 launch0 start1.p0 start1.e0 rf_s ⟨0, 0⟩ start1.args0 Lib.HandBits.below0 :=
  ⟨lists_1, trivial, launch0.admits_env _ _ _, launch0.least_env, fairChoices_fair.cas, fairChoices_fair.clock, rfl, by decide +kernel, by decide +kernel, rf_app1, trivial, rf_rest, rf_given⟩
theorem rf_ints : rf_s.IntsAt 0 rf_xs := by
  have hs := flat_of_before _ rf_given
  have hq := flat_of_before _ rf_rest
  have harr : (Cond.arrayOf (.arg 0) .int).before start1.args0 rf_s = true := hs _ (by decide +kernel)
  have hlen : (Cond.isInt (.length (.arg 0))).before start1.args0 rf_s = true := hq _ (by decide +kernel)
  have hall : (Cond.all (.arg 0) (.isInt (.elem (.arg 0) (.index 0)))).before start1.args0 rf_s = true := hq _ (by decide +kernel)
  obtain ⟨b, xs, hb, cell, c1, c2, c3, c4⟩ := State.ints_of_pre rfl harr hlen hall
  have hb0 : (Value.ref 0) = Value.ref b := Option.some.inj (show some (Value.ref 0) = some (Value.ref b) from hb)
  have e0 : b = 0 := (Value.ref.inj hb0).symm
  subst e0
  obtain ⟨d1, -, -, -⟩ := State.arrayAt?_spec c1
  refine ⟨cell, c1, ?_, c3, by decide⟩
  have d2 : some cell = some ({ cls := 34, slots := rf_cells, vm := .none } : Cell) := d1.symm
  rw [Option.some.inj d2]
  rfl
/-- the law's run from there -/
theorem rf_run : ∃ n o, (∀ k, k < n → Within (stepsAlone start1.p0.tables start1.e0 k rf_s) Lib.HandBits.below0) ∧ (stepsAlone start1.p0.tables start1.e0 n rf_s).status = .running ∧ Ended (stepsAlone start1.p0.tables start1.e0 n rf_s) Lib.HandBits.below0 o ∧ rf_s.heap.size + 449 ≤ (stepsAlone start1.p0.tables start1.e0 n rf_s).heap.size := by
  obtain ⟨n, o, h1, h2, h3, h4⟩ := rf_walk launch0 rfl 0 start1.p0 start1.e0 (launch0.admits_env _ _ _) fairChoices_fair.cas fairChoices_fair.clock rf_s ⟨0, 0⟩ start1.args0 Lib.HandBits.below0 rfl ((Spec.applies_iff_loose (m := ⟨0, 0⟩) (args := start1.args0) (below := Lib.HandBits.below0) rfl).mp rf_app2).1 ⟨rfl, rf_ints, rf_given⟩ trivial
  exact ⟨n, o, h1, h2, h3, h4⟩
/-- the frame's number is passed -/
theorem rf_no {s t : State} {o : Outcome} {L : List Loc} (h : Framed s o t L 448 16841) : ¬ s.heap.size + 449 ≤ t.heap.size := by
  have h1 := h.2.2.2.2.1
  have h2 : t.heap.size ≤ s.heap.size + 448 := h1
  omega
/-- REFUTED, as the Statement itself names it -/
theorem refuted_1_1 : RefutedClaimed_1_1 := by
  obtain ⟨n, o, h1, h2, h3, h4⟩ := rf_run
  exact ⟨launch0, start1.p0, start1.e0, rf_s, ⟨0, 0⟩, start1.args0, Lib.HandBits.below0, rfl, rf_start, n, o, h1, h2, h3, fun h => rf_no h.2 h4⟩
theorem refuted_1_2 : RefutedClaimed_1_2 := by
  obtain ⟨n, o, h1, h2, h3, h4⟩ := rf_run
  exact ⟨launch0, start1.p0, start1.e0, rf_s, ⟨0, 0⟩, start1.args0, Lib.HandBits.below0, rfl, rf_start, n, o, h1, h2, h3, fun h => rf_no h.2 h4⟩
/-- a run has one end -/
theorem rf_one {tb : Tables} {e : Env} {s : State} {below : List Frame} {n n' : Nat} {o o' : Outcome} (h1 : ∀ k, k < n → Within (stepsAlone tb e k s) below) (h2 : Ended (stepsAlone tb e n s) below o) (g1 : ∀ k, k < n' → Within (stepsAlone tb e k s) below) (g2 : Ended (stepsAlone tb e n' s) below o') : n = n' := by
  rcases Nat.lt_trichotomy n n' with h | h | h
  · exact absurd (g1 n h) h2.not_within
  · exact h
  · exact absurd (h1 n' h) g2.not_within
/-- so what is owed can't be had -/
theorem not_claimed : ¬ (Claimed_1_1 ∧ Claimed_1_2) := by
  rintro ⟨hc, -⟩
  obtain ⟨a1, a2, a3, a4, a5, a6, a7, a8, a9, a10, a11, a12, a13⟩ := rf_start
  obtain ⟨n, o, h1, h2, h3, h4⟩ := hc launch0 rfl a1 a2 start1.p0 start1.e0 a3 a5 a6 rf_s ⟨0, 0⟩ start1.args0 Lib.HandBits.below0 a7 a8 a9 a10 ⟨a11, a12, a13⟩
  obtain ⟨n', o', g1, g2, g3, g4⟩ := rf_run
  have e := rf_one h1 h3 g1 g3
  subst e
  exact rf_no h4.2 g4
