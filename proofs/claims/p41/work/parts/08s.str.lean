/-! THE TEXT OF SIGNS AND THE SCRIPT'S READER (written by wip/p41/strgen.py): contracts of four members of String and what they call, and of the law's at -/
theorem sG_in {ws : List Cond} (h : ∀ w ∈ ws, w ∈ gG) : GoodIn gG ws := fun w hw => ⟨h w hw, good_of_word (List.mem_filter.mp (h w hw)).2⟩
/-- a text of signs at sa, its bytes at va; the JDK's two static fields -/
def sF (sa va : Nat) (A : Nat → Prop) (U : State) (H : Heap) : Prop :=
  va_O "java/lang/String" sa A U H ∧ va_OF "java/lang/String" "coder" "B" (.int 0) sa A U H ∧ va_OF "java/lang/String" "value" "[B" (.ref va) sa A U H ∧ va_T .byte va 24 (fun j => .int (gSg.getD j 0)) A U H ∧
  va_Z "java/lang/String" "COMPACT_STRINGS" "Z" (.int 1) A U H ∧ va_Zq "jdk/internal/util/Preconditions" "SIOOBE_FORMATTER" "Ljava/util/function/BiFunction;" A U H
theorem sF.moved {sa va : Nat} {A : Nat → Prop} {u U : State} {H : Heap} (hvm : u.vm.Alike U.vm) (h : sF sa va A u H) : sF sa va A U H := ⟨va_O.moved hvm h.1, va_OF.moved hvm h.2.1, va_OF.moved hvm h.2.2.1, va_T.moved hvm h.2.2.2.1, va_Z.moved hvm h.2.2.2.2.1, va_Zq.moved hvm h.2.2.2.2.2⟩
theorem sF.kept {sa va : Nat} {A : Nat → Prop} {U : State} {H H1 : Heap} (h : sF sa va A U H) (hq : ∀ a : Nat, a < H.size → ¬ A a → H1[a]? = H[a]?) : sF sa va A U H1 := ⟨h.1.kept hq, h.2.1.kept hq, h.2.2.1.kept hq, h.2.2.2.1.kept hq, h.2.2.2.2.1.kept hq, h.2.2.2.2.2.kept hq⟩
theorem sF.narrow {sa va : Nat} {A B : Nat → Prop} {U : State} {H : Heap} (h : sF sa va A U H) (hAB : ∀ q, B q → A q) : sF sa va B U H := ⟨h.1.narrow hAB, h.2.1.narrow hAB, h.2.2.1.narrow hAB, h.2.2.2.1.narrow hAB, h.2.2.2.2.1.narrow hAB, h.2.2.2.2.2.narrow hAB⟩
def sB (sa va sz : Nat) (U : State) : Prop := U.heap.size = sz ∧ sF sa va (fun q => sz ≤ q) U U.heap
theorem sB_blind {sa va sz : Nat} {av : List Value} : FrameBlind (va_Pc av (sB sa va sz)) := by
  intro a U g mk h
  obtain ⟨h0, h1, h2⟩ := h
  exact ⟨h0, h1, sF.moved (u := U) (U := U.calling g mk a) (Vm.Alike.refl U.vm) h2⟩
/-- what a callee finds -/
theorem sB_at {sa va : Nat} {A : Nat → Prop} {s U : State} {H : Heap} {locs : List Loc} (hF : sF sa va A s s.heap) (hS : va_S A s.heap H locs) (hA : ∀ q : Nat, s.heap.size ≤ q → A q) (hU : U.heap = H) (hW : s.WarmedH U.vm) : sB sa va H.size U :=
  ⟨by rw [hU], by rw [hU]; exact (sF.moved hW.alike ((hF.kept hS.2.1).narrow (fun q hq => hA q (Nat.le_trans hS.1 hq))))⟩
theorem sg_byte : ∀ j, j < 24 → (((gSg.getD j 0) &&& 255).toUInt32 % 65536).toInt32 = gSg.getD j 0 ∧ narrow .char (.int (gSg.getD j 0)) = .int (gSg.getD j 0) := by decide +kernel
theorem sg_in {i : Int32} {n : Nat} (h : vp_in i n) : ¬ i < 0 ∧ i.toNatClampNeg < n := ⟨fun q => h (Or.inl q), Nat.not_le.mp fun q => h (Or.inr q)⟩
theorem sg_lt {i : Int32} {n : Nat} (hn : n < 2 ^ 31) (h : vp_in i n) : i < Int32.ofNat n := by
  obtain ⟨h1, h2⟩ := sg_in h
  have h3 : (0 : Int) ≤ i.toInt := by
    have := Int32.not_lt.mp h1
    simpa using Int32.le_iff_toInt_le.mp this
  rw [Int32.lt_iff_toInt_lt, Int32.toInt_ofNat_of_lt hn]
  have h4 : i.toInt = (i.toNatClampNeg : Int) := by show i.toInt = ((i.toInt.toNat : Nat) : Int); omega
  omega
theorem sd_coder_0 : decode prog_24_method_152_code 0 = .ok (.getstatic 38, 3) := by decide +kernel
theorem sd_coder_3 : decode prog_24_method_152_code 3 = .ok (.ifCond .eq 10, 3) := by decide +kernel
theorem sd_coder_6 : decode prog_24_method_152_code 6 = .ok (.aload_n 0, 1) := by decide +kernel
theorem sd_coder_7 : decode prog_24_method_152_code 7 = .ok (.getfield 15, 3) := by decide +kernel
theorem sd_coder_10 : decode prog_24_method_152_code 10 = .ok (.goto 4, 3) := by decide +kernel
theorem sd_coder_14 : decode prog_24_method_152_code 14 = .ok (.ireturn, 1) := by decide +kernel
set_option maxHeartbeats 4000000 in
set_option maxRecDepth 100000 in
theorem sc_coder (l : Launch) {sa va sz : Nat} : Met l ⟨"java/lang/String", "coder", "()B"⟩ (Cond.code ⟨"java/lang/String", "coder", "()B"⟩ prog_24_method_152_code 1 (some .byte) :: gG) ({ frames := 0, cells := 0, slots := 0, locals := 0 } : Room) (va_Pc [.ref sa] (sB sa va sz)) (va_Qi (fun (r : Int32) (_ : Unit) => r = 0) (fun _ _ => True) (fun q => sz ≤ q)) 0 0 (fun q => sz ≤ q) := by
  refine Met.ofW (cc := prog_24_method_152_code) (maxL := 1) (ret := some .byte) (by decide) rfl ?_
  intro p e s m args below meth c s₁ B hml hv
  obtain ⟨rfl, hsz, hF⟩ := hv
  have hx := B.exec
  have hb := B.bytes
  have hr := B.returns
  have hts0 := atoms_spec (ws := (Cond.code ⟨"java/lang/String", "coder", "()B"⟩ prog_24_method_152_code 1 (some .byte) :: gG)) B.pre
  have hts : ∀ w ∈ gG, w.before _ s = true := fun w h => hts0 w (List.mem_cons_of_mem _ h)
  have hown : s.vm.findClass "java/lang/String" = some m.cls := findClass_of_methodNamed B.named
  have hlocks := B.notSynchronized
  subst hsz
  have hA : ∀ q : Nat, s.heap.size ≤ q → s.heap.size ≤ q := fun q h => h
  have hS : va_S (fun q => s.heap.size ≤ q) s.heap s.heap [] := va_S.rf
  have hl := lv_entry ([.ref sa]) (n := 1) (Nat.le_of_ble_eq_true rfl)
  rw [lg_entry_eq]
  generalize (lg_sl ([.ref sa]) ++ List.replicate (1 - (lg_sl ([.ref sa])).length) Slot.unset).toArray = ls at hl ⊢
  have hl : lv_has ls 1 [(0, .ref sa)] := hl
  refine va_gets hx hb hF.2.2.2.2.1 hS hown (hts (.fieldLink "java/lang/String" 38 "java/lang/String" "COMPACT_STRINGS" "Z") (gG_W (pos := 1095) (by decide +kernel) rfl)) (fun _ h9 => h9) sd_coder_0 ?_
  refine lv_if_eq (tgt := 13) hx hb sd_coder_3 rfl (fun h => absurd h (by decide)) (fun _ => ?_)
  refine lv_aload_n hx hb sd_coder_6 rfl (lv_at hl 0 rfl) ?_
  refine vk_getf hx hb hF.2.1 hS hown (hts (.fieldLink "java/lang/String" 15 "java/lang/String" "coder" "B") (gG_W (pos := 1158) (by decide +kernel) rfl)) (fun _ h9 => h9) sd_coder_7 ?_
  refine lv_goto (tgt := 14) hx hb sd_coder_10 rfl ?_
  exact W.zret hx hb hr (by decide) (fun t ht hW => ⟨⟨_, (), rfl, rfl, trivial⟩, hS.F ht⟩) hS.2.2 sd_coder_14 hlocks
theorem sd_isl_0 : decode prog_24_method_154_code 0 = .ok (.getstatic 38, 3) := by decide +kernel
theorem sd_isl_3 : decode prog_24_method_154_code 3 = .ok (.ifCond .eq 14, 3) := by decide +kernel
theorem sd_isl_6 : decode prog_24_method_154_code 6 = .ok (.aload_n 0, 1) := by decide +kernel
theorem sd_isl_7 : decode prog_24_method_154_code 7 = .ok (.getfield 15, 3) := by decide +kernel
theorem sd_isl_10 : decode prog_24_method_154_code 10 = .ok (.ifCond .ne 7, 3) := by decide +kernel
theorem sd_isl_13 : decode prog_24_method_154_code 13 = .ok (.iconst 1, 1) := by decide +kernel
theorem sd_isl_14 : decode prog_24_method_154_code 14 = .ok (.goto 4, 3) := by decide +kernel
theorem sd_isl_18 : decode prog_24_method_154_code 18 = .ok (.ireturn, 1) := by decide +kernel
set_option maxHeartbeats 4000000 in
set_option maxRecDepth 100000 in
theorem sc_isl (l : Launch) {sa va sz : Nat} : Met l ⟨"java/lang/String", "isLatin1", "()Z"⟩ (Cond.code ⟨"java/lang/String", "isLatin1", "()Z"⟩ prog_24_method_154_code 1 (some .boolean) :: gG) ({ frames := 0, cells := 0, slots := 0, locals := 0 } : Room) (va_Pc [.ref sa] (sB sa va sz)) (va_Qi (fun (r : Int32) (_ : Unit) => r = 1) (fun _ _ => True) (fun q => sz ≤ q)) 0 0 (fun q => sz ≤ q) := by
  refine Met.ofW (cc := prog_24_method_154_code) (maxL := 1) (ret := some .boolean) (by decide) rfl ?_
  intro p e s m args below meth c s₁ B hml hv
  obtain ⟨rfl, hsz, hF⟩ := hv
  have hx := B.exec
  have hb := B.bytes
  have hr := B.returns
  have hts0 := atoms_spec (ws := (Cond.code ⟨"java/lang/String", "isLatin1", "()Z"⟩ prog_24_method_154_code 1 (some .boolean) :: gG)) B.pre
  have hts : ∀ w ∈ gG, w.before _ s = true := fun w h => hts0 w (List.mem_cons_of_mem _ h)
  have hown : s.vm.findClass "java/lang/String" = some m.cls := findClass_of_methodNamed B.named
  have hlocks := B.notSynchronized
  subst hsz
  have hA : ∀ q : Nat, s.heap.size ≤ q → s.heap.size ≤ q := fun q h => h
  have hS : va_S (fun q => s.heap.size ≤ q) s.heap s.heap [] := va_S.rf
  have hl := lv_entry ([.ref sa]) (n := 1) (Nat.le_of_ble_eq_true rfl)
  rw [lg_entry_eq]
  generalize (lg_sl ([.ref sa]) ++ List.replicate (1 - (lg_sl ([.ref sa])).length) Slot.unset).toArray = ls at hl ⊢
  have hl : lv_has ls 1 [(0, .ref sa)] := hl
  refine va_gets hx hb hF.2.2.2.2.1 hS hown (hts (.fieldLink "java/lang/String" 38 "java/lang/String" "COMPACT_STRINGS" "Z") (gG_W (pos := 1095) (by decide +kernel) rfl)) (fun _ h9 => h9) sd_isl_0 ?_
  refine lv_if_eq (tgt := 17) hx hb sd_isl_3 rfl (fun h => absurd h (by decide)) (fun _ => ?_)
  refine lv_aload_n hx hb sd_isl_6 rfl (lv_at hl 0 rfl) ?_
  refine vk_getf hx hb hF.2.1 hS hown (hts (.fieldLink "java/lang/String" 15 "java/lang/String" "coder" "B") (gG_W (pos := 1158) (by decide +kernel) rfl)) (fun _ h9 => h9) sd_isl_7 ?_
  refine lv_if_ne (tgt := 17) hx hb sd_isl_10 rfl (fun h => absurd rfl h) (fun _ => ?_)
  refine lv_iconst (v := 1) hx hb sd_isl_13 (by decide) ?_
  refine lv_goto (tgt := 18) hx hb sd_isl_14 rfl ?_
  exact W.zret hx hb hr (by decide) (fun t ht hW => ⟨⟨_, (), rfl, rfl, trivial⟩, hS.F ht⟩) hS.2.2 sd_isl_18 hlocks
theorem sd_length_0 : decode prog_24_method_54_code 0 = .ok (.aload_n 0, 1) := by decide +kernel
theorem sd_length_1 : decode prog_24_method_54_code 1 = .ok (.getfield 9, 3) := by decide +kernel
theorem sd_length_4 : decode prog_24_method_54_code 4 = .ok (.arraylength, 1) := by decide +kernel
theorem sd_length_5 : decode prog_24_method_54_code 5 = .ok (.aload_n 0, 1) := by decide +kernel
theorem sd_length_6 : decode prog_24_method_54_code 6 = .ok (.invokevirtual 335, 3) := by decide +kernel
theorem sd_length_9 : decode prog_24_method_54_code 9 = .ok (.ishr, 1) := by decide +kernel
theorem sd_length_10 : decode prog_24_method_54_code 10 = .ok (.ireturn, 1) := by decide +kernel
set_option maxHeartbeats 4000000 in
set_option maxRecDepth 100000 in
theorem sc_length (l : Launch) {sa va sz : Nat} : Met l ⟨"java/lang/String", "length", "()I"⟩ (Cond.code ⟨"java/lang/String", "length", "()I"⟩ prog_24_method_54_code 1 (some .int) :: gG) ({ frames := 1, cells := 0, slots := 0, locals := 20 } : Room) (va_Pc [.ref sa] (sB sa va sz)) (va_Qi (fun (r : Int32) (_ : Unit) => r = 24) (fun _ _ => True) (fun q => sz ≤ q)) 0 0 (fun q => sz ≤ q) := by
  refine Met.ofW (cc := prog_24_method_54_code) (maxL := 1) (ret := some .int) (by decide) rfl ?_
  intro p e s m args below meth c s₁ B hml hv
  obtain ⟨rfl, hsz, hF⟩ := hv
  have hx := B.exec
  have hb := B.bytes
  have hr := B.returns
  have hts0 := atoms_spec (ws := (Cond.code ⟨"java/lang/String", "length", "()I"⟩ prog_24_method_54_code 1 (some .int) :: gG)) B.pre
  have hts : ∀ w ∈ gG, w.before _ s = true := fun w h => hts0 w (List.mem_cons_of_mem _ h)
  have hown : s.vm.findClass "java/lang/String" = some m.cls := findClass_of_methodNamed B.named
  have hlocks := B.notSynchronized
  subst hsz
  have hA : ∀ q : Nat, s.heap.size ≤ q → s.heap.size ≤ q := fun q h => h
  have hS : va_S (fun q => s.heap.size ≤ q) s.heap s.heap [] := va_S.rf
  have hl := lv_entry ([.ref sa]) (n := 1) (Nat.le_of_ble_eq_true rfl)
  rw [lg_entry_eq]
  generalize (lg_sl ([.ref sa]) ++ List.replicate (1 - (lg_sl ([.ref sa])).length) Slot.unset).toArray = ls at hl ⊢
  have hl : lv_has ls 1 [(0, .ref sa)] := hl
  refine lv_aload_n hx hb sd_length_0 rfl (lv_at hl 0 rfl) ?_
  refine vk_getf hx hb hF.2.2.1 hS hown (hts (.fieldLink "java/lang/String" 9 "java/lang/String" "value" "[B") (gG_W (pos := 1159) (by decide +kernel) rfl)) (fun _ h9 => h9) sd_length_1 ?_
  refine va_tlen (v := 24) hx hb hF.2.2.2.1 hS (by decide) sd_length_4 ?_
  refine lv_aload_n hx hb sd_length_5 rfl (lv_at hl 0 rfl) ?_
  refine va_calli (va_runV (C := "java/lang/String") (As := []) (rest := [.int 24]) ⟨hx, hb, hml, hown, hts⟩ (sc_coder l (sa := sa) (va := va)) (cwV 0 hts (sG_in (by
      intro w hw
      unfold wsV at hw
      simp only [List.cons_append, List.nil_append, List.mem_cons] at hw
      rcases hw with rfl | rfl | rfl | rfl | rfl | hw
      · exact gG_W (pos := 1091) (by decide +kernel) rfl
      · exact gG_W (pos := 1092) (by decide +kernel) rfl
      · exact gG_W (pos := 1093) (by decide +kernel) rfl
      · exact gG_W (pos := 21) (by decide +kernel) rfl
      · exact gG_W (pos := 1094) (by decide +kernel) rfl
      · exact hw)) rfl rfl rfl (by decide +kernel) ⟨Nat.le_of_ble_eq_true rfl, Nat.le_of_ble_eq_true rfl⟩) ⟨sB_blind, (by obtain ⟨cell, g1, g2, g3, -⟩ := (hF.1.kept hS.2.1); exact ⟨cell, g1, g2, g3⟩), fun U hU hW => ⟨rfl, sB_at hF hS hA hU hW⟩⟩ rfl rfl hl.1 rfl (lv_room (Nat.le_of_ble_eq_true rfl)) sd_length_6 ⟨Nat.zero_le _, Nat.zero_le _⟩) hS (fun q h1 h2 => absurd h1 (Nat.not_lt.mpr h2)) (fun q h => hA q (Nat.le_trans hS.1 h)) (fun r1 u t H1 locs1 ht hvm hw hB hz1 hk1 hS1 => ?_)
  try subst hw
  replace hS := hS1
  generalize H1 = H at hS ⊢
  generalize locs1 = locs at hS ⊢
  refine lv_ishr hx hb sd_length_9 ?_
  exact W.zret hx hb hr rfl (fun t ht hW => ⟨⟨_, (), rfl, (by decide), trivial⟩, hS.F ht⟩) hS.2.2 sd_length_10 hlocks
theorem sd_chk_0 : decode prog_33_method_11_code 0 = .ok (.iload_n 0, 1) := by decide +kernel
theorem sd_chk_1 : decode prog_33_method_11_code 1 = .ok (.ifCond .lt 8, 3) := by decide +kernel
theorem sd_chk_4 : decode prog_33_method_11_code 4 = .ok (.iload_n 0, 1) := by decide +kernel
theorem sd_chk_5 : decode prog_33_method_11_code 5 = .ok (.iload_n 1, 1) := by decide +kernel
theorem sd_chk_6 : decode prog_33_method_11_code 6 = .ok (.if_icmp .lt 10, 3) := by decide +kernel
theorem sd_chk_16 : decode prog_33_method_11_code 16 = .ok (.iload_n 0, 1) := by decide +kernel
theorem sd_chk_17 : decode prog_33_method_11_code 17 = .ok (.ireturn, 1) := by decide +kernel
set_option maxHeartbeats 4000000 in
set_option maxRecDepth 100000 in
theorem sc_chkN (l : Launch) {sa va sz : Nat} {i n : Int32} (hi : ¬ i < 0) (hn : i < n) : Met l ⟨"jdk/internal/util/Preconditions", "checkIndex", "(IILjava/util/function/BiFunction;)I"⟩ (Cond.code ⟨"jdk/internal/util/Preconditions", "checkIndex", "(IILjava/util/function/BiFunction;)I"⟩ prog_33_method_11_code 3 (some .int) :: gG) ({ frames := 0, cells := 0, slots := 0, locals := 0 } : Room) (va_Pc [.int i, .int n, .null] (sB sa va sz)) (va_Qi (fun (r : Int32) (_ : Unit) => r = i) (fun _ _ => True) (fun q => sz ≤ q)) 0 0 (fun q => sz ≤ q) := by
  refine Met.ofW (cc := prog_33_method_11_code) (maxL := 3) (ret := some .int) (by decide) rfl ?_
  intro p e s m args below meth c s₁ B hml hv
  obtain ⟨rfl, hsz, hF⟩ := hv
  have hx := B.exec
  have hb := B.bytes
  have hr := B.returns
  have hts0 := atoms_spec (ws := (Cond.code ⟨"jdk/internal/util/Preconditions", "checkIndex", "(IILjava/util/function/BiFunction;)I"⟩ prog_33_method_11_code 3 (some .int) :: gG)) B.pre
  have hts : ∀ w ∈ gG, w.before _ s = true := fun w h => hts0 w (List.mem_cons_of_mem _ h)
  have hown : s.vm.findClass "jdk/internal/util/Preconditions" = some m.cls := findClass_of_methodNamed B.named
  have hlocks := B.notSynchronized
  subst hsz
  have hA : ∀ q : Nat, s.heap.size ≤ q → s.heap.size ≤ q := fun q h => h
  have hS : va_S (fun q => s.heap.size ≤ q) s.heap s.heap [] := va_S.rf
  have hl := lv_entry ([.int i, .int n, .null]) (n := 3) (Nat.le_of_ble_eq_true rfl)
  rw [lg_entry_eq]
  generalize (lg_sl ([.int i, .int n, .null]) ++ List.replicate (3 - (lg_sl ([.int i, .int n, .null])).length) Slot.unset).toArray = ls at hl ⊢
  have hl : lv_has ls 3 [(0, .int i), (1, .int n), (2, .null)] := hl
  refine lv_iload_n hx hb sd_chk_0 rfl (lv_at hl 0 rfl) ?_
  refine lv_if_lt (tgt := 9) hx hb sd_chk_1 rfl (fun h => absurd h hi) (fun _ => ?_)
  refine lv_iload_n hx hb sd_chk_4 rfl (lv_at hl 0 rfl) ?_
  refine lv_iload_n hx hb sd_chk_5 rfl (lv_at hl 1 rfl) ?_
  refine lv_icmp_lt (tgt := 16) hx hb sd_chk_6 rfl (fun _ => ?_) (fun h => absurd hn h)
  refine lv_iload_n hx hb sd_chk_16 rfl (lv_at hl 0 rfl) ?_
  exact W.zret hx hb hr rfl (fun t ht hW => ⟨⟨_, (), rfl, rfl, trivial⟩, hS.F ht⟩) hS.2.2 sd_chk_17 hlocks
set_option maxHeartbeats 4000000 in
set_option maxRecDepth 100000 in
theorem sc_chkR (l : Launch) {sa va sz : Nat} {i n : Int32} {t9 : Nat} (hi : ¬ i < 0) (hn : i < n) : Met l ⟨"jdk/internal/util/Preconditions", "checkIndex", "(IILjava/util/function/BiFunction;)I"⟩ (Cond.code ⟨"jdk/internal/util/Preconditions", "checkIndex", "(IILjava/util/function/BiFunction;)I"⟩ prog_33_method_11_code 3 (some .int) :: gG) ({ frames := 0, cells := 0, slots := 0, locals := 0 } : Room) (va_Pc [.int i, .int n, (.ref t9)] (sB sa va sz)) (va_Qi (fun (r : Int32) (_ : Unit) => r = i) (fun _ _ => True) (fun q => sz ≤ q)) 0 0 (fun q => sz ≤ q) := by
  refine Met.ofW (cc := prog_33_method_11_code) (maxL := 3) (ret := some .int) (by decide) rfl ?_
  intro p e s m args below meth c s₁ B hml hv
  obtain ⟨rfl, hsz, hF⟩ := hv
  have hx := B.exec
  have hb := B.bytes
  have hr := B.returns
  have hts0 := atoms_spec (ws := (Cond.code ⟨"jdk/internal/util/Preconditions", "checkIndex", "(IILjava/util/function/BiFunction;)I"⟩ prog_33_method_11_code 3 (some .int) :: gG)) B.pre
  have hts : ∀ w ∈ gG, w.before _ s = true := fun w h => hts0 w (List.mem_cons_of_mem _ h)
  have hown : s.vm.findClass "jdk/internal/util/Preconditions" = some m.cls := findClass_of_methodNamed B.named
  have hlocks := B.notSynchronized
  subst hsz
  have hA : ∀ q : Nat, s.heap.size ≤ q → s.heap.size ≤ q := fun q h => h
  have hS : va_S (fun q => s.heap.size ≤ q) s.heap s.heap [] := va_S.rf
  have hl := lv_entry ([.int i, .int n, (.ref t9)]) (n := 3) (Nat.le_of_ble_eq_true rfl)
  rw [lg_entry_eq]
  generalize (lg_sl ([.int i, .int n, (.ref t9)]) ++ List.replicate (3 - (lg_sl ([.int i, .int n, (.ref t9)])).length) Slot.unset).toArray = ls at hl ⊢
  have hl : lv_has ls 3 [(0, .int i), (1, .int n), (2, (.ref t9))] := hl
  refine lv_iload_n hx hb sd_chk_0 rfl (lv_at hl 0 rfl) ?_
  refine lv_if_lt (tgt := 9) hx hb sd_chk_1 rfl (fun h => absurd h hi) (fun _ => ?_)
  refine lv_iload_n hx hb sd_chk_4 rfl (lv_at hl 0 rfl) ?_
  refine lv_iload_n hx hb sd_chk_5 rfl (lv_at hl 1 rfl) ?_
  refine lv_icmp_lt (tgt := 16) hx hb sd_chk_6 rfl (fun _ => ?_) (fun h => absurd hn h)
  refine lv_iload_n hx hb sd_chk_16 rfl (lv_at hl 0 rfl) ?_
  exact W.zret hx hb hr rfl (fun t ht hW => ⟨⟨_, (), rfl, rfl, trivial⟩, hS.F ht⟩) hS.2.2 sd_chk_17 hlocks
theorem sd_chs_0 : decode prog_24_method_155_code 0 = .ok (.iload_n 0, 1) := by decide +kernel
theorem sd_chs_1 : decode prog_24_method_155_code 1 = .ok (.iload_n 1, 1) := by decide +kernel
theorem sd_chs_2 : decode prog_24_method_155_code 2 = .ok (.getstatic 1053, 3) := by decide +kernel
theorem sd_chs_5 : decode prog_24_method_155_code 5 = .ok (.invokestatic 1059, 3) := by decide +kernel
theorem sd_chs_8 : decode prog_24_method_155_code 8 = .ok (.pop, 1) := by decide +kernel
theorem sd_chs_9 : decode prog_24_method_155_code 9 = .ok (.return_, 1) := by decide +kernel
set_option maxHeartbeats 4000000 in
set_option maxRecDepth 100000 in
theorem sc_chs (l : Launch) {sa va sz : Nat} {i n : Int32} (hi : ¬ i < 0) (hn : i < n) : Met l ⟨"java/lang/String", "checkIndex", "(II)V"⟩ (Cond.code ⟨"java/lang/String", "checkIndex", "(II)V"⟩ prog_24_method_155_code 2 (none) :: gG) ({ frames := 1, cells := 0, slots := 0, locals := 22 } : Room) (va_Pc [.int i, .int n] (sB sa va sz)) (va_Qv (fun _ : Unit => True) (fun _ _ => True) (fun q => sz ≤ q)) 0 0 (fun q => sz ≤ q) := by
  refine Met.ofW (cc := prog_24_method_155_code) (maxL := 2) (ret := none) (by decide) rfl ?_
  intro p e s m args below meth c s₁ B hml hv
  obtain ⟨rfl, hsz, hF⟩ := hv
  have hx := B.exec
  have hb := B.bytes
  have hr := B.returns
  have hts0 := atoms_spec (ws := (Cond.code ⟨"java/lang/String", "checkIndex", "(II)V"⟩ prog_24_method_155_code 2 (none) :: gG)) B.pre
  have hts : ∀ w ∈ gG, w.before _ s = true := fun w h => hts0 w (List.mem_cons_of_mem _ h)
  have hown : s.vm.findClass "java/lang/String" = some m.cls := findClass_of_methodNamed B.named
  have hlocks := B.notSynchronized
  subst hsz
  have hA : ∀ q : Nat, s.heap.size ≤ q → s.heap.size ≤ q := fun q h => h
  have hS : va_S (fun q => s.heap.size ≤ q) s.heap s.heap [] := va_S.rf
  have hl := lv_entry ([.int i, .int n]) (n := 2) (Nat.le_of_ble_eq_true rfl)
  rw [lg_entry_eq]
  generalize (lg_sl ([.int i, .int n]) ++ List.replicate (2 - (lg_sl ([.int i, .int n])).length) Slot.unset).toArray = ls at hl ⊢
  have hl : lv_has ls 2 [(0, .int i), (1, .int n)] := hl
  refine lv_iload_n hx hb sd_chs_0 rfl (lv_at hl 0 rfl) ?_
  refine lv_iload_n hx hb sd_chs_1 rfl (lv_at hl 1 rfl) ?_
  rcases hF.2.2.2.2.2 with hZ9 | ⟨t9, hZ9⟩
  · refine va_gets hx hb hZ9 hS hown (hts (.fieldLink "java/lang/String" 1053 "jdk/internal/util/Preconditions" "SIOOBE_FORMATTER" "Ljava/util/function/BiFunction;") (gG_W (pos := 1111) (by decide +kernel) rfl)) (fun _ h9 => h9) sd_chs_2 ?_
    refine va_calli (va_runS (As := [.int i, .int n, .null]) (rest := []) ⟨hx, hb, hml, hown, hts⟩ (sc_chkN l (sa := sa) (va := va) hi hn) (va_cwS 3 hts (sG_in (by
      intro w hw
      unfold va_wsS at hw
      simp only [List.cons_append, List.nil_append, List.mem_cons] at hw
      rcases hw with rfl | rfl | rfl | rfl | hw
      · exact gG_W (pos := 1113) (by decide +kernel) rfl
      · exact gG_W (pos := 1114) (by decide +kernel) rfl
      · exact gG_W (pos := 24) (by decide +kernel) rfl
      · exact gG_W (pos := 1115) (by decide +kernel) rfl
      · exact hw)) rfl rfl rfl (by decide +kernel) ⟨Nat.le_of_ble_eq_true rfl, Nat.le_of_ble_eq_true rfl⟩) ⟨sB_blind, fun U hU hW => ⟨rfl, sB_at hF hS hA hU hW⟩⟩ rfl rfl hl.1 rfl (lv_room (Nat.le_of_ble_eq_true rfl)) sd_chs_5 ⟨Nat.zero_le _, Nat.zero_le _⟩) hS (fun q h1 h2 => absurd h1 (Nat.not_lt.mpr h2)) (fun q h => hA q (Nat.le_trans hS.1 h)) (fun r1 u t H1 locs1 ht hvm hw hB hz1 hk1 hS1 => ?_)
    try subst hw
    replace hS := hS1
    generalize H1 = H at hS ⊢
    generalize locs1 = locs at hS ⊢
    refine lv_pop hx hb sd_chs_8 rfl ?_
    exact W.vret hx hb hr (fun t ht hW => ⟨⟨(), rfl, trivial, trivial⟩, hS.F ht⟩) hS.2.2 sd_chs_9 hlocks
  · refine va_gets hx hb hZ9 hS hown (hts (.fieldLink "java/lang/String" 1053 "jdk/internal/util/Preconditions" "SIOOBE_FORMATTER" "Ljava/util/function/BiFunction;") (gG_W (pos := 1111) (by decide +kernel) rfl)) (fun _ h9 => h9) sd_chs_2 ?_
    refine va_calli (va_runS (As := [.int i, .int n, .ref t9]) (rest := []) ⟨hx, hb, hml, hown, hts⟩ (sc_chkR l (sa := sa) (va := va) hi hn) (va_cwS 3 hts (sG_in (by
      intro w hw
      unfold va_wsS at hw
      simp only [List.cons_append, List.nil_append, List.mem_cons] at hw
      rcases hw with rfl | rfl | rfl | rfl | hw
      · exact gG_W (pos := 1113) (by decide +kernel) rfl
      · exact gG_W (pos := 1114) (by decide +kernel) rfl
      · exact gG_W (pos := 24) (by decide +kernel) rfl
      · exact gG_W (pos := 1115) (by decide +kernel) rfl
      · exact hw)) rfl rfl rfl (by decide +kernel) ⟨Nat.le_of_ble_eq_true rfl, Nat.le_of_ble_eq_true rfl⟩) ⟨sB_blind, fun U hU hW => ⟨rfl, sB_at hF hS hA hU hW⟩⟩ rfl rfl hl.1 rfl (lv_room (Nat.le_of_ble_eq_true rfl)) sd_chs_5 ⟨Nat.zero_le _, Nat.zero_le _⟩) hS (fun q h1 h2 => absurd h1 (Nat.not_lt.mpr h2)) (fun q h => hA q (Nat.le_trans hS.1 h)) (fun r1 u t H1 locs1 ht hvm hw hB hz1 hk1 hS1 => ?_)
    try subst hw
    replace hS := hS1
    generalize H1 = H at hS ⊢
    generalize locs1 = locs at hS ⊢
    refine lv_pop hx hb sd_chs_8 rfl ?_
    exact W.vret hx hb hr (fun t ht hW => ⟨⟨(), rfl, trivial, trivial⟩, hS.F ht⟩) hS.2.2 sd_chs_9 hlocks
theorem sd_lch_0 : decode prog_25_method_2_code 0 = .ok (.iload_n 1, 1) := by decide +kernel
theorem sd_lch_1 : decode prog_25_method_2_code 1 = .ok (.aload_n 0, 1) := by decide +kernel
theorem sd_lch_2 : decode prog_25_method_2_code 2 = .ok (.arraylength, 1) := by decide +kernel
theorem sd_lch_3 : decode prog_25_method_2_code 3 = .ok (.invokestatic 9, 3) := by decide +kernel
theorem sd_lch_6 : decode prog_25_method_2_code 6 = .ok (.aload_n 0, 1) := by decide +kernel
theorem sd_lch_7 : decode prog_25_method_2_code 7 = .ok (.iload_n 1, 1) := by decide +kernel
theorem sd_lch_8 : decode prog_25_method_2_code 8 = .ok (.baload, 1) := by decide +kernel
theorem sd_lch_9 : decode prog_25_method_2_code 9 = .ok (.sipush 255, 3) := by decide +kernel
theorem sd_lch_12 : decode prog_25_method_2_code 12 = .ok (.iand, 1) := by decide +kernel
theorem sd_lch_13 : decode prog_25_method_2_code 13 = .ok (.i2c, 1) := by decide +kernel
theorem sd_lch_14 : decode prog_25_method_2_code 14 = .ok (.ireturn, 1) := by decide +kernel
set_option maxHeartbeats 4000000 in
set_option maxRecDepth 100000 in
theorem sc_lch (l : Launch) {sa va sz : Nat} {i : Int32} (hi : vp_in i 24) : Met l ⟨"java/lang/StringLatin1", "charAt", "([BI)C"⟩ (Cond.code ⟨"java/lang/StringLatin1", "charAt", "([BI)C"⟩ prog_25_method_2_code 2 (some .char) :: gG) ({ frames := 2, cells := 0, slots := 0, locals := 43 } : Room) (va_Pc [.ref va, .int i] (sB sa va sz)) (va_Qi (fun (r : Int32) (_ : Unit) => r = gSg.getD i.toNatClampNeg 0) (fun _ _ => True) (fun q => sz ≤ q)) 0 0 (fun q => sz ≤ q) := by
  refine Met.ofW (cc := prog_25_method_2_code) (maxL := 2) (ret := some .char) (by decide) rfl ?_
  intro p e s m args below meth c s₁ B hml hv
  obtain ⟨rfl, hsz, hF⟩ := hv
  have hx := B.exec
  have hb := B.bytes
  have hr := B.returns
  have hts0 := atoms_spec (ws := (Cond.code ⟨"java/lang/StringLatin1", "charAt", "([BI)C"⟩ prog_25_method_2_code 2 (some .char) :: gG)) B.pre
  have hts : ∀ w ∈ gG, w.before _ s = true := fun w h => hts0 w (List.mem_cons_of_mem _ h)
  have hown : s.vm.findClass "java/lang/StringLatin1" = some m.cls := findClass_of_methodNamed B.named
  have hlocks := B.notSynchronized
  subst hsz
  have hA : ∀ q : Nat, s.heap.size ≤ q → s.heap.size ≤ q := fun q h => h
  have hS : va_S (fun q => s.heap.size ≤ q) s.heap s.heap [] := va_S.rf
  have hl := lv_entry ([.ref va, .int i]) (n := 2) (Nat.le_of_ble_eq_true rfl)
  rw [lg_entry_eq]
  generalize (lg_sl ([.ref va, .int i]) ++ List.replicate (2 - (lg_sl ([.ref va, .int i])).length) Slot.unset).toArray = ls at hl ⊢
  have hl : lv_has ls 2 [(0, .ref va), (1, .int i)] := hl
  obtain ⟨hi1, hi2⟩ := sg_in hi
  refine lv_iload_n hx hb sd_lch_0 rfl (lv_at hl 1 rfl) ?_
  refine lv_aload_n hx hb sd_lch_1 rfl (lv_at hl 0 rfl) ?_
  refine va_tlen (v := 24) hx hb hF.2.2.2.1 hS (by decide) sd_lch_2 ?_
  refine va_callv (va_runS (As := [.int i, .int 24]) (rest := []) ⟨hx, hb, hml, hown, hts⟩ (sc_chs l (sa := sa) (va := va) hi1 (sg_lt (by decide) hi)) (va_cwS 2 hts (sG_in (by
      intro w hw
      unfold va_wsS at hw
      simp only [List.cons_append, List.nil_append, List.mem_cons] at hw
      rcases hw with rfl | rfl | rfl | rfl | hw
      · exact gG_W (pos := 1108) (by decide +kernel) rfl
      · exact gG_W (pos := 1109) (by decide +kernel) rfl
      · exact gG_W (pos := 21) (by decide +kernel) rfl
      · exact gG_W (pos := 1110) (by decide +kernel) rfl
      · exact hw)) rfl rfl rfl (by decide +kernel) ⟨Nat.le_of_ble_eq_true rfl, Nat.le_of_ble_eq_true rfl⟩) ⟨sB_blind, fun U hU hW => ⟨rfl, sB_at hF hS hA hU hW⟩⟩ rfl rfl hl.1 rfl (lv_room (Nat.le_of_ble_eq_true rfl)) sd_lch_3 ⟨Nat.zero_le _, Nat.zero_le _⟩) hS (fun q h1 h2 => absurd h1 (Nat.not_lt.mpr h2)) (fun q h => hA q (Nat.le_trans hS.1 h)) (fun u t H1 locs1 ht hvm hw hB hz1 hk1 hS1 => ?_)
  try subst hw
  replace hS := hS1
  generalize H1 = H at hS ⊢
  generalize locs1 = locs at hS ⊢
  refine lv_aload_n hx hb sd_lch_6 rfl (lv_at hl 0 rfl) ?_
  refine lv_iload_n hx hb sd_lch_7 rfl (lv_at hl 1 rfl) ?_
  refine va_tb hx hb hF.2.2.2.1 hS hi rfl sd_lch_8 ?_
  refine lv_sipush (v := 255) hx hb sd_lch_9 (by decide) ?_
  refine lv_iand hx hb sd_lch_12 ?_
  refine lv_i2c hx hb sd_lch_13 (sg_byte _ hi2).1 ?_
  exact W.zret hx hb hr (sg_byte _ hi2).2 (fun t ht hW => ⟨⟨_, (), rfl, rfl, trivial⟩, hS.F ht⟩) hS.2.2 sd_lch_14 hlocks
theorem sd_cha_0 : decode prog_24_method_56_code 0 = .ok (.aload_n 0, 1) := by decide +kernel
theorem sd_cha_1 : decode prog_24_method_56_code 1 = .ok (.invokevirtual 492, 3) := by decide +kernel
theorem sd_cha_4 : decode prog_24_method_56_code 4 = .ok (.ifCond .eq 12, 3) := by decide +kernel
theorem sd_cha_7 : decode prog_24_method_56_code 7 = .ok (.aload_n 0, 1) := by decide +kernel
theorem sd_cha_8 : decode prog_24_method_56_code 8 = .ok (.getfield 9, 3) := by decide +kernel
theorem sd_cha_11 : decode prog_24_method_56_code 11 = .ok (.iload_n 1, 1) := by decide +kernel
theorem sd_cha_12 : decode prog_24_method_56_code 12 = .ok (.invokestatic 495, 3) := by decide +kernel
theorem sd_cha_15 : decode prog_24_method_56_code 15 = .ok (.ireturn, 1) := by decide +kernel
set_option maxHeartbeats 4000000 in
set_option maxRecDepth 100000 in
theorem sc_cha (l : Launch) {sa va sz : Nat} {i : Int32} (hi : vp_in i 24) : Met l ⟨"java/lang/String", "charAt", "(I)C"⟩ (Cond.code ⟨"java/lang/String", "charAt", "(I)C"⟩ prog_24_method_56_code 2 (some .char) :: gG) ({ frames := 3, cells := 0, slots := 0, locals := 64 } : Room) (va_Pc [.ref sa, .int i] (sB sa va sz)) (va_Qi (fun (r : Int32) (_ : Unit) => r = gSg.getD i.toNatClampNeg 0) (fun _ _ => True) (fun q => sz ≤ q)) 0 0 (fun q => sz ≤ q) := by
  refine Met.ofW (cc := prog_24_method_56_code) (maxL := 2) (ret := some .char) (by decide) rfl ?_
  intro p e s m args below meth c s₁ B hml hv
  obtain ⟨rfl, hsz, hF⟩ := hv
  have hx := B.exec
  have hb := B.bytes
  have hr := B.returns
  have hts0 := atoms_spec (ws := (Cond.code ⟨"java/lang/String", "charAt", "(I)C"⟩ prog_24_method_56_code 2 (some .char) :: gG)) B.pre
  have hts : ∀ w ∈ gG, w.before _ s = true := fun w h => hts0 w (List.mem_cons_of_mem _ h)
  have hown : s.vm.findClass "java/lang/String" = some m.cls := findClass_of_methodNamed B.named
  have hlocks := B.notSynchronized
  subst hsz
  have hA : ∀ q : Nat, s.heap.size ≤ q → s.heap.size ≤ q := fun q h => h
  have hS : va_S (fun q => s.heap.size ≤ q) s.heap s.heap [] := va_S.rf
  have hl := lv_entry ([.ref sa, .int i]) (n := 2) (Nat.le_of_ble_eq_true rfl)
  rw [lg_entry_eq]
  generalize (lg_sl ([.ref sa, .int i]) ++ List.replicate (2 - (lg_sl ([.ref sa, .int i])).length) Slot.unset).toArray = ls at hl ⊢
  have hl : lv_has ls 2 [(0, .ref sa), (1, .int i)] := hl
  refine lv_aload_n hx hb sd_cha_0 rfl (lv_at hl 0 rfl) ?_
  refine va_calli (va_runV (C := "java/lang/String") (As := []) (rest := []) ⟨hx, hb, hml, hown, hts⟩ (sc_isl l (sa := sa) (va := va)) (cwV 0 hts (sG_in (by
      intro w hw
      unfold wsV at hw
      simp only [List.cons_append, List.nil_append, List.mem_cons] at hw
      rcases hw with rfl | rfl | rfl | rfl | rfl | hw
      · exact gG_W (pos := 1101) (by decide +kernel) rfl
      · exact gG_W (pos := 1102) (by decide +kernel) rfl
      · exact gG_W (pos := 1103) (by decide +kernel) rfl
      · exact gG_W (pos := 21) (by decide +kernel) rfl
      · exact gG_W (pos := 1104) (by decide +kernel) rfl
      · exact hw)) rfl rfl rfl (by decide +kernel) ⟨Nat.le_of_ble_eq_true rfl, Nat.le_of_ble_eq_true rfl⟩) ⟨sB_blind, (by obtain ⟨cell, g1, g2, g3, -⟩ := (hF.1.kept hS.2.1); exact ⟨cell, g1, g2, g3⟩), fun U hU hW => ⟨rfl, sB_at hF hS hA hU hW⟩⟩ rfl rfl hl.1 rfl (lv_room (Nat.le_of_ble_eq_true rfl)) sd_cha_1 ⟨Nat.zero_le _, Nat.zero_le _⟩) hS (fun q h1 h2 => absurd h1 (Nat.not_lt.mpr h2)) (fun q h => hA q (Nat.le_trans hS.1 h)) (fun r1 u t H1 locs1 ht hvm hw hB hz1 hk1 hS1 => ?_)
  try subst hw
  replace hS := hS1
  generalize H1 = H at hS ⊢
  generalize locs1 = locs at hS ⊢
  refine lv_if_eq (tgt := 16) hx hb sd_cha_4 rfl (fun h => absurd h (by decide)) (fun _ => ?_)
  refine lv_aload_n hx hb sd_cha_7 rfl (lv_at hl 0 rfl) ?_
  refine vk_getf hx hb hF.2.2.1 hS hown (hts (.fieldLink "java/lang/String" 9 "java/lang/String" "value" "[B") (gG_W (pos := 1159) (by decide +kernel) rfl)) (fun _ h9 => h9) sd_cha_8 ?_
  refine lv_iload_n hx hb sd_cha_11 rfl (lv_at hl 1 rfl) ?_
  refine va_calli (va_runS (As := [.ref va, .int i]) (rest := []) ⟨hx, hb, hml, hown, hts⟩ (sc_lch l (sa := sa) (va := va) hi) (va_cwS 2 hts (sG_in (by
      intro w hw
      unfold va_wsS at hw
      simp only [List.cons_append, List.nil_append, List.mem_cons] at hw
      rcases hw with rfl | rfl | rfl | rfl | hw
      · exact gG_W (pos := 1105) (by decide +kernel) rfl
      · exact gG_W (pos := 1106) (by decide +kernel) rfl
      · exact gG_W (pos := 23) (by decide +kernel) rfl
      · exact gG_W (pos := 1107) (by decide +kernel) rfl
      · exact hw)) rfl rfl rfl (by decide +kernel) ⟨Nat.le_of_ble_eq_true rfl, Nat.le_of_ble_eq_true rfl⟩) ⟨sB_blind, fun U hU hW => ⟨rfl, sB_at hF hS hA hU hW⟩⟩ rfl rfl hl.1 rfl (lv_room (Nat.le_of_ble_eq_true rfl)) sd_cha_12 ⟨Nat.zero_le _, Nat.zero_le _⟩) hS (fun q h1 h2 => absurd h1 (Nat.not_lt.mpr h2)) (fun q h => hA q (Nat.le_trans hS.1 h)) (fun r1 u t H1 locs1 ht hvm hw hB hz1 hk1 hS1 => ?_)
  try subst hw
  replace hS := hS1
  generalize H1 = H at hS ⊢
  generalize locs1 = locs at hS ⊢
  exact W.zret hx hb hr (sg_byte _ (sg_in hi).2).2 (fun t ht hW => ⟨⟨_, (), rfl, rfl, trivial⟩, hS.F ht⟩) hS.2.2 sd_cha_15 hlocks
def sX (b L : Nat) (xs : Nat → Int32) (sz : Nat) (U : State) : Prop := U.heap.size = sz ∧ va_X b L xs U U.heap ∧ b < U.heap.size
theorem sX_blind {b L sz : Nat} {xs : Nat → Int32} {av : List Value} : FrameBlind (va_Pc av (sX b L xs sz)) := by
  intro a U g mk h
  obtain ⟨h0, h1, h2, h3⟩ := h
  exact ⟨h0, h1, va_X.moved (u := U) (U := U.calling g mk a) (Vm.Alike.refl U.vm) h2, h3⟩
theorem sX_in {i : Int32} {L : Nat} (hL : L < 2 ^ 31) (h0 : ¬ i < 0) (h : i < Int32.ofNat L) : vp_in i L := by
  have h3 : (0 : Int) ≤ i.toInt := by
    have := Int32.not_lt.mp h0
    simpa using Int32.le_iff_toInt_le.mp this
  rw [Int32.lt_iff_toInt_lt, Int32.toInt_ofNat_of_lt hL] at h
  have h4 : i.toInt = (i.toNatClampNeg : Int) := by show i.toInt = ((i.toInt.toNat : Nat) : Int); omega
  rintro (q | q)
  · exact h0 q
  · omega
theorem sd_at_0 : decode method_2_code 0 = .ok (.iload_n 1, 1) := by decide +kernel
theorem sd_at_1 : decode method_2_code 1 = .ok (.aload_n 0, 1) := by decide +kernel
theorem sd_at_2 : decode method_2_code 2 = .ok (.arraylength, 1) := by decide +kernel
theorem sd_at_3 : decode method_2_code 3 = .ok (.if_icmp .ge 9, 3) := by decide +kernel
theorem sd_at_6 : decode method_2_code 6 = .ok (.aload_n 0, 1) := by decide +kernel
theorem sd_at_7 : decode method_2_code 7 = .ok (.iload_n 1, 1) := by decide +kernel
theorem sd_at_8 : decode method_2_code 8 = .ok (.iaload, 1) := by decide +kernel
theorem sd_at_9 : decode method_2_code 9 = .ok (.goto 4, 3) := by decide +kernel
theorem sd_at_12 : decode method_2_code 12 = .ok (.iconst 0, 1) := by decide +kernel
theorem sd_at_13 : decode method_2_code 13 = .ok (.ireturn, 1) := by decide +kernel
set_option maxHeartbeats 4000000 in
set_option maxRecDepth 100000 in
theorem sc_at (l : Launch) {b L sz : Nat} {xs : Nat → Int32} {i : Int32} (hL : L < 2 ^ 31) (hi : ¬ i < 0) : Met l ⟨"GlyphmillLaw", "at", "([II)I"⟩ (Cond.code ⟨"GlyphmillLaw", "at", "([II)I"⟩ method_2_code 2 (some .int) :: gG) ({ frames := 0, cells := 0, slots := 0, locals := 0 } : Room) (va_Pc [.ref b, .int i] (sX b L xs sz)) (va_Qi (fun (r : Int32) (_ : Unit) => r = (if i < Int32.ofNat L then xs i.toNatClampNeg else 0)) (fun _ _ => True) (fun q => sz ≤ q)) 0 0 (fun q => sz ≤ q) := by
  refine Met.ofW (cc := method_2_code) (maxL := 2) (ret := some .int) (by decide) rfl ?_
  intro p e s m args below meth c s₁ B hml hv
  obtain ⟨rfl, hsz, hF⟩ := hv
  have hx := B.exec
  have hb := B.bytes
  have hr := B.returns
  have hts0 := atoms_spec (ws := (Cond.code ⟨"GlyphmillLaw", "at", "([II)I"⟩ method_2_code 2 (some .int) :: gG)) B.pre
  have hts : ∀ w ∈ gG, w.before _ s = true := fun w h => hts0 w (List.mem_cons_of_mem _ h)
  have hown : s.vm.findClass "GlyphmillLaw" = some m.cls := findClass_of_methodNamed B.named
  have hlocks := B.notSynchronized
  subst hsz
  have hA : ∀ q : Nat, s.heap.size ≤ q → s.heap.size ≤ q := fun q h => h
  have hS : va_S (fun q => s.heap.size ≤ q) s.heap s.heap [] := va_S.rf
  have hl := lv_entry ([.ref b, .int i]) (n := 2) (Nat.le_of_ble_eq_true rfl)
  rw [lg_entry_eq]
  generalize (lg_sl ([.ref b, .int i]) ++ List.replicate (2 - (lg_sl ([.ref b, .int i])).length) Slot.unset).toArray = ls at hl ⊢
  have hl : lv_has ls 2 [(0, .ref b), (1, .int i)] := hl
  obtain ⟨hX, hbl⟩ := hF
  refine lv_iload_n hx hb sd_at_0 rfl (lv_at hl 1 rfl) ?_
  refine lv_aload_n hx hb sd_at_1 rfl (lv_at hl 0 rfl) ?_
  refine va_slen hx hb hX hbl (Nat.not_le.mpr hbl) hS sd_at_2 ?_
  refine lv_icmp_ge (tgt := 12) hx hb sd_at_3 rfl (fun h => ?_) (fun h => ?_)
  · refine lv_iconst (v := 0) hx hb sd_at_12 (by decide) ?_
    exact W.zret hx hb hr rfl (fun t ht hW => ⟨⟨_, (), rfl, (if_neg (fun q => absurd q (Int32.not_lt.mpr h))).symm, trivial⟩, hS.F ht⟩) hS.2.2 sd_at_13 hlocks
  · have hlt : i < Int32.ofNat L := Int32.not_le.mp h
    refine lv_aload_n hx hb sd_at_6 rfl (lv_at hl 0 rfl) ?_
    refine lv_iload_n hx hb sd_at_7 rfl (lv_at hl 1 rfl) ?_
    refine va_sld hx hb hX hbl (Nat.not_le.mpr hbl) hS (sX_in hL hi hlt) sd_at_8 ?_
    refine lv_goto (tgt := 13) hx hb sd_at_9 rfl ?_
    exact W.zret hx hb hr rfl (fun t ht hW => ⟨⟨_, (), rfl, (if_pos hlt).symm, trivial⟩, hS.F ht⟩) hS.2.2 sd_at_13 hlocks
section SPRIM
variable {p : Program} {l : Launch} {e : Env} {R : Room} {s : State} {m : MethodId} {args : Array Value} {below : List Frame} {meth : Method} {c : Code} {H : Heap} {locs : List Loc} {cells slots : Nat} {Q : State → Prop}
variable {cc : ByteArray} {pc : Nat} {ls : Array Slot} {rest : List Value} {A : Nat → Prop} {sa va : Nat} {own : String} {nL : Nat}
theorem sp_length (hx : p.tables.exec = Jvm.exec) (hb : c.code = cc) (hml : c.maxLocals = nL) (hown : s.vm.findClass "GlyphmillLaw" = some m.cls) (hts : ∀ w ∈ gG, w.before args s = true) (hls : ls.size = nL) (hF : sF sa va A s s.heap) (hS : va_S A s.heap H locs) (hA : ∀ q, s.heap.size ≤ q → A q) (hR : 10 ≤ R.frames ∧ 200 ≤ R.locals) (hC : cells ≤ R.cells ∧ slots ≤ R.slots) (hsum : (rest.map fun v => v.category).sum ≤ 8) {idx pos : Nat} (hw : gW pos = some (.methodLink "GlyphmillLaw" idx ⟨"java/lang/String", "length", "()I"⟩)) (hdg : decode cc pc = .ok (.invokevirtual idx, 3))
    (kk : ∀ (H1 : Heap) (locs1 : List Loc), H.size ≤ H1.size → (∀ q : Nat, q < H.size → H1[q]? = H[q]?) → va_S A s.heap H1 locs1 → W p l e R s m args below meth c H1 locs1 cells slots Q (F0 m (pc + 3) ls (.int 24 :: rest))) : W p l e R s m args below meth c H locs cells slots Q (F0 m pc ls (.ref sa :: rest)) := by
  refine va_calli (va_runV (cc := cc) (nL := nL) (C := "java/lang/String") (As := []) (rest := rest) ⟨hx, hb, hml, hown, hts⟩ (sc_length l (sa := sa) (va := va)) (cwV 0 hts (sG_in (by
      intro w h9
      unfold wsV at h9
      simp only [List.cons_append, List.nil_append, List.mem_cons] at h9
      rcases h9 with rfl | rfl | rfl | rfl | rfl | h9
      · exact gG_W hw rfl
      · exact gG_W (pos := 1088) (by decide +kernel) rfl
      · exact gG_W (pos := 1089) (by decide +kernel) rfl
      · exact gG_W (pos := 21) (by decide +kernel) rfl
      · exact gG_W (pos := 1090) (by decide +kernel) rfl
      · exact h9)) rfl rfl rfl (by decide +kernel) ⟨by show 1 + 1 ≤ R.frames; omega, by show 8 + (1 + 11) + 20 ≤ R.locals; omega⟩) ⟨sB_blind, (by obtain ⟨cell, g1, g2, g3, -⟩ := (hF.1.kept hS.2.1); exact ⟨cell, g1, g2, g3⟩), fun U hU hW => ⟨rfl, sB_at hF hS hA hU hW⟩⟩ rfl rfl hls rfl (lv_room hsum) hdg ⟨hC.1, hC.2⟩) hS (fun q h1 h2 => absurd h1 (Nat.not_lt.mpr h2)) (fun q h => hA q (Nat.le_trans hS.1 h)) (fun r1 u t H1 locs1 ht hvm hw9 hB hz1 hk1 hS1 => ?_)
  subst hw9
  exact kk H1 locs1 hz1 (fun q hq => hk1 q hq (Nat.not_le.mpr hq)) hS1
theorem sp_charAt (hx : p.tables.exec = Jvm.exec) (hb : c.code = cc) (hml : c.maxLocals = nL) (hown : s.vm.findClass "GlyphmillLaw" = some m.cls) (hts : ∀ w ∈ gG, w.before args s = true) (hls : ls.size = nL) (hF : sF sa va A s s.heap) (hS : va_S A s.heap H locs) (hA : ∀ q, s.heap.size ≤ q → A q) (hR : 10 ≤ R.frames ∧ 200 ≤ R.locals) (hC : cells ≤ R.cells ∧ slots ≤ R.slots) (hsum : (rest.map fun v => v.category).sum ≤ 8) {idx pos : Nat} {i : Int32} (hi : vp_in i 24) (hw : gW pos = some (.methodLink "GlyphmillLaw" idx ⟨"java/lang/String", "charAt", "(I)C"⟩)) (hdg : decode cc pc = .ok (.invokevirtual idx, 3))
    (kk : ∀ (H1 : Heap) (locs1 : List Loc), H.size ≤ H1.size → (∀ q : Nat, q < H.size → H1[q]? = H[q]?) → va_S A s.heap H1 locs1 → W p l e R s m args below meth c H1 locs1 cells slots Q (F0 m (pc + 3) ls (.int (gSg.getD i.toNatClampNeg 0) :: rest))) : W p l e R s m args below meth c H locs cells slots Q (F0 m pc ls (.int i :: .ref sa :: rest)) := by
  refine va_calli (va_runV (cc := cc) (nL := nL) (C := "java/lang/String") (As := [.int i]) (rest := rest) ⟨hx, hb, hml, hown, hts⟩ (sc_cha l (sa := sa) (va := va) hi) (cwV 1 hts (sG_in (by
      intro w h9
      unfold wsV at h9
      simp only [List.cons_append, List.nil_append, List.mem_cons] at h9
      rcases h9 with rfl | rfl | rfl | rfl | rfl | h9
      · exact gG_W hw rfl
      · exact gG_W (pos := 1098) (by decide +kernel) rfl
      · exact gG_W (pos := 1099) (by decide +kernel) rfl
      · exact gG_W (pos := 21) (by decide +kernel) rfl
      · exact gG_W (pos := 1100) (by decide +kernel) rfl
      · exact h9)) rfl rfl rfl (by decide +kernel) ⟨by show 3 + 1 ≤ R.frames; omega, by show 8 + (2 + 11) + 64 ≤ R.locals; omega⟩) ⟨sB_blind, (by obtain ⟨cell, g1, g2, g3, -⟩ := (hF.1.kept hS.2.1); exact ⟨cell, g1, g2, g3⟩), fun U hU hW => ⟨rfl, sB_at hF hS hA hU hW⟩⟩ rfl rfl hls rfl (lv_room hsum) hdg ⟨hC.1, hC.2⟩) hS (fun q h1 h2 => absurd h1 (Nat.not_lt.mpr h2)) (fun q h => hA q (Nat.le_trans hS.1 h)) (fun r1 u t H1 locs1 ht hvm hw9 hB hz1 hk1 hS1 => ?_)
  subst hw9
  exact kk H1 locs1 hz1 (fun q hq => hk1 q hq (Nat.not_le.mpr hq)) hS1
theorem sp_at (hx : p.tables.exec = Jvm.exec) (hb : c.code = cc) (hml : c.maxLocals = nL) (hown : s.vm.findClass "GlyphmillLaw" = some m.cls) (hts : ∀ w ∈ gG, w.before args s = true) (hls : ls.size = nL) {b L : Nat} {xs : Nat → Int32} (hX : va_X b L xs s s.heap) (hbl : b < s.heap.size) (hbA : ¬ A b) (hL : L < 2 ^ 31) (hS : va_S A s.heap H locs) (hA : ∀ q, s.heap.size ≤ q → A q) (hR : 10 ≤ R.frames ∧ 200 ≤ R.locals) (hC : cells ≤ R.cells ∧ slots ≤ R.slots) (hsum : (rest.map fun v => v.category).sum ≤ 8) {idx pos : Nat} {i : Int32} (hi : ¬ i < 0) (hw : gW pos = some (.methodLink "GlyphmillLaw" idx ⟨"GlyphmillLaw", "at", "([II)I"⟩)) (hdg : decode cc pc = .ok (.invokestatic idx, 3))
    (kk : ∀ (H1 : Heap) (locs1 : List Loc), H.size ≤ H1.size → (∀ q : Nat, q < H.size → H1[q]? = H[q]?) → va_S A s.heap H1 locs1 → W p l e R s m args below meth c H1 locs1 cells slots Q (F0 m (pc + 3) ls (.int (if i < Int32.ofNat L then xs i.toNatClampNeg else 0) :: rest))) : W p l e R s m args below meth c H locs cells slots Q (F0 m pc ls (.int i :: .ref b :: rest)) := by
  refine va_calli (va_runS (cc := cc) (nL := nL) (As := [.ref b, .int i]) (rest := rest) ⟨hx, hb, hml, hown, hts⟩ (sc_at l (b := b) (L := L) (xs := xs) hL hi) (va_cwS 2 hts (sG_in (by
      intro w h9
      unfold va_wsS at h9
      simp only [List.cons_append, List.nil_append, List.mem_cons] at h9
      rcases h9 with rfl | rfl | rfl | rfl | h9
      · exact gG_W hw rfl
      · exact gG_W (pos := 382) (by decide +kernel) rfl
      · exact gG_W (pos := 0) (by decide +kernel) rfl
      · exact gG_W (pos := 383) (by decide +kernel) rfl
      · exact h9)) rfl rfl rfl (by decide +kernel) ⟨by show 0 + 1 ≤ R.frames; omega, by show 8 + (2 + 11) + 0 ≤ R.locals; omega⟩) ⟨sX_blind, fun U hU hW => ⟨rfl, ⟨by rw [hU], va_X.moved hW.alike (hX.kept (by rw [hU]; exact hS.2.1 b hbl hbA)), by rw [hU]; exact Nat.lt_of_lt_of_le hbl hS.1⟩⟩⟩ rfl rfl hls rfl (lv_room hsum) hdg ⟨hC.1, hC.2⟩) hS (fun q h1 h2 => absurd h1 (Nat.not_lt.mpr h2)) (fun q h => hA q (Nat.le_trans hS.1 h)) (fun r1 u t H1 locs1 ht hvm hw9 hB hz1 hk1 hS1 => ?_)
  subst hw9
  exact kk H1 locs1 hz1 (fun q hq => hk1 q hq (Nat.not_le.mpr hq)) hS1
end SPRIM
