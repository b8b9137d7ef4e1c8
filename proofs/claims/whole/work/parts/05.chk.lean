/-! WHAT IS CHECKED OF THE TABLES: each row decodes, each operand is what the words say -/
/-- the throws: method, place, exception, numbers of class, text and constructor, whether wide, the text -/
def gThr : List (Nat × Nat × Nat × Nat × Nat × Nat × Bool × String) := [(74, 14, 0, 102, 104, 106, false, "not a letter, a digit, neutral or a mark"), (74, 35, 1, 113, 115, 117, false, "the text has no room for this character, or no embedding that fits"), (77, 10, 4, 125, 127, 129, false, "the text is empty"), (80, 18, 0, 102, 134, 106, false, "no such character, or the width is not 1 to 20"), (82, 13, 0, 102, 140, 106, false, "the line width is not 10 to 200"), (86, 29, 0, 102, 148, 106, false, "no such beginning, no such letter, or the width is not 1 to 40"), (86, 64, 1, 113, 155, 117, false, "there is such a rule, or there are 20 ligatures"), (88, 15, 2, 205, 321, 209, true, "there is no such index"), (91, 20, 3, 326, 328, 330, true, "it is a mark"), (105, 19, 2, 205, 207, 209, false, "there is no such break place"), (107, 10, 1, 113, 338, 117, true, "lines are not possible"), (113, 19, 2, 205, 340, 209, true, "there is no such line"), (116, 20, 4, 125, 344, 129, true, "there are no lines"), (125, 12, 3, 326, 347, 330, true, "there are more than 9 break places"), (135, 36, 2, 205, 269, 209, true, "the line has no such rank"), (137, 19, 4, 125, 349, 129, true, "it is a dropped space"), (147, 14, 5, 342, 344, 346, true, "there are no lines")]
def gW (p : Nat) : Option Cond := tables_1[p]?
def mOw (k : Nat) : String := (mY k).cls
def gLen : Instr → Nat
  | .bipush _ => 2
  | .sipush _ => 3
  | .ldc _ => 2
  | .ldc_w _ => 3
  | .ldc2_w _ => 3
  | .iload _ => 2
  | .lload _ => 2
  | .fload _ => 2
  | .dload _ => 2
  | .aload _ => 2
  | .istore _ => 2
  | .lstore _ => 2
  | .fstore _ => 2
  | .dstore _ => 2
  | .astore _ => 2
  | .iinc _ _ => 3
  | .goto _ => 3
  | .ifCond _ _ => 3
  | .if_icmp _ _ => 3
  | .getfield _ => 3
  | .putfield _ => 3
  | .invokevirtual _ => 3
  | .invokestatic _ => 3
  | .invokespecial _ => 3
  | .new _ => 3
  | .newarray _ => 2
  | .tableswitch _ _ _ _ => 168
  | _ => 1
def gCk (k : Nat) (r : gR) : Bool := decide (r.2.2.1.2.1 = mNp r.2.2.1.1 ∧ mSta r.2.2.1.1 = true ∧ (mFr r.2.2.1.1).1 + 1 ≤ (mFr k).1 ∧ 8 + (mML r.2.2.1.1 + 11) + (mFr r.2.2.1.1).2 ≤ (mFr k).2)
def gChk (k pc : Nat) (r : gR) : Bool := match r.1 with
  | .iconst n => decide (r.2.2.2 = .int (Int32.ofInt n))
  | .bipush n => decide (r.2.2.2 = .int (Int8.ofInt n).toInt32)
  | .sipush n => decide (r.2.2.2 = .int (Int16.ofInt n).toInt32)
  | .lconst n => decide (r.2.2.2 = .long (Int64.ofNat (n : Nat)))
  | .fconst n => decide (n = 0 ∧ r.2.2.2 = .float FP.fconst0)
  | .dconst n => decide (n = 0 ∧ r.2.2.2 = .double FP.dconst0)
  | .ldc i => (match r.2.2.2 with | .int v => decide (gW r.2.2.1.2.2 = some (.constant (mOw k) i v)) | _ => true)
  | .ldc_w i => (match r.2.2.2 with | .int v => decide (gW r.2.2.1.2.2 = some (.constant (mOw k) i v)) | _ => true)
  | .ldc2_w i => (match r.2.2.2 with | .long v => decide (gW r.2.2.1.2.2 = some (.constantLong (mOw k) i v)) | _ => true)
  | .iload_n n => decide ((n : Nat) = r.2.2.1.1)
  | .lload_n n => decide ((n : Nat) = r.2.2.1.1)
  | .aload_n n => decide ((n : Nat) = r.2.2.1.1)
  | .iload n => decide (n = r.2.2.1.1)
  | .lload n => decide (n = r.2.2.1.1)
  | .fload n => decide (n = r.2.2.1.1)
  | .dload n => decide (n = r.2.2.1.1)
  | .aload n => decide (n = r.2.2.1.1)
  | .istore_n n => decide ((n : Nat) = r.2.2.1.1 ∧ r.2.2.1.1 < mML k)
  | .astore_n n => decide ((n : Nat) = r.2.2.1.1 ∧ r.2.2.1.1 < mML k)
  | .lstore_n n => decide ((n : Nat) = r.2.2.1.1 ∧ r.2.2.1.1 + 1 < mML k)
  | .istore n => decide (n = r.2.2.1.1 ∧ r.2.2.1.1 < mML k)
  | .fstore n => decide (n = r.2.2.1.1 ∧ r.2.2.1.1 < mML k)
  | .astore n => decide (n = r.2.2.1.1 ∧ r.2.2.1.1 < mML k)
  | .lstore n => decide (n = r.2.2.1.1 ∧ r.2.2.1.1 + 1 < mML k)
  | .dstore n => decide (n = r.2.2.1.1 ∧ r.2.2.1.1 + 1 < mML k)
  | .iinc i n => decide (i = r.2.2.1.1 ∧ r.2.2.1.1 < mML k ∧ r.2.2.2 = .int (Int32.ofInt n))
  | .goto off => decide ((pc : Int) + off = (r.2.2.1.1 : Int))
  | .ifCond _ off => decide ((pc : Int) + off = (r.2.2.1.1 : Int))
  | .if_icmp _ off => decide ((pc : Int) + off = (r.2.2.1.1 : Int))
  | .getfield i => (match gCl[r.2.2.1.1]? with
    | some q => decide (r.2.2.1.2.1 < q.2.2 ∧ gW r.2.2.1.2.2 = some (.fieldLink (mOw k) i (q.2.1 r.2.2.1.2.1).1 (q.2.1 r.2.2.1.2.1).2.1 (q.2.1 r.2.2.1.2.1).2.2.1))
    | none => false)
  | .putfield i => (match gCl[r.2.2.1.1]? with
    | some q => decide (r.2.2.1.2.1 < q.2.2 ∧ (q.2.1 r.2.2.1.2.1).2.2.2 = false ∧ gW r.2.2.1.2.2 = some (.fieldLink (mOw k) i (q.2.1 r.2.2.1.2.1).1 (q.2.1 r.2.2.1.2.1).2.1 (q.2.1 r.2.2.1.2.1).2.2.1))
    | none => false)
  | .invokevirtual i => decide (r.2.2.1.2.1 = mNp r.2.2.1.1 ∧ mSta r.2.2.1.1 = false ∧ gW r.2.2.1.2.2 = some (.methodLink (mOw k) i (mY r.2.2.1.1)) ∧ (mFr r.2.2.1.1).1 + 1 ≤ (mFr k).1 ∧ 8 + (mML r.2.2.1.1 + 11) + (mFr r.2.2.1.1).2 ≤ (mFr k).2)
  | .invokestatic i => (match r.2.2.2 with
      | .int 0 => gCk k r && decide (gW r.2.2.1.2.2 = some (.methodLink (mOw k) i (mY r.2.2.1.1)))
      | .int 1 => gCk k r && decide (gW r.2.2.1.2.2 = some (.methodLinkNest (mOw k) i (mY r.2.2.1.1) "Glyphmill") ∧ mCo r.2.2.1.1 = 0)
      | .int 2 => decide (gW r.2.2.1.2.2 = some (.methodLink (mOw k) i Lib.Math.max.name) ∧ 1 ≤ (mFr k).1 ∧ 21 ≤ (mFr k).2)
      | .int 3 => decide (gW r.2.2.1.2.2 = some (.methodLink (mOw k) i Lib.Math.min.name) ∧ 1 ≤ (mFr k).1 ∧ 21 ≤ (mFr k).2)
      | .int 4 => decide (gW r.2.2.1.2.2 = some (.methodLink (mOw k) i Lib.Math.abs.name) ∧ 1 ≤ (mFr k).1 ∧ 21 ≤ (mFr k).2)
      | .int 5 => decide (gW r.2.2.1.2.2 = some (.methodLink (mOw k) i Lib.MathLoose.min_long.x) ∧ 1 ≤ (mFr k).1 ∧ 23 ≤ (mFr k).2)
      | _ => false)
  | .new i => decide (k = 230) || gThr.any fun q => decide (q.1 = k ∧ q.2.1 = pc ∧ q.2.2.1 = r.2.2.1.1 ∧ q.2.2.2.1 = i)
  | _ => true
def gRow (k : Nat) (q : Nat × gR) : Bool := decide (decode (mBy k) q.1 = .ok (q.2.1, q.2.2.1)) && decide (q.2.2.1 = gLen q.2.1) && gChk k q.1 q.2
theorem g_ten {α : Type} {f : α → Bool} {t : List α} (n : Nat) (hn : t.length ≤ 10 * n) (h : ∀ j, j < n → ((t.drop (10 * j)).take 10).all f = true) : t.all f = true := by
  rw [List.all_eq_true]
  intro x hx
  obtain ⟨i, hi⟩ := List.getElem?_of_mem hx
  have hl := (List.getElem?_eq_some_iff.mp hi).1
  have h1 := List.all_eq_true.mp (h (i / 10) (by omega)) x
  refine h1 (List.mem_of_getElem? (i := i % 10) ?_)
  rw [List.getElem?_take_of_lt (Nat.mod_lt _ (by omega)), List.getElem?_drop, show 10 * (i / 10) + i % 10 = i by omega, hi]
set_option maxRecDepth 100000 in
theorem gOk_0 : gC_0.all (gRow 0) = true := by decide +kernel
set_option maxRecDepth 100000 in
theorem gOk_1 : gC_1.all (gRow 1) = true := by decide +kernel
set_option maxRecDepth 100000 in
theorem gOk_2 : gC_2.all (gRow 2) = true := by decide +kernel
set_option maxRecDepth 100000 in
theorem gOk_3 : gC_3.all (gRow 3) = true := by decide +kernel
set_option maxRecDepth 100000 in
theorem gOk_4 : gC_4.all (gRow 4) = true := by decide +kernel
set_option maxRecDepth 100000 in
theorem gOk_5 : gC_5.all (gRow 5) = true := by decide +kernel
set_option maxRecDepth 100000 in
theorem gOk_6 : gC_6.all (gRow 6) = true := by decide +kernel
set_option maxRecDepth 100000 in
theorem gOk_7 : gC_7.all (gRow 7) = true := by decide +kernel
set_option maxRecDepth 100000 in
theorem gOk_8 : gC_8.all (gRow 8) = true := by decide +kernel
set_option maxRecDepth 100000 in
theorem gOk_9 : gC_9.all (gRow 9) = true := by decide +kernel
set_option maxRecDepth 100000 in
theorem gOk_10 : gC_10.all (gRow 10) = true := by decide +kernel
set_option maxRecDepth 100000 in
theorem gOk_11 : gC_11.all (gRow 11) = true := by decide +kernel
set_option maxRecDepth 100000 in
theorem gOk_12 : gC_12.all (gRow 12) = true := by decide +kernel
set_option maxRecDepth 100000 in
theorem gOk_13 : gC_13.all (gRow 13) = true := by decide +kernel
set_option maxRecDepth 100000 in
theorem gOk_14 : gC_14.all (gRow 14) = true := by decide +kernel
set_option maxRecDepth 100000 in
theorem gOk_15 : gC_15.all (gRow 15) = true := by decide +kernel
set_option maxRecDepth 100000 in
theorem gOk_16 : gC_16.all (gRow 16) = true := by decide +kernel
set_option maxRecDepth 100000 in
theorem gOk_17 : gC_17.all (gRow 17) = true := by decide +kernel
set_option maxRecDepth 100000 in
theorem gOk_18 : gC_18.all (gRow 18) = true := by decide +kernel
set_option maxRecDepth 100000 in
theorem gOk_19 : gC_19.all (gRow 19) = true := by decide +kernel
set_option maxRecDepth 100000 in
theorem gOk_20 : gC_20.all (gRow 20) = true := by decide +kernel
set_option maxRecDepth 100000 in
theorem gOk_21 : gC_21.all (gRow 21) = true := by decide +kernel
set_option maxRecDepth 100000 in
theorem gOk_22 : gC_22.all (gRow 22) = true := by decide +kernel
set_option maxRecDepth 100000 in
theorem gOk_23 : gC_23.all (gRow 23) = true := by decide +kernel
set_option maxRecDepth 100000 in
theorem gOk_24 : gC_24.all (gRow 24) = true := by decide +kernel
set_option maxRecDepth 100000 in
theorem gOk_25 : gC_25.all (gRow 25) = true := by decide +kernel
set_option maxRecDepth 100000 in
theorem gOk_26 : gC_26.all (gRow 26) = true := by decide +kernel
set_option maxRecDepth 100000 in
theorem gOk_27 : gC_27.all (gRow 27) = true := by decide +kernel
set_option maxRecDepth 100000 in
theorem gOk_28 : gC_28.all (gRow 28) = true := by decide +kernel
set_option maxRecDepth 100000 in
theorem gOk_29 : gC_29.all (gRow 29) = true := by decide +kernel
set_option maxRecDepth 100000 in
theorem gOk_30 : gC_30.all (gRow 30) = true := by decide +kernel
set_option maxRecDepth 100000 in
theorem gOk_31 : gC_31.all (gRow 31) = true := by decide +kernel
set_option maxRecDepth 100000 in
theorem gOk_32 : gC_32.all (gRow 32) = true := by decide +kernel
set_option maxRecDepth 100000 in
theorem gOk_33 : gC_33.all (gRow 33) = true := by decide +kernel
set_option maxRecDepth 100000 in
theorem gOk_34 : gC_34.all (gRow 34) = true := by decide +kernel
set_option maxRecDepth 100000 in
theorem gOk_35 : gC_35.all (gRow 35) = true := by decide +kernel
set_option maxRecDepth 100000 in
theorem gOk_36 : gC_36.all (gRow 36) = true := by decide +kernel
set_option maxRecDepth 100000 in
theorem gOk_37 : gC_37.all (gRow 37) = true := by decide +kernel
set_option maxRecDepth 100000 in
theorem gOk_38 : gC_38.all (gRow 38) = true := by decide +kernel
set_option maxRecDepth 100000 in
theorem gOk_39 : gC_39.all (gRow 39) = true := by decide +kernel
set_option maxRecDepth 100000 in
theorem gOk_40 : gC_40.all (gRow 40) = true := by decide +kernel
set_option maxRecDepth 100000 in
theorem gOk_41 : gC_41.all (gRow 41) = true := by decide +kernel
set_option maxRecDepth 100000 in
theorem gOk_42 : gC_42.all (gRow 42) = true := by decide +kernel
set_option maxRecDepth 100000 in
theorem gOk_43 : gC_43.all (gRow 43) = true := by decide +kernel
set_option maxRecDepth 100000 in
theorem gOk_44 : gC_44.all (gRow 44) = true := by decide +kernel
set_option maxRecDepth 100000 in
theorem gOk_45 : gC_45.all (gRow 45) = true := by decide +kernel
set_option maxRecDepth 100000 in
theorem gOk_46 : gC_46.all (gRow 46) = true := by decide +kernel
set_option maxRecDepth 100000 in
theorem gOk_47 : gC_47.all (gRow 47) = true := by decide +kernel
set_option maxRecDepth 100000 in
theorem gOk_48 : gC_48.all (gRow 48) = true := by decide +kernel
set_option maxRecDepth 100000 in
theorem gOk_49 : gC_49.all (gRow 49) = true := by decide +kernel
set_option maxRecDepth 100000 in
theorem gOk_50 : gC_50.all (gRow 50) = true := by decide +kernel
set_option maxRecDepth 100000 in
theorem gOk_51 : gC_51.all (gRow 51) = true := by decide +kernel
set_option maxRecDepth 100000 in
theorem gOk_52 : gC_52.all (gRow 52) = true := by decide +kernel
set_option maxRecDepth 100000 in
theorem gOk_53 : gC_53.all (gRow 53) = true := by decide +kernel
set_option maxRecDepth 100000 in
theorem gOk_54 : gC_54.all (gRow 54) = true := by decide +kernel
set_option maxRecDepth 100000 in
theorem gOk_55 : gC_55.all (gRow 55) = true := by decide +kernel
set_option maxRecDepth 100000 in
theorem gOk_56 : gC_56.all (gRow 56) = true := by decide +kernel
set_option maxRecDepth 100000 in
theorem gOk_57 : gC_57.all (gRow 57) = true := by decide +kernel
set_option maxRecDepth 100000 in
theorem gOk_58 : gC_58.all (gRow 58) = true := by decide +kernel
set_option maxRecDepth 100000 in
theorem gOk_59 : gC_59.all (gRow 59) = true := by decide +kernel
set_option maxRecDepth 100000 in
theorem gOk_60 : gC_60.all (gRow 60) = true := by decide +kernel
set_option maxRecDepth 100000 in
theorem gOk_61 : gC_61.all (gRow 61) = true := by decide +kernel
set_option maxRecDepth 100000 in
theorem gOk_62 : gC_62.all (gRow 62) = true := by decide +kernel
set_option maxRecDepth 100000 in
theorem gOk_63 : gC_63.all (gRow 63) = true := by decide +kernel
set_option maxRecDepth 100000 in
theorem gOk_64 : gC_64.all (gRow 64) = true := by decide +kernel
set_option maxRecDepth 100000 in
theorem gOk_65 : gC_65.all (gRow 65) = true := by decide +kernel
set_option maxRecDepth 100000 in
theorem gOk_66 : gC_66.all (gRow 66) = true := by decide +kernel
set_option maxRecDepth 100000 in
theorem gOk_67 : gC_67.all (gRow 67) = true := by decide +kernel
set_option maxRecDepth 100000 in
theorem gOk_68 : gC_68.all (gRow 68) = true := by decide +kernel
set_option maxRecDepth 100000 in
theorem gOk_69 : gC_69.all (gRow 69) = true := by decide +kernel
set_option maxRecDepth 100000 in
theorem gOk_70 : gC_70.all (gRow 70) = true := by decide +kernel
set_option maxRecDepth 100000 in
theorem gOk_71 : gC_71.all (gRow 71) = true := by decide +kernel
set_option maxRecDepth 100000 in
theorem gOk_72 : gC_72.all (gRow 72) = true := by decide +kernel
set_option maxRecDepth 100000 in
theorem gOk_73 : gC_73.all (gRow 73) = true := by decide +kernel
set_option maxRecDepth 100000 in
theorem gOk_74 : gC_74.all (gRow 74) = true := by decide +kernel
set_option maxRecDepth 100000 in
theorem gOk_75 : gC_75.all (gRow 75) = true := by decide +kernel
set_option maxRecDepth 100000 in
theorem gOk_76 : gC_76.all (gRow 76) = true := by decide +kernel
set_option maxRecDepth 100000 in
theorem gOk_77 : gC_77.all (gRow 77) = true := by decide +kernel
set_option maxRecDepth 100000 in
theorem gOk_78 : gC_78.all (gRow 78) = true := by decide +kernel
set_option maxRecDepth 100000 in
theorem gOk_79 : gC_79.all (gRow 79) = true := by decide +kernel
set_option maxRecDepth 100000 in
theorem gOk_80 : gC_80.all (gRow 80) = true := by decide +kernel
set_option maxRecDepth 100000 in
theorem gOk_81 : gC_81.all (gRow 81) = true := by decide +kernel
set_option maxRecDepth 100000 in
theorem gOk_82 : gC_82.all (gRow 82) = true := by decide +kernel
set_option maxRecDepth 100000 in
theorem gOk_83 : gC_83.all (gRow 83) = true := by decide +kernel
set_option maxRecDepth 100000 in
theorem gOk_84 : gC_84.all (gRow 84) = true := by decide +kernel
set_option maxRecDepth 100000 in
theorem gOk_85 : gC_85.all (gRow 85) = true := by decide +kernel
set_option maxRecDepth 100000 in
theorem gOk_86 : gC_86.all (gRow 86) = true := by decide +kernel
set_option maxRecDepth 100000 in
theorem gOk_87 : gC_87.all (gRow 87) = true := by decide +kernel
set_option maxRecDepth 100000 in
theorem gOk_88 : gC_88.all (gRow 88) = true := by decide +kernel
set_option maxRecDepth 100000 in
theorem gOk_89 : gC_89.all (gRow 89) = true := by decide +kernel
set_option maxRecDepth 100000 in
theorem gOk_90 : gC_90.all (gRow 90) = true := by decide +kernel
set_option maxRecDepth 100000 in
theorem gOk_91 : gC_91.all (gRow 91) = true := by decide +kernel
set_option maxRecDepth 100000 in
theorem gOk_92 : gC_92.all (gRow 92) = true := by decide +kernel
set_option maxRecDepth 100000 in
theorem gOk_93 : gC_93.all (gRow 93) = true := by decide +kernel
set_option maxRecDepth 100000 in
theorem gOk_94 : gC_94.all (gRow 94) = true := by decide +kernel
set_option maxRecDepth 100000 in
theorem gOk_95 : gC_95.all (gRow 95) = true := by decide +kernel
set_option maxRecDepth 100000 in
theorem gOk_96 : gC_96.all (gRow 96) = true := by decide +kernel
set_option maxRecDepth 100000 in
theorem gOk_97 : gC_97.all (gRow 97) = true := by decide +kernel
set_option maxRecDepth 100000 in
theorem gOk_98 : gC_98.all (gRow 98) = true := by decide +kernel
set_option maxRecDepth 100000 in
theorem gOk_99 : gC_99.all (gRow 99) = true := by decide +kernel
set_option maxRecDepth 100000 in
theorem gOk_100 : gC_100.all (gRow 100) = true := by decide +kernel
set_option maxRecDepth 100000 in
theorem gOk_101 : gC_101.all (gRow 101) = true := by decide +kernel
set_option maxRecDepth 100000 in
theorem gOk_102 : gC_102.all (gRow 102) = true := by decide +kernel
set_option maxRecDepth 100000 in
theorem gOk_103 : gC_103.all (gRow 103) = true := by decide +kernel
set_option maxRecDepth 100000 in
theorem gOk_104 : gC_104.all (gRow 104) = true := by decide +kernel
set_option maxRecDepth 100000 in
theorem gOk_105 : gC_105.all (gRow 105) = true := by decide +kernel
set_option maxRecDepth 100000 in
theorem gOk_106 : gC_106.all (gRow 106) = true := by decide +kernel
set_option maxRecDepth 100000 in
theorem gOk_107 : gC_107.all (gRow 107) = true := by decide +kernel
set_option maxRecDepth 100000 in
theorem gOk_108 : gC_108.all (gRow 108) = true := by decide +kernel
set_option maxRecDepth 100000 in
theorem gOk_109 : gC_109.all (gRow 109) = true := by decide +kernel
set_option maxRecDepth 100000 in
theorem gOk_110 : gC_110.all (gRow 110) = true := by decide +kernel
set_option maxRecDepth 100000 in
theorem gOk_111 : gC_111.all (gRow 111) = true := by decide +kernel
set_option maxRecDepth 100000 in
theorem gOk_112 : gC_112.all (gRow 112) = true := by decide +kernel
set_option maxRecDepth 100000 in
theorem gOk_113 : gC_113.all (gRow 113) = true := by decide +kernel
set_option maxRecDepth 100000 in
theorem gOk_114 : gC_114.all (gRow 114) = true := by decide +kernel
set_option maxRecDepth 100000 in
theorem gOk_115 : gC_115.all (gRow 115) = true := by decide +kernel
set_option maxRecDepth 100000 in
theorem gOk_116 : gC_116.all (gRow 116) = true := by decide +kernel
set_option maxRecDepth 100000 in
theorem gOk_117 : gC_117.all (gRow 117) = true := by decide +kernel
set_option maxRecDepth 100000 in
theorem gOk_118 : gC_118.all (gRow 118) = true := by decide +kernel
set_option maxRecDepth 100000 in
theorem gOk_119 : gC_119.all (gRow 119) = true := by decide +kernel
set_option maxRecDepth 100000 in
theorem gOk_120 : gC_120.all (gRow 120) = true := by decide +kernel
set_option maxRecDepth 100000 in
theorem gOk_121 : gC_121.all (gRow 121) = true := by decide +kernel
set_option maxRecDepth 100000 in
theorem gOk_122 : gC_122.all (gRow 122) = true := by decide +kernel
set_option maxRecDepth 100000 in
theorem gOk_123 : gC_123.all (gRow 123) = true := by decide +kernel
set_option maxRecDepth 100000 in
theorem gOk_124 : gC_124.all (gRow 124) = true := by decide +kernel
set_option maxRecDepth 100000 in
theorem gOk_125 : gC_125.all (gRow 125) = true := by decide +kernel
set_option maxRecDepth 100000 in
theorem gOk_126 : gC_126.all (gRow 126) = true := by decide +kernel
set_option maxRecDepth 100000 in
theorem gOk_127 : gC_127.all (gRow 127) = true := by decide +kernel
set_option maxRecDepth 100000 in
theorem gOk_128 : gC_128.all (gRow 128) = true := by decide +kernel
set_option maxRecDepth 100000 in
theorem gOk_129 : gC_129.all (gRow 129) = true := by decide +kernel
set_option maxRecDepth 100000 in
theorem gOk_130 : gC_130.all (gRow 130) = true := by decide +kernel
set_option maxRecDepth 100000 in
theorem gOk_131 : gC_131.all (gRow 131) = true := by decide +kernel
set_option maxRecDepth 100000 in
theorem gOk_132 : gC_132.all (gRow 132) = true := by decide +kernel
set_option maxRecDepth 100000 in
theorem gOk_133 : gC_133.all (gRow 133) = true := by decide +kernel
set_option maxRecDepth 100000 in
theorem gOk_134 : gC_134.all (gRow 134) = true := by decide +kernel
set_option maxRecDepth 100000 in
theorem gOk_135 : gC_135.all (gRow 135) = true := by decide +kernel
set_option maxRecDepth 100000 in
theorem gOk_136 : gC_136.all (gRow 136) = true := by decide +kernel
set_option maxRecDepth 100000 in
theorem gOk_137 : gC_137.all (gRow 137) = true := by decide +kernel
set_option maxRecDepth 100000 in
theorem gOk_138 : gC_138.all (gRow 138) = true := by decide +kernel
set_option maxRecDepth 100000 in
theorem gOk_139 : gC_139.all (gRow 139) = true := by decide +kernel
set_option maxRecDepth 100000 in
theorem gOk_140 : gC_140.all (gRow 140) = true := by decide +kernel
set_option maxRecDepth 100000 in
theorem gOk_141 : gC_141.all (gRow 141) = true := by decide +kernel
set_option maxRecDepth 100000 in
theorem gOk_142 : gC_142.all (gRow 142) = true := by decide +kernel
set_option maxRecDepth 100000 in
theorem gOk_143 : gC_143.all (gRow 143) = true := by decide +kernel
set_option maxRecDepth 100000 in
theorem gOk_144 : gC_144.all (gRow 144) = true := by decide +kernel
set_option maxRecDepth 100000 in
theorem gOk_145 : gC_145.all (gRow 145) = true := by decide +kernel
set_option maxRecDepth 100000 in
theorem gOk_146 : gC_146.all (gRow 146) = true := by decide +kernel
set_option maxRecDepth 100000 in
theorem gOk_147 : gC_147.all (gRow 147) = true := by decide +kernel
set_option maxRecDepth 100000 in
theorem gOk_148 : gC_148.all (gRow 148) = true := by decide +kernel
set_option maxRecDepth 100000 in
theorem gOk_149 : gC_149.all (gRow 149) = true := by decide +kernel
set_option maxRecDepth 100000 in
theorem gOk_150 : gC_150.all (gRow 150) = true := by decide +kernel
set_option maxRecDepth 100000 in
theorem gOk_151 : gC_151.all (gRow 151) = true := by decide +kernel
set_option maxRecDepth 100000 in
theorem gOk_152 : gC_152.all (gRow 152) = true := by decide +kernel
set_option maxRecDepth 100000 in
theorem gOk_153 : gC_153.all (gRow 153) = true := by decide +kernel
set_option maxRecDepth 100000 in
theorem gOk_154 : gC_154.all (gRow 154) = true := by decide +kernel
set_option maxRecDepth 100000 in
theorem gOk_155 : gC_155.all (gRow 155) = true := by decide +kernel
set_option maxRecDepth 100000 in
theorem gOk_156 : gC_156.all (gRow 156) = true := by decide +kernel
set_option maxRecDepth 100000 in
theorem gOk_157 : gC_157.all (gRow 157) = true := by decide +kernel
set_option maxRecDepth 100000 in
theorem gOk_158 : gC_158.all (gRow 158) = true := by decide +kernel
set_option maxRecDepth 100000 in
theorem gOk_159 : gC_159.all (gRow 159) = true := by decide +kernel
set_option maxRecDepth 100000 in
theorem gOk_160 : gC_160.all (gRow 160) = true := by decide +kernel
set_option maxRecDepth 100000 in
theorem gOk_161 : gC_161.all (gRow 161) = true := by decide +kernel
set_option maxRecDepth 100000 in
theorem gOk_162 : gC_162.all (gRow 162) = true := by decide +kernel
set_option maxRecDepth 100000 in
theorem gOk_163 : gC_163.all (gRow 163) = true := by decide +kernel
set_option maxRecDepth 100000 in
theorem gOk_164 : gC_164.all (gRow 164) = true := by decide +kernel
set_option maxRecDepth 100000 in
theorem gOk_165 : gC_165.all (gRow 165) = true := by decide +kernel
set_option maxRecDepth 100000 in
theorem gOk_166 : gC_166.all (gRow 166) = true := by decide +kernel
set_option maxRecDepth 100000 in
theorem gOk_167 : gC_167.all (gRow 167) = true := by decide +kernel
set_option maxRecDepth 100000 in
theorem gOk_168 : gC_168.all (gRow 168) = true := by decide +kernel
set_option maxRecDepth 100000 in
theorem gOk_169 : gC_169.all (gRow 169) = true := by decide +kernel
set_option maxRecDepth 100000 in
theorem gOk_170 : gC_170.all (gRow 170) = true := by decide +kernel
set_option maxRecDepth 100000 in
theorem gOk_171 : gC_171.all (gRow 171) = true := by decide +kernel
set_option maxRecDepth 100000 in
theorem gOk_172 : gC_172.all (gRow 172) = true := by decide +kernel
set_option maxRecDepth 100000 in
theorem gOk_173 : gC_173.all (gRow 173) = true := by decide +kernel
set_option maxRecDepth 100000 in
theorem gOk_174 : gC_174.all (gRow 174) = true := by decide +kernel
set_option maxRecDepth 100000 in
theorem gOk_175 : gC_175.all (gRow 175) = true := by decide +kernel
set_option maxRecDepth 100000 in
theorem gOk_176 : gC_176.all (gRow 176) = true := by decide +kernel
set_option maxRecDepth 100000 in
theorem gOk_177 : gC_177.all (gRow 177) = true := by decide +kernel
set_option maxRecDepth 100000 in
theorem gOk_178 : gC_178.all (gRow 178) = true := by decide +kernel
set_option maxRecDepth 100000 in
theorem gOk_179 : gC_179.all (gRow 179) = true := by decide +kernel
set_option maxRecDepth 100000 in
theorem gOk_180 : gC_180.all (gRow 180) = true := by decide +kernel
set_option maxRecDepth 100000 in
theorem gOk_181 : gC_181.all (gRow 181) = true := by decide +kernel
set_option maxRecDepth 100000 in
theorem gOk_182 : gC_182.all (gRow 182) = true := by decide +kernel
set_option maxRecDepth 100000 in
theorem gOk_183 : gC_183.all (gRow 183) = true := by decide +kernel
set_option maxRecDepth 100000 in
theorem gOk_184 : gC_184.all (gRow 184) = true := by decide +kernel
set_option maxRecDepth 100000 in
theorem gOk_185 : gC_185.all (gRow 185) = true := by decide +kernel
set_option maxRecDepth 100000 in
theorem gOk_186 : gC_186.all (gRow 186) = true := by decide +kernel
set_option maxRecDepth 100000 in
theorem gOk_187 : gC_187.all (gRow 187) = true := by decide +kernel
set_option maxRecDepth 100000 in
theorem gOk_188 : gC_188.all (gRow 188) = true := by decide +kernel
set_option maxRecDepth 100000 in
theorem gOk_189 : gC_189.all (gRow 189) = true := by decide +kernel
set_option maxRecDepth 100000 in
theorem gOk_190 : gC_190.all (gRow 190) = true := by decide +kernel
set_option maxRecDepth 100000 in
theorem gOk_191 : gC_191.all (gRow 191) = true := by decide +kernel
set_option maxRecDepth 100000 in
theorem gOk_192 : gC_192.all (gRow 192) = true := by decide +kernel
set_option maxRecDepth 100000 in
theorem gOk_193 : gC_193.all (gRow 193) = true := by decide +kernel
set_option maxRecDepth 100000 in
theorem gOk_194 : gC_194.all (gRow 194) = true := by decide +kernel
set_option maxRecDepth 100000 in
theorem gOk_195 : gC_195.all (gRow 195) = true := by decide +kernel
set_option maxRecDepth 100000 in
theorem gOk_196 : gC_196.all (gRow 196) = true := by decide +kernel
set_option maxRecDepth 100000 in
theorem gOk_197 : gC_197.all (gRow 197) = true := by decide +kernel
set_option maxRecDepth 100000 in
theorem gOk_198 : gC_198.all (gRow 198) = true := by decide +kernel
set_option maxRecDepth 100000 in
theorem gOk_199 : gC_199.all (gRow 199) = true := by decide +kernel
set_option maxRecDepth 100000 in
theorem gOk_200 : gC_200.all (gRow 200) = true := by decide +kernel
set_option maxRecDepth 100000 in
theorem gOk_201 : gC_201.all (gRow 201) = true := by decide +kernel
set_option maxRecDepth 100000 in
theorem gOk_202 : gC_202.all (gRow 202) = true := by decide +kernel
set_option maxRecDepth 100000 in
theorem gOk_203 : gC_203.all (gRow 203) = true := by decide +kernel
set_option maxRecDepth 100000 in
theorem gOk_204 : gC_204.all (gRow 204) = true := by decide +kernel
set_option maxRecDepth 100000 in
theorem gOk_205 : gC_205.all (gRow 205) = true := by decide +kernel
set_option maxRecDepth 100000 in
theorem gOk_206 : gC_206.all (gRow 206) = true := by decide +kernel
set_option maxRecDepth 100000 in
theorem gOk_207 : gC_207.all (gRow 207) = true := by decide +kernel
set_option maxRecDepth 100000 in
theorem gOk_208 : gC_208.all (gRow 208) = true := by decide +kernel
set_option maxRecDepth 100000 in
theorem gOk_209 : gC_209.all (gRow 209) = true := by decide +kernel
set_option maxRecDepth 100000 in
theorem gOk_210 : gC_210.all (gRow 210) = true := by decide +kernel
set_option maxRecDepth 100000 in
theorem gOk_211 : gC_211.all (gRow 211) = true := by decide +kernel
set_option maxRecDepth 100000 in
theorem gOk_212 : gC_212.all (gRow 212) = true := by decide +kernel
set_option maxRecDepth 100000 in
theorem gOk_213 : gC_213.all (gRow 213) = true := by decide +kernel
set_option maxRecDepth 100000 in
theorem gOk_214 : gC_214.all (gRow 214) = true := by decide +kernel
set_option maxRecDepth 100000 in
theorem gOk_215 : gC_215.all (gRow 215) = true := by decide +kernel
set_option maxRecDepth 100000 in
theorem gOk_216 : gC_216.all (gRow 216) = true := by decide +kernel
set_option maxRecDepth 100000 in
theorem gOk_217 : gC_217.all (gRow 217) = true := by decide +kernel
set_option maxRecDepth 100000 in
theorem gOk_218 : gC_218.all (gRow 218) = true := by decide +kernel
set_option maxRecDepth 100000 in
theorem gOk_219 : gC_219.all (gRow 219) = true := by decide +kernel
set_option maxRecDepth 100000 in
theorem gOk_220 : gC_220.all (gRow 220) = true := by decide +kernel
set_option maxRecDepth 100000 in
theorem gOk_221 : gC_221.all (gRow 221) = true := by decide +kernel
set_option maxRecDepth 100000 in
theorem gOk_222 : gC_222.all (gRow 222) = true := by decide +kernel
set_option maxRecDepth 100000 in
theorem gOk_223 : gC_223.all (gRow 223) = true := by decide +kernel
set_option maxRecDepth 100000 in
theorem gOk_224 : gC_224.all (gRow 224) = true := by decide +kernel
set_option maxRecDepth 100000 in
theorem gOk_225 : gC_225.all (gRow 225) = true := by decide +kernel
set_option maxRecDepth 100000 in
theorem gOk_226 : gC_226.all (gRow 226) = true := by decide +kernel
set_option maxRecDepth 100000 in
theorem gOk_227 : gC_227.all (gRow 227) = true := by decide +kernel
set_option maxRecDepth 100000 in
theorem gOk_228 : gC_228.all (gRow 228) = true := by decide +kernel
set_option maxRecDepth 100000 in
theorem gOk_229 : gC_229.all (gRow 229) = true := by decide +kernel
set_option maxRecDepth 100000 in
theorem gOkL_0_0 : ((gC_230_0.drop 0).take 10).all (gRow 230) = true := by decide +kernel
set_option maxRecDepth 100000 in
theorem gOkL_0_1 : ((gC_230_0.drop 10).take 10).all (gRow 230) = true := by decide +kernel
set_option maxRecDepth 100000 in
theorem gOkL_0_2 : ((gC_230_0.drop 20).take 10).all (gRow 230) = true := by decide +kernel
set_option maxRecDepth 100000 in
theorem gOkL_0_3 : ((gC_230_0.drop 30).take 10).all (gRow 230) = true := by decide +kernel
set_option maxRecDepth 100000 in
theorem gOkL_0_4 : ((gC_230_0.drop 40).take 10).all (gRow 230) = true := by decide +kernel
set_option maxRecDepth 100000 in
theorem gOkL_0_5 : ((gC_230_0.drop 50).take 10).all (gRow 230) = true := by decide +kernel
set_option maxRecDepth 100000 in
theorem gOkL_0_6 : ((gC_230_0.drop 60).take 10).all (gRow 230) = true := by decide +kernel
set_option maxRecDepth 100000 in
theorem gOkL_0_7 : ((gC_230_0.drop 70).take 10).all (gRow 230) = true := by decide +kernel
set_option maxRecDepth 100000 in
theorem gOkL_0_8 : ((gC_230_0.drop 80).take 10).all (gRow 230) = true := by decide +kernel
set_option maxRecDepth 100000 in
theorem gOkL_0_9 : ((gC_230_0.drop 90).take 10).all (gRow 230) = true := by decide +kernel
theorem gOkL_0 : gC_230_0.all (gRow 230) = true := g_ten 10 (by decide +kernel) (fun j hj => by
  match j, hj with
  | 0, _ => exact gOkL_0_0
  | 1, _ => exact gOkL_0_1
  | 2, _ => exact gOkL_0_2
  | 3, _ => exact gOkL_0_3
  | 4, _ => exact gOkL_0_4
  | 5, _ => exact gOkL_0_5
  | 6, _ => exact gOkL_0_6
  | 7, _ => exact gOkL_0_7
  | 8, _ => exact gOkL_0_8
  | 9, _ => exact gOkL_0_9
  | j + 10, hj => exact absurd hj (by omega))
set_option maxRecDepth 100000 in
theorem gOkL_1_0 : ((gC_230_1.drop 0).take 10).all (gRow 230) = true := by decide +kernel
set_option maxRecDepth 100000 in
theorem gOkL_1_1 : ((gC_230_1.drop 10).take 10).all (gRow 230) = true := by decide +kernel
set_option maxRecDepth 100000 in
theorem gOkL_1_2 : ((gC_230_1.drop 20).take 10).all (gRow 230) = true := by decide +kernel
set_option maxRecDepth 100000 in
theorem gOkL_1_3 : ((gC_230_1.drop 30).take 10).all (gRow 230) = true := by decide +kernel
set_option maxRecDepth 100000 in
theorem gOkL_1_4 : ((gC_230_1.drop 40).take 10).all (gRow 230) = true := by decide +kernel
set_option maxRecDepth 100000 in
theorem gOkL_1_5 : ((gC_230_1.drop 50).take 10).all (gRow 230) = true := by decide +kernel
set_option maxRecDepth 100000 in
theorem gOkL_1_6 : ((gC_230_1.drop 60).take 10).all (gRow 230) = true := by decide +kernel
set_option maxRecDepth 100000 in
theorem gOkL_1_7 : ((gC_230_1.drop 70).take 10).all (gRow 230) = true := by decide +kernel
set_option maxRecDepth 100000 in
theorem gOkL_1_8 : ((gC_230_1.drop 80).take 10).all (gRow 230) = true := by decide +kernel
set_option maxRecDepth 100000 in
theorem gOkL_1_9 : ((gC_230_1.drop 90).take 10).all (gRow 230) = true := by decide +kernel
theorem gOkL_1 : gC_230_1.all (gRow 230) = true := g_ten 10 (by decide +kernel) (fun j hj => by
  match j, hj with
  | 0, _ => exact gOkL_1_0
  | 1, _ => exact gOkL_1_1
  | 2, _ => exact gOkL_1_2
  | 3, _ => exact gOkL_1_3
  | 4, _ => exact gOkL_1_4
  | 5, _ => exact gOkL_1_5
  | 6, _ => exact gOkL_1_6
  | 7, _ => exact gOkL_1_7
  | 8, _ => exact gOkL_1_8
  | 9, _ => exact gOkL_1_9
  | j + 10, hj => exact absurd hj (by omega))
set_option maxRecDepth 100000 in
theorem gOkL_2_0 : ((gC_230_2.drop 0).take 10).all (gRow 230) = true := by decide +kernel
set_option maxRecDepth 100000 in
theorem gOkL_2_1 : ((gC_230_2.drop 10).take 10).all (gRow 230) = true := by decide +kernel
set_option maxRecDepth 100000 in
theorem gOkL_2_2 : ((gC_230_2.drop 20).take 10).all (gRow 230) = true := by decide +kernel
set_option maxRecDepth 100000 in
theorem gOkL_2_3 : ((gC_230_2.drop 30).take 10).all (gRow 230) = true := by decide +kernel
set_option maxRecDepth 100000 in
theorem gOkL_2_4 : ((gC_230_2.drop 40).take 10).all (gRow 230) = true := by decide +kernel
set_option maxRecDepth 100000 in
theorem gOkL_2_5 : ((gC_230_2.drop 50).take 10).all (gRow 230) = true := by decide +kernel
set_option maxRecDepth 100000 in
theorem gOkL_2_6 : ((gC_230_2.drop 60).take 10).all (gRow 230) = true := by decide +kernel
set_option maxRecDepth 100000 in
theorem gOkL_2_7 : ((gC_230_2.drop 70).take 10).all (gRow 230) = true := by decide +kernel
set_option maxRecDepth 100000 in
theorem gOkL_2_8 : ((gC_230_2.drop 80).take 10).all (gRow 230) = true := by decide +kernel
set_option maxRecDepth 100000 in
theorem gOkL_2_9 : ((gC_230_2.drop 90).take 10).all (gRow 230) = true := by decide +kernel
theorem gOkL_2 : gC_230_2.all (gRow 230) = true := g_ten 10 (by decide +kernel) (fun j hj => by
  match j, hj with
  | 0, _ => exact gOkL_2_0
  | 1, _ => exact gOkL_2_1
  | 2, _ => exact gOkL_2_2
  | 3, _ => exact gOkL_2_3
  | 4, _ => exact gOkL_2_4
  | 5, _ => exact gOkL_2_5
  | 6, _ => exact gOkL_2_6
  | 7, _ => exact gOkL_2_7
  | 8, _ => exact gOkL_2_8
  | 9, _ => exact gOkL_2_9
  | j + 10, hj => exact absurd hj (by omega))
set_option maxRecDepth 100000 in
theorem gOkL_3_0 : ((gC_230_3.drop 0).take 10).all (gRow 230) = true := by decide +kernel
set_option maxRecDepth 100000 in
theorem gOkL_3_1 : ((gC_230_3.drop 10).take 10).all (gRow 230) = true := by decide +kernel
set_option maxRecDepth 100000 in
theorem gOkL_3_2 : ((gC_230_3.drop 20).take 10).all (gRow 230) = true := by decide +kernel
set_option maxRecDepth 100000 in
theorem gOkL_3_3 : ((gC_230_3.drop 30).take 10).all (gRow 230) = true := by decide +kernel
set_option maxRecDepth 100000 in
theorem gOkL_3_4 : ((gC_230_3.drop 40).take 10).all (gRow 230) = true := by decide +kernel
set_option maxRecDepth 100000 in
theorem gOkL_3_5 : ((gC_230_3.drop 50).take 10).all (gRow 230) = true := by decide +kernel
set_option maxRecDepth 100000 in
theorem gOkL_3_6 : ((gC_230_3.drop 60).take 10).all (gRow 230) = true := by decide +kernel
set_option maxRecDepth 100000 in
theorem gOkL_3_7 : ((gC_230_3.drop 70).take 10).all (gRow 230) = true := by decide +kernel
set_option maxRecDepth 100000 in
theorem gOkL_3_8 : ((gC_230_3.drop 80).take 10).all (gRow 230) = true := by decide +kernel
set_option maxRecDepth 100000 in
theorem gOkL_3_9 : ((gC_230_3.drop 90).take 10).all (gRow 230) = true := by decide +kernel
theorem gOkL_3 : gC_230_3.all (gRow 230) = true := g_ten 10 (by decide +kernel) (fun j hj => by
  match j, hj with
  | 0, _ => exact gOkL_3_0
  | 1, _ => exact gOkL_3_1
  | 2, _ => exact gOkL_3_2
  | 3, _ => exact gOkL_3_3
  | 4, _ => exact gOkL_3_4
  | 5, _ => exact gOkL_3_5
  | 6, _ => exact gOkL_3_6
  | 7, _ => exact gOkL_3_7
  | 8, _ => exact gOkL_3_8
  | 9, _ => exact gOkL_3_9
  | j + 10, hj => exact absurd hj (by omega))
set_option maxRecDepth 100000 in
theorem gOkL_4_0 : ((gC_230_4.drop 0).take 10).all (gRow 230) = true := by decide +kernel
set_option maxRecDepth 100000 in
theorem gOkL_4_1 : ((gC_230_4.drop 10).take 10).all (gRow 230) = true := by decide +kernel
set_option maxRecDepth 100000 in
theorem gOkL_4_2 : ((gC_230_4.drop 20).take 10).all (gRow 230) = true := by decide +kernel
set_option maxRecDepth 100000 in
theorem gOkL_4_3 : ((gC_230_4.drop 30).take 10).all (gRow 230) = true := by decide +kernel
set_option maxRecDepth 100000 in
theorem gOkL_4_4 : ((gC_230_4.drop 40).take 10).all (gRow 230) = true := by decide +kernel
set_option maxRecDepth 100000 in
theorem gOkL_4_5 : ((gC_230_4.drop 50).take 10).all (gRow 230) = true := by decide +kernel
set_option maxRecDepth 100000 in
theorem gOkL_4_6 : ((gC_230_4.drop 60).take 10).all (gRow 230) = true := by decide +kernel
set_option maxRecDepth 100000 in
theorem gOkL_4_7 : ((gC_230_4.drop 70).take 10).all (gRow 230) = true := by decide +kernel
set_option maxRecDepth 100000 in
theorem gOkL_4_8 : ((gC_230_4.drop 80).take 10).all (gRow 230) = true := by decide +kernel
set_option maxRecDepth 100000 in
theorem gOkL_4_9 : ((gC_230_4.drop 90).take 10).all (gRow 230) = true := by decide +kernel
theorem gOkL_4 : gC_230_4.all (gRow 230) = true := g_ten 10 (by decide +kernel) (fun j hj => by
  match j, hj with
  | 0, _ => exact gOkL_4_0
  | 1, _ => exact gOkL_4_1
  | 2, _ => exact gOkL_4_2
  | 3, _ => exact gOkL_4_3
  | 4, _ => exact gOkL_4_4
  | 5, _ => exact gOkL_4_5
  | 6, _ => exact gOkL_4_6
  | 7, _ => exact gOkL_4_7
  | 8, _ => exact gOkL_4_8
  | 9, _ => exact gOkL_4_9
  | j + 10, hj => exact absurd hj (by omega))
set_option maxRecDepth 100000 in
theorem gOkL_5_0 : ((gC_230_5.drop 0).take 10).all (gRow 230) = true := by decide +kernel
set_option maxRecDepth 100000 in
theorem gOkL_5_1 : ((gC_230_5.drop 10).take 10).all (gRow 230) = true := by decide +kernel
set_option maxRecDepth 100000 in
theorem gOkL_5_2 : ((gC_230_5.drop 20).take 10).all (gRow 230) = true := by decide +kernel
set_option maxRecDepth 100000 in
theorem gOkL_5_3 : ((gC_230_5.drop 30).take 10).all (gRow 230) = true := by decide +kernel
set_option maxRecDepth 100000 in
theorem gOkL_5_4 : ((gC_230_5.drop 40).take 10).all (gRow 230) = true := by decide +kernel
set_option maxRecDepth 100000 in
theorem gOkL_5_5 : ((gC_230_5.drop 50).take 10).all (gRow 230) = true := by decide +kernel
set_option maxRecDepth 100000 in
theorem gOkL_5_6 : ((gC_230_5.drop 60).take 10).all (gRow 230) = true := by decide +kernel
set_option maxRecDepth 100000 in
theorem gOkL_5_7 : ((gC_230_5.drop 70).take 10).all (gRow 230) = true := by decide +kernel
set_option maxRecDepth 100000 in
theorem gOkL_5_8 : ((gC_230_5.drop 80).take 10).all (gRow 230) = true := by decide +kernel
set_option maxRecDepth 100000 in
theorem gOkL_5_9 : ((gC_230_5.drop 90).take 10).all (gRow 230) = true := by decide +kernel
theorem gOkL_5 : gC_230_5.all (gRow 230) = true := g_ten 10 (by decide +kernel) (fun j hj => by
  match j, hj with
  | 0, _ => exact gOkL_5_0
  | 1, _ => exact gOkL_5_1
  | 2, _ => exact gOkL_5_2
  | 3, _ => exact gOkL_5_3
  | 4, _ => exact gOkL_5_4
  | 5, _ => exact gOkL_5_5
  | 6, _ => exact gOkL_5_6
  | 7, _ => exact gOkL_5_7
  | 8, _ => exact gOkL_5_8
  | 9, _ => exact gOkL_5_9
  | j + 10, hj => exact absurd hj (by omega))
set_option maxRecDepth 100000 in
theorem gOkL_6_0 : ((gC_230_6.drop 0).take 10).all (gRow 230) = true := by decide +kernel
set_option maxRecDepth 100000 in
theorem gOkL_6_1 : ((gC_230_6.drop 10).take 10).all (gRow 230) = true := by decide +kernel
set_option maxRecDepth 100000 in
theorem gOkL_6_2 : ((gC_230_6.drop 20).take 10).all (gRow 230) = true := by decide +kernel
set_option maxRecDepth 100000 in
theorem gOkL_6_3 : ((gC_230_6.drop 30).take 10).all (gRow 230) = true := by decide +kernel
set_option maxRecDepth 100000 in
theorem gOkL_6_4 : ((gC_230_6.drop 40).take 10).all (gRow 230) = true := by decide +kernel
set_option maxRecDepth 100000 in
theorem gOkL_6_5 : ((gC_230_6.drop 50).take 10).all (gRow 230) = true := by decide +kernel
set_option maxRecDepth 100000 in
theorem gOkL_6_6 : ((gC_230_6.drop 60).take 10).all (gRow 230) = true := by decide +kernel
set_option maxRecDepth 100000 in
theorem gOkL_6_7 : ((gC_230_6.drop 70).take 10).all (gRow 230) = true := by decide +kernel
set_option maxRecDepth 100000 in
theorem gOkL_6_8 : ((gC_230_6.drop 80).take 10).all (gRow 230) = true := by decide +kernel
set_option maxRecDepth 100000 in
theorem gOkL_6_9 : ((gC_230_6.drop 90).take 10).all (gRow 230) = true := by decide +kernel
theorem gOkL_6 : gC_230_6.all (gRow 230) = true := g_ten 10 (by decide +kernel) (fun j hj => by
  match j, hj with
  | 0, _ => exact gOkL_6_0
  | 1, _ => exact gOkL_6_1
  | 2, _ => exact gOkL_6_2
  | 3, _ => exact gOkL_6_3
  | 4, _ => exact gOkL_6_4
  | 5, _ => exact gOkL_6_5
  | 6, _ => exact gOkL_6_6
  | 7, _ => exact gOkL_6_7
  | 8, _ => exact gOkL_6_8
  | 9, _ => exact gOkL_6_9
  | j + 10, hj => exact absurd hj (by omega))
set_option maxRecDepth 100000 in
theorem gOkL_7_0 : ((gC_230_7.drop 0).take 10).all (gRow 230) = true := by decide +kernel
set_option maxRecDepth 100000 in
theorem gOkL_7_1 : ((gC_230_7.drop 10).take 10).all (gRow 230) = true := by decide +kernel
set_option maxRecDepth 100000 in
theorem gOkL_7_2 : ((gC_230_7.drop 20).take 10).all (gRow 230) = true := by decide +kernel
set_option maxRecDepth 100000 in
theorem gOkL_7_3 : ((gC_230_7.drop 30).take 10).all (gRow 230) = true := by decide +kernel
set_option maxRecDepth 100000 in
theorem gOkL_7_4 : ((gC_230_7.drop 40).take 10).all (gRow 230) = true := by decide +kernel
set_option maxRecDepth 100000 in
theorem gOkL_7_5 : ((gC_230_7.drop 50).take 10).all (gRow 230) = true := by decide +kernel
set_option maxRecDepth 100000 in
theorem gOkL_7_6 : ((gC_230_7.drop 60).take 10).all (gRow 230) = true := by decide +kernel
set_option maxRecDepth 100000 in
theorem gOkL_7_7 : ((gC_230_7.drop 70).take 10).all (gRow 230) = true := by decide +kernel
set_option maxRecDepth 100000 in
theorem gOkL_7_8 : ((gC_230_7.drop 80).take 10).all (gRow 230) = true := by decide +kernel
set_option maxRecDepth 100000 in
theorem gOkL_7_9 : ((gC_230_7.drop 90).take 10).all (gRow 230) = true := by decide +kernel
theorem gOkL_7 : gC_230_7.all (gRow 230) = true := g_ten 10 (by decide +kernel) (fun j hj => by
  match j, hj with
  | 0, _ => exact gOkL_7_0
  | 1, _ => exact gOkL_7_1
  | 2, _ => exact gOkL_7_2
  | 3, _ => exact gOkL_7_3
  | 4, _ => exact gOkL_7_4
  | 5, _ => exact gOkL_7_5
  | 6, _ => exact gOkL_7_6
  | 7, _ => exact gOkL_7_7
  | 8, _ => exact gOkL_7_8
  | 9, _ => exact gOkL_7_9
  | j + 10, hj => exact absurd hj (by omega))
set_option maxRecDepth 100000 in
theorem gOkL_8_0 : ((gC_230_8.drop 0).take 10).all (gRow 230) = true := by decide +kernel
set_option maxRecDepth 100000 in
theorem gOkL_8_1 : ((gC_230_8.drop 10).take 10).all (gRow 230) = true := by decide +kernel
set_option maxRecDepth 100000 in
theorem gOkL_8_2 : ((gC_230_8.drop 20).take 10).all (gRow 230) = true := by decide +kernel
set_option maxRecDepth 100000 in
theorem gOkL_8_3 : ((gC_230_8.drop 30).take 10).all (gRow 230) = true := by decide +kernel
set_option maxRecDepth 100000 in
theorem gOkL_8_4 : ((gC_230_8.drop 40).take 10).all (gRow 230) = true := by decide +kernel
set_option maxRecDepth 100000 in
theorem gOkL_8_5 : ((gC_230_8.drop 50).take 10).all (gRow 230) = true := by decide +kernel
set_option maxRecDepth 100000 in
theorem gOkL_8_6 : ((gC_230_8.drop 60).take 10).all (gRow 230) = true := by decide +kernel
set_option maxRecDepth 100000 in
theorem gOkL_8_7 : ((gC_230_8.drop 70).take 10).all (gRow 230) = true := by decide +kernel
set_option maxRecDepth 100000 in
theorem gOkL_8_8 : ((gC_230_8.drop 80).take 10).all (gRow 230) = true := by decide +kernel
set_option maxRecDepth 100000 in
theorem gOkL_8_9 : ((gC_230_8.drop 90).take 10).all (gRow 230) = true := by decide +kernel
theorem gOkL_8 : gC_230_8.all (gRow 230) = true := g_ten 10 (by decide +kernel) (fun j hj => by
  match j, hj with
  | 0, _ => exact gOkL_8_0
  | 1, _ => exact gOkL_8_1
  | 2, _ => exact gOkL_8_2
  | 3, _ => exact gOkL_8_3
  | 4, _ => exact gOkL_8_4
  | 5, _ => exact gOkL_8_5
  | 6, _ => exact gOkL_8_6
  | 7, _ => exact gOkL_8_7
  | 8, _ => exact gOkL_8_8
  | 9, _ => exact gOkL_8_9
  | j + 10, hj => exact absurd hj (by omega))
set_option maxRecDepth 100000 in
theorem gOkL_9_0 : ((gC_230_9.drop 0).take 10).all (gRow 230) = true := by decide +kernel
set_option maxRecDepth 100000 in
theorem gOkL_9_1 : ((gC_230_9.drop 10).take 10).all (gRow 230) = true := by decide +kernel
set_option maxRecDepth 100000 in
theorem gOkL_9_2 : ((gC_230_9.drop 20).take 10).all (gRow 230) = true := by decide +kernel
set_option maxRecDepth 100000 in
theorem gOkL_9_3 : ((gC_230_9.drop 30).take 10).all (gRow 230) = true := by decide +kernel
set_option maxRecDepth 100000 in
theorem gOkL_9_4 : ((gC_230_9.drop 40).take 10).all (gRow 230) = true := by decide +kernel
set_option maxRecDepth 100000 in
theorem gOkL_9_5 : ((gC_230_9.drop 50).take 10).all (gRow 230) = true := by decide +kernel
set_option maxRecDepth 100000 in
theorem gOkL_9_6 : ((gC_230_9.drop 60).take 10).all (gRow 230) = true := by decide +kernel
set_option maxRecDepth 100000 in
theorem gOkL_9_7 : ((gC_230_9.drop 70).take 10).all (gRow 230) = true := by decide +kernel
set_option maxRecDepth 100000 in
theorem gOkL_9_8 : ((gC_230_9.drop 80).take 10).all (gRow 230) = true := by decide +kernel
set_option maxRecDepth 100000 in
theorem gOkL_9_9 : ((gC_230_9.drop 90).take 10).all (gRow 230) = true := by decide +kernel
theorem gOkL_9 : gC_230_9.all (gRow 230) = true := g_ten 10 (by decide +kernel) (fun j hj => by
  match j, hj with
  | 0, _ => exact gOkL_9_0
  | 1, _ => exact gOkL_9_1
  | 2, _ => exact gOkL_9_2
  | 3, _ => exact gOkL_9_3
  | 4, _ => exact gOkL_9_4
  | 5, _ => exact gOkL_9_5
  | 6, _ => exact gOkL_9_6
  | 7, _ => exact gOkL_9_7
  | 8, _ => exact gOkL_9_8
  | 9, _ => exact gOkL_9_9
  | j + 10, hj => exact absurd hj (by omega))
set_option maxRecDepth 100000 in
theorem gOkL_10_0 : ((gC_230_10.drop 0).take 10).all (gRow 230) = true := by decide +kernel
set_option maxRecDepth 100000 in
theorem gOkL_10_1 : ((gC_230_10.drop 10).take 10).all (gRow 230) = true := by decide +kernel
set_option maxRecDepth 100000 in
theorem gOkL_10_2 : ((gC_230_10.drop 20).take 10).all (gRow 230) = true := by decide +kernel
set_option maxRecDepth 100000 in
theorem gOkL_10_3 : ((gC_230_10.drop 30).take 10).all (gRow 230) = true := by decide +kernel
set_option maxRecDepth 100000 in
theorem gOkL_10_4 : ((gC_230_10.drop 40).take 10).all (gRow 230) = true := by decide +kernel
set_option maxRecDepth 100000 in
theorem gOkL_10_5 : ((gC_230_10.drop 50).take 10).all (gRow 230) = true := by decide +kernel
set_option maxRecDepth 100000 in
theorem gOkL_10_6 : ((gC_230_10.drop 60).take 10).all (gRow 230) = true := by decide +kernel
set_option maxRecDepth 100000 in
theorem gOkL_10_7 : ((gC_230_10.drop 70).take 10).all (gRow 230) = true := by decide +kernel
set_option maxRecDepth 100000 in
theorem gOkL_10_8 : ((gC_230_10.drop 80).take 10).all (gRow 230) = true := by decide +kernel
set_option maxRecDepth 100000 in
theorem gOkL_10_9 : ((gC_230_10.drop 90).take 10).all (gRow 230) = true := by decide +kernel
theorem gOkL_10 : gC_230_10.all (gRow 230) = true := g_ten 10 (by decide +kernel) (fun j hj => by
  match j, hj with
  | 0, _ => exact gOkL_10_0
  | 1, _ => exact gOkL_10_1
  | 2, _ => exact gOkL_10_2
  | 3, _ => exact gOkL_10_3
  | 4, _ => exact gOkL_10_4
  | 5, _ => exact gOkL_10_5
  | 6, _ => exact gOkL_10_6
  | 7, _ => exact gOkL_10_7
  | 8, _ => exact gOkL_10_8
  | 9, _ => exact gOkL_10_9
  | j + 10, hj => exact absurd hj (by omega))
set_option maxRecDepth 100000 in
theorem gOkL_11_0 : ((gC_230_11.drop 0).take 10).all (gRow 230) = true := by decide +kernel
set_option maxRecDepth 100000 in
theorem gOkL_11_1 : ((gC_230_11.drop 10).take 10).all (gRow 230) = true := by decide +kernel
set_option maxRecDepth 100000 in
theorem gOkL_11_2 : ((gC_230_11.drop 20).take 10).all (gRow 230) = true := by decide +kernel
set_option maxRecDepth 100000 in
theorem gOkL_11_3 : ((gC_230_11.drop 30).take 10).all (gRow 230) = true := by decide +kernel
set_option maxRecDepth 100000 in
theorem gOkL_11_4 : ((gC_230_11.drop 40).take 10).all (gRow 230) = true := by decide +kernel
theorem gOkL_11 : gC_230_11.all (gRow 230) = true := g_ten 5 (by decide +kernel) (fun j hj => by
  match j, hj with
  | 0, _ => exact gOkL_11_0
  | 1, _ => exact gOkL_11_1
  | 2, _ => exact gOkL_11_2
  | 3, _ => exact gOkL_11_3
  | 4, _ => exact gOkL_11_4
  | j + 5, hj => exact absurd hj (by omega))
