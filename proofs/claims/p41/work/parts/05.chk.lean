/-! WHAT IS CHECKED OF THE TABLES: each row decodes, each operand is what the words say -/
/-- the throws: method, place, exception, numbers of class, text and constructor, whether wide, the text -/
def gThr : List (Nat × Nat × Nat × Nat × Nat × Nat × Bool × String) := [(74, 14, 0, 102, 104, 106, false, "not a letter, a digit, neutral or a mark"), (74, 35, 1, 113, 115, 117, false, "the text has no room for this character, or no embedding that fits"), (77, 10, 4, 125, 127, 129, false, "the text is empty"), (80, 18, 0, 102, 134, 106, false, "no such character, or the width is not 1 to 20"), (82, 13, 0, 102, 140, 106, false, "the line width is not 10 to 200"), (86, 29, 0, 102, 148, 106, false, "no such beginning, no such letter, or the width is not 1 to 40"), (86, 64, 1, 113, 155, 117, false, "there is such a rule, or there are 20 ligatures"), (88, 15, 2, 205, 321, 209, true, "there is no such index"), (91, 20, 3, 326, 328, 330, true, "it is a mark"), (107, 10, 1, 113, 338, 117, true, "lines are not possible"), (113, 19, 2, 205, 340, 209, true, "there is no such line"), (116, 20, 4, 125, 344, 129, true, "there are no lines"), (125, 12, 3, 326, 347, 330, true, "there are more than 9 break places"), (135, 36, 2, 205, 269, 209, true, "the line has no such rank"), (137, 19, 4, 125, 349, 129, true, "it is a dropped space")]
def gW (p : Nat) : Option Cond := tables_1[p]?
def mOw (k : Nat) : String := (mY k).cls
def gLen : Instr → Nat
  | .bipush _ => 2
  | .sipush _ => 3
  | .ldc _ => 2
  | .ldc_w _ => 3
  | .ldc2_w _ => 3
  | .iload _ => 2
  | .lload _ => 2
  | .fload _ => 2
  | .dload _ => 2
  | .aload _ => 2
  | .istore _ => 2
  | .lstore _ => 2
  | .fstore _ => 2
  | .dstore _ => 2
  | .astore _ => 2
  | .iinc _ _ => 3
  | .goto _ => 3
  | .ifCond _ _ => 3
  | .if_icmp _ _ => 3
  | .getfield _ => 3
  | .putfield _ => 3
  | .invokevirtual _ => 3
  | .invokestatic _ => 3
  | .invokespecial _ => 3
  | .new _ => 3
  | .newarray _ => 2
  | .tableswitch _ _ _ _ => 168
  | _ => 1
def gCk (k : Nat) (r : gR) : Bool := decide (r.2.2.1.2.1 = mNp r.2.2.1.1 ∧ mSta r.2.2.1.1 = true ∧ (mFr r.2.2.1.1).1 + 1 ≤ (mFr k).1 ∧ 8 + (mML r.2.2.1.1 + 11) + (mFr r.2.2.1.1).2 ≤ (mFr k).2)
def gChk (k pc : Nat) (r : gR) : Bool := match r.1 with
  | .iconst n => decide (r.2.2.2 = .int (Int32.ofInt n))
  | .bipush n => decide (r.2.2.2 = .int (Int8.ofInt n).toInt32)
  | .sipush n => decide (r.2.2.2 = .int (Int16.ofInt n).toInt32)
  | .lconst n => decide (r.2.2.2 = .long (Int64.ofNat (n : Nat)))
  | .fconst n => decide (n = 0 ∧ r.2.2.2 = .float FP.fconst0)
  | .dconst n => decide (n = 0 ∧ r.2.2.2 = .double FP.dconst0)
  | .ldc i => (match r.2.2.2 with | .int v => decide (gW r.2.2.1.2.2 = some (.constant (mOw k) i v)) | .ref q => decide (q = 1002 ∧ mOw k = "GlyphmillLaw" ∧ i = 224 ∧ gW r.2.2.1.2.2 = some (.stringRef "GlyphmillLaw" 224 "aabbcnA AB 1 2-,.[{}} - ")) | _ => true)
  | .ldc_w i => (match r.2.2.2 with | .int v => decide (gW r.2.2.1.2.2 = some (.constant (mOw k) i v)) | _ => true)
  | .ldc2_w i => (match r.2.2.2 with | .long v => decide (gW r.2.2.1.2.2 = some (.constantLong (mOw k) i v)) | _ => true)
  | .iload_n n => decide ((n : Nat) = r.2.2.1.1)
  | .lload_n n => decide ((n : Nat) = r.2.2.1.1)
  | .aload_n n => decide ((n : Nat) = r.2.2.1.1)
  | .iload n => decide (n = r.2.2.1.1)
  | .lload n => decide (n = r.2.2.1.1)
  | .fload n => decide (n = r.2.2.1.1)
  | .dload n => decide (n = r.2.2.1.1)
  | .aload n => decide (n = r.2.2.1.1)
  | .istore_n n => decide ((n : Nat) = r.2.2.1.1 ∧ r.2.2.1.1 < mML k)
  | .astore_n n => decide ((n : Nat) = r.2.2.1.1 ∧ r.2.2.1.1 < mML k)
  | .lstore_n n => decide ((n : Nat) = r.2.2.1.1 ∧ r.2.2.1.1 + 1 < mML k)
  | .istore n => decide (n = r.2.2.1.1 ∧ r.2.2.1.1 < mML k)
  | .fstore n => decide (n = r.2.2.1.1 ∧ r.2.2.1.1 < mML k)
  | .astore n => decide (n = r.2.2.1.1 ∧ r.2.2.1.1 < mML k)
  | .lstore n => decide (n = r.2.2.1.1 ∧ r.2.2.1.1 + 1 < mML k)
  | .dstore n => decide (n = r.2.2.1.1 ∧ r.2.2.1.1 + 1 < mML k)
  | .iinc i n => decide (i = r.2.2.1.1 ∧ r.2.2.1.1 < mML k ∧ r.2.2.2 = .int (Int32.ofInt n))
  | .goto off => decide ((pc : Int) + off = (r.2.2.1.1 : Int))
  | .ifCond _ off => decide ((pc : Int) + off = (r.2.2.1.1 : Int))
  | .if_icmp _ off => decide ((pc : Int) + off = (r.2.2.1.1 : Int))
  | .getfield i => (match gCl[r.2.2.1.1]? with
    | some q => decide (r.2.2.1.2.1 < q.2.2 ∧ gW r.2.2.1.2.2 = some (.fieldLink (mOw k) i (q.2.1 r.2.2.1.2.1).1 (q.2.1 r.2.2.1.2.1).2.1 (q.2.1 r.2.2.1.2.1).2.2.1))
    | none => false)
  | .putfield i => (match gCl[r.2.2.1.1]? with
    | some q => decide (r.2.2.1.2.1 < q.2.2 ∧ (q.2.1 r.2.2.1.2.1).2.2.2 = false ∧ gW r.2.2.1.2.2 = some (.fieldLink (mOw k) i (q.2.1 r.2.2.1.2.1).1 (q.2.1 r.2.2.1.2.1).2.1 (q.2.1 r.2.2.1.2.1).2.2.1))
    | none => false)
  | .invokevirtual i => (match r.2.2.2 with
      | .int 6 => decide (gW r.2.2.1.2.2 = some (.methodLink (mOw k) i ⟨"java/lang/String", "length", "()I"⟩) ∧ 10 ≤ (mFr k).1 ∧ 200 ≤ (mFr k).2 ∧ mOw k = "GlyphmillLaw")
      | .int 7 => decide (gW r.2.2.1.2.2 = some (.methodLink (mOw k) i ⟨"java/lang/String", "charAt", "(I)C"⟩) ∧ 10 ≤ (mFr k).1 ∧ 200 ≤ (mFr k).2 ∧ mOw k = "GlyphmillLaw")
      | _ => decide (r.2.2.1.2.1 = mNp r.2.2.1.1 ∧ mSta r.2.2.1.1 = false ∧ gW r.2.2.1.2.2 = some (.methodLink (mOw k) i (mY r.2.2.1.1)) ∧ (mFr r.2.2.1.1).1 + 1 ≤ (mFr k).1 ∧ 8 + (mML r.2.2.1.1 + 11) + (mFr r.2.2.1.1).2 ≤ (mFr k).2))
  | .invokestatic i => (match r.2.2.2 with
      | .int 0 => gCk k r && decide (gW r.2.2.1.2.2 = some (.methodLink (mOw k) i (mY r.2.2.1.1)))
      | .int 1 => gCk k r && decide (gW r.2.2.1.2.2 = some (.methodLinkNest (mOw k) i (mY r.2.2.1.1) "Glyphmill") ∧ mCo r.2.2.1.1 = 0)
      | .int 8 => decide (gW r.2.2.1.2.2 = some (.methodLink (mOw k) i ⟨"GlyphmillLaw", "at", "([II)I"⟩) ∧ 10 ≤ (mFr k).1 ∧ 200 ≤ (mFr k).2 ∧ mOw k = "GlyphmillLaw")
      | .int 2 => decide (gW r.2.2.1.2.2 = some (.methodLink (mOw k) i Lib.Math.max.name) ∧ 1 ≤ (mFr k).1 ∧ 21 ≤ (mFr k).2)
      | .int 3 => decide (gW r.2.2.1.2.2 = some (.methodLink (mOw k) i Lib.Math.min.name) ∧ 1 ≤ (mFr k).1 ∧ 21 ≤ (mFr k).2)
      | .int 4 => decide (gW r.2.2.1.2.2 = some (.methodLink (mOw k) i Lib.Math.abs.name) ∧ 1 ≤ (mFr k).1 ∧ 21 ≤ (mFr k).2)
      | .int 5 => decide (gW r.2.2.1.2.2 = some (.methodLink (mOw k) i Lib.MathLoose.min_long.x) ∧ 1 ≤ (mFr k).1 ∧ 23 ≤ (mFr k).2)
      | _ => false)
  | .new i => decide (k = 166) || gThr.any fun q => decide (q.1 = k ∧ q.2.1 = pc ∧ q.2.2.1 = r.2.2.1.1 ∧ q.2.2.2.1 = i)
  | _ => true
def gRow (k : Nat) (q : Nat × gR) : Bool := decide (decode (mBy k) q.1 = .ok (q.2.1, q.2.2.1)) && decide (q.2.2.1 = gLen q.2.1) && gChk k q.1 q.2
theorem g_ten {α : Type} {f : α → Bool} {t : List α} (n : Nat) (hn : t.length ≤ 10 * n) (h : ∀ j, j < n → ((t.drop (10 * j)).take 10).all f = true) : t.all f = true := by
  rw [List.all_eq_true]
  intro x hx
  obtain ⟨i, hi⟩ := List.getElem?_of_mem hx
  have hl := (List.getElem?_eq_some_iff.mp hi).1
  have h1 := List.all_eq_true.mp (h (i / 10) (by omega)) x
  refine h1 (List.mem_of_getElem? (i := i % 10) ?_)
  rw [List.getElem?_take_of_lt (Nat.mod_lt _ (by omega)), List.getElem?_drop, show 10 * (i / 10) + i % 10 = i by omega, hi]
set_option maxRecDepth 100000 in
theorem gOk_0 : gC_0.all (gRow 0) = true := by decide +kernel
set_option maxRecDepth 100000 in
theorem gOk_1 : gC_1.all (gRow 1) = true := by decide +kernel
set_option maxRecDepth 100000 in
theorem gOk_2 : gC_2.all (gRow 2) = true := by decide +kernel
set_option maxRecDepth 100000 in
theorem gOk_3 : gC_3.all (gRow 3) = true := by decide +kernel
set_option maxRecDepth 100000 in
theorem gOk_4 : gC_4.all (gRow 4) = true := by decide +kernel
set_option maxRecDepth 100000 in
theorem gOk_5 : gC_5.all (gRow 5) = true := by decide +kernel
set_option maxRecDepth 100000 in
theorem gOk_6 : gC_6.all (gRow 6) = true := by decide +kernel
set_option maxRecDepth 100000 in
theorem gOk_7 : gC_7.all (gRow 7) = true := by decide +kernel
set_option maxRecDepth 100000 in
theorem gOk_8 : gC_8.all (gRow 8) = true := by decide +kernel
set_option maxRecDepth 100000 in
theorem gOk_9 : gC_9.all (gRow 9) = true := by decide +kernel
set_option maxRecDepth 100000 in
theorem gOk_10 : gC_10.all (gRow 10) = true := by decide +kernel
set_option maxRecDepth 100000 in
theorem gOk_11 : gC_11.all (gRow 11) = true := by decide +kernel
set_option maxRecDepth 100000 in
theorem gOk_12 : gC_12.all (gRow 12) = true := by decide +kernel
set_option maxRecDepth 100000 in
theorem gOk_13 : gC_13.all (gRow 13) = true := by decide +kernel
set_option maxRecDepth 100000 in
theorem gOk_14 : gC_14.all (gRow 14) = true := by decide +kernel
set_option maxRecDepth 100000 in
theorem gOk_15 : gC_15.all (gRow 15) = true := by decide +kernel
set_option maxRecDepth 100000 in
theorem gOk_16 : gC_16.all (gRow 16) = true := by decide +kernel
set_option maxRecDepth 100000 in
theorem gOk_17 : gC_17.all (gRow 17) = true := by decide +kernel
set_option maxRecDepth 100000 in
theorem gOk_18 : gC_18.all (gRow 18) = true := by decide +kernel
set_option maxRecDepth 100000 in
theorem gOk_19 : gC_19.all (gRow 19) = true := by decide +kernel
set_option maxRecDepth 100000 in
theorem gOk_20 : gC_20.all (gRow 20) = true := by decide +kernel
set_option maxRecDepth 100000 in
theorem gOk_21 : gC_21.all (gRow 21) = true := by decide +kernel
set_option maxRecDepth 100000 in
theorem gOk_22 : gC_22.all (gRow 22) = true := by decide +kernel
set_option maxRecDepth 100000 in
theorem gOk_23 : gC_23.all (gRow 23) = true := by decide +kernel
set_option maxRecDepth 100000 in
theorem gOk_24 : gC_24.all (gRow 24) = true := by decide +kernel
set_option maxRecDepth 100000 in
theorem gOk_25 : gC_25.all (gRow 25) = true := by decide +kernel
set_option maxRecDepth 100000 in
theorem gOk_26 : gC_26.all (gRow 26) = true := by decide +kernel
set_option maxRecDepth 100000 in
theorem gOk_27 : gC_27.all (gRow 27) = true := by decide +kernel
set_option maxRecDepth 100000 in
theorem gOk_28 : gC_28.all (gRow 28) = true := by decide +kernel
set_option maxRecDepth 100000 in
theorem gOk_29 : gC_29.all (gRow 29) = true := by decide +kernel
set_option maxRecDepth 100000 in
theorem gOk_30 : gC_30.all (gRow 30) = true := by decide +kernel
set_option maxRecDepth 100000 in
theorem gOk_31 : gC_31.all (gRow 31) = true := by decide +kernel
set_option maxRecDepth 100000 in
theorem gOk_32 : gC_32.all (gRow 32) = true := by decide +kernel
set_option maxRecDepth 100000 in
theorem gOk_33 : gC_33.all (gRow 33) = true := by decide +kernel
set_option maxRecDepth 100000 in
theorem gOk_34 : gC_34.all (gRow 34) = true := by decide +kernel
set_option maxRecDepth 100000 in
theorem gOk_35 : gC_35.all (gRow 35) = true := by decide +kernel
set_option maxRecDepth 100000 in
theorem gOk_36 : gC_36.all (gRow 36) = true := by decide +kernel
set_option maxRecDepth 100000 in
theorem gOk_37 : gC_37.all (gRow 37) = true := by decide +kernel
set_option maxRecDepth 100000 in
theorem gOk_38 : gC_38.all (gRow 38) = true := by decide +kernel
set_option maxRecDepth 100000 in
theorem gOk_39 : gC_39.all (gRow 39) = true := by decide +kernel
set_option maxRecDepth 100000 in
theorem gOk_40 : gC_40.all (gRow 40) = true := by decide +kernel
set_option maxRecDepth 100000 in
theorem gOk_41 : gC_41.all (gRow 41) = true := by decide +kernel
set_option maxRecDepth 100000 in
theorem gOk_42 : gC_42.all (gRow 42) = true := by decide +kernel
set_option maxRecDepth 100000 in
theorem gOk_43 : gC_43.all (gRow 43) = true := by decide +kernel
set_option maxRecDepth 100000 in
theorem gOk_44 : gC_44.all (gRow 44) = true := by decide +kernel
set_option maxRecDepth 100000 in
theorem gOk_45 : gC_45.all (gRow 45) = true := by decide +kernel
set_option maxRecDepth 100000 in
theorem gOk_46 : gC_46.all (gRow 46) = true := by decide +kernel
set_option maxRecDepth 100000 in
theorem gOk_47 : gC_47.all (gRow 47) = true := by decide +kernel
set_option maxRecDepth 100000 in
theorem gOk_48 : gC_48.all (gRow 48) = true := by decide +kernel
set_option maxRecDepth 100000 in
theorem gOk_49 : gC_49.all (gRow 49) = true := by decide +kernel
set_option maxRecDepth 100000 in
theorem gOk_50 : gC_50.all (gRow 50) = true := by decide +kernel
set_option maxRecDepth 100000 in
theorem gOk_51 : gC_51.all (gRow 51) = true := by decide +kernel
set_option maxRecDepth 100000 in
theorem gOk_52 : gC_52.all (gRow 52) = true := by decide +kernel
set_option maxRecDepth 100000 in
theorem gOk_53 : gC_53.all (gRow 53) = true := by decide +kernel
set_option maxRecDepth 100000 in
theorem gOk_54 : gC_54.all (gRow 54) = true := by decide +kernel
set_option maxRecDepth 100000 in
theorem gOk_55 : gC_55.all (gRow 55) = true := by decide +kernel
set_option maxRecDepth 100000 in
theorem gOk_56 : gC_56.all (gRow 56) = true := by decide +kernel
set_option maxRecDepth 100000 in
theorem gOk_57 : gC_57.all (gRow 57) = true := by decide +kernel
set_option maxRecDepth 100000 in
theorem gOk_58 : gC_58.all (gRow 58) = true := by decide +kernel
set_option maxRecDepth 100000 in
theorem gOk_59 : gC_59.all (gRow 59) = true := by decide +kernel
set_option maxRecDepth 100000 in
theorem gOk_60 : gC_60.all (gRow 60) = true := by decide +kernel
set_option maxRecDepth 100000 in
theorem gOk_61 : gC_61.all (gRow 61) = true := by decide +kernel
set_option maxRecDepth 100000 in
theorem gOk_62 : gC_62.all (gRow 62) = true := by decide +kernel
set_option maxRecDepth 100000 in
theorem gOk_63 : gC_63.all (gRow 63) = true := by decide +kernel
set_option maxRecDepth 100000 in
theorem gOk_64 : gC_64.all (gRow 64) = true := by decide +kernel
set_option maxRecDepth 100000 in
theorem gOk_65 : gC_65.all (gRow 65) = true := by decide +kernel
set_option maxRecDepth 100000 in
theorem gOk_66 : gC_66.all (gRow 66) = true := by decide +kernel
set_option maxRecDepth 100000 in
theorem gOk_67 : gC_67.all (gRow 67) = true := by decide +kernel
set_option maxRecDepth 100000 in
theorem gOk_68 : gC_68.all (gRow 68) = true := by decide +kernel
set_option maxRecDepth 100000 in
theorem gOk_69 : gC_69.all (gRow 69) = true := by decide +kernel
set_option maxRecDepth 100000 in
theorem gOk_70 : gC_70.all (gRow 70) = true := by decide +kernel
set_option maxRecDepth 100000 in
theorem gOk_71 : gC_71.all (gRow 71) = true := by decide +kernel
set_option maxRecDepth 100000 in
theorem gOk_72 : gC_72.all (gRow 72) = true := by decide +kernel
set_option maxRecDepth 100000 in
theorem gOk_73 : gC_73.all (gRow 73) = true := by decide +kernel
set_option maxRecDepth 100000 in
theorem gOk_74 : gC_74.all (gRow 74) = true := by decide +kernel
set_option maxRecDepth 100000 in
theorem gOk_75 : gC_75.all (gRow 75) = true := by decide +kernel
set_option maxRecDepth 100000 in
theorem gOk_76 : gC_76.all (gRow 76) = true := by decide +kernel
set_option maxRecDepth 100000 in
theorem gOk_77 : gC_77.all (gRow 77) = true := by decide +kernel
set_option maxRecDepth 100000 in
theorem gOk_78 : gC_78.all (gRow 78) = true := by decide +kernel
set_option maxRecDepth 100000 in
theorem gOk_79 : gC_79.all (gRow 79) = true := by decide +kernel
set_option maxRecDepth 100000 in
theorem gOk_80 : gC_80.all (gRow 80) = true := by decide +kernel
set_option maxRecDepth 100000 in
theorem gOk_81 : gC_81.all (gRow 81) = true := by decide +kernel
set_option maxRecDepth 100000 in
theorem gOk_82 : gC_82.all (gRow 82) = true := by decide +kernel
set_option maxRecDepth 100000 in
theorem gOk_83 : gC_83.all (gRow 83) = true := by decide +kernel
set_option maxRecDepth 100000 in
theorem gOk_84 : gC_84.all (gRow 84) = true := by decide +kernel
set_option maxRecDepth 100000 in
theorem gOk_85 : gC_85.all (gRow 85) = true := by decide +kernel
set_option maxRecDepth 100000 in
theorem gOk_86 : gC_86.all (gRow 86) = true := by decide +kernel
set_option maxRecDepth 100000 in
theorem gOk_87 : gC_87.all (gRow 87) = true := by decide +kernel
set_option maxRecDepth 100000 in
theorem gOk_88 : gC_88.all (gRow 88) = true := by decide +kernel
set_option maxRecDepth 100000 in
theorem gOk_89 : gC_89.all (gRow 89) = true := by decide +kernel
set_option maxRecDepth 100000 in
theorem gOk_90 : gC_90.all (gRow 90) = true := by decide +kernel
set_option maxRecDepth 100000 in
theorem gOk_91 : gC_91.all (gRow 91) = true := by decide +kernel
set_option maxRecDepth 100000 in
theorem gOk_92 : gC_92.all (gRow 92) = true := by decide +kernel
set_option maxRecDepth 100000 in
theorem gOk_93 : gC_93.all (gRow 93) = true := by decide +kernel
set_option maxRecDepth 100000 in
theorem gOk_94 : gC_94.all (gRow 94) = true := by decide +kernel
set_option maxRecDepth 100000 in
theorem gOk_95 : gC_95.all (gRow 95) = true := by decide +kernel
set_option maxRecDepth 100000 in
theorem gOk_96 : gC_96.all (gRow 96) = true := by decide +kernel
set_option maxRecDepth 100000 in
theorem gOk_97 : gC_97.all (gRow 97) = true := by decide +kernel
set_option maxRecDepth 100000 in
theorem gOk_98 : gC_98.all (gRow 98) = true := by decide +kernel
set_option maxRecDepth 100000 in
theorem gOk_99 : gC_99.all (gRow 99) = true := by decide +kernel
set_option maxRecDepth 100000 in
theorem gOk_100 : gC_100.all (gRow 100) = true := by decide +kernel
set_option maxRecDepth 100000 in
theorem gOk_101 : gC_101.all (gRow 101) = true := by decide +kernel
set_option maxRecDepth 100000 in
theorem gOk_102 : gC_102.all (gRow 102) = true := by decide +kernel
set_option maxRecDepth 100000 in
theorem gOk_103 : gC_103.all (gRow 103) = true := by decide +kernel
set_option maxRecDepth 100000 in
theorem gOk_104 : gC_104.all (gRow 104) = true := by decide +kernel
set_option maxRecDepth 100000 in
theorem gOk_105 : gC_105.all (gRow 105) = true := by decide +kernel
set_option maxRecDepth 100000 in
theorem gOk_106 : gC_106.all (gRow 106) = true := by decide +kernel
set_option maxRecDepth 100000 in
theorem gOk_107 : gC_107.all (gRow 107) = true := by decide +kernel
set_option maxRecDepth 100000 in
theorem gOk_108 : gC_108.all (gRow 108) = true := by decide +kernel
set_option maxRecDepth 100000 in
theorem gOk_109 : gC_109.all (gRow 109) = true := by decide +kernel
set_option maxRecDepth 100000 in
theorem gOk_110 : gC_110.all (gRow 110) = true := by decide +kernel
set_option maxRecDepth 100000 in
theorem gOk_111 : gC_111.all (gRow 111) = true := by decide +kernel
set_option maxRecDepth 100000 in
theorem gOk_112 : gC_112.all (gRow 112) = true := by decide +kernel
set_option maxRecDepth 100000 in
theorem gOk_113 : gC_113.all (gRow 113) = true := by decide +kernel
set_option maxRecDepth 100000 in
theorem gOk_114 : gC_114.all (gRow 114) = true := by decide +kernel
set_option maxRecDepth 100000 in
theorem gOk_115 : gC_115.all (gRow 115) = true := by decide +kernel
set_option maxRecDepth 100000 in
theorem gOk_116 : gC_116.all (gRow 116) = true := by decide +kernel
set_option maxRecDepth 100000 in
theorem gOk_117 : gC_117.all (gRow 117) = true := by decide +kernel
set_option maxRecDepth 100000 in
theorem gOk_118 : gC_118.all (gRow 118) = true := by decide +kernel
set_option maxRecDepth 100000 in
theorem gOk_119 : gC_119.all (gRow 119) = true := by decide +kernel
set_option maxRecDepth 100000 in
theorem gOk_120 : gC_120.all (gRow 120) = true := by decide +kernel
set_option maxRecDepth 100000 in
theorem gOk_121 : gC_121.all (gRow 121) = true := by decide +kernel
set_option maxRecDepth 100000 in
theorem gOk_122 : gC_122.all (gRow 122) = true := by decide +kernel
set_option maxRecDepth 100000 in
theorem gOk_123 : gC_123.all (gRow 123) = true := by decide +kernel
set_option maxRecDepth 100000 in
theorem gOk_124 : gC_124.all (gRow 124) = true := by decide +kernel
set_option maxRecDepth 100000 in
theorem gOk_125 : gC_125.all (gRow 125) = true := by decide +kernel
set_option maxRecDepth 100000 in
theorem gOk_126 : gC_126.all (gRow 126) = true := by decide +kernel
set_option maxRecDepth 100000 in
theorem gOk_127 : gC_127.all (gRow 127) = true := by decide +kernel
set_option maxRecDepth 100000 in
theorem gOk_128 : gC_128.all (gRow 128) = true := by decide +kernel
set_option maxRecDepth 100000 in
theorem gOk_129 : gC_129.all (gRow 129) = true := by decide +kernel
set_option maxRecDepth 100000 in
theorem gOk_130 : gC_130.all (gRow 130) = true := by decide +kernel
set_option maxRecDepth 100000 in
theorem gOk_131 : gC_131.all (gRow 131) = true := by decide +kernel
set_option maxRecDepth 100000 in
theorem gOk_132 : gC_132.all (gRow 132) = true := by decide +kernel
set_option maxRecDepth 100000 in
theorem gOk_133 : gC_133.all (gRow 133) = true := by decide +kernel
set_option maxRecDepth 100000 in
theorem gOk_134 : gC_134.all (gRow 134) = true := by decide +kernel
set_option maxRecDepth 100000 in
theorem gOk_135 : gC_135.all (gRow 135) = true := by decide +kernel
set_option maxRecDepth 100000 in
theorem gOk_136 : gC_136.all (gRow 136) = true := by decide +kernel
set_option maxRecDepth 100000 in
theorem gOk_137 : gC_137.all (gRow 137) = true := by decide +kernel
set_option maxRecDepth 100000 in
theorem gOk_138 : gC_138.all (gRow 138) = true := by decide +kernel
set_option maxRecDepth 100000 in
theorem gOk_139 : gC_139.all (gRow 139) = true := by decide +kernel
set_option maxRecDepth 100000 in
theorem gOk_140 : gC_140.all (gRow 140) = true := by decide +kernel
set_option maxRecDepth 100000 in
theorem gOk_141 : gC_141.all (gRow 141) = true := by decide +kernel
set_option maxRecDepth 100000 in
theorem gOk_142 : gC_142.all (gRow 142) = true := by decide +kernel
set_option maxRecDepth 100000 in
theorem gOk_143 : gC_143.all (gRow 143) = true := by decide +kernel
set_option maxRecDepth 100000 in
theorem gOk_144 : gC_144.all (gRow 144) = true := by decide +kernel
set_option maxRecDepth 100000 in
theorem gOk_145 : gC_145.all (gRow 145) = true := by decide +kernel
set_option maxRecDepth 100000 in
theorem gOk_146 : gC_146.all (gRow 146) = true := by decide +kernel
set_option maxRecDepth 100000 in
theorem gOk_147 : gC_147.all (gRow 147) = true := by decide +kernel
set_option maxRecDepth 100000 in
theorem gOk_148 : gC_148.all (gRow 148) = true := by decide +kernel
set_option maxRecDepth 100000 in
theorem gOk_149 : gC_149.all (gRow 149) = true := by decide +kernel
set_option maxRecDepth 100000 in
theorem gOk_150 : gC_150.all (gRow 150) = true := by decide +kernel
set_option maxRecDepth 100000 in
theorem gOk_151 : gC_151.all (gRow 151) = true := by decide +kernel
set_option maxRecDepth 100000 in
theorem gOk_152 : gC_152.all (gRow 152) = true := by decide +kernel
set_option maxRecDepth 100000 in
theorem gOk_153 : gC_153.all (gRow 153) = true := by decide +kernel
set_option maxRecDepth 100000 in
theorem gOk_154 : gC_154.all (gRow 154) = true := by decide +kernel
set_option maxRecDepth 100000 in
theorem gOk_155 : gC_155.all (gRow 155) = true := by decide +kernel
set_option maxRecDepth 100000 in
theorem gOk_156 : gC_156.all (gRow 156) = true := by decide +kernel
set_option maxRecDepth 100000 in
theorem gOk_157 : gC_157.all (gRow 157) = true := by decide +kernel
set_option maxRecDepth 100000 in
theorem gOk_158 : gC_158.all (gRow 158) = true := by decide +kernel
set_option maxRecDepth 100000 in
theorem gOk_159 : gC_159.all (gRow 159) = true := by decide +kernel
set_option maxRecDepth 100000 in
theorem gOk_160 : gC_160.all (gRow 160) = true := by decide +kernel
set_option maxRecDepth 100000 in
theorem gOk_161 : gC_161.all (gRow 161) = true := by decide +kernel
set_option maxRecDepth 100000 in
theorem gOk_162 : gC_162.all (gRow 162) = true := by decide +kernel
set_option maxRecDepth 100000 in
theorem gOk_163 : gC_163.all (gRow 163) = true := by decide +kernel
set_option maxRecDepth 100000 in
theorem gOk_164 : gC_164.all (gRow 164) = true := by decide +kernel
set_option maxRecDepth 100000 in
theorem gOkM_165_0 : gC_165_0.all (gRow 165) = true := by decide +kernel
set_option maxRecDepth 100000 in
theorem gOkM_165_1 : gC_165_1.all (gRow 165) = true := by decide +kernel
set_option maxRecDepth 100000 in
theorem gOkM_165_2 : gC_165_2.all (gRow 165) = true := by decide +kernel
theorem gOk_165 : gC_165.all (gRow 165) = true := by
  unfold gC_165
  simp only [List.all_append, Bool.and_eq_true]
  exact ⟨gOkM_165_0, ⟨gOkM_165_1, gOkM_165_2⟩⟩
set_option maxRecDepth 100000 in
theorem gOkL_0_0 : ((gC_166_0.drop 0).take 10).all (gRow 166) = true := by decide +kernel
set_option maxRecDepth 100000 in
theorem gOkL_0_1 : ((gC_166_0.drop 10).take 10).all (gRow 166) = true := by decide +kernel
set_option maxRecDepth 100000 in
theorem gOkL_0_2 : ((gC_166_0.drop 20).take 10).all (gRow 166) = true := by decide +kernel
set_option maxRecDepth 100000 in
theorem gOkL_0_3 : ((gC_166_0.drop 30).take 10).all (gRow 166) = true := by decide +kernel
set_option maxRecDepth 100000 in
theorem gOkL_0_4 : ((gC_166_0.drop 40).take 10).all (gRow 166) = true := by decide +kernel
set_option maxRecDepth 100000 in
theorem gOkL_0_5 : ((gC_166_0.drop 50).take 10).all (gRow 166) = true := by decide +kernel
set_option maxRecDepth 100000 in
theorem gOkL_0_6 : ((gC_166_0.drop 60).take 10).all (gRow 166) = true := by decide +kernel
set_option maxRecDepth 100000 in
theorem gOkL_0_7 : ((gC_166_0.drop 70).take 10).all (gRow 166) = true := by decide +kernel
set_option maxRecDepth 100000 in
theorem gOkL_0_8 : ((gC_166_0.drop 80).take 10).all (gRow 166) = true := by decide +kernel
set_option maxRecDepth 100000 in
theorem gOkL_0_9 : ((gC_166_0.drop 90).take 10).all (gRow 166) = true := by decide +kernel
theorem gOkL_0 : gC_166_0.all (gRow 166) = true := g_ten 10 (by decide +kernel) (fun j hj => by
  match j, hj with
  | 0, _ => exact gOkL_0_0
  | 1, _ => exact gOkL_0_1
  | 2, _ => exact gOkL_0_2
  | 3, _ => exact gOkL_0_3
  | 4, _ => exact gOkL_0_4
  | 5, _ => exact gOkL_0_5
  | 6, _ => exact gOkL_0_6
  | 7, _ => exact gOkL_0_7
  | 8, _ => exact gOkL_0_8
  | 9, _ => exact gOkL_0_9
  | j + 10, hj => exact absurd hj (by omega))
set_option maxRecDepth 100000 in
theorem gOkL_1_0 : ((gC_166_1.drop 0).take 10).all (gRow 166) = true := by decide +kernel
set_option maxRecDepth 100000 in
theorem gOkL_1_1 : ((gC_166_1.drop 10).take 10).all (gRow 166) = true := by decide +kernel
set_option maxRecDepth 100000 in
theorem gOkL_1_2 : ((gC_166_1.drop 20).take 10).all (gRow 166) = true := by decide +kernel
set_option maxRecDepth 100000 in
theorem gOkL_1_3 : ((gC_166_1.drop 30).take 10).all (gRow 166) = true := by decide +kernel
set_option maxRecDepth 100000 in
theorem gOkL_1_4 : ((gC_166_1.drop 40).take 10).all (gRow 166) = true := by decide +kernel
set_option maxRecDepth 100000 in
theorem gOkL_1_5 : ((gC_166_1.drop 50).take 10).all (gRow 166) = true := by decide +kernel
set_option maxRecDepth 100000 in
theorem gOkL_1_6 : ((gC_166_1.drop 60).take 10).all (gRow 166) = true := by decide +kernel
set_option maxRecDepth 100000 in
theorem gOkL_1_7 : ((gC_166_1.drop 70).take 10).all (gRow 166) = true := by decide +kernel
set_option maxRecDepth 100000 in
theorem gOkL_1_8 : ((gC_166_1.drop 80).take 10).all (gRow 166) = true := by decide +kernel
set_option maxRecDepth 100000 in
theorem gOkL_1_9 : ((gC_166_1.drop 90).take 10).all (gRow 166) = true := by decide +kernel
theorem gOkL_1 : gC_166_1.all (gRow 166) = true := g_ten 10 (by decide +kernel) (fun j hj => by
  match j, hj with
  | 0, _ => exact gOkL_1_0
  | 1, _ => exact gOkL_1_1
  | 2, _ => exact gOkL_1_2
  | 3, _ => exact gOkL_1_3
  | 4, _ => exact gOkL_1_4
  | 5, _ => exact gOkL_1_5
  | 6, _ => exact gOkL_1_6
  | 7, _ => exact gOkL_1_7
  | 8, _ => exact gOkL_1_8
  | 9, _ => exact gOkL_1_9
  | j + 10, hj => exact absurd hj (by omega))
set_option maxRecDepth 100000 in
theorem gOkL_2_0 : ((gC_166_2.drop 0).take 10).all (gRow 166) = true := by decide +kernel
set_option maxRecDepth 100000 in
theorem gOkL_2_1 : ((gC_166_2.drop 10).take 10).all (gRow 166) = true := by decide +kernel
set_option maxRecDepth 100000 in
theorem gOkL_2_2 : ((gC_166_2.drop 20).take 10).all (gRow 166) = true := by decide +kernel
set_option maxRecDepth 100000 in
theorem gOkL_2_3 : ((gC_166_2.drop 30).take 10).all (gRow 166) = true := by decide +kernel
set_option maxRecDepth 100000 in
theorem gOkL_2_4 : ((gC_166_2.drop 40).take 10).all (gRow 166) = true := by decide +kernel
set_option maxRecDepth 100000 in
theorem gOkL_2_5 : ((gC_166_2.drop 50).take 10).all (gRow 166) = true := by decide +kernel
set_option maxRecDepth 100000 in
theorem gOkL_2_6 : ((gC_166_2.drop 60).take 10).all (gRow 166) = true := by decide +kernel
set_option maxRecDepth 100000 in
theorem gOkL_2_7 : ((gC_166_2.drop 70).take 10).all (gRow 166) = true := by decide +kernel
set_option maxRecDepth 100000 in
theorem gOkL_2_8 : ((gC_166_2.drop 80).take 10).all (gRow 166) = true := by decide +kernel
set_option maxRecDepth 100000 in
theorem gOkL_2_9 : ((gC_166_2.drop 90).take 10).all (gRow 166) = true := by decide +kernel
theorem gOkL_2 : gC_166_2.all (gRow 166) = true := g_ten 10 (by decide +kernel) (fun j hj => by
  match j, hj with
  | 0, _ => exact gOkL_2_0
  | 1, _ => exact gOkL_2_1
  | 2, _ => exact gOkL_2_2
  | 3, _ => exact gOkL_2_3
  | 4, _ => exact gOkL_2_4
  | 5, _ => exact gOkL_2_5
  | 6, _ => exact gOkL_2_6
  | 7, _ => exact gOkL_2_7
  | 8, _ => exact gOkL_2_8
  | 9, _ => exact gOkL_2_9
  | j + 10, hj => exact absurd hj (by omega))
set_option maxRecDepth 100000 in
theorem gOkL_3_0 : ((gC_166_3.drop 0).take 10).all (gRow 166) = true := by decide +kernel
set_option maxRecDepth 100000 in
theorem gOkL_3_1 : ((gC_166_3.drop 10).take 10).all (gRow 166) = true := by decide +kernel
set_option maxRecDepth 100000 in
theorem gOkL_3_2 : ((gC_166_3.drop 20).take 10).all (gRow 166) = true := by decide +kernel
set_option maxRecDepth 100000 in
theorem gOkL_3_3 : ((gC_166_3.drop 30).take 10).all (gRow 166) = true := by decide +kernel
theorem gOkL_3 : gC_166_3.all (gRow 166) = true := g_ten 4 (by decide +kernel) (fun j hj => by
  match j, hj with
  | 0, _ => exact gOkL_3_0
  | 1, _ => exact gOkL_3_1
  | 2, _ => exact gOkL_3_2
  | 3, _ => exact gOkL_3_3
  | j + 4, hj => exact absurd hj (by omega))
