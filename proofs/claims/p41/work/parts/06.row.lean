/-! every row of every method is checked -/
theorem gOkL : gC_166.all (gRow 166) = true := by
  unfold gC_166
  simp only [List.all_append, Bool.and_eq_true]
  exact ⟨gOkL_0, ⟨gOkL_1, ⟨gOkL_2, gOkL_3⟩⟩⟩
theorem g_one {k : Nat} {t u : List (Nat × gR)} (h : gCode[k]? = some u) (ht : gCode[k]? = some t) (hu : u.all (gRow k) = true) : t.all (gRow k) = true := by
  rw [h] at ht
  cases ht
  exact hu
theorem g_all {k : Nat} {t : List (Nat × gR)} (ht : gCode[k]? = some t) : t.all (gRow k) = true := by
  match k, ht with
  | 0, ht => exact g_one rfl ht gOk_0
  | 1, ht => exact g_one rfl ht gOk_1
  | 2, ht => exact g_one rfl ht gOk_2
  | 3, ht => exact g_one rfl ht gOk_3
  | 4, ht => exact g_one rfl ht gOk_4
  | 5, ht => exact g_one rfl ht gOk_5
  | 6, ht => exact g_one rfl ht gOk_6
  | 7, ht => exact g_one rfl ht gOk_7
  | 8, ht => exact g_one rfl ht gOk_8
  | 9, ht => exact g_one rfl ht gOk_9
  | 10, ht => exact g_one rfl ht gOk_10
  | 11, ht => exact g_one rfl ht gOk_11
  | 12, ht => exact g_one rfl ht gOk_12
  | 13, ht => exact g_one rfl ht gOk_13
  | 14, ht => exact g_one rfl ht gOk_14
  | 15, ht => exact g_one rfl ht gOk_15
  | 16, ht => exact g_one rfl ht gOk_16
  | 17, ht => exact g_one rfl ht gOk_17
  | 18, ht => exact g_one rfl ht gOk_18
  | 19, ht => exact g_one rfl ht gOk_19
  | 20, ht => exact g_one rfl ht gOk_20
  | 21, ht => exact g_one rfl ht gOk_21
  | 22, ht => exact g_one rfl ht gOk_22
  | 23, ht => exact g_one rfl ht gOk_23
  | 24, ht => exact g_one rfl ht gOk_24
  | 25, ht => exact g_one rfl ht gOk_25
  | 26, ht => exact g_one rfl ht gOk_26
  | 27, ht => exact g_one rfl ht gOk_27
  | 28, ht => exact g_one rfl ht gOk_28
  | 29, ht => exact g_one rfl ht gOk_29
  | 30, ht => exact g_one rfl ht gOk_30
  | 31, ht => exact g_one rfl ht gOk_31
  | 32, ht => exact g_one rfl ht gOk_32
  | 33, ht => exact g_one rfl ht gOk_33
  | 34, ht => exact g_one rfl ht gOk_34
  | 35, ht => exact g_one rfl ht gOk_35
  | 36, ht => exact g_one rfl ht gOk_36
  | 37, ht => exact g_one rfl ht gOk_37
  | 38, ht => exact g_one rfl ht gOk_38
  | 39, ht => exact g_one rfl ht gOk_39
  | 40, ht => exact g_one rfl ht gOk_40
  | 41, ht => exact g_one rfl ht gOk_41
  | 42, ht => exact g_one rfl ht gOk_42
  | 43, ht => exact g_one rfl ht gOk_43
  | 44, ht => exact g_one rfl ht gOk_44
  | 45, ht => exact g_one rfl ht gOk_45
  | 46, ht => exact g_one rfl ht gOk_46
  | 47, ht => exact g_one rfl ht gOk_47
  | 48, ht => exact g_one rfl ht gOk_48
  | 49, ht => exact g_one rfl ht gOk_49
  | 50, ht => exact g_one rfl ht gOk_50
  | 51, ht => exact g_one rfl ht gOk_51
  | 52, ht => exact g_one rfl ht gOk_52
  | 53, ht => exact g_one rfl ht gOk_53
  | 54, ht => exact g_one rfl ht gOk_54
  | 55, ht => exact g_one rfl ht gOk_55
  | 56, ht => exact g_one rfl ht gOk_56
  | 57, ht => exact g_one rfl ht gOk_57
  | 58, ht => exact g_one rfl ht gOk_58
  | 59, ht => exact g_one rfl ht gOk_59
  | 60, ht => exact g_one rfl ht gOk_60
  | 61, ht => exact g_one rfl ht gOk_61
  | 62, ht => exact g_one rfl ht gOk_62
  | 63, ht => exact g_one rfl ht gOk_63
  | 64, ht => exact g_one rfl ht gOk_64
  | 65, ht => exact g_one rfl ht gOk_65
  | 66, ht => exact g_one rfl ht gOk_66
  | 67, ht => exact g_one rfl ht gOk_67
  | 68, ht => exact g_one rfl ht gOk_68
  | 69, ht => exact g_one rfl ht gOk_69
  | 70, ht => exact g_one rfl ht gOk_70
  | 71, ht => exact g_one rfl ht gOk_71
  | 72, ht => exact g_one rfl ht gOk_72
  | 73, ht => exact g_one rfl ht gOk_73
  | 74, ht => exact g_one rfl ht gOk_74
  | 75, ht => exact g_one rfl ht gOk_75
  | 76, ht => exact g_one rfl ht gOk_76
  | 77, ht => exact g_one rfl ht gOk_77
  | 78, ht => exact g_one rfl ht gOk_78
  | 79, ht => exact g_one rfl ht gOk_79
  | 80, ht => exact g_one rfl ht gOk_80
  | 81, ht => exact g_one rfl ht gOk_81
  | 82, ht => exact g_one rfl ht gOk_82
  | 83, ht => exact g_one rfl ht gOk_83
  | 84, ht => exact g_one rfl ht gOk_84
  | 85, ht => exact g_one rfl ht gOk_85
  | 86, ht => exact g_one rfl ht gOk_86
  | 87, ht => exact g_one rfl ht gOk_87
  | 88, ht => exact g_one rfl ht gOk_88
  | 89, ht => exact g_one rfl ht gOk_89
  | 90, ht => exact g_one rfl ht gOk_90
  | 91, ht => exact g_one rfl ht gOk_91
  | 92, ht => exact g_one rfl ht gOk_92
  | 93, ht => exact g_one rfl ht gOk_93
  | 94, ht => exact g_one rfl ht gOk_94
  | 95, ht => exact g_one rfl ht gOk_95
  | 96, ht => exact g_one rfl ht gOk_96
  | 97, ht => exact g_one rfl ht gOk_97
  | 98, ht => exact g_one rfl ht gOk_98
  | 99, ht => exact g_one rfl ht gOk_99
  | 100, ht => exact g_one rfl ht gOk_100
  | 101, ht => exact g_one rfl ht gOk_101
  | 102, ht => exact g_one rfl ht gOk_102
  | 103, ht => exact g_one rfl ht gOk_103
  | 104, ht => exact g_one rfl ht gOk_104
  | 105, ht => exact g_one rfl ht gOk_105
  | 106, ht => exact g_one rfl ht gOk_106
  | 107, ht => exact g_one rfl ht gOk_107
  | 108, ht => exact g_one rfl ht gOk_108
  | 109, ht => exact g_one rfl ht gOk_109
  | 110, ht => exact g_one rfl ht gOk_110
  | 111, ht => exact g_one rfl ht gOk_111
  | 112, ht => exact g_one rfl ht gOk_112
  | 113, ht => exact g_one rfl ht gOk_113
  | 114, ht => exact g_one rfl ht gOk_114
  | 115, ht => exact g_one rfl ht gOk_115
  | 116, ht => exact g_one rfl ht gOk_116
  | 117, ht => exact g_one rfl ht gOk_117
  | 118, ht => exact g_one rfl ht gOk_118
  | 119, ht => exact g_one rfl ht gOk_119
  | 120, ht => exact g_one rfl ht gOk_120
  | 121, ht => exact g_one rfl ht gOk_121
  | 122, ht => exact g_one rfl ht gOk_122
  | 123, ht => exact g_one rfl ht gOk_123
  | 124, ht => exact g_one rfl ht gOk_124
  | 125, ht => exact g_one rfl ht gOk_125
  | 126, ht => exact g_one rfl ht gOk_126
  | 127, ht => exact g_one rfl ht gOk_127
  | 128, ht => exact g_one rfl ht gOk_128
  | 129, ht => exact g_one rfl ht gOk_129
  | 130, ht => exact g_one rfl ht gOk_130
  | 131, ht => exact g_one rfl ht gOk_131
  | 132, ht => exact g_one rfl ht gOk_132
  | 133, ht => exact g_one rfl ht gOk_133
  | 134, ht => exact g_one rfl ht gOk_134
  | 135, ht => exact g_one rfl ht gOk_135
  | 136, ht => exact g_one rfl ht gOk_136
  | 137, ht => exact g_one rfl ht gOk_137
  | 138, ht => exact g_one rfl ht gOk_138
  | 139, ht => exact g_one rfl ht gOk_139
  | 140, ht => exact g_one rfl ht gOk_140
  | 141, ht => exact g_one rfl ht gOk_141
  | 142, ht => exact g_one rfl ht gOk_142
  | 143, ht => exact g_one rfl ht gOk_143
  | 144, ht => exact g_one rfl ht gOk_144
  | 145, ht => exact g_one rfl ht gOk_145
  | 146, ht => exact g_one rfl ht gOk_146
  | 147, ht => exact g_one rfl ht gOk_147
  | 148, ht => exact g_one rfl ht gOk_148
  | 149, ht => exact g_one rfl ht gOk_149
  | 150, ht => exact g_one rfl ht gOk_150
  | 151, ht => exact g_one rfl ht gOk_151
  | 152, ht => exact g_one rfl ht gOk_152
  | 153, ht => exact g_one rfl ht gOk_153
  | 154, ht => exact g_one rfl ht gOk_154
  | 155, ht => exact g_one rfl ht gOk_155
  | 156, ht => exact g_one rfl ht gOk_156
  | 157, ht => exact g_one rfl ht gOk_157
  | 158, ht => exact g_one rfl ht gOk_158
  | 159, ht => exact g_one rfl ht gOk_159
  | 160, ht => exact g_one rfl ht gOk_160
  | 161, ht => exact g_one rfl ht gOk_161
  | 162, ht => exact g_one rfl ht gOk_162
  | 163, ht => exact g_one rfl ht gOk_163
  | 164, ht => exact g_one rfl ht gOk_164
  | 165, ht => exact g_one rfl ht gOk_165
  | 166, ht => exact g_one rfl ht gOkL
  | k + 167, ht =>
    have h1 := (List.getElem?_eq_some_iff.mp ht).1
    have h2 : gCode.length = 167 := rfl
    omega
theorem g_lk {t : List (Nat × gR)} {pc : Nat} {r : gR} (h : gLk t pc = some r) : (pc, r) ∈ t := by
  induction t with
  | nil => cases h
  | cons q t ih =>
    obtain ⟨q1, q2⟩ := q
    unfold gLk at h
    split at h
    · rename_i e
      cases h
      rw [e]
      exact List.mem_cons_self
    · exact List.mem_cons_of_mem _ (ih h)
/-- what each row says -/
theorem g_row {k pc : Nat} {r : gR} (h : gAt k pc = some r) : decode (mBy k) pc = .ok (r.1, gLen r.1) ∧ gChk k pc r = true := by
  unfold gAt at h
  split at h
  · rename_i t ht
    have h1 := List.all_eq_true.mp (g_all ht) _ (g_lk h)
    unfold gRow at h1
    simp only [Bool.and_eq_true, decide_eq_true_eq] at h1
    exact ⟨by rw [← h1.1.2]; exact h1.1.1, h1.2⟩
  · cases h
/-- what is checked of a method: its words, its descriptor -/
def gMok (k : Nat) : Bool :=
  decide (lw_tbl[(mPos k).1]? = some (match mHh k with | [] => .code (mY k) (mBy k) (mML k) (mRt k) | h => .codeWith (mY k) (mBy k) (mML k) (mRt k) h)) &&
  decide (lw_tbl[(mPos k).2.1]? = some (.initialized (mY k).cls)) &&
  (if mSta k then decide (lw_tbl[(mPos k).2.2.1]? = some (.static (mY k))) else
    decide (lw_tbl[(mPos k).2.2.1]? = some (.instanceMethod (mY k))) && decide (lw_tbl[(mPos k).2.2.2]? = some (.selects (mY k).cls (mY k) (mY k))) && decide ((gCl[mCi k]?).map (fun q => q.1) = some (mY k).cls)) &&
  decide ((mY k).cls ≠ "java/lang/invoke/MethodHandle" ∧ (mY k).cls ≠ "java/lang/invoke/VarHandle" ∧ (parseMethodDescriptor (mY k).desc).map (fun d => d.parameters.length) = some (mNp k)) &&
  plainName (mY k).cls
set_option maxRecDepth 100000 in
theorem gMok_0 : ((List.range 18).all fun i => gMok (0 + i)) = true := by decide +kernel
set_option maxRecDepth 100000 in
theorem gMok_18 : ((List.range 18).all fun i => gMok (18 + i)) = true := by decide +kernel
set_option maxRecDepth 100000 in
theorem gMok_36 : ((List.range 18).all fun i => gMok (36 + i)) = true := by decide +kernel
set_option maxRecDepth 100000 in
theorem gMok_54 : ((List.range 18).all fun i => gMok (54 + i)) = true := by decide +kernel
set_option maxRecDepth 100000 in
theorem gMok_72 : ((List.range 18).all fun i => gMok (72 + i)) = true := by decide +kernel
set_option maxRecDepth 100000 in
theorem gMok_90 : ((List.range 18).all fun i => gMok (90 + i)) = true := by decide +kernel
set_option maxRecDepth 100000 in
theorem gMok_108 : ((List.range 18).all fun i => gMok (108 + i)) = true := by decide +kernel
set_option maxRecDepth 100000 in
theorem gMok_126 : ((List.range 18).all fun i => gMok (126 + i)) = true := by decide +kernel
set_option maxRecDepth 100000 in
theorem gMok_144 : ((List.range 18).all fun i => gMok (144 + i)) = true := by decide +kernel
set_option maxRecDepth 100000 in
theorem gMok_162 : ((List.range 4).all fun i => gMok (162 + i)) = true := by decide +kernel
theorem g_mok {k : Nat} (hk : k < 166) : gMok k = true := by
  have key : ∀ a n, ((List.range n).all fun i => gMok (a + i)) = true → a ≤ k → k < a + n → gMok k = true := fun a n h h1 h2 => by
    have h3 := List.all_eq_true.mp h (k - a) (List.mem_range.mpr (by omega))
    rwa [show a + (k - a) = k by omega] at h3
  rcases Nat.lt_or_ge k 18 with h | h
  · exact key 0 18 gMok_0 (by omega) (by omega)
  rcases Nat.lt_or_ge k 36 with h | h
  · exact key 18 18 gMok_18 (by omega) (by omega)
  rcases Nat.lt_or_ge k 54 with h | h
  · exact key 36 18 gMok_36 (by omega) (by omega)
  rcases Nat.lt_or_ge k 72 with h | h
  · exact key 54 18 gMok_54 (by omega) (by omega)
  rcases Nat.lt_or_ge k 90 with h | h
  · exact key 72 18 gMok_72 (by omega) (by omega)
  rcases Nat.lt_or_ge k 108 with h | h
  · exact key 90 18 gMok_90 (by omega) (by omega)
  rcases Nat.lt_or_ge k 126 with h | h
  · exact key 108 18 gMok_108 (by omega) (by omega)
  rcases Nat.lt_or_ge k 144 with h | h
  · exact key 126 18 gMok_126 (by omega) (by omega)
  rcases Nat.lt_or_ge k 162 with h | h
  · exact key 144 18 gMok_144 (by omega) (by omega)
  rcases Nat.lt_or_ge k 166 with h | h
  · exact key 162 4 gMok_162 (by omega) (by omega)
  omega
/-- the words of the four methods of Math -/
theorem gMa : ∀ w ∈ ([.static Lib.Math.max.name, .static Lib.Math.min.name, .static Lib.Math.abs.name, .static Lib.MathLoose.min_long.x, .initialized "java/lang/Math", .code Lib.Math.max.name Lib.Math.max.code 2 (some .int), .code Lib.Math.min.name Lib.Math.min.code 2 (some .int), .code Lib.Math.abs.name Lib.Math.abs.code 1 (some .int), .code Lib.MathLoose.min_long.x Lib.MathLoose.min_long.code 4 (some .long)] : List Cond), w ∈ tables_1 ∧ goodWord w = true := by decide +kernel
