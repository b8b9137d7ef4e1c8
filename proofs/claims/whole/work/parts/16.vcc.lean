/-! WHAT EACH METHOD OWES (methods 120 to 179), from its entry and from each head of a loop; written by wip/whole/vcgen.py -/
/-! GlyphmillLaw.widthOf -/
theorem gT_120 : gCode[120]? = some gC_120 := rfl
set_option maxRecDepth 20000 in
theorem vc_120 {μ : gMu} {x1 : Int32} {P : gMu → gRes → Prop} (h : gCl' 119 [.ref 0, .int x1] μ (fun μ1 r => (∃ v2, r = .inl (some (.int v2)) ∧ ((vp_in (0 : Int32) 1) ∧ (P (gsJ μ1 64 ((0 : Int32).toNatClampNeg) v2.toInt64) (.inl (some (.int (0 : Int32))))))) ∨ (r = .inr 1 ∧ (P μ1 (.inl (some (.int (1 : Int32)))))) ∨ (r = .inr 2 ∧ (P μ1 (.inl (some (.int (2 : Int32)))))))) : gWp none 120 (0, [some (.ref 0), some (.int x1), some (.ref 64), none], [], μ) 0 P := by
  refine gWp_sts gT_120 4 (f' := (4, [some (.ref 0), some (.int x1), some (.ref 64), none], [.int x1, .ref 0, .int (0 : Int32), .ref 64], μ)) (cs := []) rfl trivial ?_
  refine gWp_virt gT_120 (pc := 4) (q := 0) (as := [.ref 0, .int x1]) (rest := [.int (0 : Int32), .ref 64]) rfl rfl rfl rfl rfl rfl ⟨by decide, Nat.le_of_ble_eq_true rfl, by decide, Nat.le_of_ble_eq_true rfl⟩ (gWp_imp h (fun μ1 r h => ?_))
  rcases h with h | h | h
  · obtain ⟨v2, rfl, h⟩ := h
    refine Or.inl ⟨_, rfl, ?_⟩
    show gWp none 120 (7, [some (.ref 0), some (.int x1), some (.ref 64), none], [.int v2, .int (0 : Int32), .ref 64], μ1) _ P
    obtain ⟨c1, h⟩ := h
    refine gWp_sts gT_120 4 (f' := (19, [some (.ref 0), some (.int x1), some (.ref 64), none], [.int (0 : Int32)], (gsJ μ1 64 ((0 : Int32).toNatClampNeg) v2.toInt64))) (cs := [vp_in (0 : Int32) 1]) rfl c1 ?_
    exact gWp_end gT_120 rfl (gEnd_int trivial) h
  · obtain ⟨rfl, h⟩ := h
    refine Or.inr (Or.inr ⟨1, 0, _, _, _, rfl, rfl, rfl, rfl, Or.inl ⟨_, rfl, rfl⟩, ?_⟩)
    refine gWp_sts gT_120 1 (f' := (14, [some (.ref 0), some (.int x1), some (.ref 64), none], [.int (1 : Int32)], μ1)) (cs := []) rfl trivial ?_
    exact gWp_end gT_120 rfl (gEnd_int trivial) h
  · obtain ⟨rfl, h⟩ := h
    refine Or.inr (Or.inr ⟨2, 1, _, _, _, rfl, rfl, rfl, rfl, Or.inl ⟨_, rfl, rfl⟩, ?_⟩)
    refine gWp_sts gT_120 1 (f' := (17, [some (.ref 0), some (.int x1), some (.ref 64), none], [.int (2 : Int32)], μ1)) (cs := []) rfl trivial ?_
    exact gWp_end gT_120 rfl (gEnd_int trivial) h
/-! Glyphmill.badnessOf -/
theorem gT_121 : gCode[121]? = some gC_121 := rfl
set_option maxRecDepth 20000 in
theorem vc_121 {μ : gMu} {x1 : Int32} {P : gMu → gRes → Prop} (h : gCl' 62 [.ref 0] μ (fun μ1 r => (r = .inl none ∧ (gCl' 113 [.ref 0, .int x1] μ1 (fun μ2 r => (r = .inl none ∧ ((vp_in x1 51) ∧ ((vp_in (x1 + (1 : Int32)) 51) ∧ (gCl' 31 [.ref 32, .int (gI μ2 37 x1.toNatClampNeg), .int (gI μ2 37 ((x1 + (1 : Int32)).toNatClampNeg))] μ2 (fun μ3 r => (∃ v4, r = .inl (some (.int v4)) ∧ (P μ3 (.inl (some (.int v4)))))))))) ∨ (∃ y, r = .inr y ∧ P μ2 (.inr y))))))) : gWp none 121 (0, [some (.ref 0), some (.int x1)], [], μ) 0 P := by
  refine gWp_sts gT_121 1 (f' := (1, [some (.ref 0), some (.int x1)], [.ref 0], μ)) (cs := []) rfl trivial ?_
  refine gWp_virt gT_121 (pc := 1) (q := 0) (as := [.ref 0]) (rest := []) rfl rfl rfl rfl rfl rfl ⟨by decide, Nat.le_of_ble_eq_true rfl, by decide, Nat.le_of_ble_eq_true rfl⟩ (gWp_imp h (fun μ1 r h => ?_))
  obtain ⟨rfl, h⟩ := h
  refine Or.inl ⟨_, rfl, ?_⟩
  show gWp none 121 (4, [some (.ref 0), some (.int x1)], [], μ1) _ P
  refine gWp_sts gT_121 2 (f' := (6, [some (.ref 0), some (.int x1)], [.int x1, .ref 0], μ1)) (cs := []) rfl trivial ?_
  refine gWp_virt gT_121 (pc := 6) (q := 0) (as := [.ref 0, .int x1]) (rest := []) rfl rfl rfl rfl rfl rfl ⟨by decide, Nat.le_of_ble_eq_true rfl, by decide, Nat.le_of_ble_eq_true rfl⟩ (gWp_imp h (fun μ2 r h => ?_))
  rcases h with h | h
  · obtain ⟨rfl, h⟩ := h
    refine Or.inl ⟨_, rfl, ?_⟩
    show gWp none 121 (9, [some (.ref 0), some (.int x1)], [], μ2) _ P
    obtain ⟨c1, c2, h⟩ := h
    refine gWp_sts gT_121 14 (f' := (33, [some (.ref 0), some (.int x1)], [.int (gI μ2 37 ((x1 + (1 : Int32)).toNatClampNeg)), .int (gI μ2 37 x1.toNatClampNeg), .ref 32], μ2)) (cs := [vp_in x1 51, vp_in (x1 + (1 : Int32)) 51]) rfl ⟨c1, c2⟩ ?_
    refine gWp_virt gT_121 (pc := 33) (q := 32) (as := [.ref 32, .int (gI μ2 37 x1.toNatClampNeg), .int (gI μ2 37 ((x1 + (1 : Int32)).toNatClampNeg))]) (rest := []) rfl rfl rfl rfl rfl rfl ⟨by decide, Nat.le_of_ble_eq_true rfl, by decide, Nat.le_of_ble_eq_true rfl⟩ (gWp_imp h (fun μ3 r h => ?_))
    obtain ⟨v4, rfl, h⟩ := h
    refine Or.inl ⟨_, rfl, ?_⟩
    show gWp none 121 (36, [some (.ref 0), some (.int x1)], [.int v4], μ3) _ P
    exact gWp_end gT_121 rfl (gEnd_int trivial) h
  · obtain ⟨y, rfl, h⟩ := h
    exact Or.inr (Or.inl ⟨y, rfl, rfl, h⟩)
/-! GlyphmillLaw.badnessOf -/
theorem gT_122 : gCode[122]? = some gC_122 := rfl
set_option maxRecDepth 20000 in
theorem vc_122 {μ : gMu} {x1 : Int32} {P : gMu → gRes → Prop} (h : gCl' 121 [.ref 0, .int x1] μ (fun μ1 r => (∃ v2, r = .inl (some (.int v2)) ∧ ((vp_in (0 : Int32) 1) ∧ (P (gsJ μ1 64 ((0 : Int32).toNatClampNeg) v2.toInt64) (.inl (some (.int (0 : Int32))))))) ∨ (r = .inr 1 ∧ (P μ1 (.inl (some (.int (1 : Int32)))))) ∨ (r = .inr 2 ∧ (P μ1 (.inl (some (.int (2 : Int32)))))))) : gWp none 122 (0, [some (.ref 0), some (.int x1), some (.ref 64), none], [], μ) 0 P := by
  refine gWp_sts gT_122 4 (f' := (4, [some (.ref 0), some (.int x1), some (.ref 64), none], [.int x1, .ref 0, .int (0 : Int32), .ref 64], μ)) (cs := []) rfl trivial ?_
  refine gWp_virt gT_122 (pc := 4) (q := 0) (as := [.ref 0, .int x1]) (rest := [.int (0 : Int32), .ref 64]) rfl rfl rfl rfl rfl rfl ⟨by decide, Nat.le_of_ble_eq_true rfl, by decide, Nat.le_of_ble_eq_true rfl⟩ (gWp_imp h (fun μ1 r h => ?_))
  rcases h with h | h | h
  · obtain ⟨v2, rfl, h⟩ := h
    refine Or.inl ⟨_, rfl, ?_⟩
    show gWp none 122 (7, [some (.ref 0), some (.int x1), some (.ref 64), none], [.int v2, .int (0 : Int32), .ref 64], μ1) _ P
    obtain ⟨c1, h⟩ := h
    refine gWp_sts gT_122 4 (f' := (19, [some (.ref 0), some (.int x1), some (.ref 64), none], [.int (0 : Int32)], (gsJ μ1 64 ((0 : Int32).toNatClampNeg) v2.toInt64))) (cs := [vp_in (0 : Int32) 1]) rfl c1 ?_
    exact gWp_end gT_122 rfl (gEnd_int trivial) h
  · obtain ⟨rfl, h⟩ := h
    refine Or.inr (Or.inr ⟨1, 0, _, _, _, rfl, rfl, rfl, rfl, Or.inl ⟨_, rfl, rfl⟩, ?_⟩)
    refine gWp_sts gT_122 1 (f' := (14, [some (.ref 0), some (.int x1), some (.ref 64), none], [.int (1 : Int32)], μ1)) (cs := []) rfl trivial ?_
    exact gWp_end gT_122 rfl (gEnd_int trivial) h
  · obtain ⟨rfl, h⟩ := h
    refine Or.inr (Or.inr ⟨2, 1, _, _, _, rfl, rfl, rfl, rfl, Or.inl ⟨_, rfl, rfl⟩, ?_⟩)
    refine gWp_sts gT_122 1 (f' := (17, [some (.ref 0), some (.int x1), some (.ref 64), none], [.int (2 : Int32)], μ1)) (cs := []) rfl trivial ?_
    exact gWp_end gT_122 rfl (gEnd_int trivial) h
/-! Glyphmill.demerits -/
theorem gT_123 : gCode[123]? = some gC_123 := rfl
set_option maxRecDepth 20000 in
theorem vc_123 {μ : gMu} {P : gMu → gRes → Prop} (h : gCl' 62 [.ref 0] μ (fun μ1 r => (r = .inl none ∧ (gCl' 107 [.ref 0] μ1 (fun μ2 r => (r = .inl none ∧ (P μ2 (.inl (some (.long (gJ μ2 32 9)))))) ∨ (∃ y, r = .inr y ∧ P μ2 (.inr y))))))) : gWp none 123 (0, [some (.ref 0)], [], μ) 0 P := by
  refine gWp_sts gT_123 1 (f' := (1, [some (.ref 0)], [.ref 0], μ)) (cs := []) rfl trivial ?_
  refine gWp_virt gT_123 (pc := 1) (q := 0) (as := [.ref 0]) (rest := []) rfl rfl rfl rfl rfl rfl ⟨by decide, Nat.le_of_ble_eq_true rfl, by decide, Nat.le_of_ble_eq_true rfl⟩ (gWp_imp h (fun μ1 r h => ?_))
  obtain ⟨rfl, h⟩ := h
  refine Or.inl ⟨_, rfl, ?_⟩
  show gWp none 123 (4, [some (.ref 0)], [], μ1) _ P
  refine gWp_sts gT_123 1 (f' := (5, [some (.ref 0)], [.ref 0], μ1)) (cs := []) rfl trivial ?_
  refine gWp_virt gT_123 (pc := 5) (q := 0) (as := [.ref 0]) (rest := []) rfl rfl rfl rfl rfl rfl ⟨by decide, Nat.le_of_ble_eq_true rfl, by decide, Nat.le_of_ble_eq_true rfl⟩ (gWp_imp h (fun μ2 r h => ?_))
  rcases h with h | h
  · obtain ⟨rfl, h⟩ := h
    refine Or.inl ⟨_, rfl, ?_⟩
    show gWp none 123 (8, [some (.ref 0)], [], μ2) _ P
    refine gWp_sts gT_123 3 (f' := (15, [some (.ref 0)], [.long (gJ μ2 32 9)], μ2)) (cs := []) rfl trivial ?_
    exact gWp_end gT_123 rfl rfl h
  · obtain ⟨y, rfl, h⟩ := h
    exact Or.inr (Or.inl ⟨y, rfl, rfl, h⟩)
/-! GlyphmillLaw.demerits -/
theorem gT_124 : gCode[124]? = some gC_124 := rfl
set_option maxRecDepth 20000 in
theorem vc_124 {μ : gMu} {P : gMu → gRes → Prop} (h : gCl' 123 [.ref 0] μ (fun μ1 r => (∃ v2, r = .inl (some (.long v2)) ∧ ((vp_in (0 : Int32) 1) ∧ (P (gsJ μ1 64 ((0 : Int32).toNatClampNeg) v2) (.inl (some (.int (0 : Int32))))))) ∨ (r = .inr 1 ∧ (P μ1 (.inl (some (.int (1 : Int32)))))))) : gWp none 124 (0, [some (.ref 0), some (.ref 64), none], [], μ) 0 P := by
  refine gWp_sts gT_124 3 (f' := (3, [some (.ref 0), some (.ref 64), none], [.ref 0, .int (0 : Int32), .ref 64], μ)) (cs := []) rfl trivial ?_
  refine gWp_virt gT_124 (pc := 3) (q := 0) (as := [.ref 0]) (rest := [.int (0 : Int32), .ref 64]) rfl rfl rfl rfl rfl rfl ⟨by decide, Nat.le_of_ble_eq_true rfl, by decide, Nat.le_of_ble_eq_true rfl⟩ (gWp_imp h (fun μ1 r h => ?_))
  rcases h with h | h
  · obtain ⟨v2, rfl, h⟩ := h
    refine Or.inl ⟨_, rfl, ?_⟩
    show gWp none 124 (6, [some (.ref 0), some (.ref 64), none], [.long v2, .int (0 : Int32), .ref 64], μ1) _ P
    obtain ⟨c1, h⟩ := h
    refine gWp_sts gT_124 3 (f' := (14, [some (.ref 0), some (.ref 64), none], [.int (0 : Int32)], (gsJ μ1 64 ((0 : Int32).toNatClampNeg) v2))) (cs := [vp_in (0 : Int32) 1]) rfl c1 ?_
    exact gWp_end gT_124 rfl (gEnd_int trivial) h
  · obtain ⟨rfl, h⟩ := h
    refine Or.inr (Or.inr ⟨1, 0, _, _, _, rfl, rfl, rfl, rfl, Or.inl ⟨_, rfl, rfl⟩, ?_⟩)
    refine gWp_sts gT_124 1 (f' := (12, [some (.ref 0), some (.ref 64), none], [.int (1 : Int32)], μ1)) (cs := []) rfl trivial ?_
    exact gWp_end gT_124 rfl (gEnd_int trivial) h
/-! Glyphmill.needFewBreaks -/
theorem gT_125 : gCode[125]? = some gC_125 := rfl
set_option maxRecDepth 20000 in
theorem vc_125 {μ : gMu} {P : gMu → gRes → Prop} (h : gCl' 65 [.ref 29] μ (fun μ1 r => (∃ v2, r = .inl (some (.int v2)) ∧ (((v2 ≤ (9 : Int32)) → (P μ1 (.inl none))) ∧ ((¬ v2 ≤ (9 : Int32)) → (P μ1 (.inr 3))))))) : gWp none 125 (0, [some (.ref 0)], [], μ) 0 P := by
  refine gWp_sts gT_125 2 (f' := (4, [some (.ref 0)], [.ref 29], μ)) (cs := []) rfl trivial ?_
  refine gWp_virt gT_125 (pc := 4) (q := 29) (as := [.ref 29]) (rest := []) rfl rfl rfl rfl rfl rfl ⟨by decide, Nat.le_of_ble_eq_true rfl, by decide, Nat.le_of_ble_eq_true rfl⟩ (gWp_imp h (fun μ1 r h => ?_))
  obtain ⟨v2, rfl, h⟩ := h
  refine Or.inl ⟨_, rfl, ?_⟩
  show gWp none 125 (7, [some (.ref 0)], [.int v2], μ1) _ P
  refine gWp_sts gT_125 1 (f' := (9, [some (.ref 0)], [.int (9 : Int32), .int v2], μ1)) (cs := []) rfl trivial ?_
  refine gWp_icmp gT_125 (pc := 9) rfl ⟨fun c => ?_, fun c => ?_⟩
  · replace h := h.1 (of_decide_eq_true c)
    exact gWp_end gT_125 rfl rfl h
  · replace h := h.2 (fun q => c (decide_eq_true q))
    exact gWp_end gT_125 rfl rfl h
/-! java/lang/Integer.bitCount -/
theorem gT_126 : gCode[126]? = some gC_126 := rfl
set_option maxRecDepth 20000 in
theorem vc_126 {μ : gMu} {x0 : Int32} {P : gMu → gRes → Prop} (h : P μ (.inl (some (.int ((((((((x0 - (((x0.toUInt32 >>> ((1 : Int32).toUInt32 &&& Int32.toUInt32 31)).toInt32) &&& (1431655765 : Int32))) &&& (858993459 : Int32)) + ((((x0 - (((x0.toUInt32 >>> ((1 : Int32).toUInt32 &&& Int32.toUInt32 31)).toInt32) &&& (1431655765 : Int32))).toUInt32 >>> ((2 : Int32).toUInt32 &&& Int32.toUInt32 31)).toInt32) &&& (858993459 : Int32))) + (((((x0 - (((x0.toUInt32 >>> ((1 : Int32).toUInt32 &&& Int32.toUInt32 31)).toInt32) &&& (1431655765 : Int32))) &&& (858993459 : Int32)) + ((((x0 - (((x0.toUInt32 >>> ((1 : Int32).toUInt32 &&& Int32.toUInt32 31)).toInt32) &&& (1431655765 : Int32))).toUInt32 >>> ((2 : Int32).toUInt32 &&& Int32.toUInt32 31)).toInt32) &&& (858993459 : Int32))).toUInt32 >>> ((4 : Int32).toUInt32 &&& Int32.toUInt32 31)).toInt32)) &&& (252645135 : Int32)) + (((((((x0 - (((x0.toUInt32 >>> ((1 : Int32).toUInt32 &&& Int32.toUInt32 31)).toInt32) &&& (1431655765 : Int32))) &&& (858993459 : Int32)) + ((((x0 - (((x0.toUInt32 >>> ((1 : Int32).toUInt32 &&& Int32.toUInt32 31)).toInt32) &&& (1431655765 : Int32))).toUInt32 >>> ((2 : Int32).toUInt32 &&& Int32.toUInt32 31)).toInt32) &&& (858993459 : Int32))) + (((((x0 - (((x0.toUInt32 >>> ((1 : Int32).toUInt32 &&& Int32.toUInt32 31)).toInt32) &&& (1431655765 : Int32))) &&& (858993459 : Int32)) + ((((x0 - (((x0.toUInt32 >>> ((1 : Int32).toUInt32 &&& Int32.toUInt32 31)).toInt32) &&& (1431655765 : Int32))).toUInt32 >>> ((2 : Int32).toUInt32 &&& Int32.toUInt32 31)).toInt32) &&& (858993459 : Int32))).toUInt32 >>> ((4 : Int32).toUInt32 &&& Int32.toUInt32 31)).toInt32)) &&& (252645135 : Int32)).toUInt32 >>> ((8 : Int32).toUInt32 &&& Int32.toUInt32 31)).toInt32)) + ((((((((x0 - (((x0.toUInt32 >>> ((1 : Int32).toUInt32 &&& Int32.toUInt32 31)).toInt32) &&& (1431655765 : Int32))) &&& (858993459 : Int32)) + ((((x0 - (((x0.toUInt32 >>> ((1 : Int32).toUInt32 &&& Int32.toUInt32 31)).toInt32) &&& (1431655765 : Int32))).toUInt32 >>> ((2 : Int32).toUInt32 &&& Int32.toUInt32 31)).toInt32) &&& (858993459 : Int32))) + (((((x0 - (((x0.toUInt32 >>> ((1 : Int32).toUInt32 &&& Int32.toUInt32 31)).toInt32) &&& (1431655765 : Int32))) &&& (858993459 : Int32)) + ((((x0 - (((x0.toUInt32 >>> ((1 : Int32).toUInt32 &&& Int32.toUInt32 31)).toInt32) &&& (1431655765 : Int32))).toUInt32 >>> ((2 : Int32).toUInt32 &&& Int32.toUInt32 31)).toInt32) &&& (858993459 : Int32))).toUInt32 >>> ((4 : Int32).toUInt32 &&& Int32.toUInt32 31)).toInt32)) &&& (252645135 : Int32)) + (((((((x0 - (((x0.toUInt32 >>> ((1 : Int32).toUInt32 &&& Int32.toUInt32 31)).toInt32) &&& (1431655765 : Int32))) &&& (858993459 : Int32)) + ((((x0 - (((x0.toUInt32 >>> ((1 : Int32).toUInt32 &&& Int32.toUInt32 31)).toInt32) &&& (1431655765 : Int32))).toUInt32 >>> ((2 : Int32).toUInt32 &&& Int32.toUInt32 31)).toInt32) &&& (858993459 : Int32))) + (((((x0 - (((x0.toUInt32 >>> ((1 : Int32).toUInt32 &&& Int32.toUInt32 31)).toInt32) &&& (1431655765 : Int32))) &&& (858993459 : Int32)) + ((((x0 - (((x0.toUInt32 >>> ((1 : Int32).toUInt32 &&& Int32.toUInt32 31)).toInt32) &&& (1431655765 : Int32))).toUInt32 >>> ((2 : Int32).toUInt32 &&& Int32.toUInt32 31)).toInt32) &&& (858993459 : Int32))).toUInt32 >>> ((4 : Int32).toUInt32 &&& Int32.toUInt32 31)).toInt32)) &&& (252645135 : Int32)).toUInt32 >>> ((8 : Int32).toUInt32 &&& Int32.toUInt32 31)).toInt32)).toUInt32 >>> ((16 : Int32).toUInt32 &&& Int32.toUInt32 31)).toInt32)) &&& (63 : Int32)))))) : gWp none 126 (0, [some (.int x0)], [], μ) 0 P := by
  refine gWp_sts gT_126 41 (f' := (52, [some (.int (((((((x0 - (((x0.toUInt32 >>> ((1 : Int32).toUInt32 &&& Int32.toUInt32 31)).toInt32) &&& (1431655765 : Int32))) &&& (858993459 : Int32)) + ((((x0 - (((x0.toUInt32 >>> ((1 : Int32).toUInt32 &&& Int32.toUInt32 31)).toInt32) &&& (1431655765 : Int32))).toUInt32 >>> ((2 : Int32).toUInt32 &&& Int32.toUInt32 31)).toInt32) &&& (858993459 : Int32))) + (((((x0 - (((x0.toUInt32 >>> ((1 : Int32).toUInt32 &&& Int32.toUInt32 31)).toInt32) &&& (1431655765 : Int32))) &&& (858993459 : Int32)) + ((((x0 - (((x0.toUInt32 >>> ((1 : Int32).toUInt32 &&& Int32.toUInt32 31)).toInt32) &&& (1431655765 : Int32))).toUInt32 >>> ((2 : Int32).toUInt32 &&& Int32.toUInt32 31)).toInt32) &&& (858993459 : Int32))).toUInt32 >>> ((4 : Int32).toUInt32 &&& Int32.toUInt32 31)).toInt32)) &&& (252645135 : Int32)) + (((((((x0 - (((x0.toUInt32 >>> ((1 : Int32).toUInt32 &&& Int32.toUInt32 31)).toInt32) &&& (1431655765 : Int32))) &&& (858993459 : Int32)) + ((((x0 - (((x0.toUInt32 >>> ((1 : Int32).toUInt32 &&& Int32.toUInt32 31)).toInt32) &&& (1431655765 : Int32))).toUInt32 >>> ((2 : Int32).toUInt32 &&& Int32.toUInt32 31)).toInt32) &&& (858993459 : Int32))) + (((((x0 - (((x0.toUInt32 >>> ((1 : Int32).toUInt32 &&& Int32.toUInt32 31)).toInt32) &&& (1431655765 : Int32))) &&& (858993459 : Int32)) + ((((x0 - (((x0.toUInt32 >>> ((1 : Int32).toUInt32 &&& Int32.toUInt32 31)).toInt32) &&& (1431655765 : Int32))).toUInt32 >>> ((2 : Int32).toUInt32 &&& Int32.toUInt32 31)).toInt32) &&& (858993459 : Int32))).toUInt32 >>> ((4 : Int32).toUInt32 &&& Int32.toUInt32 31)).toInt32)) &&& (252645135 : Int32)).toUInt32 >>> ((8 : Int32).toUInt32 &&& Int32.toUInt32 31)).toInt32)) + ((((((((x0 - (((x0.toUInt32 >>> ((1 : Int32).toUInt32 &&& Int32.toUInt32 31)).toInt32) &&& (1431655765 : Int32))) &&& (858993459 : Int32)) + ((((x0 - (((x0.toUInt32 >>> ((1 : Int32).toUInt32 &&& Int32.toUInt32 31)).toInt32) &&& (1431655765 : Int32))).toUInt32 >>> ((2 : Int32).toUInt32 &&& Int32.toUInt32 31)).toInt32) &&& (858993459 : Int32))) + (((((x0 - (((x0.toUInt32 >>> ((1 : Int32).toUInt32 &&& Int32.toUInt32 31)).toInt32) &&& (1431655765 : Int32))) &&& (858993459 : Int32)) + ((((x0 - (((x0.toUInt32 >>> ((1 : Int32).toUInt32 &&& Int32.toUInt32 31)).toInt32) &&& (1431655765 : Int32))).toUInt32 >>> ((2 : Int32).toUInt32 &&& Int32.toUInt32 31)).toInt32) &&& (858993459 : Int32))).toUInt32 >>> ((4 : Int32).toUInt32 &&& Int32.toUInt32 31)).toInt32)) &&& (252645135 : Int32)) + (((((((x0 - (((x0.toUInt32 >>> ((1 : Int32).toUInt32 &&& Int32.toUInt32 31)).toInt32) &&& (1431655765 : Int32))) &&& (858993459 : Int32)) + ((((x0 - (((x0.toUInt32 >>> ((1 : Int32).toUInt32 &&& Int32.toUInt32 31)).toInt32) &&& (1431655765 : Int32))).toUInt32 >>> ((2 : Int32).toUInt32 &&& Int32.toUInt32 31)).toInt32) &&& (858993459 : Int32))) + (((((x0 - (((x0.toUInt32 >>> ((1 : Int32).toUInt32 &&& Int32.toUInt32 31)).toInt32) &&& (1431655765 : Int32))) &&& (858993459 : Int32)) + ((((x0 - (((x0.toUInt32 >>> ((1 : Int32).toUInt32 &&& Int32.toUInt32 31)).toInt32) &&& (1431655765 : Int32))).toUInt32 >>> ((2 : Int32).toUInt32 &&& Int32.toUInt32 31)).toInt32) &&& (858993459 : Int32))).toUInt32 >>> ((4 : Int32).toUInt32 &&& Int32.toUInt32 31)).toInt32)) &&& (252645135 : Int32)).toUInt32 >>> ((8 : Int32).toUInt32 &&& Int32.toUInt32 31)).toInt32)).toUInt32 >>> ((16 : Int32).toUInt32 &&& Int32.toUInt32 31)).toInt32)))], [.int ((((((((x0 - (((x0.toUInt32 >>> ((1 : Int32).toUInt32 &&& Int32.toUInt32 31)).toInt32) &&& (1431655765 : Int32))) &&& (858993459 : Int32)) + ((((x0 - (((x0.toUInt32 >>> ((1 : Int32).toUInt32 &&& Int32.toUInt32 31)).toInt32) &&& (1431655765 : Int32))).toUInt32 >>> ((2 : Int32).toUInt32 &&& Int32.toUInt32 31)).toInt32) &&& (858993459 : Int32))) + (((((x0 - (((x0.toUInt32 >>> ((1 : Int32).toUInt32 &&& Int32.toUInt32 31)).toInt32) &&& (1431655765 : Int32))) &&& (858993459 : Int32)) + ((((x0 - (((x0.toUInt32 >>> ((1 : Int32).toUInt32 &&& Int32.toUInt32 31)).toInt32) &&& (1431655765 : Int32))).toUInt32 >>> ((2 : Int32).toUInt32 &&& Int32.toUInt32 31)).toInt32) &&& (858993459 : Int32))).toUInt32 >>> ((4 : Int32).toUInt32 &&& Int32.toUInt32 31)).toInt32)) &&& (252645135 : Int32)) + (((((((x0 - (((x0.toUInt32 >>> ((1 : Int32).toUInt32 &&& Int32.toUInt32 31)).toInt32) &&& (1431655765 : Int32))) &&& (858993459 : Int32)) + ((((x0 - (((x0.toUInt32 >>> ((1 : Int32).toUInt32 &&& Int32.toUInt32 31)).toInt32) &&& (1431655765 : Int32))).toUInt32 >>> ((2 : Int32).toUInt32 &&& Int32.toUInt32 31)).toInt32) &&& (858993459 : Int32))) + (((((x0 - (((x0.toUInt32 >>> ((1 : Int32).toUInt32 &&& Int32.toUInt32 31)).toInt32) &&& (1431655765 : Int32))) &&& (858993459 : Int32)) + ((((x0 - (((x0.toUInt32 >>> ((1 : Int32).toUInt32 &&& Int32.toUInt32 31)).toInt32) &&& (1431655765 : Int32))).toUInt32 >>> ((2 : Int32).toUInt32 &&& Int32.toUInt32 31)).toInt32) &&& (858993459 : Int32))).toUInt32 >>> ((4 : Int32).toUInt32 &&& Int32.toUInt32 31)).toInt32)) &&& (252645135 : Int32)).toUInt32 >>> ((8 : Int32).toUInt32 &&& Int32.toUInt32 31)).toInt32)) + ((((((((x0 - (((x0.toUInt32 >>> ((1 : Int32).toUInt32 &&& Int32.toUInt32 31)).toInt32) &&& (1431655765 : Int32))) &&& (858993459 : Int32)) + ((((x0 - (((x0.toUInt32 >>> ((1 : Int32).toUInt32 &&& Int32.toUInt32 31)).toInt32) &&& (1431655765 : Int32))).toUInt32 >>> ((2 : Int32).toUInt32 &&& Int32.toUInt32 31)).toInt32) &&& (858993459 : Int32))) + (((((x0 - (((x0.toUInt32 >>> ((1 : Int32).toUInt32 &&& Int32.toUInt32 31)).toInt32) &&& (1431655765 : Int32))) &&& (858993459 : Int32)) + ((((x0 - (((x0.toUInt32 >>> ((1 : Int32).toUInt32 &&& Int32.toUInt32 31)).toInt32) &&& (1431655765 : Int32))).toUInt32 >>> ((2 : Int32).toUInt32 &&& Int32.toUInt32 31)).toInt32) &&& (858993459 : Int32))).toUInt32 >>> ((4 : Int32).toUInt32 &&& Int32.toUInt32 31)).toInt32)) &&& (252645135 : Int32)) + (((((((x0 - (((x0.toUInt32 >>> ((1 : Int32).toUInt32 &&& Int32.toUInt32 31)).toInt32) &&& (1431655765 : Int32))) &&& (858993459 : Int32)) + ((((x0 - (((x0.toUInt32 >>> ((1 : Int32).toUInt32 &&& Int32.toUInt32 31)).toInt32) &&& (1431655765 : Int32))).toUInt32 >>> ((2 : Int32).toUInt32 &&& Int32.toUInt32 31)).toInt32) &&& (858993459 : Int32))) + (((((x0 - (((x0.toUInt32 >>> ((1 : Int32).toUInt32 &&& Int32.toUInt32 31)).toInt32) &&& (1431655765 : Int32))) &&& (858993459 : Int32)) + ((((x0 - (((x0.toUInt32 >>> ((1 : Int32).toUInt32 &&& Int32.toUInt32 31)).toInt32) &&& (1431655765 : Int32))).toUInt32 >>> ((2 : Int32).toUInt32 &&& Int32.toUInt32 31)).toInt32) &&& (858993459 : Int32))).toUInt32 >>> ((4 : Int32).toUInt32 &&& Int32.toUInt32 31)).toInt32)) &&& (252645135 : Int32)).toUInt32 >>> ((8 : Int32).toUInt32 &&& Int32.toUInt32 31)).toInt32)).toUInt32 >>> ((16 : Int32).toUInt32 &&& Int32.toUInt32 31)).toInt32)) &&& (63 : Int32))], μ)) (cs := []) rfl trivial ?_
  exact gWp_end gT_126 rfl (gEnd_int trivial) h
/-! Glyphmill$Lines.trySet -/
theorem gT_127 : gCode[127]? = some gC_127 := rfl
set_option maxRecDepth 20000 in
theorem vc_127_8 {μ : gMu} {x1 : Int32} {x2 : Int64} {x4 : Int32} {x5 : Int32} {P : gMu → gRes → Prop} (h : (((gI μ 29 3) < x5) → (gCl' 126 [.int x1] μ (fun μ1 r => (∃ v2, r = .inl (some (.int v2)) ∧ ((((lg_cmp (gJ μ1 32 10) (-1 : Int64)) = 0) → (P (gsI (gsJ μ1 32 10 x2) 32 11 (v2 + (1 : Int32))) (.inl none))) ∧ ((¬ (lg_cmp (gJ μ1 32 10) (-1 : Int64)) = 0) → ((((lg_cmp x2 (gJ μ1 32 10)) < 0) → (P (gsI (gsJ μ1 32 10 x2) 32 11 (v2 + (1 : Int32))) (.inl none))) ∧ ((¬ (lg_cmp x2 (gJ μ1 32 10)) < 0) → (((¬ (lg_cmp x2 (gJ μ1 32 10)) = 0) → (P μ1 (.inl none))) ∧ (((lg_cmp x2 (gJ μ1 32 10)) = 0) → ((((gI μ1 32 11) ≤ (v2 + (1 : Int32))) → (P μ1 (.inl none))) ∧ ((¬ (gI μ1 32 11) ≤ (v2 + (1 : Int32))) → (P (gsI (gsJ μ1 32 10 x2) 32 11 (v2 + (1 : Int32))) (.inl none)))))))))))))) ∧ ((¬ (gI μ 29 3) < x5) → (((x5 = (gI μ 29 3)) → (gCl' 37 [.ref 32, .int x4, .int x5] μ (fun μ3 r => (∃ v4, r = .inl (some (.int v4)) ∧ (((¬ v4 = 0) → (gCl' 34 [.ref 32, .int x4, .int x5] μ3 (fun μ5 r => (∃ v6, r = .inl (some (.long v6)) ∧ (gWp none 127 (8, [some (.ref 32), some (.int x1), some (.long (x2 + v6)), none, some (.int x5), some (.int (x5 + (1 : Int32)))], [], μ5) 0 P))))) ∧ ((v4 = 0) → (P μ3 (.inl none)))))))) ∧ ((¬ x5 = (gI μ 29 3)) → (((¬ ((x1 >>> ((x5 - (1 : Int32)) &&& 31)) &&& (1 : Int32)) = (1 : Int32)) → (gWp none 127 (8, [some (.ref 32), some (.int x1), some (.long x2), none, some (.int x4), some (.int (x5 + (1 : Int32)))], [], μ) 0 P)) ∧ ((((x1 >>> ((x5 - (1 : Int32)) &&& 31)) &&& (1 : Int32)) = (1 : Int32)) → (gCl' 37 [.ref 32, .int x4, .int x5] μ (fun μ7 r => (∃ v8, r = .inl (some (.int v8)) ∧ (((¬ v8 = 0) → (gCl' 34 [.ref 32, .int x4, .int x5] μ7 (fun μ9 r => (∃ v10, r = .inl (some (.long v10)) ∧ (gWp none 127 (8, [some (.ref 32), some (.int x1), some (.long (x2 + v10)), none, some (.int x5), some (.int (x5 + (1 : Int32)))], [], μ9) 0 P))))) ∧ ((v8 = 0) → (P μ7 (.inl none))))))))))))) : gWp none 127 (8, [some (.ref 32), some (.int x1), some (.long x2), none, some (.int x4), some (.int x5)], [], μ) 0 P := by
  refine gWp_sts gT_127 4 (f' := (17, [some (.ref 32), some (.int x1), some (.long x2), none, some (.int x4), some (.int x5)], [.int (gI μ 29 3), .int x5], μ)) (cs := []) rfl trivial ?_
  refine gWp_icmp gT_127 (pc := 17) rfl ⟨fun c => ?_, fun c => ?_⟩
  · replace h := h.1 (of_decide_eq_true c)
    refine gWp_sts gT_127 1 (f' := (78, [some (.ref 32), some (.int x1), some (.long x2), none, some (.int x4), some (.int x5)], [.int x1], μ)) (cs := []) rfl trivial ?_
    refine gWp_stat gT_127 (pc := 78) (c01 := 0) (as := [.int x1]) (rest := []) rfl (Or.inl rfl) rfl rfl rfl ⟨by decide, Nat.le_of_ble_eq_true rfl, by decide, Nat.le_of_ble_eq_true rfl⟩ (gWp_imp h (fun μ1 r h => ?_))
    obtain ⟨v2, rfl, h⟩ := h
    refine Or.inl ⟨_, rfl, ?_⟩
    show gWp none 127 (81, [some (.ref 32), some (.int x1), some (.long x2), none, some (.int x4), some (.int x5)], [.int v2], μ1) _ P
    refine gWp_sts gT_127 7 (f' := (93, [some (.ref 32), some (.int x1), some (.long x2), none, some (.int x4), some (.int (v2 + (1 : Int32)))], [.int (lg_cmp (gJ μ1 32 10) (-1 : Int64))], μ1)) (cs := []) rfl trivial ?_
    refine gWp_if gT_127 (pc := 93) rfl ⟨fun c => ?_, fun c => ?_⟩
    · replace h := h.1 (of_decide_eq_true c)
      refine gWp_sts gT_127 6 (f' := (134, [some (.ref 32), some (.int x1), some (.long x2), none, some (.int x4), some (.int (v2 + (1 : Int32)))], [], (gsI (gsJ μ1 32 10 x2) 32 11 (v2 + (1 : Int32))))) (cs := []) rfl trivial ?_
      exact gWp_end gT_127 rfl rfl h
    · replace h := h.2 (fun q => c (decide_eq_true q))
      refine gWp_sts gT_127 4 (f' := (102, [some (.ref 32), some (.int x1), some (.long x2), none, some (.int x4), some (.int (v2 + (1 : Int32)))], [.int (lg_cmp x2 (gJ μ1 32 10))], μ1)) (cs := []) rfl trivial ?_
      refine gWp_if gT_127 (pc := 102) rfl ⟨fun c => ?_, fun c => ?_⟩
      · replace h := h.1 (of_decide_eq_true c)
        refine gWp_sts gT_127 6 (f' := (134, [some (.ref 32), some (.int x1), some (.long x2), none, some (.int x4), some (.int (v2 + (1 : Int32)))], [], (gsI (gsJ μ1 32 10 x2) 32 11 (v2 + (1 : Int32))))) (cs := []) rfl trivial ?_
        exact gWp_end gT_127 rfl rfl h
      · replace h := h.2 (fun q => c (decide_eq_true q))
        refine gWp_sts gT_127 4 (f' := (111, [some (.ref 32), some (.int x1), some (.long x2), none, some (.int x4), some (.int (v2 + (1 : Int32)))], [.int (lg_cmp x2 (gJ μ1 32 10))], μ1)) (cs := []) rfl trivial ?_
        refine gWp_if gT_127 (pc := 111) rfl ⟨fun c => ?_, fun c => ?_⟩
        · replace h := h.1 (of_decide_eq_true c)
          exact gWp_end gT_127 rfl rfl h
        · replace h := h.2 (Classical.not_not.mp (fun q => c (decide_eq_true q)))
          refine gWp_sts gT_127 3 (f' := (120, [some (.ref 32), some (.int x1), some (.long x2), none, some (.int x4), some (.int (v2 + (1 : Int32)))], [.int (gI μ1 32 11), .int (v2 + (1 : Int32))], μ1)) (cs := []) rfl trivial ?_
          refine gWp_icmp gT_127 (pc := 120) rfl ⟨fun c => ?_, fun c => ?_⟩
          · replace h := h.1 (of_decide_eq_true c)
            exact gWp_end gT_127 rfl rfl h
          · replace h := h.2 (fun q => c (decide_eq_true q))
            refine gWp_sts gT_127 6 (f' := (134, [some (.ref 32), some (.int x1), some (.long x2), none, some (.int x4), some (.int (v2 + (1 : Int32)))], [], (gsI (gsJ μ1 32 10 x2) 32 11 (v2 + (1 : Int32))))) (cs := []) rfl trivial ?_
            exact gWp_end gT_127 rfl rfl h
  · replace h := h.2 (fun q => c (decide_eq_true q))
    refine gWp_sts gT_127 4 (f' := (29, [some (.ref 32), some (.int x1), some (.long x2), none, some (.int x4), some (.int x5)], [.int (gI μ 29 3), .int x5], μ)) (cs := []) rfl trivial ?_
    refine gWp_icmp gT_127 (pc := 29) rfl ⟨fun c => ?_, fun c => ?_⟩
    · replace h := h.1 (of_decide_eq_true c)
      refine gWp_sts gT_127 3 (f' := (49, [some (.ref 32), some (.int x1), some (.long x2), none, some (.int x4), some (.int x5)], [.int x5, .int x4, .ref 32], μ)) (cs := []) rfl trivial ?_
      refine gWp_virt gT_127 (pc := 49) (q := 32) (as := [.ref 32, .int x4, .int x5]) (rest := []) rfl rfl rfl rfl rfl rfl ⟨by decide, Nat.le_of_ble_eq_true rfl, by decide, Nat.le_of_ble_eq_true rfl⟩ (gWp_imp h (fun μ3 r h => ?_))
      obtain ⟨v4, rfl, h⟩ := h
      refine Or.inl ⟨_, rfl, ?_⟩
      show gWp none 127 (52, [some (.ref 32), some (.int x1), some (.long x2), none, some (.int x4), some (.int x5)], [.int v4], μ3) _ P
      refine gWp_if gT_127 (pc := 52) rfl ⟨fun c => ?_, fun c => ?_⟩
      · replace h := h.1 (of_decide_eq_true c)
        refine gWp_sts gT_127 4 (f' := (62, [some (.ref 32), some (.int x1), some (.long x2), none, some (.int x4), some (.int x5)], [.int x5, .int x4, .ref 32, .long x2], μ3)) (cs := []) rfl trivial ?_
        refine gWp_virt gT_127 (pc := 62) (q := 32) (as := [.ref 32, .int x4, .int x5]) (rest := [.long x2]) rfl rfl rfl rfl rfl rfl ⟨by decide, Nat.le_of_ble_eq_true rfl, by decide, Nat.le_of_ble_eq_true rfl⟩ (gWp_imp h (fun μ5 r h => ?_))
        obtain ⟨v6, rfl, h⟩ := h
        refine Or.inl ⟨_, rfl, ?_⟩
        show gWp none 127 (65, [some (.ref 32), some (.int x1), some (.long x2), none, some (.int x4), some (.int x5)], [.long v6, .long x2], μ5) _ P
        refine gWp_sts gT_127 6 (f' := (8, [some (.ref 32), some (.int x1), some (.long (x2 + v6)), none, some (.int x5), some (.int (x5 + (1 : Int32)))], [], μ5)) (cs := []) rfl trivial ?_
        exact h
      · replace h := h.2 (Classical.not_not.mp (fun q => c (decide_eq_true q)))
        exact gWp_end gT_127 rfl rfl h
    · replace h := h.2 (fun q => c (decide_eq_true q))
      refine gWp_sts gT_127 8 (f' := (41, [some (.ref 32), some (.int x1), some (.long x2), none, some (.int x4), some (.int x5)], [.int (1 : Int32), .int ((x1 >>> ((x5 - (1 : Int32)) &&& 31)) &&& (1 : Int32))], μ)) (cs := []) rfl trivial ?_
      refine gWp_icmp gT_127 (pc := 41) rfl ⟨fun c => ?_, fun c => ?_⟩
      · replace h := h.1 (of_decide_eq_true c)
        refine gWp_sts gT_127 2 (f' := (8, [some (.ref 32), some (.int x1), some (.long x2), none, some (.int x4), some (.int (x5 + (1 : Int32)))], [], μ)) (cs := []) rfl trivial ?_
        exact h
      · replace h := h.2 (Classical.not_not.mp (fun q => c (decide_eq_true q)))
        refine gWp_sts gT_127 3 (f' := (49, [some (.ref 32), some (.int x1), some (.long x2), none, some (.int x4), some (.int x5)], [.int x5, .int x4, .ref 32], μ)) (cs := []) rfl trivial ?_
        refine gWp_virt gT_127 (pc := 49) (q := 32) (as := [.ref 32, .int x4, .int x5]) (rest := []) rfl rfl rfl rfl rfl rfl ⟨by decide, Nat.le_of_ble_eq_true rfl, by decide, Nat.le_of_ble_eq_true rfl⟩ (gWp_imp h (fun μ7 r h => ?_))
        obtain ⟨v8, rfl, h⟩ := h
        refine Or.inl ⟨_, rfl, ?_⟩
        show gWp none 127 (52, [some (.ref 32), some (.int x1), some (.long x2), none, some (.int x4), some (.int x5)], [.int v8], μ7) _ P
        refine gWp_if gT_127 (pc := 52) rfl ⟨fun c => ?_, fun c => ?_⟩
        · replace h := h.1 (of_decide_eq_true c)
          refine gWp_sts gT_127 4 (f' := (62, [some (.ref 32), some (.int x1), some (.long x2), none, some (.int x4), some (.int x5)], [.int x5, .int x4, .ref 32, .long x2], μ7)) (cs := []) rfl trivial ?_
          refine gWp_virt gT_127 (pc := 62) (q := 32) (as := [.ref 32, .int x4, .int x5]) (rest := [.long x2]) rfl rfl rfl rfl rfl rfl ⟨by decide, Nat.le_of_ble_eq_true rfl, by decide, Nat.le_of_ble_eq_true rfl⟩ (gWp_imp h (fun μ9 r h => ?_))
          obtain ⟨v10, rfl, h⟩ := h
          refine Or.inl ⟨_, rfl, ?_⟩
          show gWp none 127 (65, [some (.ref 32), some (.int x1), some (.long x2), none, some (.int x4), some (.int x5)], [.long v10, .long x2], μ9) _ P
          refine gWp_sts gT_127 6 (f' := (8, [some (.ref 32), some (.int x1), some (.long (x2 + v10)), none, some (.int x5), some (.int (x5 + (1 : Int32)))], [], μ9)) (cs := []) rfl trivial ?_
          exact h
        · replace h := h.2 (Classical.not_not.mp (fun q => c (decide_eq_true q)))
          exact gWp_end gT_127 rfl rfl h
set_option maxRecDepth 20000 in
theorem vc_127 {μ : gMu} {x1 : Int32} {P : gMu → gRes → Prop} (h : gWp none 127 (8, [some (.ref 32), some (.int x1), some (.long (0 : Int64)), none, some (.int (0 : Int32)), some (.int (1 : Int32))], [], μ) 0 P) : gWp none 127 (0, [some (.ref 32), some (.int x1), none, none, none, none], [], μ) 0 P := by
  refine gWp_sts gT_127 6 (f' := (8, [some (.ref 32), some (.int x1), some (.long (0 : Int64)), none, some (.int (0 : Int32)), some (.int (1 : Int32))], [], μ)) (cs := []) rfl trivial ?_
  exact h
/-! Glyphmill$Lines.tryAll -/
theorem gT_128 : gCode[128]? = some gC_128 := rfl
set_option maxRecDepth 20000 in
theorem vc_128_44 {μ : gMu} {x1 : Int32} {x2 : Int32} {P : gMu → gRes → Prop} (h : ((((1 : Int32) <<< (x1 &&& 31)) ≤ x2) → (P μ (.inl none))) ∧ ((¬ ((1 : Int32) <<< (x1 &&& 31)) ≤ x2) → (gCl' 127 [.ref 32, .int x2] μ (fun μ1 r => (r = .inl none ∧ (gWp none 128 (44, [some (.ref 32), some (.int x1), some (.int (x2 + (1 : Int32)))], [], μ1) 0 P)))))) : gWp none 128 (44, [some (.ref 32), some (.int x1), some (.int x2)], [], μ) 0 P := by
  refine gWp_sts gT_128 4 (f' := (48, [some (.ref 32), some (.int x1), some (.int x2)], [.int ((1 : Int32) <<< (x1 &&& 31)), .int x2], μ)) (cs := []) rfl trivial ?_
  refine gWp_icmp gT_128 (pc := 48) rfl ⟨fun c => ?_, fun c => ?_⟩
  · replace h := h.1 (of_decide_eq_true c)
    exact gWp_end gT_128 rfl rfl h
  · replace h := h.2 (fun q => c (decide_eq_true q))
    refine gWp_sts gT_128 2 (f' := (53, [some (.ref 32), some (.int x1), some (.int x2)], [.int x2, .ref 32], μ)) (cs := []) rfl trivial ?_
    refine gWp_virt gT_128 (pc := 53) (q := 32) (as := [.ref 32, .int x2]) (rest := []) rfl rfl rfl rfl rfl rfl ⟨by decide, Nat.le_of_ble_eq_true rfl, by decide, Nat.le_of_ble_eq_true rfl⟩ (gWp_imp h (fun μ1 r h => ?_))
    obtain ⟨rfl, h⟩ := h
    refine Or.inl ⟨_, rfl, ?_⟩
    show gWp none 128 (56, [some (.ref 32), some (.int x1), some (.int x2)], [], μ1) _ P
    refine gWp_sts gT_128 2 (f' := (44, [some (.ref 32), some (.int x1), some (.int (x2 + (1 : Int32)))], [], μ1)) (cs := []) rfl trivial ?_
    exact h
set_option maxRecDepth 20000 in
theorem vc_128 {μ : gMu} {P : gMu → gRes → Prop} (h : gCl' 65 [.ref 29] (gsI (gsJ μ 32 10 (-1 : Int64)) 32 11 (0 : Int32)) (fun μ1 r => (∃ v2, r = .inl (some (.int v2)) ∧ (((¬ (gI μ1 29 4) = 0) → (P (gsJ μ1 32 10 (0 : Int64)) (.inl none))) ∧ (((gI μ1 29 4) = 0) → (((v2 ≤ (9 : Int32)) → (gWp none 128 (44, [some (.ref 32), some (.int v2), some (.int (0 : Int32))], [], μ1) 0 P)) ∧ ((¬ v2 ≤ (9 : Int32)) → (P (gsJ μ1 32 10 (0 : Int64)) (.inl none))))))))) : gWp none 128 (0, [some (.ref 32), none, none], [], μ) 0 P := by
  refine gWp_sts gT_128 8 (f' := (16, [some (.ref 32), none, none], [.ref 29], (gsI (gsJ μ 32 10 (-1 : Int64)) 32 11 (0 : Int32)))) (cs := []) rfl trivial ?_
  refine gWp_virt gT_128 (pc := 16) (q := 29) (as := [.ref 29]) (rest := []) rfl rfl rfl rfl rfl rfl ⟨by decide, Nat.le_of_ble_eq_true rfl, by decide, Nat.le_of_ble_eq_true rfl⟩ (gWp_imp h (fun μ1 r h => ?_))
  obtain ⟨v2, rfl, h⟩ := h
  refine Or.inl ⟨_, rfl, ?_⟩
  show gWp none 128 (19, [some (.ref 32), none, none], [.int v2], μ1) _ P
  refine gWp_sts gT_128 4 (f' := (27, [some (.ref 32), some (.int v2), none], [.int (gI μ1 29 4)], μ1)) (cs := []) rfl trivial ?_
  refine gWp_if gT_128 (pc := 27) rfl ⟨fun c => ?_, fun c => ?_⟩
  · replace h := h.1 (of_decide_eq_true c)
    refine gWp_sts gT_128 3 (f' := (41, [some (.ref 32), some (.int v2), none], [], (gsJ μ1 32 10 (0 : Int64)))) (cs := []) rfl trivial ?_
    exact gWp_end gT_128 rfl rfl h
  · replace h := h.2 (Classical.not_not.mp (fun q => c (decide_eq_true q)))
    refine gWp_sts gT_128 2 (f' := (33, [some (.ref 32), some (.int v2), none], [.int (9 : Int32), .int v2], μ1)) (cs := []) rfl trivial ?_
    refine gWp_icmp gT_128 (pc := 33) rfl ⟨fun c => ?_, fun c => ?_⟩
    · replace h := h.1 (of_decide_eq_true c)
      refine gWp_sts gT_128 2 (f' := (44, [some (.ref 32), some (.int v2), some (.int (0 : Int32))], [], μ1)) (cs := []) rfl trivial ?_
      exact h
    · replace h := h.2 (fun q => c (decide_eq_true q))
      refine gWp_sts gT_128 3 (f' := (41, [some (.ref 32), some (.int v2), none], [], (gsJ μ1 32 10 (0 : Int64)))) (cs := []) rfl trivial ?_
      exact gWp_end gT_128 rfl rfl h
/-! Glyphmill.demeritsByTrying -/
theorem gT_129 : gCode[129]? = some gC_129 := rfl
set_option maxRecDepth 20000 in
theorem vc_129 {μ : gMu} {P : gMu → gRes → Prop} (h : gCl' 62 [.ref 0] μ (fun μ1 r => (r = .inl none ∧ (gCl' 107 [.ref 0] μ1 (fun μ2 r => (r = .inl none ∧ (gCl' 125 [.ref 0] μ2 (fun μ3 r => (r = .inl none ∧ (gCl' 128 [.ref 32] μ3 (fun μ4 r => (r = .inl none ∧ (P μ4 (.inl (some (.long (gJ μ4 32 10))))))))) ∨ (∃ y, r = .inr y ∧ P μ3 (.inr y))))) ∨ (∃ y, r = .inr y ∧ P μ2 (.inr y))))))) : gWp none 129 (0, [some (.ref 0)], [], μ) 0 P := by
  refine gWp_sts gT_129 1 (f' := (1, [some (.ref 0)], [.ref 0], μ)) (cs := []) rfl trivial ?_
  refine gWp_virt gT_129 (pc := 1) (q := 0) (as := [.ref 0]) (rest := []) rfl rfl rfl rfl rfl rfl ⟨by decide, Nat.le_of_ble_eq_true rfl, by decide, Nat.le_of_ble_eq_true rfl⟩ (gWp_imp h (fun μ1 r h => ?_))
  obtain ⟨rfl, h⟩ := h
  refine Or.inl ⟨_, rfl, ?_⟩
  show gWp none 129 (4, [some (.ref 0)], [], μ1) _ P
  refine gWp_sts gT_129 1 (f' := (5, [some (.ref 0)], [.ref 0], μ1)) (cs := []) rfl trivial ?_
  refine gWp_virt gT_129 (pc := 5) (q := 0) (as := [.ref 0]) (rest := []) rfl rfl rfl rfl rfl rfl ⟨by decide, Nat.le_of_ble_eq_true rfl, by decide, Nat.le_of_ble_eq_true rfl⟩ (gWp_imp h (fun μ2 r h => ?_))
  rcases h with h | h
  · obtain ⟨rfl, h⟩ := h
    refine Or.inl ⟨_, rfl, ?_⟩
    show gWp none 129 (8, [some (.ref 0)], [], μ2) _ P
    refine gWp_sts gT_129 1 (f' := (9, [some (.ref 0)], [.ref 0], μ2)) (cs := []) rfl trivial ?_
    refine gWp_virt gT_129 (pc := 9) (q := 0) (as := [.ref 0]) (rest := []) rfl rfl rfl rfl rfl rfl ⟨by decide, Nat.le_of_ble_eq_true rfl, by decide, Nat.le_of_ble_eq_true rfl⟩ (gWp_imp h (fun μ3 r h => ?_))
    rcases h with h | h
    · obtain ⟨rfl, h⟩ := h
      refine Or.inl ⟨_, rfl, ?_⟩
      show gWp none 129 (12, [some (.ref 0)], [], μ3) _ P
      refine gWp_sts gT_129 2 (f' := (16, [some (.ref 0)], [.ref 32], μ3)) (cs := []) rfl trivial ?_
      refine gWp_virt gT_129 (pc := 16) (q := 32) (as := [.ref 32]) (rest := []) rfl rfl rfl rfl rfl rfl ⟨by decide, Nat.le_of_ble_eq_true rfl, by decide, Nat.le_of_ble_eq_true rfl⟩ (gWp_imp h (fun μ4 r h => ?_))
      obtain ⟨rfl, h⟩ := h
      refine Or.inl ⟨_, rfl, ?_⟩
      show gWp none 129 (19, [some (.ref 0)], [], μ4) _ P
      refine gWp_sts gT_129 3 (f' := (26, [some (.ref 0)], [.long (gJ μ4 32 10)], μ4)) (cs := []) rfl trivial ?_
      exact gWp_end gT_129 rfl rfl h
    · obtain ⟨y, rfl, h⟩ := h
      exact Or.inr (Or.inl ⟨y, rfl, rfl, h⟩)
  · obtain ⟨y, rfl, h⟩ := h
    exact Or.inr (Or.inl ⟨y, rfl, rfl, h⟩)
/-! GlyphmillLaw.demeritsByTrying -/
theorem gT_130 : gCode[130]? = some gC_130 := rfl
set_option maxRecDepth 20000 in
theorem vc_130 {μ : gMu} {P : gMu → gRes → Prop} (h : gCl' 129 [.ref 0] μ (fun μ1 r => (∃ v2, r = .inl (some (.long v2)) ∧ ((vp_in (0 : Int32) 1) ∧ (P (gsJ μ1 64 ((0 : Int32).toNatClampNeg) v2) (.inl (some (.int (0 : Int32))))))) ∨ (r = .inr 1 ∧ (P μ1 (.inl (some (.int (1 : Int32)))))) ∨ (r = .inr 3 ∧ (P μ1 (.inl (some (.int (2 : Int32)))))))) : gWp none 130 (0, [some (.ref 0), some (.ref 64), none], [], μ) 0 P := by
  refine gWp_sts gT_130 3 (f' := (3, [some (.ref 0), some (.ref 64), none], [.ref 0, .int (0 : Int32), .ref 64], μ)) (cs := []) rfl trivial ?_
  refine gWp_virt gT_130 (pc := 3) (q := 0) (as := [.ref 0]) (rest := [.int (0 : Int32), .ref 64]) rfl rfl rfl rfl rfl rfl ⟨by decide, Nat.le_of_ble_eq_true rfl, by decide, Nat.le_of_ble_eq_true rfl⟩ (gWp_imp h (fun μ1 r h => ?_))
  rcases h with h | h | h
  · obtain ⟨v2, rfl, h⟩ := h
    refine Or.inl ⟨_, rfl, ?_⟩
    show gWp none 130 (6, [some (.ref 0), some (.ref 64), none], [.long v2, .int (0 : Int32), .ref 64], μ1) _ P
    obtain ⟨c1, h⟩ := h
    refine gWp_sts gT_130 3 (f' := (17, [some (.ref 0), some (.ref 64), none], [.int (0 : Int32)], (gsJ μ1 64 ((0 : Int32).toNatClampNeg) v2))) (cs := [vp_in (0 : Int32) 1]) rfl c1 ?_
    exact gWp_end gT_130 rfl (gEnd_int trivial) h
  · obtain ⟨rfl, h⟩ := h
    refine Or.inr (Or.inr ⟨1, 0, _, _, _, rfl, rfl, rfl, rfl, Or.inl ⟨_, rfl, rfl⟩, ?_⟩)
    refine gWp_sts gT_130 1 (f' := (12, [some (.ref 0), some (.ref 64), none], [.int (1 : Int32)], μ1)) (cs := []) rfl trivial ?_
    exact gWp_end gT_130 rfl (gEnd_int trivial) h
  · obtain ⟨rfl, h⟩ := h
    refine Or.inr (Or.inr ⟨3, 1, _, _, _, rfl, rfl, rfl, rfl, Or.inl ⟨_, rfl, rfl⟩, ?_⟩)
    refine gWp_sts gT_130 1 (f' := (15, [some (.ref 0), some (.ref 64), none], [.int (2 : Int32)], μ1)) (cs := []) rfl trivial ?_
    exact gWp_end gT_130 rfl (gEnd_int trivial) h
/-! Glyphmill.linesByTrying -/
theorem gT_131 : gCode[131]? = some gC_131 := rfl
set_option maxRecDepth 20000 in
theorem vc_131 {μ : gMu} {P : gMu → gRes → Prop} (h : gCl' 62 [.ref 0] μ (fun μ1 r => (r = .inl none ∧ (gCl' 107 [.ref 0] μ1 (fun μ2 r => (r = .inl none ∧ (gCl' 125 [.ref 0] μ2 (fun μ3 r => (r = .inl none ∧ (gCl' 128 [.ref 32] μ3 (fun μ4 r => (r = .inl none ∧ (P μ4 (.inl (some (.int (gI μ4 32 11))))))))) ∨ (∃ y, r = .inr y ∧ P μ3 (.inr y))))) ∨ (∃ y, r = .inr y ∧ P μ2 (.inr y))))))) : gWp none 131 (0, [some (.ref 0)], [], μ) 0 P := by
  refine gWp_sts gT_131 1 (f' := (1, [some (.ref 0)], [.ref 0], μ)) (cs := []) rfl trivial ?_
  refine gWp_virt gT_131 (pc := 1) (q := 0) (as := [.ref 0]) (rest := []) rfl rfl rfl rfl rfl rfl ⟨by decide, Nat.le_of_ble_eq_true rfl, by decide, Nat.le_of_ble_eq_true rfl⟩ (gWp_imp h (fun μ1 r h => ?_))
  obtain ⟨rfl, h⟩ := h
  refine Or.inl ⟨_, rfl, ?_⟩
  show gWp none 131 (4, [some (.ref 0)], [], μ1) _ P
  refine gWp_sts gT_131 1 (f' := (5, [some (.ref 0)], [.ref 0], μ1)) (cs := []) rfl trivial ?_
  refine gWp_virt gT_131 (pc := 5) (q := 0) (as := [.ref 0]) (rest := []) rfl rfl rfl rfl rfl rfl ⟨by decide, Nat.le_of_ble_eq_true rfl, by decide, Nat.le_of_ble_eq_true rfl⟩ (gWp_imp h (fun μ2 r h => ?_))
  rcases h with h | h
  · obtain ⟨rfl, h⟩ := h
    refine Or.inl ⟨_, rfl, ?_⟩
    show gWp none 131 (8, [some (.ref 0)], [], μ2) _ P
    refine gWp_sts gT_131 1 (f' := (9, [some (.ref 0)], [.ref 0], μ2)) (cs := []) rfl trivial ?_
    refine gWp_virt gT_131 (pc := 9) (q := 0) (as := [.ref 0]) (rest := []) rfl rfl rfl rfl rfl rfl ⟨by decide, Nat.le_of_ble_eq_true rfl, by decide, Nat.le_of_ble_eq_true rfl⟩ (gWp_imp h (fun μ3 r h => ?_))
    rcases h with h | h
    · obtain ⟨rfl, h⟩ := h
      refine Or.inl ⟨_, rfl, ?_⟩
      show gWp none 131 (12, [some (.ref 0)], [], μ3) _ P
      refine gWp_sts gT_131 2 (f' := (16, [some (.ref 0)], [.ref 32], μ3)) (cs := []) rfl trivial ?_
      refine gWp_virt gT_131 (pc := 16) (q := 32) (as := [.ref 32]) (rest := []) rfl rfl rfl rfl rfl rfl ⟨by decide, Nat.le_of_ble_eq_true rfl, by decide, Nat.le_of_ble_eq_true rfl⟩ (gWp_imp h (fun μ4 r h => ?_))
      obtain ⟨rfl, h⟩ := h
      refine Or.inl ⟨_, rfl, ?_⟩
      show gWp none 131 (19, [some (.ref 0)], [], μ4) _ P
      refine gWp_sts gT_131 3 (f' := (26, [some (.ref 0)], [.int (gI μ4 32 11)], μ4)) (cs := []) rfl trivial ?_
      exact gWp_end gT_131 rfl (gEnd_int trivial) h
    · obtain ⟨y, rfl, h⟩ := h
      exact Or.inr (Or.inl ⟨y, rfl, rfl, h⟩)
  · obtain ⟨y, rfl, h⟩ := h
    exact Or.inr (Or.inl ⟨y, rfl, rfl, h⟩)
/-! GlyphmillLaw.linesByTrying -/
theorem gT_132 : gCode[132]? = some gC_132 := rfl
set_option maxRecDepth 20000 in
theorem vc_132 {μ : gMu} {P : gMu → gRes → Prop} (h : gCl' 131 [.ref 0] μ (fun μ1 r => (∃ v2, r = .inl (some (.int v2)) ∧ ((vp_in (0 : Int32) 1) ∧ (P (gsJ μ1 64 ((0 : Int32).toNatClampNeg) v2.toInt64) (.inl (some (.int (0 : Int32))))))) ∨ (r = .inr 1 ∧ (P μ1 (.inl (some (.int (1 : Int32)))))) ∨ (r = .inr 3 ∧ (P μ1 (.inl (some (.int (2 : Int32)))))))) : gWp none 132 (0, [some (.ref 0), some (.ref 64), none], [], μ) 0 P := by
  refine gWp_sts gT_132 3 (f' := (3, [some (.ref 0), some (.ref 64), none], [.ref 0, .int (0 : Int32), .ref 64], μ)) (cs := []) rfl trivial ?_
  refine gWp_virt gT_132 (pc := 3) (q := 0) (as := [.ref 0]) (rest := [.int (0 : Int32), .ref 64]) rfl rfl rfl rfl rfl rfl ⟨by decide, Nat.le_of_ble_eq_true rfl, by decide, Nat.le_of_ble_eq_true rfl⟩ (gWp_imp h (fun μ1 r h => ?_))
  rcases h with h | h | h
  · obtain ⟨v2, rfl, h⟩ := h
    refine Or.inl ⟨_, rfl, ?_⟩
    show gWp none 132 (6, [some (.ref 0), some (.ref 64), none], [.int v2, .int (0 : Int32), .ref 64], μ1) _ P
    obtain ⟨c1, h⟩ := h
    refine gWp_sts gT_132 4 (f' := (18, [some (.ref 0), some (.ref 64), none], [.int (0 : Int32)], (gsJ μ1 64 ((0 : Int32).toNatClampNeg) v2.toInt64))) (cs := [vp_in (0 : Int32) 1]) rfl c1 ?_
    exact gWp_end gT_132 rfl (gEnd_int trivial) h
  · obtain ⟨rfl, h⟩ := h
    refine Or.inr (Or.inr ⟨1, 0, _, _, _, rfl, rfl, rfl, rfl, Or.inl ⟨_, rfl, rfl⟩, ?_⟩)
    refine gWp_sts gT_132 1 (f' := (13, [some (.ref 0), some (.ref 64), none], [.int (1 : Int32)], μ1)) (cs := []) rfl trivial ?_
    exact gWp_end gT_132 rfl (gEnd_int trivial) h
  · obtain ⟨rfl, h⟩ := h
    refine Or.inr (Or.inr ⟨3, 1, _, _, _, rfl, rfl, rfl, rfl, Or.inl ⟨_, rfl, rfl⟩, ?_⟩)
    refine gWp_sts gT_132 1 (f' := (16, [some (.ref 0), some (.ref 64), none], [.int (2 : Int32)], μ1)) (cs := []) rfl trivial ?_
    exact gWp_end gT_132 rfl (gEnd_int trivial) h
/-! Glyphmill.glyphsOf -/
theorem gT_133 : gCode[133]? = some gC_133 := rfl
set_option maxRecDepth 20000 in
theorem vc_133 {μ : gMu} {x1 : Int32} {P : gMu → gRes → Prop} (h : gCl' 62 [.ref 0] μ (fun μ1 r => (r = .inl none ∧ (gCl' 113 [.ref 0, .int x1] μ1 (fun μ2 r => (r = .inl none ∧ (gCl' 47 [.ref 38, .int x1] μ2 (fun μ3 r => (∃ v4, r = .inl (some (.int v4)) ∧ (gCl' 51 [.ref 38, .int x1] μ3 (fun μ5 r => (∃ v6, r = .inl (some (.int v6)) ∧ (P μ5 (.inl (some (.int (v4 - v6)))))))))))) ∨ (∃ y, r = .inr y ∧ P μ2 (.inr y))))))) : gWp none 133 (0, [some (.ref 0), some (.int x1)], [], μ) 0 P := by
  refine gWp_sts gT_133 1 (f' := (1, [some (.ref 0), some (.int x1)], [.ref 0], μ)) (cs := []) rfl trivial ?_
  refine gWp_virt gT_133 (pc := 1) (q := 0) (as := [.ref 0]) (rest := []) rfl rfl rfl rfl rfl rfl ⟨by decide, Nat.le_of_ble_eq_true rfl, by decide, Nat.le_of_ble_eq_true rfl⟩ (gWp_imp h (fun μ1 r h => ?_))
  obtain ⟨rfl, h⟩ := h
  refine Or.inl ⟨_, rfl, ?_⟩
  show gWp none 133 (4, [some (.ref 0), some (.int x1)], [], μ1) _ P
  refine gWp_sts gT_133 2 (f' := (6, [some (.ref 0), some (.int x1)], [.int x1, .ref 0], μ1)) (cs := []) rfl trivial ?_
  refine gWp_virt gT_133 (pc := 6) (q := 0) (as := [.ref 0, .int x1]) (rest := []) rfl rfl rfl rfl rfl rfl ⟨by decide, Nat.le_of_ble_eq_true rfl, by decide, Nat.le_of_ble_eq_true rfl⟩ (gWp_imp h (fun μ2 r h => ?_))
  rcases h with h | h
  · obtain ⟨rfl, h⟩ := h
    refine Or.inl ⟨_, rfl, ?_⟩
    show gWp none 133 (9, [some (.ref 0), some (.int x1)], [], μ2) _ P
    refine gWp_sts gT_133 3 (f' := (14, [some (.ref 0), some (.int x1)], [.int x1, .ref 38], μ2)) (cs := []) rfl trivial ?_
    refine gWp_virt gT_133 (pc := 14) (q := 38) (as := [.ref 38, .int x1]) (rest := []) rfl rfl rfl rfl rfl rfl ⟨by decide, Nat.le_of_ble_eq_true rfl, by decide, Nat.le_of_ble_eq_true rfl⟩ (gWp_imp h (fun μ3 r h => ?_))
    obtain ⟨v4, rfl, h⟩ := h
    refine Or.inl ⟨_, rfl, ?_⟩
    show gWp none 133 (17, [some (.ref 0), some (.int x1)], [.int v4], μ3) _ P
    refine gWp_sts gT_133 3 (f' := (22, [some (.ref 0), some (.int x1)], [.int x1, .ref 38, .int v4], μ3)) (cs := []) rfl trivial ?_
    refine gWp_virt gT_133 (pc := 22) (q := 38) (as := [.ref 38, .int x1]) (rest := [.int v4]) rfl rfl rfl rfl rfl rfl ⟨by decide, Nat.le_of_ble_eq_true rfl, by decide, Nat.le_of_ble_eq_true rfl⟩ (gWp_imp h (fun μ5 r h => ?_))
    obtain ⟨v6, rfl, h⟩ := h
    refine Or.inl ⟨_, rfl, ?_⟩
    show gWp none 133 (25, [some (.ref 0), some (.int x1)], [.int v6, .int v4], μ5) _ P
    refine gWp_sts gT_133 1 (f' := (26, [some (.ref 0), some (.int x1)], [.int (v4 - v6)], μ5)) (cs := []) rfl trivial ?_
    exact gWp_end gT_133 rfl (gEnd_int trivial) h
  · obtain ⟨y, rfl, h⟩ := h
    exact Or.inr (Or.inl ⟨y, rfl, rfl, h⟩)
/-! GlyphmillLaw.glyphsOf -/
theorem gT_134 : gCode[134]? = some gC_134 := rfl
set_option maxRecDepth 20000 in
theorem vc_134 {μ : gMu} {x1 : Int32} {P : gMu → gRes → Prop} (h : gCl' 133 [.ref 0, .int x1] μ (fun μ1 r => (∃ v2, r = .inl (some (.int v2)) ∧ ((vp_in (0 : Int32) 1) ∧ (P (gsJ μ1 64 ((0 : Int32).toNatClampNeg) v2.toInt64) (.inl (some (.int (0 : Int32))))))) ∨ (r = .inr 1 ∧ (P μ1 (.inl (some (.int (1 : Int32)))))) ∨ (r = .inr 2 ∧ (P μ1 (.inl (some (.int (2 : Int32)))))))) : gWp none 134 (0, [some (.ref 0), some (.int x1), some (.ref 64), none], [], μ) 0 P := by
  refine gWp_sts gT_134 4 (f' := (4, [some (.ref 0), some (.int x1), some (.ref 64), none], [.int x1, .ref 0, .int (0 : Int32), .ref 64], μ)) (cs := []) rfl trivial ?_
  refine gWp_virt gT_134 (pc := 4) (q := 0) (as := [.ref 0, .int x1]) (rest := [.int (0 : Int32), .ref 64]) rfl rfl rfl rfl rfl rfl ⟨by decide, Nat.le_of_ble_eq_true rfl, by decide, Nat.le_of_ble_eq_true rfl⟩ (gWp_imp h (fun μ1 r h => ?_))
  rcases h with h | h | h
  · obtain ⟨v2, rfl, h⟩ := h
    refine Or.inl ⟨_, rfl, ?_⟩
    show gWp none 134 (7, [some (.ref 0), some (.int x1), some (.ref 64), none], [.int v2, .int (0 : Int32), .ref 64], μ1) _ P
    obtain ⟨c1, h⟩ := h
    refine gWp_sts gT_134 4 (f' := (19, [some (.ref 0), some (.int x1), some (.ref 64), none], [.int (0 : Int32)], (gsJ μ1 64 ((0 : Int32).toNatClampNeg) v2.toInt64))) (cs := [vp_in (0 : Int32) 1]) rfl c1 ?_
    exact gWp_end gT_134 rfl (gEnd_int trivial) h
  · obtain ⟨rfl, h⟩ := h
    refine Or.inr (Or.inr ⟨1, 0, _, _, _, rfl, rfl, rfl, rfl, Or.inl ⟨_, rfl, rfl⟩, ?_⟩)
    refine gWp_sts gT_134 1 (f' := (14, [some (.ref 0), some (.int x1), some (.ref 64), none], [.int (1 : Int32)], μ1)) (cs := []) rfl trivial ?_
    exact gWp_end gT_134 rfl (gEnd_int trivial) h
  · obtain ⟨rfl, h⟩ := h
    refine Or.inr (Or.inr ⟨2, 1, _, _, _, rfl, rfl, rfl, rfl, Or.inl ⟨_, rfl, rfl⟩, ?_⟩)
    refine gWp_sts gT_134 1 (f' := (17, [some (.ref 0), some (.int x1), some (.ref 64), none], [.int (2 : Int32)], μ1)) (cs := []) rfl trivial ?_
    exact gWp_end gT_134 rfl (gEnd_int trivial) h
/-! Glyphmill.glyphAt -/
theorem gT_135 : gCode[135]? = some gC_135 := rfl
set_option maxRecDepth 20000 in
theorem vc_135 {μ : gMu} {x1 : Int32} {x2 : Int32} {P : gMu → gRes → Prop} (h : gCl' 62 [.ref 0] μ (fun μ1 r => (r = .inl none ∧ (gCl' 113 [.ref 0, .int x1] μ1 (fun μ2 r => (r = .inl none ∧ (gCl' 51 [.ref 38, .int x1] μ2 (fun μ3 r => (∃ v4, r = .inl (some (.int v4)) ∧ (((x2 < 0) → (P μ3 (.inr 2))) ∧ ((¬ x2 < 0) → (gCl' 47 [.ref 38, .int x1] μ3 (fun μ5 r => (∃ v6, r = .inl (some (.int v6)) ∧ (((x2 < (v6 - v4)) → ((vp_in (v4 + x2) 50) ∧ (gCl' 67 [.ref 0, .int (gI μ5 40 ((v4 + x2).toNatClampNeg))] μ5 (fun μ7 r => (∃ v8, r = .inl (some (.int v8)) ∧ (P μ7 (.inl (some (.int v8))))))))) ∧ ((¬ x2 < (v6 - v4)) → (P μ5 (.inr 2))))))))))))) ∨ (∃ y, r = .inr y ∧ P μ2 (.inr y))))))) : gWp none 135 (0, [some (.ref 0), some (.int x1), some (.int x2), none], [], μ) 0 P := by
  refine gWp_sts gT_135 1 (f' := (1, [some (.ref 0), some (.int x1), some (.int x2), none], [.ref 0], μ)) (cs := []) rfl trivial ?_
  refine gWp_virt gT_135 (pc := 1) (q := 0) (as := [.ref 0]) (rest := []) rfl rfl rfl rfl rfl rfl ⟨by decide, Nat.le_of_ble_eq_true rfl, by decide, Nat.le_of_ble_eq_true rfl⟩ (gWp_imp h (fun μ1 r h => ?_))
  obtain ⟨rfl, h⟩ := h
  refine Or.inl ⟨_, rfl, ?_⟩
  show gWp none 135 (4, [some (.ref 0), some (.int x1), some (.int x2), none], [], μ1) _ P
  refine gWp_sts gT_135 2 (f' := (6, [some (.ref 0), some (.int x1), some (.int x2), none], [.int x1, .ref 0], μ1)) (cs := []) rfl trivial ?_
  refine gWp_virt gT_135 (pc := 6) (q := 0) (as := [.ref 0, .int x1]) (rest := []) rfl rfl rfl rfl rfl rfl ⟨by decide, Nat.le_of_ble_eq_true rfl, by decide, Nat.le_of_ble_eq_true rfl⟩ (gWp_imp h (fun μ2 r h => ?_))
  rcases h with h | h
  · obtain ⟨rfl, h⟩ := h
    refine Or.inl ⟨_, rfl, ?_⟩
    show gWp none 135 (9, [some (.ref 0), some (.int x1), some (.int x2), none], [], μ2) _ P
    refine gWp_sts gT_135 3 (f' := (14, [some (.ref 0), some (.int x1), some (.int x2), none], [.int x1, .ref 38], μ2)) (cs := []) rfl trivial ?_
    refine gWp_virt gT_135 (pc := 14) (q := 38) (as := [.ref 38, .int x1]) (rest := []) rfl rfl rfl rfl rfl rfl ⟨by decide, Nat.le_of_ble_eq_true rfl, by decide, Nat.le_of_ble_eq_true rfl⟩ (gWp_imp h (fun μ3 r h => ?_))
    obtain ⟨v4, rfl, h⟩ := h
    refine Or.inl ⟨_, rfl, ?_⟩
    show gWp none 135 (17, [some (.ref 0), some (.int x1), some (.int x2), none], [.int v4], μ3) _ P
    refine gWp_sts gT_135 2 (f' := (19, [some (.ref 0), some (.int x1), some (.int x2), some (.int v4)], [.int x2], μ3)) (cs := []) rfl trivial ?_
    refine gWp_if gT_135 (pc := 19) rfl ⟨fun c => ?_, fun c => ?_⟩
    · replace h := h.1 (of_decide_eq_true c)
      exact gWp_end gT_135 rfl rfl h
    · replace h := h.2 (fun q => c (decide_eq_true q))
      refine gWp_sts gT_135 4 (f' := (28, [some (.ref 0), some (.int x1), some (.int x2), some (.int v4)], [.int x1, .ref 38, .int x2], μ3)) (cs := []) rfl trivial ?_
      refine gWp_virt gT_135 (pc := 28) (q := 38) (as := [.ref 38, .int x1]) (rest := [.int x2]) rfl rfl rfl rfl rfl rfl ⟨by decide, Nat.le_of_ble_eq_true rfl, by decide, Nat.le_of_ble_eq_true rfl⟩ (gWp_imp h (fun μ5 r h => ?_))
      obtain ⟨v6, rfl, h⟩ := h
      refine Or.inl ⟨_, rfl, ?_⟩
      show gWp none 135 (31, [some (.ref 0), some (.int x1), some (.int x2), some (.int v4)], [.int v6, .int x2], μ5) _ P
      refine gWp_sts gT_135 2 (f' := (33, [some (.ref 0), some (.int x1), some (.int x2), some (.int v4)], [.int (v6 - v4), .int x2], μ5)) (cs := []) rfl trivial ?_
      refine gWp_icmp gT_135 (pc := 33) rfl ⟨fun c => ?_, fun c => ?_⟩
      · replace h := h.1 (of_decide_eq_true c)
        obtain ⟨c1, h⟩ := h
        refine gWp_sts gT_135 8 (f' := (59, [some (.ref 0), some (.int x1), some (.int x2), some (.int v4)], [.int (gI μ5 40 ((v4 + x2).toNatClampNeg)), .ref 0], μ5)) (cs := [vp_in (v4 + x2) 50]) rfl c1 ?_
        refine gWp_virt gT_135 (pc := 59) (q := 0) (as := [.ref 0, .int (gI μ5 40 ((v4 + x2).toNatClampNeg))]) (rest := []) rfl rfl rfl rfl rfl rfl ⟨by decide, Nat.le_of_ble_eq_true rfl, by decide, Nat.le_of_ble_eq_true rfl⟩ (gWp_imp h (fun μ7 r h => ?_))
        obtain ⟨v8, rfl, h⟩ := h
        refine Or.inl ⟨_, rfl, ?_⟩
        show gWp none 135 (62, [some (.ref 0), some (.int x1), some (.int x2), some (.int v4)], [.int v8], μ7) _ P
        exact gWp_end gT_135 rfl (gEnd_int trivial) h
      · replace h := h.2 (fun q => c (decide_eq_true q))
        exact gWp_end gT_135 rfl rfl h
  · obtain ⟨y, rfl, h⟩ := h
    exact Or.inr (Or.inl ⟨y, rfl, rfl, h⟩)
/-! GlyphmillLaw.glyphAt -/
theorem gT_136 : gCode[136]? = some gC_136 := rfl
set_option maxRecDepth 20000 in
theorem vc_136 {μ : gMu} {x1 : Int32} {x2 : Int32} {P : gMu → gRes → Prop} (h : gCl' 135 [.ref 0, .int x1, .int x2] μ (fun μ1 r => (∃ v2, r = .inl (some (.int v2)) ∧ ((vp_in (0 : Int32) 1) ∧ (P (gsJ μ1 64 ((0 : Int32).toNatClampNeg) v2.toInt64) (.inl (some (.int (0 : Int32))))))) ∨ (r = .inr 1 ∧ (P μ1 (.inl (some (.int (1 : Int32)))))) ∨ (r = .inr 2 ∧ (P μ1 (.inl (some (.int (2 : Int32)))))))) : gWp none 136 (0, [some (.ref 0), some (.int x1), some (.int x2), some (.ref 64), none], [], μ) 0 P := by
  refine gWp_sts gT_136 5 (f' := (5, [some (.ref 0), some (.int x1), some (.int x2), some (.ref 64), none], [.int x2, .int x1, .ref 0, .int (0 : Int32), .ref 64], μ)) (cs := []) rfl trivial ?_
  refine gWp_virt gT_136 (pc := 5) (q := 0) (as := [.ref 0, .int x1, .int x2]) (rest := [.int (0 : Int32), .ref 64]) rfl rfl rfl rfl rfl rfl ⟨by decide, Nat.le_of_ble_eq_true rfl, by decide, Nat.le_of_ble_eq_true rfl⟩ (gWp_imp h (fun μ1 r h => ?_))
  rcases h with h | h | h
  · obtain ⟨v2, rfl, h⟩ := h
    refine Or.inl ⟨_, rfl, ?_⟩
    show gWp none 136 (8, [some (.ref 0), some (.int x1), some (.int x2), some (.ref 64), none], [.int v2, .int (0 : Int32), .ref 64], μ1) _ P
    obtain ⟨c1, h⟩ := h
    refine gWp_sts gT_136 4 (f' := (22, [some (.ref 0), some (.int x1), some (.int x2), some (.ref 64), none], [.int (0 : Int32)], (gsJ μ1 64 ((0 : Int32).toNatClampNeg) v2.toInt64))) (cs := [vp_in (0 : Int32) 1]) rfl c1 ?_
    exact gWp_end gT_136 rfl (gEnd_int trivial) h
  · obtain ⟨rfl, h⟩ := h
    refine Or.inr (Or.inr ⟨1, 0, _, _, _, rfl, rfl, rfl, rfl, Or.inr ⟨_, rfl, rfl⟩, ?_⟩)
    refine gWp_sts gT_136 1 (f' := (16, [some (.ref 0), some (.int x1), some (.int x2), some (.ref 64), none], [.int (1 : Int32)], μ1)) (cs := []) rfl trivial ?_
    exact gWp_end gT_136 rfl (gEnd_int trivial) h
  · obtain ⟨rfl, h⟩ := h
    refine Or.inr (Or.inr ⟨2, 1, _, _, _, rfl, rfl, rfl, rfl, Or.inr ⟨_, rfl, rfl⟩, ?_⟩)
    refine gWp_sts gT_136 1 (f' := (20, [some (.ref 0), some (.int x1), some (.int x2), some (.ref 64), none], [.int (2 : Int32)], μ1)) (cs := []) rfl trivial ?_
    exact gWp_end gT_136 rfl (gEnd_int trivial) h
/-! Glyphmill.placedGlyph -/
theorem gT_137 : gCode[137]? = some gC_137 := rfl
set_option maxRecDepth 20000 in
theorem vc_137 {μ : gMu} {x1 : Int32} {P : gMu → gRes → Prop} (h : gCl' 116 [.ref 0, .int x1] μ (fun μ1 r => (∃ v2, r = .inl (some (.int v2)) ∧ ((vp_in v2 50) ∧ (((¬ (gI μ1 41 v2.toNatClampNeg) = (-1 : Int32)) → (P μ1 (.inl (some (.int v2))))) ∧ (((gI μ1 41 v2.toNatClampNeg) = (-1 : Int32)) → (P μ1 (.inr 4)))))) ∨ (∃ y, r = .inr y ∧ P μ1 (.inr y)))) : gWp none 137 (0, [some (.ref 0), some (.int x1), none], [], μ) 0 P := by
  refine gWp_sts gT_137 2 (f' := (2, [some (.ref 0), some (.int x1), none], [.int x1, .ref 0], μ)) (cs := []) rfl trivial ?_
  refine gWp_virt gT_137 (pc := 2) (q := 0) (as := [.ref 0, .int x1]) (rest := []) rfl rfl rfl rfl rfl rfl ⟨by decide, Nat.le_of_ble_eq_true rfl, by decide, Nat.le_of_ble_eq_true rfl⟩ (gWp_imp h (fun μ1 r h => ?_))
  rcases h with h | h
  · obtain ⟨v2, rfl, h⟩ := h
    refine Or.inl ⟨_, rfl, ?_⟩
    show gWp none 137 (5, [some (.ref 0), some (.int x1), none], [.int v2], μ1) _ P
    obtain ⟨c1, h⟩ := h
    refine gWp_sts gT_137 7 (f' := (16, [some (.ref 0), some (.int x1), some (.int v2)], [.int (-1 : Int32), .int (gI μ1 41 v2.toNatClampNeg)], μ1)) (cs := [vp_in v2 50]) rfl c1 ?_
    refine gWp_icmp gT_137 (pc := 16) rfl ⟨fun c => ?_, fun c => ?_⟩
    · replace h := h.1 (of_decide_eq_true c)
      refine gWp_sts gT_137 1 (f' := (31, [some (.ref 0), some (.int x1), some (.int v2)], [.int v2], μ1)) (cs := []) rfl trivial ?_
      exact gWp_end gT_137 rfl (gEnd_int trivial) h
    · replace h := h.2 (Classical.not_not.mp (fun q => c (decide_eq_true q)))
      exact gWp_end gT_137 rfl rfl h
  · obtain ⟨y, rfl, h⟩ := h
    exact Or.inr (Or.inl ⟨y, rfl, rfl, h⟩)
/-! Glyphmill.rankOf -/
theorem gT_138 : gCode[138]? = some gC_138 := rfl
set_option maxRecDepth 20000 in
theorem vc_138 {μ : gMu} {x1 : Int32} {P : gMu → gRes → Prop} (h : gCl' 62 [.ref 0] μ (fun μ1 r => (r = .inl none ∧ (gCl' 137 [.ref 0, .int x1] μ1 (fun μ2 r => (∃ v3, r = .inl (some (.int v3)) ∧ ((vp_in v3 50) ∧ (P μ2 (.inl (some (.int (gI μ2 41 v3.toNatClampNeg))))))) ∨ (∃ y, r = .inr y ∧ P μ2 (.inr y))))))) : gWp none 138 (0, [some (.ref 0), some (.int x1)], [], μ) 0 P := by
  refine gWp_sts gT_138 1 (f' := (1, [some (.ref 0), some (.int x1)], [.ref 0], μ)) (cs := []) rfl trivial ?_
  refine gWp_virt gT_138 (pc := 1) (q := 0) (as := [.ref 0]) (rest := []) rfl rfl rfl rfl rfl rfl ⟨by decide, Nat.le_of_ble_eq_true rfl, by decide, Nat.le_of_ble_eq_true rfl⟩ (gWp_imp h (fun μ1 r h => ?_))
  obtain ⟨rfl, h⟩ := h
  refine Or.inl ⟨_, rfl, ?_⟩
  show gWp none 138 (4, [some (.ref 0), some (.int x1)], [], μ1) _ P
  refine gWp_sts gT_138 5 (f' := (13, [some (.ref 0), some (.int x1)], [.int x1, .ref 0, .ref 41], μ1)) (cs := []) rfl trivial ?_
  refine gWp_virt gT_138 (pc := 13) (q := 0) (as := [.ref 0, .int x1]) (rest := [.ref 41]) rfl rfl rfl rfl rfl rfl ⟨by decide, Nat.le_of_ble_eq_true rfl, by decide, Nat.le_of_ble_eq_true rfl⟩ (gWp_imp h (fun μ2 r h => ?_))
  rcases h with h | h
  · obtain ⟨v3, rfl, h⟩ := h
    refine Or.inl ⟨_, rfl, ?_⟩
    show gWp none 138 (16, [some (.ref 0), some (.int x1)], [.int v3, .ref 41], μ2) _ P
    obtain ⟨c1, h⟩ := h
    refine gWp_sts gT_138 1 (f' := (17, [some (.ref 0), some (.int x1)], [.int (gI μ2 41 v3.toNatClampNeg)], μ2)) (cs := [vp_in v3 50]) rfl c1 ?_
    exact gWp_end gT_138 rfl (gEnd_int trivial) h
  · obtain ⟨y, rfl, h⟩ := h
    exact Or.inr (Or.inl ⟨y, rfl, rfl, h⟩)
/-! GlyphmillLaw.rankOf -/
theorem gT_139 : gCode[139]? = some gC_139 := rfl
set_option maxRecDepth 20000 in
theorem vc_139 {μ : gMu} {x1 : Int32} {P : gMu → gRes → Prop} (h : gCl' 138 [.ref 0, .int x1] μ (fun μ1 r => (∃ v2, r = .inl (some (.int v2)) ∧ ((vp_in (0 : Int32) 1) ∧ (P (gsJ μ1 64 ((0 : Int32).toNatClampNeg) v2.toInt64) (.inl (some (.int (0 : Int32))))))) ∨ (r = .inr 2 ∧ (P μ1 (.inl (some (.int (1 : Int32)))))) ∨ (r = .inr 3 ∧ (P μ1 (.inl (some (.int (2 : Int32)))))) ∨ (r = .inr 1 ∧ (P μ1 (.inl (some (.int (3 : Int32)))))) ∨ (r = .inr 4 ∧ (P μ1 (.inl (some (.int (4 : Int32)))))))) : gWp none 139 (0, [some (.ref 0), some (.int x1), some (.ref 64), none], [], μ) 0 P := by
  refine gWp_sts gT_139 4 (f' := (4, [some (.ref 0), some (.int x1), some (.ref 64), none], [.int x1, .ref 0, .int (0 : Int32), .ref 64], μ)) (cs := []) rfl trivial ?_
  refine gWp_virt gT_139 (pc := 4) (q := 0) (as := [.ref 0, .int x1]) (rest := [.int (0 : Int32), .ref 64]) rfl rfl rfl rfl rfl rfl ⟨by decide, Nat.le_of_ble_eq_true rfl, by decide, Nat.le_of_ble_eq_true rfl⟩ (gWp_imp h (fun μ1 r h => ?_))
  rcases h with h | h | h | h | h
  · obtain ⟨v2, rfl, h⟩ := h
    refine Or.inl ⟨_, rfl, ?_⟩
    show gWp none 139 (7, [some (.ref 0), some (.int x1), some (.ref 64), none], [.int v2, .int (0 : Int32), .ref 64], μ1) _ P
    obtain ⟨c1, h⟩ := h
    refine gWp_sts gT_139 4 (f' := (25, [some (.ref 0), some (.int x1), some (.ref 64), none], [.int (0 : Int32)], (gsJ μ1 64 ((0 : Int32).toNatClampNeg) v2.toInt64))) (cs := [vp_in (0 : Int32) 1]) rfl c1 ?_
    exact gWp_end gT_139 rfl (gEnd_int trivial) h
  · obtain ⟨rfl, h⟩ := h
    refine Or.inr (Or.inr ⟨2, 0, _, _, _, rfl, rfl, rfl, rfl, Or.inl ⟨_, rfl, rfl⟩, ?_⟩)
    refine gWp_sts gT_139 1 (f' := (14, [some (.ref 0), some (.int x1), some (.ref 64), none], [.int (1 : Int32)], μ1)) (cs := []) rfl trivial ?_
    exact gWp_end gT_139 rfl (gEnd_int trivial) h
  · obtain ⟨rfl, h⟩ := h
    refine Or.inr (Or.inr ⟨3, 1, _, _, _, rfl, rfl, rfl, rfl, Or.inl ⟨_, rfl, rfl⟩, ?_⟩)
    refine gWp_sts gT_139 1 (f' := (17, [some (.ref 0), some (.int x1), some (.ref 64), none], [.int (2 : Int32)], μ1)) (cs := []) rfl trivial ?_
    exact gWp_end gT_139 rfl (gEnd_int trivial) h
  · obtain ⟨rfl, h⟩ := h
    refine Or.inr (Or.inr ⟨1, 2, _, _, _, rfl, rfl, rfl, rfl, Or.inl ⟨_, rfl, rfl⟩, ?_⟩)
    refine gWp_sts gT_139 1 (f' := (20, [some (.ref 0), some (.int x1), some (.ref 64), none], [.int (3 : Int32)], μ1)) (cs := []) rfl trivial ?_
    exact gWp_end gT_139 rfl (gEnd_int trivial) h
  · obtain ⟨rfl, h⟩ := h
    refine Or.inr (Or.inr ⟨4, 3, _, _, _, rfl, rfl, rfl, rfl, Or.inl ⟨_, rfl, rfl⟩, ?_⟩)
    refine gWp_sts gT_139 1 (f' := (23, [some (.ref 0), some (.int x1), some (.ref 64), none], [.int (4 : Int32)], μ1)) (cs := []) rfl trivial ?_
    exact gWp_end gT_139 rfl (gEnd_int trivial) h
/-! Glyphmill$Rows.countRank -/
theorem gT_140 : gCode[140]? = some gC_140 := rfl
set_option maxRecDepth 20000 in
theorem vc_140_90 {μ : gMu} {x1 : Int32} {x2 : Int32} {x3 : Int32} {x4 : Int32} {x5 : Int32} {P : gMu → gRes → Prop} (h : gCl' 47 [.ref 38, .int x2] μ (fun μ1 r => (∃ v2, r = .inl (some (.int v2)) ∧ (((v2 ≤ x5) → (P μ1 (.inl (some (.int x3))))) ∧ ((¬ v2 ≤ x5) → ((vp_in x5 50) ∧ (gCl' 13 [.int (if (gI μ1 25 x5.toNatClampNeg) < x4 then gI μ1 25 x5.toNatClampNeg else x4)] μ1 (fun μ3 r => (∃ v4, r = .inl (some (.int v4)) ∧ (((v4 = 0) → (gWp none 140 (90, [some (.ref 38), some (.int x1), some (.int x2), some (.int (x3 + (0 : Int32))), some (.int (if (gI μ1 25 x5.toNatClampNeg) < x4 then gI μ1 25 x5.toNatClampNeg else x4)), some (.int (x5 + (1 : Int32)))], [], μ3) 0 P)) ∧ ((¬ v4 = 0) → (gWp none 140 (90, [some (.ref 38), some (.int x1), some (.int x2), some (.int (x3 + (1 : Int32))), some (.int (if (gI μ1 25 x5.toNatClampNeg) < x4 then gI μ1 25 x5.toNatClampNeg else x4)), some (.int (x5 + (1 : Int32)))], [], μ3) 0 P)))))))))))) : gWp none 140 (90, [some (.ref 38), some (.int x1), some (.int x2), some (.int x3), some (.int x4), some (.int x5)], [], μ) 0 P := by
  refine gWp_sts gT_140 3 (f' := (94, [some (.ref 38), some (.int x1), some (.int x2), some (.int x3), some (.int x4), some (.int x5)], [.int x2, .ref 38, .int x5], μ)) (cs := []) rfl trivial ?_
  refine gWp_virt gT_140 (pc := 94) (q := 38) (as := [.ref 38, .int x2]) (rest := [.int x5]) rfl rfl rfl rfl rfl rfl ⟨by decide, Nat.le_of_ble_eq_true rfl, by decide, Nat.le_of_ble_eq_true rfl⟩ (gWp_imp h (fun μ1 r h => ?_))
  obtain ⟨v2, rfl, h⟩ := h
  refine Or.inl ⟨_, rfl, ?_⟩
  show gWp none 140 (97, [some (.ref 38), some (.int x1), some (.int x2), some (.int x3), some (.int x4), some (.int x5)], [.int v2, .int x5], μ1) _ P
  refine gWp_icmp gT_140 (pc := 97) rfl ⟨fun c => ?_, fun c => ?_⟩
  · replace h := h.1 (of_decide_eq_true c)
    refine gWp_sts gT_140 1 (f' := (140, [some (.ref 38), some (.int x1), some (.int x2), some (.int x3), some (.int x4), some (.int x5)], [.int x3], μ1)) (cs := []) rfl trivial ?_
    exact gWp_end gT_140 rfl (gEnd_int trivial) h
  · replace h := h.2 (fun q => c (decide_eq_true q))
    obtain ⟨c1, h⟩ := h
    refine gWp_sts gT_140 10 (f' := (120, [some (.ref 38), some (.int x1), some (.int x2), some (.int x3), some (.int (if (gI μ1 25 x5.toNatClampNeg) < x4 then gI μ1 25 x5.toNatClampNeg else x4)), some (.int x5)], [.int (if (gI μ1 25 x5.toNatClampNeg) < x4 then gI μ1 25 x5.toNatClampNeg else x4), .int x3], μ1)) (cs := [vp_in x5 50, (([] : List Value).map fun v => v.category).sum ≤ 8]) rfl ⟨c1, (Nat.le_of_ble_eq_true rfl)⟩ ?_
    refine gWp_stat gT_140 (pc := 120) (c01 := 1) (as := [.int (if (gI μ1 25 x5.toNatClampNeg) < x4 then gI μ1 25 x5.toNatClampNeg else x4)]) (rest := [.int x3]) rfl (Or.inr rfl) rfl rfl rfl ⟨by decide, Nat.le_of_ble_eq_true rfl, by decide, Nat.le_of_ble_eq_true rfl⟩ (gWp_imp h (fun μ3 r h => ?_))
    obtain ⟨v4, rfl, h⟩ := h
    refine Or.inl ⟨_, rfl, ?_⟩
    show gWp none 140 (123, [some (.ref 38), some (.int x1), some (.int x2), some (.int x3), some (.int (if (gI μ1 25 x5.toNatClampNeg) < x4 then gI μ1 25 x5.toNatClampNeg else x4)), some (.int x5)], [.int v4, .int x3], μ3) _ P
    refine gWp_if gT_140 (pc := 123) rfl ⟨fun c => ?_, fun c => ?_⟩
    · replace h := h.1 (of_decide_eq_true c)
      refine gWp_sts gT_140 5 (f' := (90, [some (.ref 38), some (.int x1), some (.int x2), some (.int (x3 + (0 : Int32))), some (.int (if (gI μ1 25 x5.toNatClampNeg) < x4 then gI μ1 25 x5.toNatClampNeg else x4)), some (.int (x5 + (1 : Int32)))], [], μ3)) (cs := []) rfl trivial ?_
      exact h
    · replace h := h.2 (fun q => c (decide_eq_true q))
      refine gWp_sts gT_140 6 (f' := (90, [some (.ref 38), some (.int x1), some (.int x2), some (.int (x3 + (1 : Int32))), some (.int (if (gI μ1 25 x5.toNatClampNeg) < x4 then gI μ1 25 x5.toNatClampNeg else x4)), some (.int (x5 + (1 : Int32)))], [], μ3)) (cs := []) rfl trivial ?_
      exact h
set_option maxRecDepth 20000 in
theorem vc_140_25 {μ : gMu} {x1 : Int32} {x2 : Int32} {x3 : Int32} {x4 : Int32} {x5 : Int32} {P : gMu → gRes → Prop} (h : gCl' 51 [.ref 38, .int x2] μ (fun μ1 r => (∃ v2, r = .inl (some (.int v2)) ∧ (((x5 < v2) → ((vp_in x1 50) ∧ (gWp none 140 (90, [some (.ref 38), some (.int x1), some (.int x2), some (.int x3), some (.int (gI μ1 25 x1.toNatClampNeg)), some (.int (x1 + (1 : Int32)))], [], μ1) 0 P))) ∧ ((¬ x5 < v2) → ((vp_in x5 50) ∧ (gCl' 13 [.int (if (gI μ1 25 x5.toNatClampNeg) < x4 then gI μ1 25 x5.toNatClampNeg else x4)] μ1 (fun μ3 r => (∃ v4, r = .inl (some (.int v4)) ∧ (((v4 = 0) → (gWp none 140 (25, [some (.ref 38), some (.int x1), some (.int x2), some (.int (x3 + (1 : Int32))), some (.int (if (gI μ1 25 x5.toNatClampNeg) < x4 then gI μ1 25 x5.toNatClampNeg else x4)), some (.int (x5 + (-1 : Int32)))], [], μ3) 0 P)) ∧ ((¬ v4 = 0) → (gWp none 140 (25, [some (.ref 38), some (.int x1), some (.int x2), some (.int (x3 + (0 : Int32))), some (.int (if (gI μ1 25 x5.toNatClampNeg) < x4 then gI μ1 25 x5.toNatClampNeg else x4)), some (.int (x5 + (-1 : Int32)))], [], μ3) 0 P)))))))))))) : gWp none 140 (25, [some (.ref 38), some (.int x1), some (.int x2), some (.int x3), some (.int x4), some (.int x5)], [], μ) 0 P := by
  refine gWp_sts gT_140 3 (f' := (29, [some (.ref 38), some (.int x1), some (.int x2), some (.int x3), some (.int x4), some (.int x5)], [.int x2, .ref 38, .int x5], μ)) (cs := []) rfl trivial ?_
  refine gWp_virt gT_140 (pc := 29) (q := 38) (as := [.ref 38, .int x2]) (rest := [.int x5]) rfl rfl rfl rfl rfl rfl ⟨by decide, Nat.le_of_ble_eq_true rfl, by decide, Nat.le_of_ble_eq_true rfl⟩ (gWp_imp h (fun μ1 r h => ?_))
  obtain ⟨v2, rfl, h⟩ := h
  refine Or.inl ⟨_, rfl, ?_⟩
  show gWp none 140 (32, [some (.ref 38), some (.int x1), some (.int x2), some (.int x3), some (.int x4), some (.int x5)], [.int v2, .int x5], μ1) _ P
  refine gWp_icmp gT_140 (pc := 32) rfl ⟨fun c => ?_, fun c => ?_⟩
  · replace h := h.1 (of_decide_eq_true c)
    obtain ⟨c1, h⟩ := h
    refine gWp_sts gT_140 10 (f' := (90, [some (.ref 38), some (.int x1), some (.int x2), some (.int x3), some (.int (gI μ1 25 x1.toNatClampNeg)), some (.int (x1 + (1 : Int32)))], [], μ1)) (cs := [vp_in x1 50]) rfl c1 ?_
    exact h
  · replace h := h.2 (fun q => c (decide_eq_true q))
    obtain ⟨c1, h⟩ := h
    refine gWp_sts gT_140 10 (f' := (55, [some (.ref 38), some (.int x1), some (.int x2), some (.int x3), some (.int (if (gI μ1 25 x5.toNatClampNeg) < x4 then gI μ1 25 x5.toNatClampNeg else x4)), some (.int x5)], [.int (if (gI μ1 25 x5.toNatClampNeg) < x4 then gI μ1 25 x5.toNatClampNeg else x4), .int x3], μ1)) (cs := [vp_in x5 50, (([] : List Value).map fun v => v.category).sum ≤ 8]) rfl ⟨c1, (Nat.le_of_ble_eq_true rfl)⟩ ?_
    refine gWp_stat gT_140 (pc := 55) (c01 := 1) (as := [.int (if (gI μ1 25 x5.toNatClampNeg) < x4 then gI μ1 25 x5.toNatClampNeg else x4)]) (rest := [.int x3]) rfl (Or.inr rfl) rfl rfl rfl ⟨by decide, Nat.le_of_ble_eq_true rfl, by decide, Nat.le_of_ble_eq_true rfl⟩ (gWp_imp h (fun μ3 r h => ?_))
    obtain ⟨v4, rfl, h⟩ := h
    refine Or.inl ⟨_, rfl, ?_⟩
    show gWp none 140 (58, [some (.ref 38), some (.int x1), some (.int x2), some (.int x3), some (.int (if (gI μ1 25 x5.toNatClampNeg) < x4 then gI μ1 25 x5.toNatClampNeg else x4)), some (.int x5)], [.int v4, .int x3], μ3) _ P
    refine gWp_if gT_140 (pc := 58) rfl ⟨fun c => ?_, fun c => ?_⟩
    · replace h := h.1 (of_decide_eq_true c)
      refine gWp_sts gT_140 5 (f' := (25, [some (.ref 38), some (.int x1), some (.int x2), some (.int (x3 + (1 : Int32))), some (.int (if (gI μ1 25 x5.toNatClampNeg) < x4 then gI μ1 25 x5.toNatClampNeg else x4)), some (.int (x5 + (-1 : Int32)))], [], μ3)) (cs := []) rfl trivial ?_
      exact h
    · replace h := h.2 (fun q => c (decide_eq_true q))
      refine gWp_sts gT_140 6 (f' := (25, [some (.ref 38), some (.int x1), some (.int x2), some (.int (x3 + (0 : Int32))), some (.int (if (gI μ1 25 x5.toNatClampNeg) < x4 then gI μ1 25 x5.toNatClampNeg else x4)), some (.int (x5 + (-1 : Int32)))], [], μ3)) (cs := []) rfl trivial ?_
      exact h
set_option maxRecDepth 20000 in
theorem vc_140 {μ : gMu} {x1 : Int32} {P : gMu → gRes → Prop} (h : (vp_in x1 50) ∧ ((vp_in x1 50) ∧ (gWp none 140 (25, [some (.ref 38), some (.int x1), some (.int (gI μ 39 x1.toNatClampNeg)), some (.int (0 : Int32)), some (.int (gI μ 25 x1.toNatClampNeg)), some (.int (x1 - (1 : Int32)))], [], μ) 0 P))) : gWp none 140 (0, [some (.ref 38), some (.int x1), none, none, none, none], [], μ) 0 P := by
  obtain ⟨c1, c2, h⟩ := h
  refine gWp_sts gT_140 17 (f' := (25, [some (.ref 38), some (.int x1), some (.int (gI μ 39 x1.toNatClampNeg)), some (.int (0 : Int32)), some (.int (gI μ 25 x1.toNatClampNeg)), some (.int (x1 - (1 : Int32)))], [], μ)) (cs := [vp_in x1 50, vp_in x1 50]) rfl ⟨c1, c2⟩ ?_
  exact h
/-! Glyphmill.rankByCounting -/
theorem gT_141 : gCode[141]? = some gC_141 := rfl
set_option maxRecDepth 20000 in
theorem vc_141 {μ : gMu} {x1 : Int32} {P : gMu → gRes → Prop} (h : gCl' 62 [.ref 0] μ (fun μ1 r => (r = .inl none ∧ (gCl' 137 [.ref 0, .int x1] μ1 (fun μ2 r => (∃ v3, r = .inl (some (.int v3)) ∧ (gCl' 140 [.ref 38, .int v3] μ2 (fun μ4 r => (∃ v5, r = .inl (some (.int v5)) ∧ (P μ4 (.inl (some (.int v5)))))))) ∨ (∃ y, r = .inr y ∧ P μ2 (.inr y))))))) : gWp none 141 (0, [some (.ref 0), some (.int x1)], [], μ) 0 P := by
  refine gWp_sts gT_141 1 (f' := (1, [some (.ref 0), some (.int x1)], [.ref 0], μ)) (cs := []) rfl trivial ?_
  refine gWp_virt gT_141 (pc := 1) (q := 0) (as := [.ref 0]) (rest := []) rfl rfl rfl rfl rfl rfl ⟨by decide, Nat.le_of_ble_eq_true rfl, by decide, Nat.le_of_ble_eq_true rfl⟩ (gWp_imp h (fun μ1 r h => ?_))
  obtain ⟨rfl, h⟩ := h
  refine Or.inl ⟨_, rfl, ?_⟩
  show gWp none 141 (4, [some (.ref 0), some (.int x1)], [], μ1) _ P
  refine gWp_sts gT_141 4 (f' := (10, [some (.ref 0), some (.int x1)], [.int x1, .ref 0, .ref 38], μ1)) (cs := []) rfl trivial ?_
  refine gWp_virt gT_141 (pc := 10) (q := 0) (as := [.ref 0, .int x1]) (rest := [.ref 38]) rfl rfl rfl rfl rfl rfl ⟨by decide, Nat.le_of_ble_eq_true rfl, by decide, Nat.le_of_ble_eq_true rfl⟩ (gWp_imp h (fun μ2 r h => ?_))
  rcases h with h | h
  · obtain ⟨v3, rfl, h⟩ := h
    refine Or.inl ⟨_, rfl, ?_⟩
    show gWp none 141 (13, [some (.ref 0), some (.int x1)], [.int v3, .ref 38], μ2) _ P
    refine gWp_virt gT_141 (pc := 13) (q := 38) (as := [.ref 38, .int v3]) (rest := []) rfl rfl rfl rfl rfl rfl ⟨by decide, Nat.le_of_ble_eq_true rfl, by decide, Nat.le_of_ble_eq_true rfl⟩ (gWp_imp h (fun μ4 r h => ?_))
    obtain ⟨v5, rfl, h⟩ := h
    refine Or.inl ⟨_, rfl, ?_⟩
    show gWp none 141 (16, [some (.ref 0), some (.int x1)], [.int v5], μ4) _ P
    exact gWp_end gT_141 rfl (gEnd_int trivial) h
  · obtain ⟨y, rfl, h⟩ := h
    exact Or.inr (Or.inl ⟨y, rfl, rfl, h⟩)
/-! GlyphmillLaw.rankByCounting -/
theorem gT_142 : gCode[142]? = some gC_142 := rfl
set_option maxRecDepth 20000 in
theorem vc_142 {μ : gMu} {x1 : Int32} {P : gMu → gRes → Prop} (h : gCl' 141 [.ref 0, .int x1] μ (fun μ1 r => (∃ v2, r = .inl (some (.int v2)) ∧ ((vp_in (0 : Int32) 1) ∧ (P (gsJ μ1 64 ((0 : Int32).toNatClampNeg) v2.toInt64) (.inl (some (.int (0 : Int32))))))) ∨ (r = .inr 2 ∧ (P μ1 (.inl (some (.int (1 : Int32)))))) ∨ (r = .inr 3 ∧ (P μ1 (.inl (some (.int (2 : Int32)))))) ∨ (r = .inr 1 ∧ (P μ1 (.inl (some (.int (3 : Int32)))))) ∨ (r = .inr 4 ∧ (P μ1 (.inl (some (.int (4 : Int32)))))))) : gWp none 142 (0, [some (.ref 0), some (.int x1), some (.ref 64), none], [], μ) 0 P := by
  refine gWp_sts gT_142 4 (f' := (4, [some (.ref 0), some (.int x1), some (.ref 64), none], [.int x1, .ref 0, .int (0 : Int32), .ref 64], μ)) (cs := []) rfl trivial ?_
  refine gWp_virt gT_142 (pc := 4) (q := 0) (as := [.ref 0, .int x1]) (rest := [.int (0 : Int32), .ref 64]) rfl rfl rfl rfl rfl rfl ⟨by decide, Nat.le_of_ble_eq_true rfl, by decide, Nat.le_of_ble_eq_true rfl⟩ (gWp_imp h (fun μ1 r h => ?_))
  rcases h with h | h | h | h | h
  · obtain ⟨v2, rfl, h⟩ := h
    refine Or.inl ⟨_, rfl, ?_⟩
    show gWp none 142 (7, [some (.ref 0), some (.int x1), some (.ref 64), none], [.int v2, .int (0 : Int32), .ref 64], μ1) _ P
    obtain ⟨c1, h⟩ := h
    refine gWp_sts gT_142 4 (f' := (25, [some (.ref 0), some (.int x1), some (.ref 64), none], [.int (0 : Int32)], (gsJ μ1 64 ((0 : Int32).toNatClampNeg) v2.toInt64))) (cs := [vp_in (0 : Int32) 1]) rfl c1 ?_
    exact gWp_end gT_142 rfl (gEnd_int trivial) h
  · obtain ⟨rfl, h⟩ := h
    refine Or.inr (Or.inr ⟨2, 0, _, _, _, rfl, rfl, rfl, rfl, Or.inl ⟨_, rfl, rfl⟩, ?_⟩)
    refine gWp_sts gT_142 1 (f' := (14, [some (.ref 0), some (.int x1), some (.ref 64), none], [.int (1 : Int32)], μ1)) (cs := []) rfl trivial ?_
    exact gWp_end gT_142 rfl (gEnd_int trivial) h
  · obtain ⟨rfl, h⟩ := h
    refine Or.inr (Or.inr ⟨3, 1, _, _, _, rfl, rfl, rfl, rfl, Or.inl ⟨_, rfl, rfl⟩, ?_⟩)
    refine gWp_sts gT_142 1 (f' := (17, [some (.ref 0), some (.int x1), some (.ref 64), none], [.int (2 : Int32)], μ1)) (cs := []) rfl trivial ?_
    exact gWp_end gT_142 rfl (gEnd_int trivial) h
  · obtain ⟨rfl, h⟩ := h
    refine Or.inr (Or.inr ⟨1, 2, _, _, _, rfl, rfl, rfl, rfl, Or.inl ⟨_, rfl, rfl⟩, ?_⟩)
    refine gWp_sts gT_142 1 (f' := (20, [some (.ref 0), some (.int x1), some (.ref 64), none], [.int (3 : Int32)], μ1)) (cs := []) rfl trivial ?_
    exact gWp_end gT_142 rfl (gEnd_int trivial) h
  · obtain ⟨rfl, h⟩ := h
    refine Or.inr (Or.inr ⟨4, 3, _, _, _, rfl, rfl, rfl, rfl, Or.inl ⟨_, rfl, rfl⟩, ?_⟩)
    refine gWp_sts gT_142 1 (f' := (23, [some (.ref 0), some (.int x1), some (.ref 64), none], [.int (4 : Int32)], μ1)) (cs := []) rfl trivial ?_
    exact gWp_end gT_142 rfl (gEnd_int trivial) h
/-! Glyphmill.placeOf -/
theorem gT_143 : gCode[143]? = some gC_143 := rfl
set_option maxRecDepth 20000 in
theorem vc_143 {μ : gMu} {x1 : Int32} {P : gMu → gRes → Prop} (h : gCl' 62 [.ref 0] μ (fun μ1 r => (r = .inl none ∧ (gCl' 137 [.ref 0, .int x1] μ1 (fun μ2 r => (∃ v3, r = .inl (some (.int v3)) ∧ ((vp_in v3 50) ∧ (P μ2 (.inl (some (.int (gI μ2 42 v3.toNatClampNeg))))))) ∨ (∃ y, r = .inr y ∧ P μ2 (.inr y))))))) : gWp none 143 (0, [some (.ref 0), some (.int x1)], [], μ) 0 P := by
  refine gWp_sts gT_143 1 (f' := (1, [some (.ref 0), some (.int x1)], [.ref 0], μ)) (cs := []) rfl trivial ?_
  refine gWp_virt gT_143 (pc := 1) (q := 0) (as := [.ref 0]) (rest := []) rfl rfl rfl rfl rfl rfl ⟨by decide, Nat.le_of_ble_eq_true rfl, by decide, Nat.le_of_ble_eq_true rfl⟩ (gWp_imp h (fun μ1 r h => ?_))
  obtain ⟨rfl, h⟩ := h
  refine Or.inl ⟨_, rfl, ?_⟩
  show gWp none 143 (4, [some (.ref 0), some (.int x1)], [], μ1) _ P
  refine gWp_sts gT_143 5 (f' := (13, [some (.ref 0), some (.int x1)], [.int x1, .ref 0, .ref 42], μ1)) (cs := []) rfl trivial ?_
  refine gWp_virt gT_143 (pc := 13) (q := 0) (as := [.ref 0, .int x1]) (rest := [.ref 42]) rfl rfl rfl rfl rfl rfl ⟨by decide, Nat.le_of_ble_eq_true rfl, by decide, Nat.le_of_ble_eq_true rfl⟩ (gWp_imp h (fun μ2 r h => ?_))
  rcases h with h | h
  · obtain ⟨v3, rfl, h⟩ := h
    refine Or.inl ⟨_, rfl, ?_⟩
    show gWp none 143 (16, [some (.ref 0), some (.int x1)], [.int v3, .ref 42], μ2) _ P
    obtain ⟨c1, h⟩ := h
    refine gWp_sts gT_143 1 (f' := (17, [some (.ref 0), some (.int x1)], [.int (gI μ2 42 v3.toNatClampNeg)], μ2)) (cs := [vp_in v3 50]) rfl c1 ?_
    exact gWp_end gT_143 rfl (gEnd_int trivial) h
  · obtain ⟨y, rfl, h⟩ := h
    exact Or.inr (Or.inl ⟨y, rfl, rfl, h⟩)
/-! GlyphmillLaw.placeOf -/
theorem gT_144 : gCode[144]? = some gC_144 := rfl
set_option maxRecDepth 20000 in
theorem vc_144 {μ : gMu} {x1 : Int32} {P : gMu → gRes → Prop} (h : gCl' 143 [.ref 0, .int x1] μ (fun μ1 r => (∃ v2, r = .inl (some (.int v2)) ∧ ((vp_in (0 : Int32) 1) ∧ (P (gsJ μ1 64 ((0 : Int32).toNatClampNeg) v2.toInt64) (.inl (some (.int (0 : Int32))))))) ∨ (r = .inr 2 ∧ (P μ1 (.inl (some (.int (1 : Int32)))))) ∨ (r = .inr 3 ∧ (P μ1 (.inl (some (.int (2 : Int32)))))) ∨ (r = .inr 1 ∧ (P μ1 (.inl (some (.int (3 : Int32)))))) ∨ (r = .inr 4 ∧ (P μ1 (.inl (some (.int (4 : Int32)))))))) : gWp none 144 (0, [some (.ref 0), some (.int x1), some (.ref 64), none], [], μ) 0 P := by
  refine gWp_sts gT_144 4 (f' := (4, [some (.ref 0), some (.int x1), some (.ref 64), none], [.int x1, .ref 0, .int (0 : Int32), .ref 64], μ)) (cs := []) rfl trivial ?_
  refine gWp_virt gT_144 (pc := 4) (q := 0) (as := [.ref 0, .int x1]) (rest := [.int (0 : Int32), .ref 64]) rfl rfl rfl rfl rfl rfl ⟨by decide, Nat.le_of_ble_eq_true rfl, by decide, Nat.le_of_ble_eq_true rfl⟩ (gWp_imp h (fun μ1 r h => ?_))
  rcases h with h | h | h | h | h
  · obtain ⟨v2, rfl, h⟩ := h
    refine Or.inl ⟨_, rfl, ?_⟩
    show gWp none 144 (7, [some (.ref 0), some (.int x1), some (.ref 64), none], [.int v2, .int (0 : Int32), .ref 64], μ1) _ P
    obtain ⟨c1, h⟩ := h
    refine gWp_sts gT_144 4 (f' := (25, [some (.ref 0), some (.int x1), some (.ref 64), none], [.int (0 : Int32)], (gsJ μ1 64 ((0 : Int32).toNatClampNeg) v2.toInt64))) (cs := [vp_in (0 : Int32) 1]) rfl c1 ?_
    exact gWp_end gT_144 rfl (gEnd_int trivial) h
  · obtain ⟨rfl, h⟩ := h
    refine Or.inr (Or.inr ⟨2, 0, _, _, _, rfl, rfl, rfl, rfl, Or.inl ⟨_, rfl, rfl⟩, ?_⟩)
    refine gWp_sts gT_144 1 (f' := (14, [some (.ref 0), some (.int x1), some (.ref 64), none], [.int (1 : Int32)], μ1)) (cs := []) rfl trivial ?_
    exact gWp_end gT_144 rfl (gEnd_int trivial) h
  · obtain ⟨rfl, h⟩ := h
    refine Or.inr (Or.inr ⟨3, 1, _, _, _, rfl, rfl, rfl, rfl, Or.inl ⟨_, rfl, rfl⟩, ?_⟩)
    refine gWp_sts gT_144 1 (f' := (17, [some (.ref 0), some (.int x1), some (.ref 64), none], [.int (2 : Int32)], μ1)) (cs := []) rfl trivial ?_
    exact gWp_end gT_144 rfl (gEnd_int trivial) h
  · obtain ⟨rfl, h⟩ := h
    refine Or.inr (Or.inr ⟨1, 2, _, _, _, rfl, rfl, rfl, rfl, Or.inl ⟨_, rfl, rfl⟩, ?_⟩)
    refine gWp_sts gT_144 1 (f' := (20, [some (.ref 0), some (.int x1), some (.ref 64), none], [.int (3 : Int32)], μ1)) (cs := []) rfl trivial ?_
    exact gWp_end gT_144 rfl (gEnd_int trivial) h
  · obtain ⟨rfl, h⟩ := h
    refine Or.inr (Or.inr ⟨4, 3, _, _, _, rfl, rfl, rfl, rfl, Or.inl ⟨_, rfl, rfl⟩, ?_⟩)
    refine gWp_sts gT_144 1 (f' := (23, [some (.ref 0), some (.int x1), some (.ref 64), none], [.int (4 : Int32)], μ1)) (cs := []) rfl trivial ?_
    exact gWp_end gT_144 rfl (gEnd_int trivial) h
/-! Glyphmill.justifiedWidth -/
theorem gT_145 : gCode[145]? = some gC_145 := rfl
set_option maxRecDepth 20000 in
theorem vc_145 {μ : gMu} {x1 : Int32} {P : gMu → gRes → Prop} (h : gCl' 62 [.ref 0] μ (fun μ1 r => (r = .inl none ∧ (gCl' 137 [.ref 0, .int x1] μ1 (fun μ2 r => (∃ v3, r = .inl (some (.int v3)) ∧ ((vp_in v3 50) ∧ (P μ2 (.inl (some (.int (gI μ2 43 v3.toNatClampNeg))))))) ∨ (∃ y, r = .inr y ∧ P μ2 (.inr y))))))) : gWp none 145 (0, [some (.ref 0), some (.int x1)], [], μ) 0 P := by
  refine gWp_sts gT_145 1 (f' := (1, [some (.ref 0), some (.int x1)], [.ref 0], μ)) (cs := []) rfl trivial ?_
  refine gWp_virt gT_145 (pc := 1) (q := 0) (as := [.ref 0]) (rest := []) rfl rfl rfl rfl rfl rfl ⟨by decide, Nat.le_of_ble_eq_true rfl, by decide, Nat.le_of_ble_eq_true rfl⟩ (gWp_imp h (fun μ1 r h => ?_))
  obtain ⟨rfl, h⟩ := h
  refine Or.inl ⟨_, rfl, ?_⟩
  show gWp none 145 (4, [some (.ref 0), some (.int x1)], [], μ1) _ P
  refine gWp_sts gT_145 5 (f' := (13, [some (.ref 0), some (.int x1)], [.int x1, .ref 0, .ref 43], μ1)) (cs := []) rfl trivial ?_
  refine gWp_virt gT_145 (pc := 13) (q := 0) (as := [.ref 0, .int x1]) (rest := [.ref 43]) rfl rfl rfl rfl rfl rfl ⟨by decide, Nat.le_of_ble_eq_true rfl, by decide, Nat.le_of_ble_eq_true rfl⟩ (gWp_imp h (fun μ2 r h => ?_))
  rcases h with h | h
  · obtain ⟨v3, rfl, h⟩ := h
    refine Or.inl ⟨_, rfl, ?_⟩
    show gWp none 145 (16, [some (.ref 0), some (.int x1)], [.int v3, .ref 43], μ2) _ P
    obtain ⟨c1, h⟩ := h
    refine gWp_sts gT_145 1 (f' := (17, [some (.ref 0), some (.int x1)], [.int (gI μ2 43 v3.toNatClampNeg)], μ2)) (cs := [vp_in v3 50]) rfl c1 ?_
    exact gWp_end gT_145 rfl (gEnd_int trivial) h
  · obtain ⟨y, rfl, h⟩ := h
    exact Or.inr (Or.inl ⟨y, rfl, rfl, h⟩)
/-! GlyphmillLaw.justifiedWidth -/
theorem gT_146 : gCode[146]? = some gC_146 := rfl
set_option maxRecDepth 20000 in
theorem vc_146 {μ : gMu} {x1 : Int32} {P : gMu → gRes → Prop} (h : gCl' 145 [.ref 0, .int x1] μ (fun μ1 r => (∃ v2, r = .inl (some (.int v2)) ∧ ((vp_in (0 : Int32) 1) ∧ (P (gsJ μ1 64 ((0 : Int32).toNatClampNeg) v2.toInt64) (.inl (some (.int (0 : Int32))))))) ∨ (r = .inr 2 ∧ (P μ1 (.inl (some (.int (1 : Int32)))))) ∨ (r = .inr 3 ∧ (P μ1 (.inl (some (.int (2 : Int32)))))) ∨ (r = .inr 1 ∧ (P μ1 (.inl (some (.int (3 : Int32)))))) ∨ (r = .inr 4 ∧ (P μ1 (.inl (some (.int (4 : Int32)))))))) : gWp none 146 (0, [some (.ref 0), some (.int x1), some (.ref 64), none], [], μ) 0 P := by
  refine gWp_sts gT_146 4 (f' := (4, [some (.ref 0), some (.int x1), some (.ref 64), none], [.int x1, .ref 0, .int (0 : Int32), .ref 64], μ)) (cs := []) rfl trivial ?_
  refine gWp_virt gT_146 (pc := 4) (q := 0) (as := [.ref 0, .int x1]) (rest := [.int (0 : Int32), .ref 64]) rfl rfl rfl rfl rfl rfl ⟨by decide, Nat.le_of_ble_eq_true rfl, by decide, Nat.le_of_ble_eq_true rfl⟩ (gWp_imp h (fun μ1 r h => ?_))
  rcases h with h | h | h | h | h
  · obtain ⟨v2, rfl, h⟩ := h
    refine Or.inl ⟨_, rfl, ?_⟩
    show gWp none 146 (7, [some (.ref 0), some (.int x1), some (.ref 64), none], [.int v2, .int (0 : Int32), .ref 64], μ1) _ P
    obtain ⟨c1, h⟩ := h
    refine gWp_sts gT_146 4 (f' := (25, [some (.ref 0), some (.int x1), some (.ref 64), none], [.int (0 : Int32)], (gsJ μ1 64 ((0 : Int32).toNatClampNeg) v2.toInt64))) (cs := [vp_in (0 : Int32) 1]) rfl c1 ?_
    exact gWp_end gT_146 rfl (gEnd_int trivial) h
  · obtain ⟨rfl, h⟩ := h
    refine Or.inr (Or.inr ⟨2, 0, _, _, _, rfl, rfl, rfl, rfl, Or.inl ⟨_, rfl, rfl⟩, ?_⟩)
    refine gWp_sts gT_146 1 (f' := (14, [some (.ref 0), some (.int x1), some (.ref 64), none], [.int (1 : Int32)], μ1)) (cs := []) rfl trivial ?_
    exact gWp_end gT_146 rfl (gEnd_int trivial) h
  · obtain ⟨rfl, h⟩ := h
    refine Or.inr (Or.inr ⟨3, 1, _, _, _, rfl, rfl, rfl, rfl, Or.inl ⟨_, rfl, rfl⟩, ?_⟩)
    refine gWp_sts gT_146 1 (f' := (17, [some (.ref 0), some (.int x1), some (.ref 64), none], [.int (2 : Int32)], μ1)) (cs := []) rfl trivial ?_
    exact gWp_end gT_146 rfl (gEnd_int trivial) h
  · obtain ⟨rfl, h⟩ := h
    refine Or.inr (Or.inr ⟨1, 2, _, _, _, rfl, rfl, rfl, rfl, Or.inl ⟨_, rfl, rfl⟩, ?_⟩)
    refine gWp_sts gT_146 1 (f' := (20, [some (.ref 0), some (.int x1), some (.ref 64), none], [.int (3 : Int32)], μ1)) (cs := []) rfl trivial ?_
    exact gWp_end gT_146 rfl (gEnd_int trivial) h
  · obtain ⟨rfl, h⟩ := h
    refine Or.inr (Or.inr ⟨4, 3, _, _, _, rfl, rfl, rfl, rfl, Or.inl ⟨_, rfl, rfl⟩, ?_⟩)
    refine gWp_sts gT_146 1 (f' := (23, [some (.ref 0), some (.int x1), some (.ref 64), none], [.int (4 : Int32)], μ1)) (cs := []) rfl trivial ?_
    exact gWp_end gT_146 rfl (gEnd_int trivial) h
/-! Glyphmill.someLines -/
theorem gT_147 : gCode[147]? = some gC_147 := rfl
set_option maxRecDepth 20000 in
theorem vc_147 {μ : gMu} {P : gMu → gRes → Prop} (h : gCl' 107 [.ref 0] μ (fun μ1 r => (r = .inl none ∧ (((¬ (gI μ1 32 8) = 0) → (P μ1 (.inl (some (.int (gI μ1 32 8)))))) ∧ (((gI μ1 32 8) = 0) → (P μ1 (.inr 5))))) ∨ (∃ y, r = .inr y ∧ P μ1 (.inr y)))) : gWp none 147 (0, [some (.ref 0)], [], μ) 0 P := by
  refine gWp_sts gT_147 1 (f' := (1, [some (.ref 0)], [.ref 0], μ)) (cs := []) rfl trivial ?_
  refine gWp_virt gT_147 (pc := 1) (q := 0) (as := [.ref 0]) (rest := []) rfl rfl rfl rfl rfl rfl ⟨by decide, Nat.le_of_ble_eq_true rfl, by decide, Nat.le_of_ble_eq_true rfl⟩ (gWp_imp h (fun μ1 r h => ?_))
  rcases h with h | h
  · obtain ⟨rfl, h⟩ := h
    refine Or.inl ⟨_, rfl, ?_⟩
    show gWp none 147 (4, [some (.ref 0)], [], μ1) _ P
    refine gWp_sts gT_147 3 (f' := (11, [some (.ref 0)], [.int (gI μ1 32 8)], μ1)) (cs := []) rfl trivial ?_
    refine gWp_if gT_147 (pc := 11) rfl ⟨fun c => ?_, fun c => ?_⟩
    · replace h := h.1 (of_decide_eq_true c)
      refine gWp_sts gT_147 3 (f' := (32, [some (.ref 0)], [.int (gI μ1 32 8)], μ1)) (cs := []) rfl trivial ?_
      exact gWp_end gT_147 rfl (gEnd_int trivial) h
    · replace h := h.2 (Classical.not_not.mp (fun q => c (decide_eq_true q)))
      exact gWp_end gT_147 rfl rfl h
  · obtain ⟨y, rfl, h⟩ := h
    exact Or.inr (Or.inl ⟨y, rfl, rfl, h⟩)
/-! Glyphmill.hyphenShare -/
theorem gT_148 : gCode[148]? = some gC_148 := rfl
set_option maxRecDepth 20000 in
theorem vc_148_13 {μ : gMu} {x1 : Int32} {x2 : Int32} {x3 : Int32} {P : gMu → gRes → Prop} (h : ((x1 ≤ x3) → ((vf_n32 (FP.fdiv (FP.i2f x2) (FP.i2f x1))) ∧ (P μ (.inl (some (.float (FP.fdiv (FP.i2f x2) (FP.i2f x1)))))))) ∧ ((¬ x1 ≤ x3) → ((vp_in (x3 + (1 : Int32)) 51) ∧ (gCl' 33 [.ref 29, .int (gI μ 37 ((x3 + (1 : Int32)).toNatClampNeg))] μ (fun μ1 r => (∃ v2, r = .inl (some (.int v2)) ∧ (((v2 = 0) → (gWp none 148 (13, [some (.ref 0), some (.int x1), some (.int x2), some (.int (x3 + (1 : Int32)))], [], μ1) 0 P)) ∧ ((¬ v2 = 0) → (gWp none 148 (13, [some (.ref 0), some (.int x1), some (.int (x2 + (1 : Int32))), some (.int (x3 + (1 : Int32)))], [], μ1) 0 P))))))))) : gWp none 148 (13, [some (.ref 0), some (.int x1), some (.int x2), some (.int x3)], [], μ) 0 P := by
  refine gWp_sts gT_148 2 (f' := (15, [some (.ref 0), some (.int x1), some (.int x2), some (.int x3)], [.int x1, .int x3], μ)) (cs := []) rfl trivial ?_
  refine gWp_icmp gT_148 (pc := 15) rfl ⟨fun c => ?_, fun c => ?_⟩
  · replace h := h.1 (of_decide_eq_true c)
    obtain ⟨c1, h⟩ := h
    refine gWp_sts gT_148 5 (f' := (53, [some (.ref 0), some (.int x1), some (.int x2), some (.int x3)], [.float (FP.fdiv (FP.i2f x2) (FP.i2f x1))], μ)) (cs := [vf_n32 (FP.fdiv (FP.i2f x2) (FP.i2f x1))]) rfl c1 ?_
    exact gWp_end gT_148 rfl rfl h
  · replace h := h.2 (fun q => c (decide_eq_true q))
    obtain ⟨c1, h⟩ := h
    refine gWp_sts gT_148 9 (f' := (33, [some (.ref 0), some (.int x1), some (.int x2), some (.int x3)], [.int (gI μ 37 ((x3 + (1 : Int32)).toNatClampNeg)), .ref 29], μ)) (cs := [vp_in (x3 + (1 : Int32)) 51]) rfl c1 ?_
    refine gWp_virt gT_148 (pc := 33) (q := 29) (as := [.ref 29, .int (gI μ 37 ((x3 + (1 : Int32)).toNatClampNeg))]) (rest := []) rfl rfl rfl rfl rfl rfl ⟨by decide, Nat.le_of_ble_eq_true rfl, by decide, Nat.le_of_ble_eq_true rfl⟩ (gWp_imp h (fun μ1 r h => ?_))
    obtain ⟨v2, rfl, h⟩ := h
    refine Or.inl ⟨_, rfl, ?_⟩
    show gWp none 148 (36, [some (.ref 0), some (.int x1), some (.int x2), some (.int x3)], [.int v2], μ1) _ P
    refine gWp_if gT_148 (pc := 36) rfl ⟨fun c => ?_, fun c => ?_⟩
    · replace h := h.1 (of_decide_eq_true c)
      refine gWp_sts gT_148 2 (f' := (13, [some (.ref 0), some (.int x1), some (.int x2), some (.int (x3 + (1 : Int32)))], [], μ1)) (cs := []) rfl trivial ?_
      exact h
    · replace h := h.2 (fun q => c (decide_eq_true q))
      refine gWp_sts gT_148 3 (f' := (13, [some (.ref 0), some (.int x1), some (.int (x2 + (1 : Int32))), some (.int (x3 + (1 : Int32)))], [], μ1)) (cs := []) rfl trivial ?_
      exact h
set_option maxRecDepth 20000 in
theorem vc_148 {μ : gMu} {P : gMu → gRes → Prop} (h : gCl' 62 [.ref 0] μ (fun μ1 r => (r = .inl none ∧ (gCl' 147 [.ref 0] μ1 (fun μ2 r => (∃ v3, r = .inl (some (.int v3)) ∧ (gWp none 148 (13, [some (.ref 0), some (.int v3), some (.int (0 : Int32)), some (.int (0 : Int32))], [], μ2) 2 P)) ∨ (∃ y, r = .inr y ∧ P μ2 (.inr y))))))) : gWp none 148 (0, [some (.ref 0), none, none, none], [], μ) 0 P := by
  refine gWp_sts gT_148 1 (f' := (1, [some (.ref 0), none, none, none], [.ref 0], μ)) (cs := []) rfl trivial ?_
  refine gWp_virt gT_148 (pc := 1) (q := 0) (as := [.ref 0]) (rest := []) rfl rfl rfl rfl rfl rfl ⟨by decide, Nat.le_of_ble_eq_true rfl, by decide, Nat.le_of_ble_eq_true rfl⟩ (gWp_imp h (fun μ1 r h => ?_))
  obtain ⟨rfl, h⟩ := h
  refine Or.inl ⟨_, rfl, ?_⟩
  show gWp none 148 (4, [some (.ref 0), none, none, none], [], μ1) _ P
  refine gWp_sts gT_148 1 (f' := (5, [some (.ref 0), none, none, none], [.ref 0], μ1)) (cs := []) rfl trivial ?_
  refine gWp_virt gT_148 (pc := 5) (q := 0) (as := [.ref 0]) (rest := []) rfl rfl rfl rfl rfl rfl ⟨by decide, Nat.le_of_ble_eq_true rfl, by decide, Nat.le_of_ble_eq_true rfl⟩ (gWp_imp h (fun μ2 r h => ?_))
  rcases h with h | h
  · obtain ⟨v3, rfl, h⟩ := h
    refine Or.inl ⟨_, rfl, ?_⟩
    show gWp none 148 (8, [some (.ref 0), none, none, none], [.int v3], μ2) _ P
    refine gWp_sts gT_148 5 (f' := (13, [some (.ref 0), some (.int v3), some (.int (0 : Int32)), some (.int (0 : Int32))], [], μ2)) (cs := []) rfl trivial ?_
    exact h
  · obtain ⟨y, rfl, h⟩ := h
    exact Or.inr (Or.inl ⟨y, rfl, rfl, h⟩)
/-! GlyphmillLaw.hyphenShare -/
theorem gT_149 : gCode[149]? = some gC_149 := rfl
set_option maxRecDepth 20000 in
theorem vc_149 {μ : gMu} {P : gMu → gRes → Prop} (h : gCl' 148 [.ref 0] μ (fun μ1 r => (∃ v2, r = .inl (some (.float v2)) ∧ ((vf_n64 (FP.f2d v2)) ∧ ((vp_in (0 : Int32) 1) ∧ (P (gsD μ1 65 ((0 : Int32).toNatClampNeg) (FP.f2d v2)) (.inl (some (.int (0 : Int32)))))))) ∨ (r = .inr 1 ∧ (P μ1 (.inl (some (.int (1 : Int32)))))) ∨ (r = .inr 5 ∧ (P μ1 (.inl (some (.int (2 : Int32)))))))) : gWp none 149 (0, [some (.ref 0), some (.ref 65), none], [], μ) 0 P := by
  refine gWp_sts gT_149 3 (f' := (3, [some (.ref 0), some (.ref 65), none], [.ref 0, .int (0 : Int32), .ref 65], μ)) (cs := []) rfl trivial ?_
  refine gWp_virt gT_149 (pc := 3) (q := 0) (as := [.ref 0]) (rest := [.int (0 : Int32), .ref 65]) rfl rfl rfl rfl rfl rfl ⟨by decide, Nat.le_of_ble_eq_true rfl, by decide, Nat.le_of_ble_eq_true rfl⟩ (gWp_imp h (fun μ1 r h => ?_))
  rcases h with h | h | h
  · obtain ⟨v2, rfl, h⟩ := h
    refine Or.inl ⟨_, rfl, ?_⟩
    show gWp none 149 (6, [some (.ref 0), some (.ref 65), none], [.float v2, .int (0 : Int32), .ref 65], μ1) _ P
    obtain ⟨c1, c2, h⟩ := h
    refine gWp_sts gT_149 4 (f' := (18, [some (.ref 0), some (.ref 65), none], [.int (0 : Int32)], (gsD μ1 65 ((0 : Int32).toNatClampNeg) (FP.f2d v2)))) (cs := [vf_n64 (FP.f2d v2), vp_in (0 : Int32) 1]) rfl ⟨c1, c2⟩ ?_
    exact gWp_end gT_149 rfl (gEnd_int trivial) h
  · obtain ⟨rfl, h⟩ := h
    refine Or.inr (Or.inr ⟨1, 0, _, _, _, rfl, rfl, rfl, rfl, Or.inl ⟨_, rfl, rfl⟩, ?_⟩)
    refine gWp_sts gT_149 1 (f' := (13, [some (.ref 0), some (.ref 65), none], [.int (1 : Int32)], μ1)) (cs := []) rfl trivial ?_
    exact gWp_end gT_149 rfl (gEnd_int trivial) h
  · obtain ⟨rfl, h⟩ := h
    refine Or.inr (Or.inr ⟨5, 1, _, _, _, rfl, rfl, rfl, rfl, Or.inl ⟨_, rfl, rfl⟩, ?_⟩)
    refine gWp_sts gT_149 1 (f' := (16, [some (.ref 0), some (.ref 65), none], [.int (2 : Int32)], μ1)) (cs := []) rfl trivial ?_
    exact gWp_end gT_149 rfl (gEnd_int trivial) h
/-! Glyphmill.meanBadness -/
theorem gT_150 : gCode[150]? = some gC_150 := rfl
set_option maxRecDepth 20000 in
theorem vc_150_13 {μ : gMu} {x1 : Int32} {x2 : Int32} {x3 : Int32} {P : gMu → gRes → Prop} (h : ((x1 ≤ x3) → ((vf_n64 (FP.ddiv (FP.i2d x2) (FP.i2d x1))) ∧ (P μ (.inl (some (.double (FP.ddiv (FP.i2d x2) (FP.i2d x1)))))))) ∧ ((¬ x1 ≤ x3) → ((vp_in x3 51) ∧ ((vp_in (x3 + (1 : Int32)) 51) ∧ (gCl' 31 [.ref 32, .int (gI μ 37 x3.toNatClampNeg), .int (gI μ 37 ((x3 + (1 : Int32)).toNatClampNeg))] μ (fun μ1 r => (∃ v2, r = .inl (some (.int v2)) ∧ (gWp none 150 (13, [some (.ref 0), some (.int x1), some (.int (x2 + v2)), some (.int (x3 + (1 : Int32)))], [], μ1) 0 P)))))))) : gWp none 150 (13, [some (.ref 0), some (.int x1), some (.int x2), some (.int x3)], [], μ) 0 P := by
  refine gWp_sts gT_150 2 (f' := (15, [some (.ref 0), some (.int x1), some (.int x2), some (.int x3)], [.int x1, .int x3], μ)) (cs := []) rfl trivial ?_
  refine gWp_icmp gT_150 (pc := 15) rfl ⟨fun c => ?_, fun c => ?_⟩
  · replace h := h.1 (of_decide_eq_true c)
    obtain ⟨c1, h⟩ := h
    refine gWp_sts gT_150 5 (f' := (59, [some (.ref 0), some (.int x1), some (.int x2), some (.int x3)], [.double (FP.ddiv (FP.i2d x2) (FP.i2d x1))], μ)) (cs := [vf_n64 (FP.ddiv (FP.i2d x2) (FP.i2d x1))]) rfl c1 ?_
    exact gWp_end gT_150 rfl rfl h
  · replace h := h.2 (fun q => c (decide_eq_true q))
    obtain ⟨c1, c2, h⟩ := h
    refine gWp_sts gT_150 15 (f' := (43, [some (.ref 0), some (.int x1), some (.int x2), some (.int x3)], [.int (gI μ 37 ((x3 + (1 : Int32)).toNatClampNeg)), .int (gI μ 37 x3.toNatClampNeg), .ref 32, .int x2], μ)) (cs := [vp_in x3 51, vp_in (x3 + (1 : Int32)) 51]) rfl ⟨c1, c2⟩ ?_
    refine gWp_virt gT_150 (pc := 43) (q := 32) (as := [.ref 32, .int (gI μ 37 x3.toNatClampNeg), .int (gI μ 37 ((x3 + (1 : Int32)).toNatClampNeg))]) (rest := [.int x2]) rfl rfl rfl rfl rfl rfl ⟨by decide, Nat.le_of_ble_eq_true rfl, by decide, Nat.le_of_ble_eq_true rfl⟩ (gWp_imp h (fun μ1 r h => ?_))
    obtain ⟨v2, rfl, h⟩ := h
    refine Or.inl ⟨_, rfl, ?_⟩
    show gWp none 150 (46, [some (.ref 0), some (.int x1), some (.int x2), some (.int x3)], [.int v2, .int x2], μ1) _ P
    refine gWp_sts gT_150 4 (f' := (13, [some (.ref 0), some (.int x1), some (.int (x2 + v2)), some (.int (x3 + (1 : Int32)))], [], μ1)) (cs := []) rfl trivial ?_
    exact h
set_option maxRecDepth 20000 in
theorem vc_150 {μ : gMu} {P : gMu → gRes → Prop} (h : gCl' 62 [.ref 0] μ (fun μ1 r => (r = .inl none ∧ (gCl' 147 [.ref 0] μ1 (fun μ2 r => (∃ v3, r = .inl (some (.int v3)) ∧ (gWp none 150 (13, [some (.ref 0), some (.int v3), some (.int (0 : Int32)), some (.int (0 : Int32))], [], μ2) 2 P)) ∨ (∃ y, r = .inr y ∧ P μ2 (.inr y))))))) : gWp none 150 (0, [some (.ref 0), none, none, none], [], μ) 0 P := by
  refine gWp_sts gT_150 1 (f' := (1, [some (.ref 0), none, none, none], [.ref 0], μ)) (cs := []) rfl trivial ?_
  refine gWp_virt gT_150 (pc := 1) (q := 0) (as := [.ref 0]) (rest := []) rfl rfl rfl rfl rfl rfl ⟨by decide, Nat.le_of_ble_eq_true rfl, by decide, Nat.le_of_ble_eq_true rfl⟩ (gWp_imp h (fun μ1 r h => ?_))
  obtain ⟨rfl, h⟩ := h
  refine Or.inl ⟨_, rfl, ?_⟩
  show gWp none 150 (4, [some (.ref 0), none, none, none], [], μ1) _ P
  refine gWp_sts gT_150 1 (f' := (5, [some (.ref 0), none, none, none], [.ref 0], μ1)) (cs := []) rfl trivial ?_
  refine gWp_virt gT_150 (pc := 5) (q := 0) (as := [.ref 0]) (rest := []) rfl rfl rfl rfl rfl rfl ⟨by decide, Nat.le_of_ble_eq_true rfl, by decide, Nat.le_of_ble_eq_true rfl⟩ (gWp_imp h (fun μ2 r h => ?_))
  rcases h with h | h
  · obtain ⟨v3, rfl, h⟩ := h
    refine Or.inl ⟨_, rfl, ?_⟩
    show gWp none 150 (8, [some (.ref 0), none, none, none], [.int v3], μ2) _ P
    refine gWp_sts gT_150 5 (f' := (13, [some (.ref 0), some (.int v3), some (.int (0 : Int32)), some (.int (0 : Int32))], [], μ2)) (cs := []) rfl trivial ?_
    exact h
  · obtain ⟨y, rfl, h⟩ := h
    exact Or.inr (Or.inl ⟨y, rfl, rfl, h⟩)
/-! GlyphmillLaw.meanBadness -/
theorem gT_151 : gCode[151]? = some gC_151 := rfl
set_option maxRecDepth 20000 in
theorem vc_151 {μ : gMu} {P : gMu → gRes → Prop} (h : gCl' 150 [.ref 0] μ (fun μ1 r => (∃ v2, r = .inl (some (.double v2)) ∧ ((vp_in (0 : Int32) 1) ∧ (P (gsD μ1 65 ((0 : Int32).toNatClampNeg) v2) (.inl (some (.int (0 : Int32))))))) ∨ (r = .inr 1 ∧ (P μ1 (.inl (some (.int (1 : Int32)))))) ∨ (r = .inr 5 ∧ (P μ1 (.inl (some (.int (2 : Int32)))))))) : gWp none 151 (0, [some (.ref 0), some (.ref 65), none], [], μ) 0 P := by
  refine gWp_sts gT_151 3 (f' := (3, [some (.ref 0), some (.ref 65), none], [.ref 0, .int (0 : Int32), .ref 65], μ)) (cs := []) rfl trivial ?_
  refine gWp_virt gT_151 (pc := 3) (q := 0) (as := [.ref 0]) (rest := [.int (0 : Int32), .ref 65]) rfl rfl rfl rfl rfl rfl ⟨by decide, Nat.le_of_ble_eq_true rfl, by decide, Nat.le_of_ble_eq_true rfl⟩ (gWp_imp h (fun μ1 r h => ?_))
  rcases h with h | h | h
  · obtain ⟨v2, rfl, h⟩ := h
    refine Or.inl ⟨_, rfl, ?_⟩
    show gWp none 151 (6, [some (.ref 0), some (.ref 65), none], [.double v2, .int (0 : Int32), .ref 65], μ1) _ P
    obtain ⟨c1, h⟩ := h
    refine gWp_sts gT_151 3 (f' := (17, [some (.ref 0), some (.ref 65), none], [.int (0 : Int32)], (gsD μ1 65 ((0 : Int32).toNatClampNeg) v2))) (cs := [vp_in (0 : Int32) 1]) rfl c1 ?_
    exact gWp_end gT_151 rfl (gEnd_int trivial) h
  · obtain ⟨rfl, h⟩ := h
    refine Or.inr (Or.inr ⟨1, 0, _, _, _, rfl, rfl, rfl, rfl, Or.inl ⟨_, rfl, rfl⟩, ?_⟩)
    refine gWp_sts gT_151 1 (f' := (12, [some (.ref 0), some (.ref 65), none], [.int (1 : Int32)], μ1)) (cs := []) rfl trivial ?_
    exact gWp_end gT_151 rfl (gEnd_int trivial) h
  · obtain ⟨rfl, h⟩ := h
    refine Or.inr (Or.inr ⟨5, 1, _, _, _, rfl, rfl, rfl, rfl, Or.inl ⟨_, rfl, rfl⟩, ?_⟩)
    refine gWp_sts gT_151 1 (f' := (15, [some (.ref 0), some (.ref 65), none], [.int (2 : Int32)], μ1)) (cs := []) rfl trivial ?_
    exact gWp_end gT_151 rfl (gEnd_int trivial) h
/-! GlyphmillModel.thrown -/
theorem gT_152 : gCode[152]? = some gC_152 := rfl
set_option maxRecDepth 20000 in
theorem vc_152 {μ : gMu} {P : gMu → gRes → Prop} (h : P μ (.inl (some (.int (gI μ 1 9))))) : gWp none 152 (0, [some (.ref 1)], [], μ) 0 P := by
  refine gWp_sts gT_152 2 (f' := (4, [some (.ref 1)], [.int (gI μ 1 9)], μ)) (cs := []) rfl trivial ?_
  exact gWp_end gT_152 rfl (gEnd_int trivial) h
/-! GlyphmillModel.in -/
theorem gT_153 : gCode[153]? = some gC_153 := rfl
set_option maxRecDepth 20000 in
theorem vc_153 {μ : gMu} {x0 : Int32} {x1 : Int32} {x2 : Int32} {P : gMu → gRes → Prop} (h : ((x0 < x1) → (P μ (.inl (some (.int (0 : Int32)))))) ∧ ((¬ x0 < x1) → (((x2 < x0) → (P μ (.inl (some (.int (0 : Int32)))))) ∧ ((¬ x2 < x0) → (P μ (.inl (some (.int (1 : Int32))))))))) : gWp none 153 (0, [some (.int x0), some (.int x1), some (.int x2)], [], μ) 0 P := by
  refine gWp_sts gT_153 2 (f' := (2, [some (.int x0), some (.int x1), some (.int x2)], [.int x1, .int x0], μ)) (cs := []) rfl trivial ?_
  refine gWp_icmp gT_153 (pc := 2) rfl ⟨fun c => ?_, fun c => ?_⟩
  · replace h := h.1 (of_decide_eq_true c)
    refine gWp_sts gT_153 1 (f' := (15, [some (.int x0), some (.int x1), some (.int x2)], [.int (0 : Int32)], μ)) (cs := []) rfl trivial ?_
    exact gWp_end gT_153 rfl (gEnd_int (show narrow .boolean (.int (0 : Int32)) = .int (0 : Int32) by decide)) h
  · replace h := h.2 (fun q => c (decide_eq_true q))
    refine gWp_sts gT_153 2 (f' := (7, [some (.int x0), some (.int x1), some (.int x2)], [.int x2, .int x0], μ)) (cs := []) rfl trivial ?_
    refine gWp_icmp gT_153 (pc := 7) rfl ⟨fun c => ?_, fun c => ?_⟩
    · replace h := h.1 (of_decide_eq_true c)
      refine gWp_sts gT_153 1 (f' := (15, [some (.int x0), some (.int x1), some (.int x2)], [.int (0 : Int32)], μ)) (cs := []) rfl trivial ?_
      exact gWp_end gT_153 rfl (gEnd_int (show narrow .boolean (.int (0 : Int32)) = .int (0 : Int32) by decide)) h
    · replace h := h.2 (fun q => c (decide_eq_true q))
      refine gWp_sts gT_153 2 (f' := (15, [some (.int x0), some (.int x1), some (.int x2)], [.int (1 : Int32)], μ)) (cs := []) rfl trivial ?_
      exact gWp_end gT_153 rfl (gEnd_int (show narrow .boolean (.int (1 : Int32)) = .int (1 : Int32) by decide)) h
/-! GlyphmillModel.isLeft -/
theorem gT_154 : gCode[154]? = some gC_154 := rfl
set_option maxRecDepth 20000 in
theorem vc_154 {μ : gMu} {x0 : Int32} {P : gMu → gRes → Prop} (h : gCl' 153 [.int x0, .int (97 : Int32), .int (122 : Int32)] μ (fun μ1 r => (∃ v2, r = .inl (some (.int v2)) ∧ ((narrow .boolean (.int v2) = .int v2) ∧ P μ1 (.inl (some (.int v2))))))) : gWp none 154 (0, [some (.int x0)], [], μ) 0 P := by
  refine gWp_sts gT_154 3 (f' := (5, [some (.int x0)], [.int (122 : Int32), .int (97 : Int32), .int x0], μ)) (cs := []) rfl trivial ?_
  refine gWp_stat gT_154 (pc := 5) (c01 := 0) (as := [.int x0, .int (97 : Int32), .int (122 : Int32)]) (rest := []) rfl (Or.inl rfl) rfl rfl rfl ⟨by decide, Nat.le_of_ble_eq_true rfl, by decide, Nat.le_of_ble_eq_true rfl⟩ (gWp_imp h (fun μ1 r h => ?_))
  obtain ⟨v2, rfl, h⟩ := h
  refine Or.inl ⟨_, rfl, ?_⟩
  show gWp none 154 (8, [some (.int x0)], [.int v2], μ1) _ P
  exact gWp_end gT_154 rfl (gEnd_int h.1) h.2
/-! GlyphmillModel.isLetter -/
theorem gT_155 : gCode[155]? = some gC_155 := rfl
set_option maxRecDepth 20000 in
theorem vc_155 {μ : gMu} {x0 : Int32} {P : gMu → gRes → Prop} (h : gCl' 154 [.int x0] μ (fun μ1 r => (∃ v2, r = .inl (some (.int v2)) ∧ (((¬ v2 = 0) → (P μ1 (.inl (some (.int (1 : Int32)))))) ∧ ((v2 = 0) → (gCl' 153 [.int x0, .int (65 : Int32), .int (90 : Int32)] μ1 (fun μ3 r => (∃ v4, r = .inl (some (.int v4)) ∧ (((v4 = 0) → (P μ3 (.inl (some (.int (0 : Int32)))))) ∧ ((¬ v4 = 0) → (P μ3 (.inl (some (.int (1 : Int32))))))))))))))) : gWp none 155 (0, [some (.int x0)], [], μ) 0 P := by
  refine gWp_sts gT_155 1 (f' := (1, [some (.int x0)], [.int x0], μ)) (cs := []) rfl trivial ?_
  refine gWp_stat gT_155 (pc := 1) (c01 := 0) (as := [.int x0]) (rest := []) rfl (Or.inl rfl) rfl rfl rfl ⟨by decide, Nat.le_of_ble_eq_true rfl, by decide, Nat.le_of_ble_eq_true rfl⟩ (gWp_imp h (fun μ1 r h => ?_))
  obtain ⟨v2, rfl, h⟩ := h
  refine Or.inl ⟨_, rfl, ?_⟩
  show gWp none 155 (4, [some (.int x0)], [.int v2], μ1) _ P
  refine gWp_if gT_155 (pc := 4) rfl ⟨fun c => ?_, fun c => ?_⟩
  · replace h := h.1 (of_decide_eq_true c)
    refine gWp_sts gT_155 2 (f' := (23, [some (.int x0)], [.int (1 : Int32)], μ1)) (cs := []) rfl trivial ?_
    exact gWp_end gT_155 rfl (gEnd_int (show narrow .boolean (.int (1 : Int32)) = .int (1 : Int32) by decide)) h
  · replace h := h.2 (Classical.not_not.mp (fun q => c (decide_eq_true q)))
    refine gWp_sts gT_155 3 (f' := (12, [some (.int x0)], [.int (90 : Int32), .int (65 : Int32), .int x0], μ1)) (cs := []) rfl trivial ?_
    refine gWp_stat gT_155 (pc := 12) (c01 := 0) (as := [.int x0, .int (65 : Int32), .int (90 : Int32)]) (rest := []) rfl (Or.inl rfl) rfl rfl rfl ⟨by decide, Nat.le_of_ble_eq_true rfl, by decide, Nat.le_of_ble_eq_true rfl⟩ (gWp_imp h (fun μ3 r h => ?_))
    obtain ⟨v4, rfl, h⟩ := h
    refine Or.inl ⟨_, rfl, ?_⟩
    show gWp none 155 (15, [some (.int x0)], [.int v4], μ3) _ P
    refine gWp_if gT_155 (pc := 15) rfl ⟨fun c => ?_, fun c => ?_⟩
    · replace h := h.1 (of_decide_eq_true c)
      refine gWp_sts gT_155 1 (f' := (23, [some (.int x0)], [.int (0 : Int32)], μ3)) (cs := []) rfl trivial ?_
      exact gWp_end gT_155 rfl (gEnd_int (show narrow .boolean (.int (0 : Int32)) = .int (0 : Int32) by decide)) h
    · replace h := h.2 (fun q => c (decide_eq_true q))
      refine gWp_sts gT_155 2 (f' := (23, [some (.int x0)], [.int (1 : Int32)], μ3)) (cs := []) rfl trivial ?_
      exact gWp_end gT_155 rfl (gEnd_int (show narrow .boolean (.int (1 : Int32)) = .int (1 : Int32) by decide)) h
/-! GlyphmillModel.isNeutral -/
theorem gT_156 : gCode[156]? = some gC_156 := rfl
set_option maxRecDepth 20000 in
theorem vc_156 {μ : gMu} {x0 : Int32} {P : gMu → gRes → Prop} (h : ((x0 = (32 : Int32)) → (P μ (.inl (some (.int (1 : Int32)))))) ∧ ((¬ x0 = (32 : Int32)) → (((x0 = (45 : Int32)) → (P μ (.inl (some (.int (1 : Int32)))))) ∧ ((¬ x0 = (45 : Int32)) → (((x0 = (44 : Int32)) → (P μ (.inl (some (.int (1 : Int32)))))) ∧ ((¬ x0 = (44 : Int32)) → (((¬ x0 = (46 : Int32)) → (P μ (.inl (some (.int (0 : Int32)))))) ∧ ((x0 = (46 : Int32)) → (P μ (.inl (some (.int (1 : Int32))))))))))))) : gWp none 156 (0, [some (.int x0)], [], μ) 0 P := by
  refine gWp_sts gT_156 2 (f' := (3, [some (.int x0)], [.int (32 : Int32), .int x0], μ)) (cs := []) rfl trivial ?_
  refine gWp_icmp gT_156 (pc := 3) rfl ⟨fun c => ?_, fun c => ?_⟩
  · replace h := h.1 (of_decide_eq_true c)
    refine gWp_sts gT_156 2 (f' := (29, [some (.int x0)], [.int (1 : Int32)], μ)) (cs := []) rfl trivial ?_
    exact gWp_end gT_156 rfl (gEnd_int (show narrow .boolean (.int (1 : Int32)) = .int (1 : Int32) by decide)) h
  · replace h := h.2 (fun q => c (decide_eq_true q))
    refine gWp_sts gT_156 2 (f' := (9, [some (.int x0)], [.int (45 : Int32), .int x0], μ)) (cs := []) rfl trivial ?_
    refine gWp_icmp gT_156 (pc := 9) rfl ⟨fun c => ?_, fun c => ?_⟩
    · replace h := h.1 (of_decide_eq_true c)
      refine gWp_sts gT_156 2 (f' := (29, [some (.int x0)], [.int (1 : Int32)], μ)) (cs := []) rfl trivial ?_
      exact gWp_end gT_156 rfl (gEnd_int (show narrow .boolean (.int (1 : Int32)) = .int (1 : Int32) by decide)) h
    · replace h := h.2 (fun q => c (decide_eq_true q))
      refine gWp_sts gT_156 2 (f' := (15, [some (.int x0)], [.int (44 : Int32), .int x0], μ)) (cs := []) rfl trivial ?_
      refine gWp_icmp gT_156 (pc := 15) rfl ⟨fun c => ?_, fun c => ?_⟩
      · replace h := h.1 (of_decide_eq_true c)
        refine gWp_sts gT_156 2 (f' := (29, [some (.int x0)], [.int (1 : Int32)], μ)) (cs := []) rfl trivial ?_
        exact gWp_end gT_156 rfl (gEnd_int (show narrow .boolean (.int (1 : Int32)) = .int (1 : Int32) by decide)) h
      · replace h := h.2 (fun q => c (decide_eq_true q))
        refine gWp_sts gT_156 2 (f' := (21, [some (.int x0)], [.int (46 : Int32), .int x0], μ)) (cs := []) rfl trivial ?_
        refine gWp_icmp gT_156 (pc := 21) rfl ⟨fun c => ?_, fun c => ?_⟩
        · replace h := h.1 (of_decide_eq_true c)
          refine gWp_sts gT_156 1 (f' := (29, [some (.int x0)], [.int (0 : Int32)], μ)) (cs := []) rfl trivial ?_
          exact gWp_end gT_156 rfl (gEnd_int (show narrow .boolean (.int (0 : Int32)) = .int (0 : Int32) by decide)) h
        · replace h := h.2 (Classical.not_not.mp (fun q => c (decide_eq_true q)))
          refine gWp_sts gT_156 2 (f' := (29, [some (.int x0)], [.int (1 : Int32)], μ)) (cs := []) rfl trivial ?_
          exact gWp_end gT_156 rfl (gEnd_int (show narrow .boolean (.int (1 : Int32)) = .int (1 : Int32) by decide)) h
/-! GlyphmillModel.hasWidth -/
theorem gT_157 : gCode[157]? = some gC_157 := rfl
set_option maxRecDepth 20000 in
theorem vc_157 {μ : gMu} {x0 : Int32} {P : gMu → gRes → Prop} (h : gCl' 155 [.int x0] μ (fun μ1 r => (∃ v2, r = .inl (some (.int v2)) ∧ (((¬ v2 = 0) → (P μ1 (.inl (some (.int (1 : Int32)))))) ∧ ((v2 = 0) → (gCl' 153 [.int x0, .int (48 : Int32), .int (57 : Int32)] μ1 (fun μ3 r => (∃ v4, r = .inl (some (.int v4)) ∧ (((¬ v4 = 0) → (P μ3 (.inl (some (.int (1 : Int32)))))) ∧ ((v4 = 0) → (gCl' 156 [.int x0] μ3 (fun μ5 r => (∃ v6, r = .inl (some (.int v6)) ∧ (((v6 = 0) → (P μ5 (.inl (some (.int (0 : Int32)))))) ∧ ((¬ v6 = 0) → (P μ5 (.inl (some (.int (1 : Int32)))))))))))))))))))) : gWp none 157 (0, [some (.int x0)], [], μ) 0 P := by
  refine gWp_sts gT_157 1 (f' := (1, [some (.int x0)], [.int x0], μ)) (cs := []) rfl trivial ?_
  refine gWp_stat gT_157 (pc := 1) (c01 := 0) (as := [.int x0]) (rest := []) rfl (Or.inl rfl) rfl rfl rfl ⟨by decide, Nat.le_of_ble_eq_true rfl, by decide, Nat.le_of_ble_eq_true rfl⟩ (gWp_imp h (fun μ1 r h => ?_))
  obtain ⟨v2, rfl, h⟩ := h
  refine Or.inl ⟨_, rfl, ?_⟩
  show gWp none 157 (4, [some (.int x0)], [.int v2], μ1) _ P
  refine gWp_if gT_157 (pc := 4) rfl ⟨fun c => ?_, fun c => ?_⟩
  · replace h := h.1 (of_decide_eq_true c)
    refine gWp_sts gT_157 2 (f' := (30, [some (.int x0)], [.int (1 : Int32)], μ1)) (cs := []) rfl trivial ?_
    exact gWp_end gT_157 rfl (gEnd_int (show narrow .boolean (.int (1 : Int32)) = .int (1 : Int32) by decide)) h
  · replace h := h.2 (Classical.not_not.mp (fun q => c (decide_eq_true q)))
    refine gWp_sts gT_157 3 (f' := (12, [some (.int x0)], [.int (57 : Int32), .int (48 : Int32), .int x0], μ1)) (cs := []) rfl trivial ?_
    refine gWp_stat gT_157 (pc := 12) (c01 := 0) (as := [.int x0, .int (48 : Int32), .int (57 : Int32)]) (rest := []) rfl (Or.inl rfl) rfl rfl rfl ⟨by decide, Nat.le_of_ble_eq_true rfl, by decide, Nat.le_of_ble_eq_true rfl⟩ (gWp_imp h (fun μ3 r h => ?_))
    obtain ⟨v4, rfl, h⟩ := h
    refine Or.inl ⟨_, rfl, ?_⟩
    show gWp none 157 (15, [some (.int x0)], [.int v4], μ3) _ P
    refine gWp_if gT_157 (pc := 15) rfl ⟨fun c => ?_, fun c => ?_⟩
    · replace h := h.1 (of_decide_eq_true c)
      refine gWp_sts gT_157 2 (f' := (30, [some (.int x0)], [.int (1 : Int32)], μ3)) (cs := []) rfl trivial ?_
      exact gWp_end gT_157 rfl (gEnd_int (show narrow .boolean (.int (1 : Int32)) = .int (1 : Int32) by decide)) h
    · replace h := h.2 (Classical.not_not.mp (fun q => c (decide_eq_true q)))
      refine gWp_sts gT_157 1 (f' := (19, [some (.int x0)], [.int x0], μ3)) (cs := []) rfl trivial ?_
      refine gWp_stat gT_157 (pc := 19) (c01 := 0) (as := [.int x0]) (rest := []) rfl (Or.inl rfl) rfl rfl rfl ⟨by decide, Nat.le_of_ble_eq_true rfl, by decide, Nat.le_of_ble_eq_true rfl⟩ (gWp_imp h (fun μ5 r h => ?_))
      obtain ⟨v6, rfl, h⟩ := h
      refine Or.inl ⟨_, rfl, ?_⟩
      show gWp none 157 (22, [some (.int x0)], [.int v6], μ5) _ P
      refine gWp_if gT_157 (pc := 22) rfl ⟨fun c => ?_, fun c => ?_⟩
      · replace h := h.1 (of_decide_eq_true c)
        refine gWp_sts gT_157 1 (f' := (30, [some (.int x0)], [.int (0 : Int32)], μ5)) (cs := []) rfl trivial ?_
        exact gWp_end gT_157 rfl (gEnd_int (show narrow .boolean (.int (0 : Int32)) = .int (0 : Int32) by decide)) h
      · replace h := h.2 (fun q => c (decide_eq_true q))
        refine gWp_sts gT_157 2 (f' := (30, [some (.int x0)], [.int (1 : Int32)], μ5)) (cs := []) rfl trivial ?_
        exact gWp_end gT_157 rfl (gEnd_int (show narrow .boolean (.int (1 : Int32)) = .int (1 : Int32) by decide)) h
/-! GlyphmillModel.isMark -/
theorem gT_158 : gCode[158]? = some gC_158 := rfl
set_option maxRecDepth 20000 in
theorem vc_158 {μ : gMu} {x0 : Int32} {P : gMu → gRes → Prop} (h : ((x0 = (91 : Int32)) → (P μ (.inl (some (.int (1 : Int32)))))) ∧ ((¬ x0 = (91 : Int32)) → (((x0 = (123 : Int32)) → (P μ (.inl (some (.int (1 : Int32)))))) ∧ ((¬ x0 = (123 : Int32)) → (((¬ x0 = (125 : Int32)) → (P μ (.inl (some (.int (0 : Int32)))))) ∧ ((x0 = (125 : Int32)) → (P μ (.inl (some (.int (1 : Int32))))))))))) : gWp none 158 (0, [some (.int x0)], [], μ) 0 P := by
  refine gWp_sts gT_158 2 (f' := (3, [some (.int x0)], [.int (91 : Int32), .int x0], μ)) (cs := []) rfl trivial ?_
  refine gWp_icmp gT_158 (pc := 3) rfl ⟨fun c => ?_, fun c => ?_⟩
  · replace h := h.1 (of_decide_eq_true c)
    refine gWp_sts gT_158 2 (f' := (23, [some (.int x0)], [.int (1 : Int32)], μ)) (cs := []) rfl trivial ?_
    exact gWp_end gT_158 rfl (gEnd_int (show narrow .boolean (.int (1 : Int32)) = .int (1 : Int32) by decide)) h
  · replace h := h.2 (fun q => c (decide_eq_true q))
    refine gWp_sts gT_158 2 (f' := (9, [some (.int x0)], [.int (123 : Int32), .int x0], μ)) (cs := []) rfl trivial ?_
    refine gWp_icmp gT_158 (pc := 9) rfl ⟨fun c => ?_, fun c => ?_⟩
    · replace h := h.1 (of_decide_eq_true c)
      refine gWp_sts gT_158 2 (f' := (23, [some (.int x0)], [.int (1 : Int32)], μ)) (cs := []) rfl trivial ?_
      exact gWp_end gT_158 rfl (gEnd_int (show narrow .boolean (.int (1 : Int32)) = .int (1 : Int32) by decide)) h
    · replace h := h.2 (fun q => c (decide_eq_true q))
      refine gWp_sts gT_158 2 (f' := (15, [some (.int x0)], [.int (125 : Int32), .int x0], μ)) (cs := []) rfl trivial ?_
      refine gWp_icmp gT_158 (pc := 15) rfl ⟨fun c => ?_, fun c => ?_⟩
      · replace h := h.1 (of_decide_eq_true c)
        refine gWp_sts gT_158 1 (f' := (23, [some (.int x0)], [.int (0 : Int32)], μ)) (cs := []) rfl trivial ?_
        exact gWp_end gT_158 rfl (gEnd_int (show narrow .boolean (.int (0 : Int32)) = .int (0 : Int32) by decide)) h
      · replace h := h.2 (Classical.not_not.mp (fun q => c (decide_eq_true q)))
        refine gWp_sts gT_158 2 (f' := (23, [some (.int x0)], [.int (1 : Int32)], μ)) (cs := []) rfl trivial ?_
        exact gWp_end gT_158 rfl (gEnd_int (show narrow .boolean (.int (1 : Int32)) = .int (1 : Int32) by decide)) h
/-! GlyphmillModel.base -/
theorem gT_159 : gCode[159]? = some gC_159 := rfl
set_option maxRecDepth 20000 in
theorem vc_159 {μ : gMu} {P : gMu → gRes → Prop} (h : (((gI μ 1 4) = 0) → (P μ (.inl (some (.int (0 : Int32)))))) ∧ ((¬ (gI μ 1 4) = 0) → (P μ (.inl (some (.int (1 : Int32))))))) : gWp none 159 (0, [some (.ref 1)], [], μ) 0 P := by
  refine gWp_sts gT_159 2 (f' := (4, [some (.ref 1)], [.int (gI μ 1 4)], μ)) (cs := []) rfl trivial ?_
  refine gWp_if gT_159 (pc := 4) rfl ⟨fun c => ?_, fun c => ?_⟩
  · replace h := h.1 (of_decide_eq_true c)
    refine gWp_sts gT_159 1 (f' := (12, [some (.ref 1)], [.int (0 : Int32)], μ)) (cs := []) rfl trivial ?_
    exact gWp_end gT_159 rfl (gEnd_int trivial) h
  · replace h := h.2 (fun q => c (decide_eq_true q))
    refine gWp_sts gT_159 2 (f' := (12, [some (.ref 1)], [.int (1 : Int32)], μ)) (cs := []) rfl trivial ?_
    exact gWp_end gT_159 rfl (gEnd_int trivial) h
/-! GlyphmillModel.laysEmbeddings -/
theorem gT_160 : gCode[160]? = some gC_160 := rfl
set_option maxRecDepth 20000 in
theorem vc_160_22 {μ : gMu} {x1 : Int32} {P : gMu → gRes → Prop} (h : (((gI μ 1 1) ≤ x1) → (P μ (.inl none))) ∧ ((¬ (gI μ 1 1) ≤ x1) → ((vp_in x1 50) ∧ ((vp_in (gI μ 1 20) 6) ∧ (((¬ (gI μ 44 x1.toNatClampNeg) = (125 : Int32)) → (gCl' 158 [.int (gI μ 44 x1.toNatClampNeg)] μ (fun μ1 r => (∃ v2, r = .inl (some (.int v2)) ∧ (((v2 = 0) → ((vp_in (gI μ1 1 19) 50) ∧ ((vp_in (gI μ1 1 19) 50) ∧ ((vp_in (gI μ1 1 19) 50) ∧ (gWp none 160 (22, [some (.ref 1), some (.int (x1 + (1 : Int32))), some (.int (gI μ 44 x1.toNatClampNeg)), some (.int (gI μ 62 ((gI μ 1 20).toNatClampNeg)))], [], (gsI (gsI (gsI (gsI μ1 49 ((gI μ1 1 19).toNatClampNeg) x1) 50 ((gI μ1 1 19).toNatClampNeg) (vp_nar .char (gI μ 44 x1.toNatClampNeg))) 51 ((gI μ1 1 19).toNatClampNeg) (gI μ 62 ((gI μ 1 20).toNatClampNeg))) 1 19 ((gI μ1 1 19) + (1 : Int32)))) 0 P))))) ∧ ((¬ v2 = 0) → (((¬ (gI μ 44 x1.toNatClampNeg) = (91 : Int32)) → ((¬ (2 : Int32) = 0) ∧ (((¬ ((gI μ 62 ((gI μ 1 20).toNatClampNeg)) - (gI μ 62 ((gI μ 1 20).toNatClampNeg)) / (2 : Int32) * (2 : Int32)) = 0) → (((¬ (0 : Int32) = (0 : Int32)) → ((vp_in ((gI μ1 1 20) + (1 : Int32)) 6) ∧ (gWp none 160 (22, [some (.ref 1), some (.int (x1 + (1 : Int32))), some (.int (gI μ 44 x1.toNatClampNeg)), some (.int (gI μ 62 ((gI μ 1 20).toNatClampNeg)))], [], (gsI (gsI μ1 1 20 ((gI μ1 1 20) + (1 : Int32))) 62 (((gI μ1 1 20) + (1 : Int32)).toNatClampNeg) ((gI μ 62 ((gI μ 1 20).toNatClampNeg)) + (1 : Int32)))) 0 P))) ∧ (((0 : Int32) = (0 : Int32)) → ((vp_in ((gI μ1 1 20) + (1 : Int32)) 6) ∧ (gWp none 160 (22, [some (.ref 1), some (.int (x1 + (1 : Int32))), some (.int (gI μ 44 x1.toNatClampNeg)), some (.int (gI μ 62 ((gI μ 1 20).toNatClampNeg)))], [], (gsI (gsI μ1 1 20 ((gI μ1 1 20) + (1 : Int32))) 62 (((gI μ1 1 20) + (1 : Int32)).toNatClampNeg) ((gI μ 62 ((gI μ 1 20).toNatClampNeg)) + (2 : Int32)))) 0 P))))) ∧ ((((gI μ 62 ((gI μ 1 20).toNatClampNeg)) - (gI μ 62 ((gI μ 1 20).toNatClampNeg)) / (2 : Int32) * (2 : Int32)) = 0) → (((¬ (0 : Int32) = (1 : Int32)) → ((vp_in ((gI μ1 1 20) + (1 : Int32)) 6) ∧ (gWp none 160 (22, [some (.ref 1), some (.int (x1 + (1 : Int32))), some (.int (gI μ 44 x1.toNatClampNeg)), some (.int (gI μ 62 ((gI μ 1 20).toNatClampNeg)))], [], (gsI (gsI μ1 1 20 ((gI μ1 1 20) + (1 : Int32))) 62 (((gI μ1 1 20) + (1 : Int32)).toNatClampNeg) ((gI μ 62 ((gI μ 1 20).toNatClampNeg)) + (1 : Int32)))) 0 P))) ∧ (((0 : Int32) = (1 : Int32)) → ((vp_in ((gI μ1 1 20) + (1 : Int32)) 6) ∧ (gWp none 160 (22, [some (.ref 1), some (.int (x1 + (1 : Int32))), some (.int (gI μ 44 x1.toNatClampNeg)), some (.int (gI μ 62 ((gI μ 1 20).toNatClampNeg)))], [], (gsI (gsI μ1 1 20 ((gI μ1 1 20) + (1 : Int32))) 62 (((gI μ1 1 20) + (1 : Int32)).toNatClampNeg) ((gI μ 62 ((gI μ 1 20).toNatClampNeg)) + (2 : Int32)))) 0 P)))))))) ∧ (((gI μ 44 x1.toNatClampNeg) = (91 : Int32)) → ((¬ (2 : Int32) = 0) ∧ (((¬ ((gI μ 62 ((gI μ 1 20).toNatClampNeg)) - (gI μ 62 ((gI μ 1 20).toNatClampNeg)) / (2 : Int32) * (2 : Int32)) = 0) → (((¬ (1 : Int32) = (0 : Int32)) → ((vp_in ((gI μ1 1 20) + (1 : Int32)) 6) ∧ (gWp none 160 (22, [some (.ref 1), some (.int (x1 + (1 : Int32))), some (.int (gI μ 44 x1.toNatClampNeg)), some (.int (gI μ 62 ((gI μ 1 20).toNatClampNeg)))], [], (gsI (gsI μ1 1 20 ((gI μ1 1 20) + (1 : Int32))) 62 (((gI μ1 1 20) + (1 : Int32)).toNatClampNeg) ((gI μ 62 ((gI μ 1 20).toNatClampNeg)) + (1 : Int32)))) 0 P))) ∧ (((1 : Int32) = (0 : Int32)) → ((vp_in ((gI μ1 1 20) + (1 : Int32)) 6) ∧ (gWp none 160 (22, [some (.ref 1), some (.int (x1 + (1 : Int32))), some (.int (gI μ 44 x1.toNatClampNeg)), some (.int (gI μ 62 ((gI μ 1 20).toNatClampNeg)))], [], (gsI (gsI μ1 1 20 ((gI μ1 1 20) + (1 : Int32))) 62 (((gI μ1 1 20) + (1 : Int32)).toNatClampNeg) ((gI μ 62 ((gI μ 1 20).toNatClampNeg)) + (2 : Int32)))) 0 P))))) ∧ ((((gI μ 62 ((gI μ 1 20).toNatClampNeg)) - (gI μ 62 ((gI μ 1 20).toNatClampNeg)) / (2 : Int32) * (2 : Int32)) = 0) → (((¬ (1 : Int32) = (1 : Int32)) → ((vp_in ((gI μ1 1 20) + (1 : Int32)) 6) ∧ (gWp none 160 (22, [some (.ref 1), some (.int (x1 + (1 : Int32))), some (.int (gI μ 44 x1.toNatClampNeg)), some (.int (gI μ 62 ((gI μ 1 20).toNatClampNeg)))], [], (gsI (gsI μ1 1 20 ((gI μ1 1 20) + (1 : Int32))) 62 (((gI μ1 1 20) + (1 : Int32)).toNatClampNeg) ((gI μ 62 ((gI μ 1 20).toNatClampNeg)) + (1 : Int32)))) 0 P))) ∧ (((1 : Int32) = (1 : Int32)) → ((vp_in ((gI μ1 1 20) + (1 : Int32)) 6) ∧ (gWp none 160 (22, [some (.ref 1), some (.int (x1 + (1 : Int32))), some (.int (gI μ 44 x1.toNatClampNeg)), some (.int (gI μ 62 ((gI μ 1 20).toNatClampNeg)))], [], (gsI (gsI μ1 1 20 ((gI μ1 1 20) + (1 : Int32))) 62 (((gI μ1 1 20) + (1 : Int32)).toNatClampNeg) ((gI μ 62 ((gI μ 1 20).toNatClampNeg)) + (2 : Int32)))) 0 P))))))))))))))) ∧ (((gI μ 44 x1.toNatClampNeg) = (125 : Int32)) → (gWp none 160 (22, [some (.ref 1), some (.int (x1 + (1 : Int32))), some (.int (gI μ 44 x1.toNatClampNeg)), some (.int (gI μ 62 ((gI μ 1 20).toNatClampNeg)))], [], (gsI μ 1 20 ((gI μ 1 20) - (1 : Int32)))) 0 P))))))) : gWp none 160 (22, [some (.ref 1), some (.int x1), none, none], [], μ) 0 P := by
  refine gWp_sts gT_160 3 (f' := (27, [some (.ref 1), some (.int x1), none, none], [.int (gI μ 1 1), .int x1], μ)) (cs := []) rfl trivial ?_
  refine gWp_icmp gT_160 (pc := 27) rfl ⟨fun c => ?_, fun c => ?_⟩
  · replace h := h.1 (of_decide_eq_true c)
    exact gWp_end gT_160 rfl rfl h
  · replace h := h.2 (fun q => c (decide_eq_true q))
    obtain ⟨c1, c2, h⟩ := h
    refine gWp_sts gT_160 13 (f' := (50, [some (.ref 1), some (.int x1), some (.int (gI μ 44 x1.toNatClampNeg)), some (.int (gI μ 62 ((gI μ 1 20).toNatClampNeg)))], [.int (125 : Int32), .int (gI μ 44 x1.toNatClampNeg)], μ)) (cs := [vp_in x1 50, vp_in (gI μ 1 20) 6]) rfl ⟨c1, c2⟩ ?_
    refine gWp_icmp gT_160 (pc := 50) rfl ⟨fun c => ?_, fun c => ?_⟩
    · replace h := h.1 (of_decide_eq_true c)
      refine gWp_sts gT_160 1 (f' := (67, [some (.ref 1), some (.int x1), some (.int (gI μ 44 x1.toNatClampNeg)), some (.int (gI μ 62 ((gI μ 1 20).toNatClampNeg)))], [.int (gI μ 44 x1.toNatClampNeg)], μ)) (cs := []) rfl trivial ?_
      refine gWp_stat gT_160 (pc := 67) (c01 := 0) (as := [.int (gI μ 44 x1.toNatClampNeg)]) (rest := []) rfl (Or.inl rfl) rfl rfl rfl ⟨by decide, Nat.le_of_ble_eq_true rfl, by decide, Nat.le_of_ble_eq_true rfl⟩ (gWp_imp h (fun μ1 r h => ?_))
      obtain ⟨v2, rfl, h⟩ := h
      refine Or.inl ⟨_, rfl, ?_⟩
      show gWp none 160 (70, [some (.ref 1), some (.int x1), some (.int (gI μ 44 x1.toNatClampNeg)), some (.int (gI μ 62 ((gI μ 1 20).toNatClampNeg)))], [.int v2], μ1) _ P
      refine gWp_if gT_160 (pc := 70) rfl ⟨fun c => ?_, fun c => ?_⟩
      · replace h := h.1 (of_decide_eq_true c)
        obtain ⟨c1, c2, c3, h⟩ := h
        refine gWp_sts gT_160 26 (f' := (22, [some (.ref 1), some (.int (x1 + (1 : Int32))), some (.int (gI μ 44 x1.toNatClampNeg)), some (.int (gI μ 62 ((gI μ 1 20).toNatClampNeg)))], [], (gsI (gsI (gsI (gsI μ1 49 ((gI μ1 1 19).toNatClampNeg) x1) 50 ((gI μ1 1 19).toNatClampNeg) (vp_nar .char (gI μ 44 x1.toNatClampNeg))) 51 ((gI μ1 1 19).toNatClampNeg) (gI μ 62 ((gI μ 1 20).toNatClampNeg))) 1 19 ((gI μ1 1 19) + (1 : Int32))))) (cs := [vp_in (gI μ1 1 19) 50, vp_in (gI μ1 1 19) 50, vp_in (gI μ1 1 19) 50, (Value.ref 1 : Value).category = 1]) rfl ⟨c1, c2, c3, rfl⟩ ?_
        exact h
      · replace h := h.2 (fun q => c (decide_eq_true q))
        refine gWp_sts gT_160 12 (f' := (94, [some (.ref 1), some (.int x1), some (.int (gI μ 44 x1.toNatClampNeg)), some (.int (gI μ 62 ((gI μ 1 20).toNatClampNeg)))], [.int (91 : Int32), .int (gI μ 44 x1.toNatClampNeg), .int ((gI μ1 1 20) + (1 : Int32)), .ref 62], (gsI μ1 1 20 ((gI μ1 1 20) + (1 : Int32))))) (cs := [(Value.ref 1 : Value).category = 1]) rfl rfl ?_
        refine gWp_icmp gT_160 (pc := 94) rfl ⟨fun c => ?_, fun c => ?_⟩
        · replace h := h.1 (of_decide_eq_true c)
          obtain ⟨c1, h⟩ := h
          refine gWp_sts gT_160 4 (f' := (105, [some (.ref 1), some (.int x1), some (.int (gI μ 44 x1.toNatClampNeg)), some (.int (gI μ 62 ((gI μ 1 20).toNatClampNeg)))], [.int ((gI μ 62 ((gI μ 1 20).toNatClampNeg)) - (gI μ 62 ((gI μ 1 20).toNatClampNeg)) / (2 : Int32) * (2 : Int32)), .int (0 : Int32), .int ((gI μ1 1 20) + (1 : Int32)), .ref 62], (gsI μ1 1 20 ((gI μ1 1 20) + (1 : Int32))))) (cs := [¬ (2 : Int32) = 0]) rfl c1 ?_
          refine gWp_if gT_160 (pc := 105) rfl ⟨fun c => ?_, fun c => ?_⟩
          · replace h := h.1 (of_decide_eq_true c)
            refine gWp_sts gT_160 1 (f' := (113, [some (.ref 1), some (.int x1), some (.int (gI μ 44 x1.toNatClampNeg)), some (.int (gI μ 62 ((gI μ 1 20).toNatClampNeg)))], [.int (0 : Int32), .int (0 : Int32), .int ((gI μ1 1 20) + (1 : Int32)), .ref 62], (gsI μ1 1 20 ((gI μ1 1 20) + (1 : Int32))))) (cs := []) rfl trivial ?_
            refine gWp_icmp gT_160 (pc := 113) rfl ⟨fun c => ?_, fun c => ?_⟩
            · replace h := h.1 (of_decide_eq_true c)
              obtain ⟨c1, h⟩ := h
              refine gWp_sts gT_160 7 (f' := (22, [some (.ref 1), some (.int (x1 + (1 : Int32))), some (.int (gI μ 44 x1.toNatClampNeg)), some (.int (gI μ 62 ((gI μ 1 20).toNatClampNeg)))], [], (gsI (gsI μ1 1 20 ((gI μ1 1 20) + (1 : Int32))) 62 (((gI μ1 1 20) + (1 : Int32)).toNatClampNeg) ((gI μ 62 ((gI μ 1 20).toNatClampNeg)) + (1 : Int32))))) (cs := [vp_in ((gI μ1 1 20) + (1 : Int32)) 6]) rfl c1 ?_
              exact h
            · replace h := h.2 (Classical.not_not.mp (fun q => c (decide_eq_true q)))
              obtain ⟨c1, h⟩ := h
              refine gWp_sts gT_160 8 (f' := (22, [some (.ref 1), some (.int (x1 + (1 : Int32))), some (.int (gI μ 44 x1.toNatClampNeg)), some (.int (gI μ 62 ((gI μ 1 20).toNatClampNeg)))], [], (gsI (gsI μ1 1 20 ((gI μ1 1 20) + (1 : Int32))) 62 (((gI μ1 1 20) + (1 : Int32)).toNatClampNeg) ((gI μ 62 ((gI μ 1 20).toNatClampNeg)) + (2 : Int32))))) (cs := [vp_in ((gI μ1 1 20) + (1 : Int32)) 6]) rfl c1 ?_
              exact h
          · replace h := h.2 (Classical.not_not.mp (fun q => c (decide_eq_true q)))
            refine gWp_sts gT_160 2 (f' := (113, [some (.ref 1), some (.int x1), some (.int (gI μ 44 x1.toNatClampNeg)), some (.int (gI μ 62 ((gI μ 1 20).toNatClampNeg)))], [.int (1 : Int32), .int (0 : Int32), .int ((gI μ1 1 20) + (1 : Int32)), .ref 62], (gsI μ1 1 20 ((gI μ1 1 20) + (1 : Int32))))) (cs := []) rfl trivial ?_
            refine gWp_icmp gT_160 (pc := 113) rfl ⟨fun c => ?_, fun c => ?_⟩
            · replace h := h.1 (of_decide_eq_true c)
              obtain ⟨c1, h⟩ := h
              refine gWp_sts gT_160 7 (f' := (22, [some (.ref 1), some (.int (x1 + (1 : Int32))), some (.int (gI μ 44 x1.toNatClampNeg)), some (.int (gI μ 62 ((gI μ 1 20).toNatClampNeg)))], [], (gsI (gsI μ1 1 20 ((gI μ1 1 20) + (1 : Int32))) 62 (((gI μ1 1 20) + (1 : Int32)).toNatClampNeg) ((gI μ 62 ((gI μ 1 20).toNatClampNeg)) + (1 : Int32))))) (cs := [vp_in ((gI μ1 1 20) + (1 : Int32)) 6]) rfl c1 ?_
              exact h
            · replace h := h.2 (Classical.not_not.mp (fun q => c (decide_eq_true q)))
              obtain ⟨c1, h⟩ := h
              refine gWp_sts gT_160 8 (f' := (22, [some (.ref 1), some (.int (x1 + (1 : Int32))), some (.int (gI μ 44 x1.toNatClampNeg)), some (.int (gI μ 62 ((gI μ 1 20).toNatClampNeg)))], [], (gsI (gsI μ1 1 20 ((gI μ1 1 20) + (1 : Int32))) 62 (((gI μ1 1 20) + (1 : Int32)).toNatClampNeg) ((gI μ 62 ((gI μ 1 20).toNatClampNeg)) + (2 : Int32))))) (cs := [vp_in ((gI μ1 1 20) + (1 : Int32)) 6]) rfl c1 ?_
              exact h
        · replace h := h.2 (Classical.not_not.mp (fun q => c (decide_eq_true q)))
          obtain ⟨c1, h⟩ := h
          refine gWp_sts gT_160 5 (f' := (105, [some (.ref 1), some (.int x1), some (.int (gI μ 44 x1.toNatClampNeg)), some (.int (gI μ 62 ((gI μ 1 20).toNatClampNeg)))], [.int ((gI μ 62 ((gI μ 1 20).toNatClampNeg)) - (gI μ 62 ((gI μ 1 20).toNatClampNeg)) / (2 : Int32) * (2 : Int32)), .int (1 : Int32), .int ((gI μ1 1 20) + (1 : Int32)), .ref 62], (gsI μ1 1 20 ((gI μ1 1 20) + (1 : Int32))))) (cs := [¬ (2 : Int32) = 0]) rfl c1 ?_
          refine gWp_if gT_160 (pc := 105) rfl ⟨fun c => ?_, fun c => ?_⟩
          · replace h := h.1 (of_decide_eq_true c)
            refine gWp_sts gT_160 1 (f' := (113, [some (.ref 1), some (.int x1), some (.int (gI μ 44 x1.toNatClampNeg)), some (.int (gI μ 62 ((gI μ 1 20).toNatClampNeg)))], [.int (0 : Int32), .int (1 : Int32), .int ((gI μ1 1 20) + (1 : Int32)), .ref 62], (gsI μ1 1 20 ((gI μ1 1 20) + (1 : Int32))))) (cs := []) rfl trivial ?_
            refine gWp_icmp gT_160 (pc := 113) rfl ⟨fun c => ?_, fun c => ?_⟩
            · replace h := h.1 (of_decide_eq_true c)
              obtain ⟨c1, h⟩ := h
              refine gWp_sts gT_160 7 (f' := (22, [some (.ref 1), some (.int (x1 + (1 : Int32))), some (.int (gI μ 44 x1.toNatClampNeg)), some (.int (gI μ 62 ((gI μ 1 20).toNatClampNeg)))], [], (gsI (gsI μ1 1 20 ((gI μ1 1 20) + (1 : Int32))) 62 (((gI μ1 1 20) + (1 : Int32)).toNatClampNeg) ((gI μ 62 ((gI μ 1 20).toNatClampNeg)) + (1 : Int32))))) (cs := [vp_in ((gI μ1 1 20) + (1 : Int32)) 6]) rfl c1 ?_
              exact h
            · replace h := h.2 (Classical.not_not.mp (fun q => c (decide_eq_true q)))
              obtain ⟨c1, h⟩ := h
              refine gWp_sts gT_160 8 (f' := (22, [some (.ref 1), some (.int (x1 + (1 : Int32))), some (.int (gI μ 44 x1.toNatClampNeg)), some (.int (gI μ 62 ((gI μ 1 20).toNatClampNeg)))], [], (gsI (gsI μ1 1 20 ((gI μ1 1 20) + (1 : Int32))) 62 (((gI μ1 1 20) + (1 : Int32)).toNatClampNeg) ((gI μ 62 ((gI μ 1 20).toNatClampNeg)) + (2 : Int32))))) (cs := [vp_in ((gI μ1 1 20) + (1 : Int32)) 6]) rfl c1 ?_
              exact h
          · replace h := h.2 (Classical.not_not.mp (fun q => c (decide_eq_true q)))
            refine gWp_sts gT_160 2 (f' := (113, [some (.ref 1), some (.int x1), some (.int (gI μ 44 x1.toNatClampNeg)), some (.int (gI μ 62 ((gI μ 1 20).toNatClampNeg)))], [.int (1 : Int32), .int (1 : Int32), .int ((gI μ1 1 20) + (1 : Int32)), .ref 62], (gsI μ1 1 20 ((gI μ1 1 20) + (1 : Int32))))) (cs := []) rfl trivial ?_
            refine gWp_icmp gT_160 (pc := 113) rfl ⟨fun c => ?_, fun c => ?_⟩
            · replace h := h.1 (of_decide_eq_true c)
              obtain ⟨c1, h⟩ := h
              refine gWp_sts gT_160 7 (f' := (22, [some (.ref 1), some (.int (x1 + (1 : Int32))), some (.int (gI μ 44 x1.toNatClampNeg)), some (.int (gI μ 62 ((gI μ 1 20).toNatClampNeg)))], [], (gsI (gsI μ1 1 20 ((gI μ1 1 20) + (1 : Int32))) 62 (((gI μ1 1 20) + (1 : Int32)).toNatClampNeg) ((gI μ 62 ((gI μ 1 20).toNatClampNeg)) + (1 : Int32))))) (cs := [vp_in ((gI μ1 1 20) + (1 : Int32)) 6]) rfl c1 ?_
              exact h
            · replace h := h.2 (Classical.not_not.mp (fun q => c (decide_eq_true q)))
              obtain ⟨c1, h⟩ := h
              refine gWp_sts gT_160 8 (f' := (22, [some (.ref 1), some (.int (x1 + (1 : Int32))), some (.int (gI μ 44 x1.toNatClampNeg)), some (.int (gI μ 62 ((gI μ 1 20).toNatClampNeg)))], [], (gsI (gsI μ1 1 20 ((gI μ1 1 20) + (1 : Int32))) 62 (((gI μ1 1 20) + (1 : Int32)).toNatClampNeg) ((gI μ 62 ((gI μ 1 20).toNatClampNeg)) + (2 : Int32))))) (cs := [vp_in ((gI μ1 1 20) + (1 : Int32)) 6]) rfl c1 ?_
              exact h
    · replace h := h.2 (Classical.not_not.mp (fun q => c (decide_eq_true q)))
      refine gWp_sts gT_160 9 (f' := (22, [some (.ref 1), some (.int (x1 + (1 : Int32))), some (.int (gI μ 44 x1.toNatClampNeg)), some (.int (gI μ 62 ((gI μ 1 20).toNatClampNeg)))], [], (gsI μ 1 20 ((gI μ 1 20) - (1 : Int32))))) (cs := [(Value.ref 1 : Value).category = 1]) rfl rfl ?_
      exact h
set_option maxRecDepth 20000 in
theorem vc_160 {μ : gMu} {P : gMu → gRes → Prop} (h : gCl' 159 [.ref 1] (gsI (gsI μ 1 19 (0 : Int32)) 1 20 (0 : Int32)) (fun μ1 r => (∃ v2, r = .inl (some (.int v2)) ∧ ((vp_in (0 : Int32) 6) ∧ (gWp none 160 (22, [some (.ref 1), some (.int (0 : Int32)), none, none], [], (gsI μ1 62 ((0 : Int32).toNatClampNeg) v2)) 0 P))))) : gWp none 160 (0, [some (.ref 1), none, none, none], [], μ) 0 P := by
  refine gWp_sts gT_160 10 (f' := (16, [some (.ref 1), none, none, none], [.ref 1, .int (0 : Int32), .ref 62], (gsI (gsI μ 1 19 (0 : Int32)) 1 20 (0 : Int32)))) (cs := []) rfl trivial ?_
  refine gWp_virt gT_160 (pc := 16) (q := 1) (as := [.ref 1]) (rest := [.int (0 : Int32), .ref 62]) rfl rfl rfl rfl rfl rfl ⟨by decide, Nat.le_of_ble_eq_true rfl, by decide, Nat.le_of_ble_eq_true rfl⟩ (gWp_imp h (fun μ1 r h => ?_))
  obtain ⟨v2, rfl, h⟩ := h
  refine Or.inl ⟨_, rfl, ?_⟩
  show gWp none 160 (19, [some (.ref 1), none, none, none], [.int v2, .int (0 : Int32), .ref 62], μ1) _ P
  obtain ⟨c1, h⟩ := h
  refine gWp_sts gT_160 3 (f' := (22, [some (.ref 1), some (.int (0 : Int32)), none, none], [], (gsI μ1 62 ((0 : Int32).toNatClampNeg) v2))) (cs := [vp_in (0 : Int32) 6]) rfl c1 ?_
  exact h
/-! GlyphmillModel.raises -/
theorem gT_161 : gCode[161]? = some gC_161 := rfl
set_option maxRecDepth 20000 in
theorem vc_161 {μ : gMu} {x1 : Int32} {P : gMu → gRes → Prop} (h : P (gsI μ 1 9 x1) (.inl (some (.int (0 : Int32))))) : gWp none 161 (0, [some (.ref 1), some (.int x1)], [], μ) 0 P := by
  refine gWp_sts gT_161 4 (f' := (6, [some (.ref 1), some (.int x1)], [.int (0 : Int32)], (gsI μ 1 9 x1))) (cs := []) rfl trivial ?_
  exact gWp_end gT_161 rfl (gEnd_int trivial) h
/-! GlyphmillModel.add -/
theorem gT_162 : gCode[162]? = some gC_162 := rfl
set_option maxRecDepth 20000 in
theorem vc_162 {μ : gMu} {x1 : Int32} {P : gMu → gRes → Prop} (h : gCl' 157 [.int x1] μ (fun μ1 r => (∃ v2, r = .inl (some (.int v2)) ∧ (((¬ v2 = 0) → (gCl' 160 [.ref 1] μ1 (fun μ3 r => (r = .inl none ∧ ((((gI μ3 1 1) = (50 : Int32)) → (gCl' 161 [.ref 1, .int (2 : Int32)] μ3 (fun μ4 r => (∃ v5, r = .inl (some (.int v5)) ∧ (P μ4 (.inl (some (.int v5)))))))) ∧ ((¬ (gI μ3 1 1) = (50 : Int32)) → (((¬ x1 = (125 : Int32)) → (((x1 = (125 : Int32)) → ((vp_in (gI μ3 1 1) 50) ∧ (P (gsI (gsI (gsI μ3 1 9 (0 : Int32)) 44 ((gI μ3 1 1).toNatClampNeg) (vp_nar .char x1)) 1 1 ((gI μ3 1 1) + (1 : Int32))) (.inl (some (.int ((gI μ3 1 1) + (1 : Int32)))))))) ∧ ((¬ x1 = (125 : Int32)) → (gCl' 158 [.int x1] μ3 (fun μ6 r => (∃ v7, r = .inl (some (.int v7)) ∧ (((v7 = 0) → ((vp_in (gI μ6 1 1) 50) ∧ (P (gsI (gsI (gsI μ6 1 9 (0 : Int32)) 44 ((gI μ6 1 1).toNatClampNeg) (vp_nar .char x1)) 1 1 ((gI μ6 1 1) + (1 : Int32))) (.inl (some (.int ((gI μ6 1 1) + (1 : Int32)))))))) ∧ ((¬ v7 = 0) → (((¬ (gI μ6 1 20) = (5 : Int32)) → ((vp_in (gI μ6 1 1) 50) ∧ (P (gsI (gsI (gsI μ6 1 9 (0 : Int32)) 44 ((gI μ6 1 1).toNatClampNeg) (vp_nar .char x1)) 1 1 ((gI μ6 1 1) + (1 : Int32))) (.inl (some (.int ((gI μ6 1 1) + (1 : Int32)))))))) ∧ (((gI μ6 1 20) = (5 : Int32)) → (gCl' 161 [.ref 1, .int (2 : Int32)] μ6 (fun μ8 r => (∃ v9, r = .inl (some (.int v9)) ∧ (P μ8 (.inl (some (.int v9))))))))))))))))) ∧ ((x1 = (125 : Int32)) → ((((gI μ3 1 20) = 0) → (gCl' 161 [.ref 1, .int (2 : Int32)] μ3 (fun μ10 r => (∃ v11, r = .inl (some (.int v11)) ∧ (P μ10 (.inl (some (.int v11)))))))) ∧ ((¬ (gI μ3 1 20) = 0) → (((x1 = (125 : Int32)) → ((vp_in (gI μ3 1 1) 50) ∧ (P (gsI (gsI (gsI μ3 1 9 (0 : Int32)) 44 ((gI μ3 1 1).toNatClampNeg) (vp_nar .char x1)) 1 1 ((gI μ3 1 1) + (1 : Int32))) (.inl (some (.int ((gI μ3 1 1) + (1 : Int32)))))))) ∧ ((¬ x1 = (125 : Int32)) → (gCl' 158 [.int x1] μ3 (fun μ12 r => (∃ v13, r = .inl (some (.int v13)) ∧ (((v13 = 0) → ((vp_in (gI μ12 1 1) 50) ∧ (P (gsI (gsI (gsI μ12 1 9 (0 : Int32)) 44 ((gI μ12 1 1).toNatClampNeg) (vp_nar .char x1)) 1 1 ((gI μ12 1 1) + (1 : Int32))) (.inl (some (.int ((gI μ12 1 1) + (1 : Int32)))))))) ∧ ((¬ v13 = 0) → (((¬ (gI μ12 1 20) = (5 : Int32)) → ((vp_in (gI μ12 1 1) 50) ∧ (P (gsI (gsI (gsI μ12 1 9 (0 : Int32)) 44 ((gI μ12 1 1).toNatClampNeg) (vp_nar .char x1)) 1 1 ((gI μ12 1 1) + (1 : Int32))) (.inl (some (.int ((gI μ12 1 1) + (1 : Int32)))))))) ∧ (((gI μ12 1 20) = (5 : Int32)) → (gCl' 161 [.ref 1, .int (2 : Int32)] μ12 (fun μ14 r => (∃ v15, r = .inl (some (.int v15)) ∧ (P μ14 (.inl (some (.int v15)))))))))))))))))))))))))) ∧ ((v2 = 0) → (gCl' 158 [.int x1] μ1 (fun μ16 r => (∃ v17, r = .inl (some (.int v17)) ∧ (((¬ v17 = 0) → (gCl' 160 [.ref 1] μ16 (fun μ18 r => (r = .inl none ∧ ((((gI μ18 1 1) = (50 : Int32)) → (gCl' 161 [.ref 1, .int (2 : Int32)] μ18 (fun μ19 r => (∃ v20, r = .inl (some (.int v20)) ∧ (P μ19 (.inl (some (.int v20)))))))) ∧ ((¬ (gI μ18 1 1) = (50 : Int32)) → (((¬ x1 = (125 : Int32)) → (((x1 = (125 : Int32)) → ((vp_in (gI μ18 1 1) 50) ∧ (P (gsI (gsI (gsI μ18 1 9 (0 : Int32)) 44 ((gI μ18 1 1).toNatClampNeg) (vp_nar .char x1)) 1 1 ((gI μ18 1 1) + (1 : Int32))) (.inl (some (.int ((gI μ18 1 1) + (1 : Int32)))))))) ∧ ((¬ x1 = (125 : Int32)) → (gCl' 158 [.int x1] μ18 (fun μ21 r => (∃ v22, r = .inl (some (.int v22)) ∧ (((v22 = 0) → ((vp_in (gI μ21 1 1) 50) ∧ (P (gsI (gsI (gsI μ21 1 9 (0 : Int32)) 44 ((gI μ21 1 1).toNatClampNeg) (vp_nar .char x1)) 1 1 ((gI μ21 1 1) + (1 : Int32))) (.inl (some (.int ((gI μ21 1 1) + (1 : Int32)))))))) ∧ ((¬ v22 = 0) → (((¬ (gI μ21 1 20) = (5 : Int32)) → ((vp_in (gI μ21 1 1) 50) ∧ (P (gsI (gsI (gsI μ21 1 9 (0 : Int32)) 44 ((gI μ21 1 1).toNatClampNeg) (vp_nar .char x1)) 1 1 ((gI μ21 1 1) + (1 : Int32))) (.inl (some (.int ((gI μ21 1 1) + (1 : Int32)))))))) ∧ (((gI μ21 1 20) = (5 : Int32)) → (gCl' 161 [.ref 1, .int (2 : Int32)] μ21 (fun μ23 r => (∃ v24, r = .inl (some (.int v24)) ∧ (P μ23 (.inl (some (.int v24))))))))))))))))) ∧ ((x1 = (125 : Int32)) → ((((gI μ18 1 20) = 0) → (gCl' 161 [.ref 1, .int (2 : Int32)] μ18 (fun μ25 r => (∃ v26, r = .inl (some (.int v26)) ∧ (P μ25 (.inl (some (.int v26)))))))) ∧ ((¬ (gI μ18 1 20) = 0) → (((x1 = (125 : Int32)) → ((vp_in (gI μ18 1 1) 50) ∧ (P (gsI (gsI (gsI μ18 1 9 (0 : Int32)) 44 ((gI μ18 1 1).toNatClampNeg) (vp_nar .char x1)) 1 1 ((gI μ18 1 1) + (1 : Int32))) (.inl (some (.int ((gI μ18 1 1) + (1 : Int32)))))))) ∧ ((¬ x1 = (125 : Int32)) → (gCl' 158 [.int x1] μ18 (fun μ27 r => (∃ v28, r = .inl (some (.int v28)) ∧ (((v28 = 0) → ((vp_in (gI μ27 1 1) 50) ∧ (P (gsI (gsI (gsI μ27 1 9 (0 : Int32)) 44 ((gI μ27 1 1).toNatClampNeg) (vp_nar .char x1)) 1 1 ((gI μ27 1 1) + (1 : Int32))) (.inl (some (.int ((gI μ27 1 1) + (1 : Int32)))))))) ∧ ((¬ v28 = 0) → (((¬ (gI μ27 1 20) = (5 : Int32)) → ((vp_in (gI μ27 1 1) 50) ∧ (P (gsI (gsI (gsI μ27 1 9 (0 : Int32)) 44 ((gI μ27 1 1).toNatClampNeg) (vp_nar .char x1)) 1 1 ((gI μ27 1 1) + (1 : Int32))) (.inl (some (.int ((gI μ27 1 1) + (1 : Int32)))))))) ∧ (((gI μ27 1 20) = (5 : Int32)) → (gCl' 161 [.ref 1, .int (2 : Int32)] μ27 (fun μ29 r => (∃ v30, r = .inl (some (.int v30)) ∧ (P μ29 (.inl (some (.int v30)))))))))))))))))))))))))) ∧ ((v17 = 0) → (gCl' 161 [.ref 1, .int (1 : Int32)] μ16 (fun μ31 r => (∃ v32, r = .inl (some (.int v32)) ∧ (P μ31 (.inl (some (.int v32))))))))))))))))) : gWp none 162 (0, [some (.ref 1), some (.int x1)], [], μ) 0 P := by
  refine gWp_sts gT_162 1 (f' := (1, [some (.ref 1), some (.int x1)], [.int x1], μ)) (cs := []) rfl trivial ?_
  refine gWp_stat gT_162 (pc := 1) (c01 := 0) (as := [.int x1]) (rest := []) rfl (Or.inl rfl) rfl rfl rfl ⟨by decide, Nat.le_of_ble_eq_true rfl, by decide, Nat.le_of_ble_eq_true rfl⟩ (gWp_imp h (fun μ1 r h => ?_))
  obtain ⟨v2, rfl, h⟩ := h
  refine Or.inl ⟨_, rfl, ?_⟩
  show gWp none 162 (4, [some (.ref 1), some (.int x1)], [.int v2], μ1) _ P
  refine gWp_if gT_162 (pc := 4) rfl ⟨fun c => ?_, fun c => ?_⟩
  · replace h := h.1 (of_decide_eq_true c)
    refine gWp_sts gT_162 1 (f' := (21, [some (.ref 1), some (.int x1)], [.ref 1], μ1)) (cs := []) rfl trivial ?_
    refine gWp_virt gT_162 (pc := 21) (q := 1) (as := [.ref 1]) (rest := []) rfl rfl rfl rfl rfl rfl ⟨by decide, Nat.le_of_ble_eq_true rfl, by decide, Nat.le_of_ble_eq_true rfl⟩ (gWp_imp h (fun μ3 r h => ?_))
    obtain ⟨rfl, h⟩ := h
    refine Or.inl ⟨_, rfl, ?_⟩
    show gWp none 162 (24, [some (.ref 1), some (.int x1)], [], μ3) _ P
    refine gWp_sts gT_162 3 (f' := (30, [some (.ref 1), some (.int x1)], [.int (50 : Int32), .int (gI μ3 1 1)], μ3)) (cs := []) rfl trivial ?_
    refine gWp_icmp gT_162 (pc := 30) rfl ⟨fun c => ?_, fun c => ?_⟩
    · replace h := h.1 (of_decide_eq_true c)
      refine gWp_sts gT_162 2 (f' := (69, [some (.ref 1), some (.int x1)], [.int (2 : Int32), .ref 1], μ3)) (cs := []) rfl trivial ?_
      refine gWp_virt gT_162 (pc := 69) (q := 1) (as := [.ref 1, .int (2 : Int32)]) (rest := []) rfl rfl rfl rfl rfl rfl ⟨by decide, Nat.le_of_ble_eq_true rfl, by decide, Nat.le_of_ble_eq_true rfl⟩ (gWp_imp h (fun μ4 r h => ?_))
      obtain ⟨v5, rfl, h⟩ := h
      refine Or.inl ⟨_, rfl, ?_⟩
      show gWp none 162 (72, [some (.ref 1), some (.int x1)], [.int v5], μ4) _ P
      exact gWp_end gT_162 rfl (gEnd_int trivial) h
    · replace h := h.2 (fun q => c (decide_eq_true q))
      refine gWp_sts gT_162 2 (f' := (36, [some (.ref 1), some (.int x1)], [.int (125 : Int32), .int x1], μ3)) (cs := []) rfl trivial ?_
      refine gWp_icmp gT_162 (pc := 36) rfl ⟨fun c => ?_, fun c => ?_⟩
      · replace h := h.1 (of_decide_eq_true c)
        refine gWp_sts gT_162 2 (f' := (49, [some (.ref 1), some (.int x1)], [.int (125 : Int32), .int x1], μ3)) (cs := []) rfl trivial ?_
        refine gWp_icmp gT_162 (pc := 49) rfl ⟨fun c => ?_, fun c => ?_⟩
        · replace h := h.1 (of_decide_eq_true c)
          obtain ⟨c1, h⟩ := h
          refine gWp_sts gT_162 17 (f' := (102, [some (.ref 1), some (.int x1)], [.int ((gI μ3 1 1) + (1 : Int32))], (gsI (gsI (gsI μ3 1 9 (0 : Int32)) 44 ((gI μ3 1 1).toNatClampNeg) (vp_nar .char x1)) 1 1 ((gI μ3 1 1) + (1 : Int32))))) (cs := [vp_in (gI μ3 1 1) 50, (Value.ref 1 : Value).category = 1]) rfl ⟨c1, rfl⟩ ?_
          exact gWp_end gT_162 rfl (gEnd_int trivial) h
        · replace h := h.2 (fun q => c (decide_eq_true q))
          refine gWp_sts gT_162 1 (f' := (53, [some (.ref 1), some (.int x1)], [.int x1], μ3)) (cs := []) rfl trivial ?_
          refine gWp_stat gT_162 (pc := 53) (c01 := 0) (as := [.int x1]) (rest := []) rfl (Or.inl rfl) rfl rfl rfl ⟨by decide, Nat.le_of_ble_eq_true rfl, by decide, Nat.le_of_ble_eq_true rfl⟩ (gWp_imp h (fun μ6 r h => ?_))
          obtain ⟨v7, rfl, h⟩ := h
          refine Or.inl ⟨_, rfl, ?_⟩
          show gWp none 162 (56, [some (.ref 1), some (.int x1)], [.int v7], μ6) _ P
          refine gWp_if gT_162 (pc := 56) rfl ⟨fun c => ?_, fun c => ?_⟩
          · replace h := h.1 (of_decide_eq_true c)
            obtain ⟨c1, h⟩ := h
            refine gWp_sts gT_162 17 (f' := (102, [some (.ref 1), some (.int x1)], [.int ((gI μ6 1 1) + (1 : Int32))], (gsI (gsI (gsI μ6 1 9 (0 : Int32)) 44 ((gI μ6 1 1).toNatClampNeg) (vp_nar .char x1)) 1 1 ((gI μ6 1 1) + (1 : Int32))))) (cs := [vp_in (gI μ6 1 1) 50, (Value.ref 1 : Value).category = 1]) rfl ⟨c1, rfl⟩ ?_
            exact gWp_end gT_162 rfl (gEnd_int trivial) h
          · replace h := h.2 (fun q => c (decide_eq_true q))
            refine gWp_sts gT_162 3 (f' := (64, [some (.ref 1), some (.int x1)], [.int (5 : Int32), .int (gI μ6 1 20)], μ6)) (cs := []) rfl trivial ?_
            refine gWp_icmp gT_162 (pc := 64) rfl ⟨fun c => ?_, fun c => ?_⟩
            · replace h := h.1 (of_decide_eq_true c)
              obtain ⟨c1, h⟩ := h
              refine gWp_sts gT_162 17 (f' := (102, [some (.ref 1), some (.int x1)], [.int ((gI μ6 1 1) + (1 : Int32))], (gsI (gsI (gsI μ6 1 9 (0 : Int32)) 44 ((gI μ6 1 1).toNatClampNeg) (vp_nar .char x1)) 1 1 ((gI μ6 1 1) + (1 : Int32))))) (cs := [vp_in (gI μ6 1 1) 50, (Value.ref 1 : Value).category = 1]) rfl ⟨c1, rfl⟩ ?_
              exact gWp_end gT_162 rfl (gEnd_int trivial) h
            · replace h := h.2 (Classical.not_not.mp (fun q => c (decide_eq_true q)))
              refine gWp_sts gT_162 2 (f' := (69, [some (.ref 1), some (.int x1)], [.int (2 : Int32), .ref 1], μ6)) (cs := []) rfl trivial ?_
              refine gWp_virt gT_162 (pc := 69) (q := 1) (as := [.ref 1, .int (2 : Int32)]) (rest := []) rfl rfl rfl rfl rfl rfl ⟨by decide, Nat.le_of_ble_eq_true rfl, by decide, Nat.le_of_ble_eq_true rfl⟩ (gWp_imp h (fun μ8 r h => ?_))
              obtain ⟨v9, rfl, h⟩ := h
              refine Or.inl ⟨_, rfl, ?_⟩
              show gWp none 162 (72, [some (.ref 1), some (.int x1)], [.int v9], μ8) _ P
              exact gWp_end gT_162 rfl (gEnd_int trivial) h
      · replace h := h.2 (Classical.not_not.mp (fun q => c (decide_eq_true q)))
        refine gWp_sts gT_162 2 (f' := (43, [some (.ref 1), some (.int x1)], [.int (gI μ3 1 20)], μ3)) (cs := []) rfl trivial ?_
        refine gWp_if gT_162 (pc := 43) rfl ⟨fun c => ?_, fun c => ?_⟩
        · replace h := h.1 (of_decide_eq_true c)
          refine gWp_sts gT_162 2 (f' := (69, [some (.ref 1), some (.int x1)], [.int (2 : Int32), .ref 1], μ3)) (cs := []) rfl trivial ?_
          refine gWp_virt gT_162 (pc := 69) (q := 1) (as := [.ref 1, .int (2 : Int32)]) (rest := []) rfl rfl rfl rfl rfl rfl ⟨by decide, Nat.le_of_ble_eq_true rfl, by decide, Nat.le_of_ble_eq_true rfl⟩ (gWp_imp h (fun μ10 r h => ?_))
          obtain ⟨v11, rfl, h⟩ := h
          refine Or.inl ⟨_, rfl, ?_⟩
          show gWp none 162 (72, [some (.ref 1), some (.int x1)], [.int v11], μ10) _ P
          exact gWp_end gT_162 rfl (gEnd_int trivial) h
        · replace h := h.2 (fun q => c (decide_eq_true q))
          refine gWp_sts gT_162 2 (f' := (49, [some (.ref 1), some (.int x1)], [.int (125 : Int32), .int x1], μ3)) (cs := []) rfl trivial ?_
          refine gWp_icmp gT_162 (pc := 49) rfl ⟨fun c => ?_, fun c => ?_⟩
          · replace h := h.1 (of_decide_eq_true c)
            obtain ⟨c1, h⟩ := h
            refine gWp_sts gT_162 17 (f' := (102, [some (.ref 1), some (.int x1)], [.int ((gI μ3 1 1) + (1 : Int32))], (gsI (gsI (gsI μ3 1 9 (0 : Int32)) 44 ((gI μ3 1 1).toNatClampNeg) (vp_nar .char x1)) 1 1 ((gI μ3 1 1) + (1 : Int32))))) (cs := [vp_in (gI μ3 1 1) 50, (Value.ref 1 : Value).category = 1]) rfl ⟨c1, rfl⟩ ?_
            exact gWp_end gT_162 rfl (gEnd_int trivial) h
          · replace h := h.2 (fun q => c (decide_eq_true q))
            refine gWp_sts gT_162 1 (f' := (53, [some (.ref 1), some (.int x1)], [.int x1], μ3)) (cs := []) rfl trivial ?_
            refine gWp_stat gT_162 (pc := 53) (c01 := 0) (as := [.int x1]) (rest := []) rfl (Or.inl rfl) rfl rfl rfl ⟨by decide, Nat.le_of_ble_eq_true rfl, by decide, Nat.le_of_ble_eq_true rfl⟩ (gWp_imp h (fun μ12 r h => ?_))
            obtain ⟨v13, rfl, h⟩ := h
            refine Or.inl ⟨_, rfl, ?_⟩
            show gWp none 162 (56, [some (.ref 1), some (.int x1)], [.int v13], μ12) _ P
            refine gWp_if gT_162 (pc := 56) rfl ⟨fun c => ?_, fun c => ?_⟩
            · replace h := h.1 (of_decide_eq_true c)
              obtain ⟨c1, h⟩ := h
              refine gWp_sts gT_162 17 (f' := (102, [some (.ref 1), some (.int x1)], [.int ((gI μ12 1 1) + (1 : Int32))], (gsI (gsI (gsI μ12 1 9 (0 : Int32)) 44 ((gI μ12 1 1).toNatClampNeg) (vp_nar .char x1)) 1 1 ((gI μ12 1 1) + (1 : Int32))))) (cs := [vp_in (gI μ12 1 1) 50, (Value.ref 1 : Value).category = 1]) rfl ⟨c1, rfl⟩ ?_
              exact gWp_end gT_162 rfl (gEnd_int trivial) h
            · replace h := h.2 (fun q => c (decide_eq_true q))
              refine gWp_sts gT_162 3 (f' := (64, [some (.ref 1), some (.int x1)], [.int (5 : Int32), .int (gI μ12 1 20)], μ12)) (cs := []) rfl trivial ?_
              refine gWp_icmp gT_162 (pc := 64) rfl ⟨fun c => ?_, fun c => ?_⟩
              · replace h := h.1 (of_decide_eq_true c)
                obtain ⟨c1, h⟩ := h
                refine gWp_sts gT_162 17 (f' := (102, [some (.ref 1), some (.int x1)], [.int ((gI μ12 1 1) + (1 : Int32))], (gsI (gsI (gsI μ12 1 9 (0 : Int32)) 44 ((gI μ12 1 1).toNatClampNeg) (vp_nar .char x1)) 1 1 ((gI μ12 1 1) + (1 : Int32))))) (cs := [vp_in (gI μ12 1 1) 50, (Value.ref 1 : Value).category = 1]) rfl ⟨c1, rfl⟩ ?_
                exact gWp_end gT_162 rfl (gEnd_int trivial) h
              · replace h := h.2 (Classical.not_not.mp (fun q => c (decide_eq_true q)))
                refine gWp_sts gT_162 2 (f' := (69, [some (.ref 1), some (.int x1)], [.int (2 : Int32), .ref 1], μ12)) (cs := []) rfl trivial ?_
                refine gWp_virt gT_162 (pc := 69) (q := 1) (as := [.ref 1, .int (2 : Int32)]) (rest := []) rfl rfl rfl rfl rfl rfl ⟨by decide, Nat.le_of_ble_eq_true rfl, by decide, Nat.le_of_ble_eq_true rfl⟩ (gWp_imp h (fun μ14 r h => ?_))
                obtain ⟨v15, rfl, h⟩ := h
                refine Or.inl ⟨_, rfl, ?_⟩
                show gWp none 162 (72, [some (.ref 1), some (.int x1)], [.int v15], μ14) _ P
                exact gWp_end gT_162 rfl (gEnd_int trivial) h
  · replace h := h.2 (Classical.not_not.mp (fun q => c (decide_eq_true q)))
    refine gWp_sts gT_162 1 (f' := (8, [some (.ref 1), some (.int x1)], [.int x1], μ1)) (cs := []) rfl trivial ?_
    refine gWp_stat gT_162 (pc := 8) (c01 := 0) (as := [.int x1]) (rest := []) rfl (Or.inl rfl) rfl rfl rfl ⟨by decide, Nat.le_of_ble_eq_true rfl, by decide, Nat.le_of_ble_eq_true rfl⟩ (gWp_imp h (fun μ16 r h => ?_))
    obtain ⟨v17, rfl, h⟩ := h
    refine Or.inl ⟨_, rfl, ?_⟩
    show gWp none 162 (11, [some (.ref 1), some (.int x1)], [.int v17], μ16) _ P
    refine gWp_if gT_162 (pc := 11) rfl ⟨fun c => ?_, fun c => ?_⟩
    · replace h := h.1 (of_decide_eq_true c)
      refine gWp_sts gT_162 1 (f' := (21, [some (.ref 1), some (.int x1)], [.ref 1], μ16)) (cs := []) rfl trivial ?_
      refine gWp_virt gT_162 (pc := 21) (q := 1) (as := [.ref 1]) (rest := []) rfl rfl rfl rfl rfl rfl ⟨by decide, Nat.le_of_ble_eq_true rfl, by decide, Nat.le_of_ble_eq_true rfl⟩ (gWp_imp h (fun μ18 r h => ?_))
      obtain ⟨rfl, h⟩ := h
      refine Or.inl ⟨_, rfl, ?_⟩
      show gWp none 162 (24, [some (.ref 1), some (.int x1)], [], μ18) _ P
      refine gWp_sts gT_162 3 (f' := (30, [some (.ref 1), some (.int x1)], [.int (50 : Int32), .int (gI μ18 1 1)], μ18)) (cs := []) rfl trivial ?_
      refine gWp_icmp gT_162 (pc := 30) rfl ⟨fun c => ?_, fun c => ?_⟩
      · replace h := h.1 (of_decide_eq_true c)
        refine gWp_sts gT_162 2 (f' := (69, [some (.ref 1), some (.int x1)], [.int (2 : Int32), .ref 1], μ18)) (cs := []) rfl trivial ?_
        refine gWp_virt gT_162 (pc := 69) (q := 1) (as := [.ref 1, .int (2 : Int32)]) (rest := []) rfl rfl rfl rfl rfl rfl ⟨by decide, Nat.le_of_ble_eq_true rfl, by decide, Nat.le_of_ble_eq_true rfl⟩ (gWp_imp h (fun μ19 r h => ?_))
        obtain ⟨v20, rfl, h⟩ := h
        refine Or.inl ⟨_, rfl, ?_⟩
        show gWp none 162 (72, [some (.ref 1), some (.int x1)], [.int v20], μ19) _ P
        exact gWp_end gT_162 rfl (gEnd_int trivial) h
      · replace h := h.2 (fun q => c (decide_eq_true q))
        refine gWp_sts gT_162 2 (f' := (36, [some (.ref 1), some (.int x1)], [.int (125 : Int32), .int x1], μ18)) (cs := []) rfl trivial ?_
        refine gWp_icmp gT_162 (pc := 36) rfl ⟨fun c => ?_, fun c => ?_⟩
        · replace h := h.1 (of_decide_eq_true c)
          refine gWp_sts gT_162 2 (f' := (49, [some (.ref 1), some (.int x1)], [.int (125 : Int32), .int x1], μ18)) (cs := []) rfl trivial ?_
          refine gWp_icmp gT_162 (pc := 49) rfl ⟨fun c => ?_, fun c => ?_⟩
          · replace h := h.1 (of_decide_eq_true c)
            obtain ⟨c1, h⟩ := h
            refine gWp_sts gT_162 17 (f' := (102, [some (.ref 1), some (.int x1)], [.int ((gI μ18 1 1) + (1 : Int32))], (gsI (gsI (gsI μ18 1 9 (0 : Int32)) 44 ((gI μ18 1 1).toNatClampNeg) (vp_nar .char x1)) 1 1 ((gI μ18 1 1) + (1 : Int32))))) (cs := [vp_in (gI μ18 1 1) 50, (Value.ref 1 : Value).category = 1]) rfl ⟨c1, rfl⟩ ?_
            exact gWp_end gT_162 rfl (gEnd_int trivial) h
          · replace h := h.2 (fun q => c (decide_eq_true q))
            refine gWp_sts gT_162 1 (f' := (53, [some (.ref 1), some (.int x1)], [.int x1], μ18)) (cs := []) rfl trivial ?_
            refine gWp_stat gT_162 (pc := 53) (c01 := 0) (as := [.int x1]) (rest := []) rfl (Or.inl rfl) rfl rfl rfl ⟨by decide, Nat.le_of_ble_eq_true rfl, by decide, Nat.le_of_ble_eq_true rfl⟩ (gWp_imp h (fun μ21 r h => ?_))
            obtain ⟨v22, rfl, h⟩ := h
            refine Or.inl ⟨_, rfl, ?_⟩
            show gWp none 162 (56, [some (.ref 1), some (.int x1)], [.int v22], μ21) _ P
            refine gWp_if gT_162 (pc := 56) rfl ⟨fun c => ?_, fun c => ?_⟩
            · replace h := h.1 (of_decide_eq_true c)
              obtain ⟨c1, h⟩ := h
              refine gWp_sts gT_162 17 (f' := (102, [some (.ref 1), some (.int x1)], [.int ((gI μ21 1 1) + (1 : Int32))], (gsI (gsI (gsI μ21 1 9 (0 : Int32)) 44 ((gI μ21 1 1).toNatClampNeg) (vp_nar .char x1)) 1 1 ((gI μ21 1 1) + (1 : Int32))))) (cs := [vp_in (gI μ21 1 1) 50, (Value.ref 1 : Value).category = 1]) rfl ⟨c1, rfl⟩ ?_
              exact gWp_end gT_162 rfl (gEnd_int trivial) h
            · replace h := h.2 (fun q => c (decide_eq_true q))
              refine gWp_sts gT_162 3 (f' := (64, [some (.ref 1), some (.int x1)], [.int (5 : Int32), .int (gI μ21 1 20)], μ21)) (cs := []) rfl trivial ?_
              refine gWp_icmp gT_162 (pc := 64) rfl ⟨fun c => ?_, fun c => ?_⟩
              · replace h := h.1 (of_decide_eq_true c)
                obtain ⟨c1, h⟩ := h
                refine gWp_sts gT_162 17 (f' := (102, [some (.ref 1), some (.int x1)], [.int ((gI μ21 1 1) + (1 : Int32))], (gsI (gsI (gsI μ21 1 9 (0 : Int32)) 44 ((gI μ21 1 1).toNatClampNeg) (vp_nar .char x1)) 1 1 ((gI μ21 1 1) + (1 : Int32))))) (cs := [vp_in (gI μ21 1 1) 50, (Value.ref 1 : Value).category = 1]) rfl ⟨c1, rfl⟩ ?_
                exact gWp_end gT_162 rfl (gEnd_int trivial) h
              · replace h := h.2 (Classical.not_not.mp (fun q => c (decide_eq_true q)))
                refine gWp_sts gT_162 2 (f' := (69, [some (.ref 1), some (.int x1)], [.int (2 : Int32), .ref 1], μ21)) (cs := []) rfl trivial ?_
                refine gWp_virt gT_162 (pc := 69) (q := 1) (as := [.ref 1, .int (2 : Int32)]) (rest := []) rfl rfl rfl rfl rfl rfl ⟨by decide, Nat.le_of_ble_eq_true rfl, by decide, Nat.le_of_ble_eq_true rfl⟩ (gWp_imp h (fun μ23 r h => ?_))
                obtain ⟨v24, rfl, h⟩ := h
                refine Or.inl ⟨_, rfl, ?_⟩
                show gWp none 162 (72, [some (.ref 1), some (.int x1)], [.int v24], μ23) _ P
                exact gWp_end gT_162 rfl (gEnd_int trivial) h
        · replace h := h.2 (Classical.not_not.mp (fun q => c (decide_eq_true q)))
          refine gWp_sts gT_162 2 (f' := (43, [some (.ref 1), some (.int x1)], [.int (gI μ18 1 20)], μ18)) (cs := []) rfl trivial ?_
          refine gWp_if gT_162 (pc := 43) rfl ⟨fun c => ?_, fun c => ?_⟩
          · replace h := h.1 (of_decide_eq_true c)
            refine gWp_sts gT_162 2 (f' := (69, [some (.ref 1), some (.int x1)], [.int (2 : Int32), .ref 1], μ18)) (cs := []) rfl trivial ?_
            refine gWp_virt gT_162 (pc := 69) (q := 1) (as := [.ref 1, .int (2 : Int32)]) (rest := []) rfl rfl rfl rfl rfl rfl ⟨by decide, Nat.le_of_ble_eq_true rfl, by decide, Nat.le_of_ble_eq_true rfl⟩ (gWp_imp h (fun μ25 r h => ?_))
            obtain ⟨v26, rfl, h⟩ := h
            refine Or.inl ⟨_, rfl, ?_⟩
            show gWp none 162 (72, [some (.ref 1), some (.int x1)], [.int v26], μ25) _ P
            exact gWp_end gT_162 rfl (gEnd_int trivial) h
          · replace h := h.2 (fun q => c (decide_eq_true q))
            refine gWp_sts gT_162 2 (f' := (49, [some (.ref 1), some (.int x1)], [.int (125 : Int32), .int x1], μ18)) (cs := []) rfl trivial ?_
            refine gWp_icmp gT_162 (pc := 49) rfl ⟨fun c => ?_, fun c => ?_⟩
            · replace h := h.1 (of_decide_eq_true c)
              obtain ⟨c1, h⟩ := h
              refine gWp_sts gT_162 17 (f' := (102, [some (.ref 1), some (.int x1)], [.int ((gI μ18 1 1) + (1 : Int32))], (gsI (gsI (gsI μ18 1 9 (0 : Int32)) 44 ((gI μ18 1 1).toNatClampNeg) (vp_nar .char x1)) 1 1 ((gI μ18 1 1) + (1 : Int32))))) (cs := [vp_in (gI μ18 1 1) 50, (Value.ref 1 : Value).category = 1]) rfl ⟨c1, rfl⟩ ?_
              exact gWp_end gT_162 rfl (gEnd_int trivial) h
            · replace h := h.2 (fun q => c (decide_eq_true q))
              refine gWp_sts gT_162 1 (f' := (53, [some (.ref 1), some (.int x1)], [.int x1], μ18)) (cs := []) rfl trivial ?_
              refine gWp_stat gT_162 (pc := 53) (c01 := 0) (as := [.int x1]) (rest := []) rfl (Or.inl rfl) rfl rfl rfl ⟨by decide, Nat.le_of_ble_eq_true rfl, by decide, Nat.le_of_ble_eq_true rfl⟩ (gWp_imp h (fun μ27 r h => ?_))
              obtain ⟨v28, rfl, h⟩ := h
              refine Or.inl ⟨_, rfl, ?_⟩
              show gWp none 162 (56, [some (.ref 1), some (.int x1)], [.int v28], μ27) _ P
              refine gWp_if gT_162 (pc := 56) rfl ⟨fun c => ?_, fun c => ?_⟩
              · replace h := h.1 (of_decide_eq_true c)
                obtain ⟨c1, h⟩ := h
                refine gWp_sts gT_162 17 (f' := (102, [some (.ref 1), some (.int x1)], [.int ((gI μ27 1 1) + (1 : Int32))], (gsI (gsI (gsI μ27 1 9 (0 : Int32)) 44 ((gI μ27 1 1).toNatClampNeg) (vp_nar .char x1)) 1 1 ((gI μ27 1 1) + (1 : Int32))))) (cs := [vp_in (gI μ27 1 1) 50, (Value.ref 1 : Value).category = 1]) rfl ⟨c1, rfl⟩ ?_
                exact gWp_end gT_162 rfl (gEnd_int trivial) h
              · replace h := h.2 (fun q => c (decide_eq_true q))
                refine gWp_sts gT_162 3 (f' := (64, [some (.ref 1), some (.int x1)], [.int (5 : Int32), .int (gI μ27 1 20)], μ27)) (cs := []) rfl trivial ?_
                refine gWp_icmp gT_162 (pc := 64) rfl ⟨fun c => ?_, fun c => ?_⟩
                · replace h := h.1 (of_decide_eq_true c)
                  obtain ⟨c1, h⟩ := h
                  refine gWp_sts gT_162 17 (f' := (102, [some (.ref 1), some (.int x1)], [.int ((gI μ27 1 1) + (1 : Int32))], (gsI (gsI (gsI μ27 1 9 (0 : Int32)) 44 ((gI μ27 1 1).toNatClampNeg) (vp_nar .char x1)) 1 1 ((gI μ27 1 1) + (1 : Int32))))) (cs := [vp_in (gI μ27 1 1) 50, (Value.ref 1 : Value).category = 1]) rfl ⟨c1, rfl⟩ ?_
                  exact gWp_end gT_162 rfl (gEnd_int trivial) h
                · replace h := h.2 (Classical.not_not.mp (fun q => c (decide_eq_true q)))
                  refine gWp_sts gT_162 2 (f' := (69, [some (.ref 1), some (.int x1)], [.int (2 : Int32), .ref 1], μ27)) (cs := []) rfl trivial ?_
                  refine gWp_virt gT_162 (pc := 69) (q := 1) (as := [.ref 1, .int (2 : Int32)]) (rest := []) rfl rfl rfl rfl rfl rfl ⟨by decide, Nat.le_of_ble_eq_true rfl, by decide, Nat.le_of_ble_eq_true rfl⟩ (gWp_imp h (fun μ29 r h => ?_))
                  obtain ⟨v30, rfl, h⟩ := h
                  refine Or.inl ⟨_, rfl, ?_⟩
                  show gWp none 162 (72, [some (.ref 1), some (.int x1)], [.int v30], μ29) _ P
                  exact gWp_end gT_162 rfl (gEnd_int trivial) h
    · replace h := h.2 (Classical.not_not.mp (fun q => c (decide_eq_true q)))
      refine gWp_sts gT_162 2 (f' := (16, [some (.ref 1), some (.int x1)], [.int (1 : Int32), .ref 1], μ16)) (cs := []) rfl trivial ?_
      refine gWp_virt gT_162 (pc := 16) (q := 1) (as := [.ref 1, .int (1 : Int32)]) (rest := []) rfl rfl rfl rfl rfl rfl ⟨by decide, Nat.le_of_ble_eq_true rfl, by decide, Nat.le_of_ble_eq_true rfl⟩ (gWp_imp h (fun μ31 r h => ?_))
      obtain ⟨v32, rfl, h⟩ := h
      refine Or.inl ⟨_, rfl, ?_⟩
      show gWp none 162 (19, [some (.ref 1), some (.int x1)], [.int v32], μ31) _ P
      exact gWp_end gT_162 rfl (gEnd_int trivial) h
/-! GlyphmillModel.removeLast -/
theorem gT_163 : gCode[163]? = some gC_163 := rfl
set_option maxRecDepth 20000 in
theorem vc_163 {μ : gMu} {P : gMu → gRes → Prop} (h : ((¬ (gI μ 1 1) = 0) → (((¬ (gI μ 1 1) = 0) → ((vp_in ((gI μ 1 1) - (1 : Int32)) 50) ∧ ((narrow .char (.int (gI μ 44 (((gI μ 1 1) - (1 : Int32)).toNatClampNeg))) = .int (gI μ 44 (((gI μ 1 1) - (1 : Int32)).toNatClampNeg))) ∧ P (gsI (gsI μ 1 9 (0 : Int32)) 1 1 ((gI μ 1 1) - (1 : Int32))) (.inl (some (.int (gI μ 44 (((gI μ 1 1) - (1 : Int32)).toNatClampNeg)))))))) ∧ (((gI μ 1 1) = 0) → ((narrow .char (.int (32 : Int32)) = .int (32 : Int32)) ∧ P (gsI μ 1 9 (0 : Int32)) (.inl (some (.int (32 : Int32)))))))) ∧ (((gI μ 1 1) = 0) → (((¬ (gI μ 1 1) = 0) → ((vp_in ((gI μ 1 1) - (1 : Int32)) 50) ∧ ((narrow .char (.int (gI μ 44 (((gI μ 1 1) - (1 : Int32)).toNatClampNeg))) = .int (gI μ 44 (((gI μ 1 1) - (1 : Int32)).toNatClampNeg))) ∧ P (gsI (gsI μ 1 9 (1 : Int32)) 1 1 ((gI μ 1 1) - (1 : Int32))) (.inl (some (.int (gI μ 44 (((gI μ 1 1) - (1 : Int32)).toNatClampNeg)))))))) ∧ (((gI μ 1 1) = 0) → ((narrow .char (.int (32 : Int32)) = .int (32 : Int32)) ∧ P (gsI μ 1 9 (1 : Int32)) (.inl (some (.int (32 : Int32))))))))) : gWp none 163 (0, [some (.ref 1)], [], μ) 0 P := by
  refine gWp_sts gT_163 3 (f' := (5, [some (.ref 1)], [.int (gI μ 1 1), .ref 1], μ)) (cs := []) rfl trivial ?_
  refine gWp_if gT_163 (pc := 5) rfl ⟨fun c => ?_, fun c => ?_⟩
  · replace h := h.1 (of_decide_eq_true c)
    refine gWp_sts gT_163 4 (f' := (20, [some (.ref 1)], [.int (gI μ 1 1)], (gsI μ 1 9 (0 : Int32)))) (cs := []) rfl trivial ?_
    refine gWp_if gT_163 (pc := 20) rfl ⟨fun c => ?_, fun c => ?_⟩
    · replace h := h.1 (of_decide_eq_true c)
      obtain ⟨c1, h⟩ := h
      refine gWp_sts gT_163 11 (f' := (45, [some (.ref 1)], [.int (gI μ 44 (((gI μ 1 1) - (1 : Int32)).toNatClampNeg))], (gsI (gsI μ 1 9 (0 : Int32)) 1 1 ((gI μ 1 1) - (1 : Int32))))) (cs := [(Value.ref 1 : Value).category = 1, vp_in ((gI μ 1 1) - (1 : Int32)) 50]) rfl ⟨rfl, c1⟩ ?_
      exact gWp_end gT_163 rfl (gEnd_int h.1) h.2
    · replace h := h.2 (Classical.not_not.mp (fun q => c (decide_eq_true q)))
      refine gWp_sts gT_163 1 (f' := (25, [some (.ref 1)], [.int (32 : Int32)], (gsI μ 1 9 (0 : Int32)))) (cs := []) rfl trivial ?_
      exact gWp_end gT_163 rfl (gEnd_int h.1) h.2
  · replace h := h.2 (Classical.not_not.mp (fun q => c (decide_eq_true q)))
    refine gWp_sts gT_163 5 (f' := (20, [some (.ref 1)], [.int (gI μ 1 1)], (gsI μ 1 9 (1 : Int32)))) (cs := []) rfl trivial ?_
    refine gWp_if gT_163 (pc := 20) rfl ⟨fun c => ?_, fun c => ?_⟩
    · replace h := h.1 (of_decide_eq_true c)
      obtain ⟨c1, h⟩ := h
      refine gWp_sts gT_163 11 (f' := (45, [some (.ref 1)], [.int (gI μ 44 (((gI μ 1 1) - (1 : Int32)).toNatClampNeg))], (gsI (gsI μ 1 9 (1 : Int32)) 1 1 ((gI μ 1 1) - (1 : Int32))))) (cs := [(Value.ref 1 : Value).category = 1, vp_in ((gI μ 1 1) - (1 : Int32)) 50]) rfl ⟨rfl, c1⟩ ?_
      exact gWp_end gT_163 rfl (gEnd_int h.1) h.2
    · replace h := h.2 (Classical.not_not.mp (fun q => c (decide_eq_true q)))
      refine gWp_sts gT_163 1 (f' := (25, [some (.ref 1)], [.int (32 : Int32)], (gsI μ 1 9 (1 : Int32)))) (cs := []) rfl trivial ?_
      exact gWp_end gT_163 rfl (gEnd_int h.1) h.2
/-! GlyphmillModel.setWidth -/
theorem gT_164 : gCode[164]? = some gC_164 := rfl
set_option maxRecDepth 20000 in
theorem vc_164 {μ : gMu} {x1 : Int32} {x2 : Int32} {P : gMu → gRes → Prop} (h : gCl' 157 [.int x1] μ (fun μ1 r => (∃ v2, r = .inl (some (.int v2)) ∧ (((v2 = 0) → ((((1 : Int32) ≤ 0) → ((vp_in x1 128) ∧ ((vp_in x1 128) ∧ (P (gsI (gsI μ1 1 9 (1 : Int32)) 45 x1.toNatClampNeg x2) (.inl (some (.int (gI μ1 45 x1.toNatClampNeg)))))))) ∧ ((¬ (1 : Int32) ≤ 0) → (P (gsI μ1 1 9 (1 : Int32)) (.inl (some (.int (0 : Int32)))))))) ∧ ((¬ v2 = 0) → (gCl' 153 [.int x2, .int (1 : Int32), .int (20 : Int32)] μ1 (fun μ3 r => (∃ v4, r = .inl (some (.int v4)) ∧ (((v4 = 0) → ((((1 : Int32) ≤ 0) → ((vp_in x1 128) ∧ ((vp_in x1 128) ∧ (P (gsI (gsI μ3 1 9 (1 : Int32)) 45 x1.toNatClampNeg x2) (.inl (some (.int (gI μ3 45 x1.toNatClampNeg)))))))) ∧ ((¬ (1 : Int32) ≤ 0) → (P (gsI μ3 1 9 (1 : Int32)) (.inl (some (.int (0 : Int32)))))))) ∧ ((¬ v4 = 0) → ((((0 : Int32) ≤ 0) → ((vp_in x1 128) ∧ ((vp_in x1 128) ∧ (P (gsI (gsI μ3 1 9 (0 : Int32)) 45 x1.toNatClampNeg x2) (.inl (some (.int (gI μ3 45 x1.toNatClampNeg)))))))) ∧ ((¬ (0 : Int32) ≤ 0) → (P (gsI μ3 1 9 (0 : Int32)) (.inl (some (.int (0 : Int32))))))))))))))))) : gWp none 164 (0, [some (.ref 1), some (.int x1), some (.int x2), none], [], μ) 0 P := by
  refine gWp_sts gT_164 2 (f' := (2, [some (.ref 1), some (.int x1), some (.int x2), none], [.int x1, .ref 1], μ)) (cs := []) rfl trivial ?_
  refine gWp_stat gT_164 (pc := 2) (c01 := 0) (as := [.int x1]) (rest := [.ref 1]) rfl (Or.inl rfl) rfl rfl rfl ⟨by decide, Nat.le_of_ble_eq_true rfl, by decide, Nat.le_of_ble_eq_true rfl⟩ (gWp_imp h (fun μ1 r h => ?_))
  obtain ⟨v2, rfl, h⟩ := h
  refine Or.inl ⟨_, rfl, ?_⟩
  show gWp none 164 (5, [some (.ref 1), some (.int x1), some (.int x2), none], [.int v2, .ref 1], μ1) _ P
  refine gWp_if gT_164 (pc := 5) rfl ⟨fun c => ?_, fun c => ?_⟩
  · replace h := h.1 (of_decide_eq_true c)
    refine gWp_sts gT_164 4 (f' := (30, [some (.ref 1), some (.int x1), some (.int x2), none], [.int (1 : Int32)], (gsI μ1 1 9 (1 : Int32)))) (cs := []) rfl trivial ?_
    refine gWp_if gT_164 (pc := 30) rfl ⟨fun c => ?_, fun c => ?_⟩
    · replace h := h.1 (of_decide_eq_true c)
      obtain ⟨c1, c2, h⟩ := h
      refine gWp_sts gT_164 11 (f' := (50, [some (.ref 1), some (.int x1), some (.int x2), some (.int (gI μ1 45 x1.toNatClampNeg))], [.int (gI μ1 45 x1.toNatClampNeg)], (gsI (gsI μ1 1 9 (1 : Int32)) 45 x1.toNatClampNeg x2))) (cs := [vp_in x1 128, vp_in x1 128]) rfl ⟨c1, c2⟩ ?_
      exact gWp_end gT_164 rfl (gEnd_int trivial) h
    · replace h := h.2 (fun q => c (decide_eq_true q))
      refine gWp_sts gT_164 1 (f' := (34, [some (.ref 1), some (.int x1), some (.int x2), none], [.int (0 : Int32)], (gsI μ1 1 9 (1 : Int32)))) (cs := []) rfl trivial ?_
      exact gWp_end gT_164 rfl (gEnd_int trivial) h
  · replace h := h.2 (fun q => c (decide_eq_true q))
    refine gWp_sts gT_164 3 (f' := (12, [some (.ref 1), some (.int x1), some (.int x2), none], [.int (20 : Int32), .int (1 : Int32), .int x2, .ref 1], μ1)) (cs := []) rfl trivial ?_
    refine gWp_stat gT_164 (pc := 12) (c01 := 0) (as := [.int x2, .int (1 : Int32), .int (20 : Int32)]) (rest := [.ref 1]) rfl (Or.inl rfl) rfl rfl rfl ⟨by decide, Nat.le_of_ble_eq_true rfl, by decide, Nat.le_of_ble_eq_true rfl⟩ (gWp_imp h (fun μ3 r h => ?_))
    obtain ⟨v4, rfl, h⟩ := h
    refine Or.inl ⟨_, rfl, ?_⟩
    show gWp none 164 (15, [some (.ref 1), some (.int x1), some (.int x2), none], [.int v4, .ref 1], μ3) _ P
    refine gWp_if gT_164 (pc := 15) rfl ⟨fun c => ?_, fun c => ?_⟩
    · replace h := h.1 (of_decide_eq_true c)
      refine gWp_sts gT_164 4 (f' := (30, [some (.ref 1), some (.int x1), some (.int x2), none], [.int (1 : Int32)], (gsI μ3 1 9 (1 : Int32)))) (cs := []) rfl trivial ?_
      refine gWp_if gT_164 (pc := 30) rfl ⟨fun c => ?_, fun c => ?_⟩
      · replace h := h.1 (of_decide_eq_true c)
        obtain ⟨c1, c2, h⟩ := h
        refine gWp_sts gT_164 11 (f' := (50, [some (.ref 1), some (.int x1), some (.int x2), some (.int (gI μ3 45 x1.toNatClampNeg))], [.int (gI μ3 45 x1.toNatClampNeg)], (gsI (gsI μ3 1 9 (1 : Int32)) 45 x1.toNatClampNeg x2))) (cs := [vp_in x1 128, vp_in x1 128]) rfl ⟨c1, c2⟩ ?_
        exact gWp_end gT_164 rfl (gEnd_int trivial) h
      · replace h := h.2 (fun q => c (decide_eq_true q))
        refine gWp_sts gT_164 1 (f' := (34, [some (.ref 1), some (.int x1), some (.int x2), none], [.int (0 : Int32)], (gsI μ3 1 9 (1 : Int32)))) (cs := []) rfl trivial ?_
        exact gWp_end gT_164 rfl (gEnd_int trivial) h
    · replace h := h.2 (fun q => c (decide_eq_true q))
      refine gWp_sts gT_164 5 (f' := (30, [some (.ref 1), some (.int x1), some (.int x2), none], [.int (0 : Int32)], (gsI μ3 1 9 (0 : Int32)))) (cs := []) rfl trivial ?_
      refine gWp_if gT_164 (pc := 30) rfl ⟨fun c => ?_, fun c => ?_⟩
      · replace h := h.1 (of_decide_eq_true c)
        obtain ⟨c1, c2, h⟩ := h
        refine gWp_sts gT_164 11 (f' := (50, [some (.ref 1), some (.int x1), some (.int x2), some (.int (gI μ3 45 x1.toNatClampNeg))], [.int (gI μ3 45 x1.toNatClampNeg)], (gsI (gsI μ3 1 9 (0 : Int32)) 45 x1.toNatClampNeg x2))) (cs := [vp_in x1 128, vp_in x1 128]) rfl ⟨c1, c2⟩ ?_
        exact gWp_end gT_164 rfl (gEnd_int trivial) h
      · replace h := h.2 (fun q => c (decide_eq_true q))
        refine gWp_sts gT_164 1 (f' := (34, [some (.ref 1), some (.int x1), some (.int x2), none], [.int (0 : Int32)], (gsI μ3 1 9 (0 : Int32)))) (cs := []) rfl trivial ?_
        exact gWp_end gT_164 rfl (gEnd_int trivial) h
/-! GlyphmillModel.setLine -/
theorem gT_165 : gCode[165]? = some gC_165 := rfl
set_option maxRecDepth 20000 in
theorem vc_165 {μ : gMu} {x1 : Int32} {P : gMu → gRes → Prop} (h : gCl' 153 [.int x1, .int (10 : Int32), .int (200 : Int32)] μ (fun μ1 r => (∃ v2, r = .inl (some (.int v2)) ∧ (((v2 = 0) → ((((1 : Int32) ≤ 0) → ((((1 : Int32) ≤ 0) → (P (gsI (gsI μ1 1 9 (1 : Int32)) 1 3 x1) (.inl (some (.int (gI μ1 1 3)))))) ∧ ((¬ (1 : Int32) ≤ 0) → (P (gsI (gsI μ1 1 9 (1 : Int32)) 1 3 x1) (.inl (some (.int (0 : Int32)))))))) ∧ ((¬ (1 : Int32) ≤ 0) → ((((1 : Int32) ≤ 0) → (P (gsI (gsI μ1 1 9 (1 : Int32)) 1 3 (gI μ1 1 3)) (.inl (some (.int (gI μ1 1 3)))))) ∧ ((¬ (1 : Int32) ≤ 0) → (P (gsI (gsI μ1 1 9 (1 : Int32)) 1 3 (gI μ1 1 3)) (.inl (some (.int (0 : Int32)))))))))) ∧ ((¬ v2 = 0) → ((((0 : Int32) ≤ 0) → ((((0 : Int32) ≤ 0) → (P (gsI (gsI μ1 1 9 (0 : Int32)) 1 3 x1) (.inl (some (.int (gI μ1 1 3)))))) ∧ ((¬ (0 : Int32) ≤ 0) → (P (gsI (gsI μ1 1 9 (0 : Int32)) 1 3 x1) (.inl (some (.int (0 : Int32)))))))) ∧ ((¬ (0 : Int32) ≤ 0) → ((((0 : Int32) ≤ 0) → (P (gsI (gsI μ1 1 9 (0 : Int32)) 1 3 (gI μ1 1 3)) (.inl (some (.int (gI μ1 1 3)))))) ∧ ((¬ (0 : Int32) ≤ 0) → (P (gsI (gsI μ1 1 9 (0 : Int32)) 1 3 (gI μ1 1 3)) (.inl (some (.int (0 : Int32)))))))))))))) : gWp none 165 (0, [some (.ref 1), some (.int x1), none], [], μ) 0 P := by
  refine gWp_sts gT_165 4 (f' := (7, [some (.ref 1), some (.int x1), none], [.int (200 : Int32), .int (10 : Int32), .int x1, .ref 1], μ)) (cs := []) rfl trivial ?_
  refine gWp_stat gT_165 (pc := 7) (c01 := 0) (as := [.int x1, .int (10 : Int32), .int (200 : Int32)]) (rest := [.ref 1]) rfl (Or.inl rfl) rfl rfl rfl ⟨by decide, Nat.le_of_ble_eq_true rfl, by decide, Nat.le_of_ble_eq_true rfl⟩ (gWp_imp h (fun μ1 r h => ?_))
  obtain ⟨v2, rfl, h⟩ := h
  refine Or.inl ⟨_, rfl, ?_⟩
  show gWp none 165 (10, [some (.ref 1), some (.int x1), none], [.int v2, .ref 1], μ1) _ P
  refine gWp_if gT_165 (pc := 10) rfl ⟨fun c => ?_, fun c => ?_⟩
  · replace h := h.1 (of_decide_eq_true c)
    refine gWp_sts gT_165 8 (f' := (31, [some (.ref 1), some (.int x1), some (.int (gI μ1 1 3))], [.int (1 : Int32), .ref 1], (gsI μ1 1 9 (1 : Int32)))) (cs := []) rfl trivial ?_
    refine gWp_if gT_165 (pc := 31) rfl ⟨fun c => ?_, fun c => ?_⟩
    · replace h := h.1 (of_decide_eq_true c)
      refine gWp_sts gT_165 4 (f' := (46, [some (.ref 1), some (.int x1), some (.int (gI μ1 1 3))], [.int (1 : Int32)], (gsI (gsI μ1 1 9 (1 : Int32)) 1 3 x1))) (cs := []) rfl trivial ?_
      refine gWp_if gT_165 (pc := 46) rfl ⟨fun c => ?_, fun c => ?_⟩
      · replace h := h.1 (of_decide_eq_true c)
        refine gWp_sts gT_165 1 (f' := (54, [some (.ref 1), some (.int x1), some (.int (gI μ1 1 3))], [.int (gI μ1 1 3)], (gsI (gsI μ1 1 9 (1 : Int32)) 1 3 x1))) (cs := []) rfl trivial ?_
        exact gWp_end gT_165 rfl (gEnd_int trivial) h
      · replace h := h.2 (fun q => c (decide_eq_true q))
        refine gWp_sts gT_165 2 (f' := (54, [some (.ref 1), some (.int x1), some (.int (gI μ1 1 3))], [.int (0 : Int32)], (gsI (gsI μ1 1 9 (1 : Int32)) 1 3 x1))) (cs := []) rfl trivial ?_
        exact gWp_end gT_165 rfl (gEnd_int trivial) h
    · replace h := h.2 (fun q => c (decide_eq_true q))
      refine gWp_sts gT_165 5 (f' := (46, [some (.ref 1), some (.int x1), some (.int (gI μ1 1 3))], [.int (1 : Int32)], (gsI (gsI μ1 1 9 (1 : Int32)) 1 3 (gI μ1 1 3)))) (cs := []) rfl trivial ?_
      refine gWp_if gT_165 (pc := 46) rfl ⟨fun c => ?_, fun c => ?_⟩
      · replace h := h.1 (of_decide_eq_true c)
        refine gWp_sts gT_165 1 (f' := (54, [some (.ref 1), some (.int x1), some (.int (gI μ1 1 3))], [.int (gI μ1 1 3)], (gsI (gsI μ1 1 9 (1 : Int32)) 1 3 (gI μ1 1 3)))) (cs := []) rfl trivial ?_
        exact gWp_end gT_165 rfl (gEnd_int trivial) h
      · replace h := h.2 (fun q => c (decide_eq_true q))
        refine gWp_sts gT_165 2 (f' := (54, [some (.ref 1), some (.int x1), some (.int (gI μ1 1 3))], [.int (0 : Int32)], (gsI (gsI μ1 1 9 (1 : Int32)) 1 3 (gI μ1 1 3)))) (cs := []) rfl trivial ?_
        exact gWp_end gT_165 rfl (gEnd_int trivial) h
  · replace h := h.2 (fun q => c (decide_eq_true q))
    refine gWp_sts gT_165 9 (f' := (31, [some (.ref 1), some (.int x1), some (.int (gI μ1 1 3))], [.int (0 : Int32), .ref 1], (gsI μ1 1 9 (0 : Int32)))) (cs := []) rfl trivial ?_
    refine gWp_if gT_165 (pc := 31) rfl ⟨fun c => ?_, fun c => ?_⟩
    · replace h := h.1 (of_decide_eq_true c)
      refine gWp_sts gT_165 4 (f' := (46, [some (.ref 1), some (.int x1), some (.int (gI μ1 1 3))], [.int (0 : Int32)], (gsI (gsI μ1 1 9 (0 : Int32)) 1 3 x1))) (cs := []) rfl trivial ?_
      refine gWp_if gT_165 (pc := 46) rfl ⟨fun c => ?_, fun c => ?_⟩
      · replace h := h.1 (of_decide_eq_true c)
        refine gWp_sts gT_165 1 (f' := (54, [some (.ref 1), some (.int x1), some (.int (gI μ1 1 3))], [.int (gI μ1 1 3)], (gsI (gsI μ1 1 9 (0 : Int32)) 1 3 x1))) (cs := []) rfl trivial ?_
        exact gWp_end gT_165 rfl (gEnd_int trivial) h
      · replace h := h.2 (fun q => c (decide_eq_true q))
        refine gWp_sts gT_165 2 (f' := (54, [some (.ref 1), some (.int x1), some (.int (gI μ1 1 3))], [.int (0 : Int32)], (gsI (gsI μ1 1 9 (0 : Int32)) 1 3 x1))) (cs := []) rfl trivial ?_
        exact gWp_end gT_165 rfl (gEnd_int trivial) h
    · replace h := h.2 (fun q => c (decide_eq_true q))
      refine gWp_sts gT_165 5 (f' := (46, [some (.ref 1), some (.int x1), some (.int (gI μ1 1 3))], [.int (0 : Int32)], (gsI (gsI μ1 1 9 (0 : Int32)) 1 3 (gI μ1 1 3)))) (cs := []) rfl trivial ?_
      refine gWp_if gT_165 (pc := 46) rfl ⟨fun c => ?_, fun c => ?_⟩
      · replace h := h.1 (of_decide_eq_true c)
        refine gWp_sts gT_165 1 (f' := (54, [some (.ref 1), some (.int x1), some (.int (gI μ1 1 3))], [.int (gI μ1 1 3)], (gsI (gsI μ1 1 9 (0 : Int32)) 1 3 (gI μ1 1 3)))) (cs := []) rfl trivial ?_
        exact gWp_end gT_165 rfl (gEnd_int trivial) h
      · replace h := h.2 (fun q => c (decide_eq_true q))
        refine gWp_sts gT_165 2 (f' := (54, [some (.ref 1), some (.int x1), some (.int (gI μ1 1 3))], [.int (0 : Int32)], (gsI (gsI μ1 1 9 (0 : Int32)) 1 3 (gI μ1 1 3)))) (cs := []) rfl trivial ?_
        exact gWp_end gT_165 rfl (gEnd_int trivial) h
/-! GlyphmillModel.setBase -/
theorem gT_166 : gCode[166]? = some gC_166 := rfl
set_option maxRecDepth 20000 in
theorem vc_166 {μ : gMu} {x1 : Int32} {P : gMu → gRes → Prop} (h : (x1 = 0 ∨ x1 = 1) ∧ ((narrow .boolean (.int (gI μ 1 4)) = .int (gI μ 1 4)) ∧ P (gsI (gsI μ 1 9 (0 : Int32)) 1 4 x1) (.inl (some (.int (gI μ 1 4)))))) : gWp none 166 (0, [some (.ref 1), some (.int x1), none], [], μ) 0 P := by
  obtain ⟨c1, h⟩ := h
  refine gWp_sts gT_166 10 (f' := (16, [some (.ref 1), some (.int x1), some (.int (gI μ 1 4))], [.int (gI μ 1 4)], (gsI (gsI μ 1 9 (0 : Int32)) 1 4 x1))) (cs := [x1 = 0 ∨ x1 = 1]) rfl c1 ?_
  exact gWp_end gT_166 rfl (gEnd_int h.1) h.2
/-! GlyphmillModel.rule -/
theorem gT_167 : gCode[167]? = some gC_167 := rfl
set_option maxRecDepth 20000 in
theorem vc_167_2 {μ : gMu} {x1 : Int32} {x2 : Int32} {x3 : Int32} {P : gMu → gRes → Prop} (h : (((gI μ 1 8) ≤ x3) → (P μ (.inl (some (.int (-1 : Int32)))))) ∧ ((¬ (gI μ 1 8) ≤ x3) → ((vp_in x3 20) ∧ (((¬ (gI μ 46 x3.toNatClampNeg) = x1) → (gWp none 167 (2, [some (.ref 1), some (.int x1), some (.int x2), some (.int (x3 + (1 : Int32)))], [], μ) 0 P)) ∧ (((gI μ 46 x3.toNatClampNeg) = x1) → ((vp_in x3 20) ∧ (((¬ (gI μ 47 x3.toNatClampNeg) = x2) → (gWp none 167 (2, [some (.ref 1), some (.int x1), some (.int x2), some (.int (x3 + (1 : Int32)))], [], μ) 0 P)) ∧ (((gI μ 47 x3.toNatClampNeg) = x2) → (P μ (.inl (some (.int ((200 : Int32) + x3))))))))))))) : gWp none 167 (2, [some (.ref 1), some (.int x1), some (.int x2), some (.int x3)], [], μ) 0 P := by
  refine gWp_sts gT_167 3 (f' := (7, [some (.ref 1), some (.int x1), some (.int x2), some (.int x3)], [.int (gI μ 1 8), .int x3], μ)) (cs := []) rfl trivial ?_
  refine gWp_icmp gT_167 (pc := 7) rfl ⟨fun c => ?_, fun c => ?_⟩
  · replace h := h.1 (of_decide_eq_true c)
    refine gWp_sts gT_167 1 (f' := (43, [some (.ref 1), some (.int x1), some (.int x2), some (.int x3)], [.int (-1 : Int32)], μ)) (cs := []) rfl trivial ?_
    exact gWp_end gT_167 rfl (gEnd_int trivial) h
  · replace h := h.2 (fun q => c (decide_eq_true q))
    obtain ⟨c1, h⟩ := h
    refine gWp_sts gT_167 5 (f' := (17, [some (.ref 1), some (.int x1), some (.int x2), some (.int x3)], [.int x1, .int (gI μ 46 x3.toNatClampNeg)], μ)) (cs := [vp_in x3 20]) rfl c1 ?_
    refine gWp_icmp gT_167 (pc := 17) rfl ⟨fun c => ?_, fun c => ?_⟩
    · replace h := h.1 (of_decide_eq_true c)
      refine gWp_sts gT_167 2 (f' := (2, [some (.ref 1), some (.int x1), some (.int x2), some (.int (x3 + (1 : Int32)))], [], μ)) (cs := []) rfl trivial ?_
      exact h
    · replace h := h.2 (Classical.not_not.mp (fun q => c (decide_eq_true q)))
      obtain ⟨c1, h⟩ := h
      refine gWp_sts gT_167 5 (f' := (27, [some (.ref 1), some (.int x1), some (.int x2), some (.int x3)], [.int x2, .int (gI μ 47 x3.toNatClampNeg)], μ)) (cs := [vp_in x3 20]) rfl c1 ?_
      refine gWp_icmp gT_167 (pc := 27) rfl ⟨fun c => ?_, fun c => ?_⟩
      · replace h := h.1 (of_decide_eq_true c)
        refine gWp_sts gT_167 2 (f' := (2, [some (.ref 1), some (.int x1), some (.int x2), some (.int (x3 + (1 : Int32)))], [], μ)) (cs := []) rfl trivial ?_
        exact h
      · replace h := h.2 (Classical.not_not.mp (fun q => c (decide_eq_true q)))
        refine gWp_sts gT_167 3 (f' := (35, [some (.ref 1), some (.int x1), some (.int x2), some (.int x3)], [.int ((200 : Int32) + x3)], μ)) (cs := []) rfl trivial ?_
        exact gWp_end gT_167 rfl (gEnd_int trivial) h
set_option maxRecDepth 20000 in
theorem vc_167 {μ : gMu} {x1 : Int32} {x2 : Int32} {P : gMu → gRes → Prop} (h : gWp none 167 (2, [some (.ref 1), some (.int x1), some (.int x2), some (.int (0 : Int32))], [], μ) 0 P) : gWp none 167 (0, [some (.ref 1), some (.int x1), some (.int x2), none], [], μ) 0 P := by
  refine gWp_sts gT_167 2 (f' := (2, [some (.ref 1), some (.int x1), some (.int x2), some (.int (0 : Int32))], [], μ)) (cs := []) rfl trivial ?_
  exact h
/-! GlyphmillModel.addLigature -/
theorem gT_168 : gCode[168]? = some gC_168 := rfl
set_option maxRecDepth 20000 in
theorem vc_168 {μ : gMu} {x1 : Int32} {x2 : Int32} {x3 : Int32} {P : gMu → gRes → Prop} (h : gCl' 155 [.int x1] μ (fun μ1 r => (∃ v2, r = .inl (some (.int v2)) ∧ (((¬ v2 = 0) → ((((1 : Int32) = 0) → (gCl' 161 [.ref 1, .int (1 : Int32)] μ1 (fun μ3 r => (∃ v4, r = .inl (some (.int v4)) ∧ (P μ3 (.inl (some (.int v4)))))))) ∧ ((¬ (1 : Int32) = 0) → (gCl' 155 [.int x2] μ1 (fun μ5 r => (∃ v6, r = .inl (some (.int v6)) ∧ (((v6 = 0) → (gCl' 161 [.ref 1, .int (1 : Int32)] μ5 (fun μ7 r => (∃ v8, r = .inl (some (.int v8)) ∧ (P μ7 (.inl (some (.int v8)))))))) ∧ ((¬ v6 = 0) → (gCl' 153 [.int x3, .int (1 : Int32), .int (40 : Int32)] μ5 (fun μ9 r => (∃ v10, r = .inl (some (.int v10)) ∧ (((¬ v10 = 0) → (gCl' 167 [.ref 1, .int x1, .int x2] μ9 (fun μ11 r => (∃ v12, r = .inl (some (.int v12)) ∧ (((¬ v12 = (-1 : Int32)) → (gCl' 161 [.ref 1, .int (2 : Int32)] μ11 (fun μ13 r => (∃ v14, r = .inl (some (.int v14)) ∧ (P μ13 (.inl (some (.int v14)))))))) ∧ ((v12 = (-1 : Int32)) → (((¬ (gI μ11 1 8) = (20 : Int32)) → ((vp_in (gI μ11 1 8) 20) ∧ ((vp_in (gI μ11 1 8) 20) ∧ ((vp_in (gI μ11 1 8) 20) ∧ (P (gsI (gsI (gsI (gsI (gsI μ11 1 9 (0 : Int32)) 46 ((gI μ11 1 8).toNatClampNeg) x1) 47 ((gI μ11 1 8).toNatClampNeg) (vp_nar .char x2)) 48 ((gI μ11 1 8).toNatClampNeg) x3) 1 8 ((gI μ11 1 8) + (1 : Int32))) (.inl (some (.int (((200 : Int32) + ((gI μ11 1 8) + (1 : Int32))) - (1 : Int32)))))))))) ∧ (((gI μ11 1 8) = (20 : Int32)) → (gCl' 161 [.ref 1, .int (2 : Int32)] μ11 (fun μ15 r => (∃ v16, r = .inl (some (.int v16)) ∧ (P μ15 (.inl (some (.int v16))))))))))))))) ∧ ((v10 = 0) → (gCl' 161 [.ref 1, .int (1 : Int32)] μ9 (fun μ17 r => (∃ v18, r = .inl (some (.int v18)) ∧ (P μ17 (.inl (some (.int v18)))))))))))))))))))) ∧ ((v2 = 0) → (gCl' 153 [.int x1, .int (200 : Int32), .int (((200 : Int32) + (gI μ1 1 8)) - (1 : Int32))] μ1 (fun μ19 r => (∃ v20, r = .inl (some (.int v20)) ∧ (((v20 = 0) → ((((0 : Int32) = 0) → (gCl' 161 [.ref 1, .int (1 : Int32)] μ19 (fun μ21 r => (∃ v22, r = .inl (some (.int v22)) ∧ (P μ21 (.inl (some (.int v22)))))))) ∧ ((¬ (0 : Int32) = 0) → (gCl' 155 [.int x2] μ19 (fun μ23 r => (∃ v24, r = .inl (some (.int v24)) ∧ (((v24 = 0) → (gCl' 161 [.ref 1, .int (1 : Int32)] μ23 (fun μ25 r => (∃ v26, r = .inl (some (.int v26)) ∧ (P μ25 (.inl (some (.int v26)))))))) ∧ ((¬ v24 = 0) → (gCl' 153 [.int x3, .int (1 : Int32), .int (40 : Int32)] μ23 (fun μ27 r => (∃ v28, r = .inl (some (.int v28)) ∧ (((¬ v28 = 0) → (gCl' 167 [.ref 1, .int x1, .int x2] μ27 (fun μ29 r => (∃ v30, r = .inl (some (.int v30)) ∧ (((¬ v30 = (-1 : Int32)) → (gCl' 161 [.ref 1, .int (2 : Int32)] μ29 (fun μ31 r => (∃ v32, r = .inl (some (.int v32)) ∧ (P μ31 (.inl (some (.int v32)))))))) ∧ ((v30 = (-1 : Int32)) → (((¬ (gI μ29 1 8) = (20 : Int32)) → ((vp_in (gI μ29 1 8) 20) ∧ ((vp_in (gI μ29 1 8) 20) ∧ ((vp_in (gI μ29 1 8) 20) ∧ (P (gsI (gsI (gsI (gsI (gsI μ29 1 9 (0 : Int32)) 46 ((gI μ29 1 8).toNatClampNeg) x1) 47 ((gI μ29 1 8).toNatClampNeg) (vp_nar .char x2)) 48 ((gI μ29 1 8).toNatClampNeg) x3) 1 8 ((gI μ29 1 8) + (1 : Int32))) (.inl (some (.int (((200 : Int32) + ((gI μ29 1 8) + (1 : Int32))) - (1 : Int32)))))))))) ∧ (((gI μ29 1 8) = (20 : Int32)) → (gCl' 161 [.ref 1, .int (2 : Int32)] μ29 (fun μ33 r => (∃ v34, r = .inl (some (.int v34)) ∧ (P μ33 (.inl (some (.int v34))))))))))))))) ∧ ((v28 = 0) → (gCl' 161 [.ref 1, .int (1 : Int32)] μ27 (fun μ35 r => (∃ v36, r = .inl (some (.int v36)) ∧ (P μ35 (.inl (some (.int v36)))))))))))))))))))) ∧ ((¬ v20 = 0) → ((((1 : Int32) = 0) → (gCl' 161 [.ref 1, .int (1 : Int32)] μ19 (fun μ37 r => (∃ v38, r = .inl (some (.int v38)) ∧ (P μ37 (.inl (some (.int v38)))))))) ∧ ((¬ (1 : Int32) = 0) → (gCl' 155 [.int x2] μ19 (fun μ39 r => (∃ v40, r = .inl (some (.int v40)) ∧ (((v40 = 0) → (gCl' 161 [.ref 1, .int (1 : Int32)] μ39 (fun μ41 r => (∃ v42, r = .inl (some (.int v42)) ∧ (P μ41 (.inl (some (.int v42)))))))) ∧ ((¬ v40 = 0) → (gCl' 153 [.int x3, .int (1 : Int32), .int (40 : Int32)] μ39 (fun μ43 r => (∃ v44, r = .inl (some (.int v44)) ∧ (((¬ v44 = 0) → (gCl' 167 [.ref 1, .int x1, .int x2] μ43 (fun μ45 r => (∃ v46, r = .inl (some (.int v46)) ∧ (((¬ v46 = (-1 : Int32)) → (gCl' 161 [.ref 1, .int (2 : Int32)] μ45 (fun μ47 r => (∃ v48, r = .inl (some (.int v48)) ∧ (P μ47 (.inl (some (.int v48)))))))) ∧ ((v46 = (-1 : Int32)) → (((¬ (gI μ45 1 8) = (20 : Int32)) → ((vp_in (gI μ45 1 8) 20) ∧ ((vp_in (gI μ45 1 8) 20) ∧ ((vp_in (gI μ45 1 8) 20) ∧ (P (gsI (gsI (gsI (gsI (gsI μ45 1 9 (0 : Int32)) 46 ((gI μ45 1 8).toNatClampNeg) x1) 47 ((gI μ45 1 8).toNatClampNeg) (vp_nar .char x2)) 48 ((gI μ45 1 8).toNatClampNeg) x3) 1 8 ((gI μ45 1 8) + (1 : Int32))) (.inl (some (.int (((200 : Int32) + ((gI μ45 1 8) + (1 : Int32))) - (1 : Int32)))))))))) ∧ (((gI μ45 1 8) = (20 : Int32)) → (gCl' 161 [.ref 1, .int (2 : Int32)] μ45 (fun μ49 r => (∃ v50, r = .inl (some (.int v50)) ∧ (P μ49 (.inl (some (.int v50))))))))))))))) ∧ ((v44 = 0) → (gCl' 161 [.ref 1, .int (1 : Int32)] μ43 (fun μ51 r => (∃ v52, r = .inl (some (.int v52)) ∧ (P μ51 (.inl (some (.int v52))))))))))))))))))))))))))))) : gWp none 168 (0, [some (.ref 1), some (.int x1), some (.int x2), some (.int x3), none], [], μ) 0 P := by
  refine gWp_sts gT_168 1 (f' := (1, [some (.ref 1), some (.int x1), some (.int x2), some (.int x3), none], [.int x1], μ)) (cs := []) rfl trivial ?_
  refine gWp_stat gT_168 (pc := 1) (c01 := 0) (as := [.int x1]) (rest := []) rfl (Or.inl rfl) rfl rfl rfl ⟨by decide, Nat.le_of_ble_eq_true rfl, by decide, Nat.le_of_ble_eq_true rfl⟩ (gWp_imp h (fun μ1 r h => ?_))
  obtain ⟨v2, rfl, h⟩ := h
  refine Or.inl ⟨_, rfl, ?_⟩
  show gWp none 168 (4, [some (.ref 1), some (.int x1), some (.int x2), some (.int x3), none], [.int v2], μ1) _ P
  refine gWp_if gT_168 (pc := 4) rfl ⟨fun c => ?_, fun c => ?_⟩
  · replace h := h.1 (of_decide_eq_true c)
    refine gWp_sts gT_168 4 (f' := (36, [some (.ref 1), some (.int x1), some (.int x2), some (.int x3), some (.int (1 : Int32))], [.int (1 : Int32)], μ1)) (cs := []) rfl trivial ?_
    refine gWp_if gT_168 (pc := 36) rfl ⟨fun c => ?_, fun c => ?_⟩
    · replace h := h.1 (of_decide_eq_true c)
      refine gWp_sts gT_168 2 (f' := (58, [some (.ref 1), some (.int x1), some (.int x2), some (.int x3), some (.int (1 : Int32))], [.int (1 : Int32), .ref 1], μ1)) (cs := []) rfl trivial ?_
      refine gWp_virt gT_168 (pc := 58) (q := 1) (as := [.ref 1, .int (1 : Int32)]) (rest := []) rfl rfl rfl rfl rfl rfl ⟨by decide, Nat.le_of_ble_eq_true rfl, by decide, Nat.le_of_ble_eq_true rfl⟩ (gWp_imp h (fun μ3 r h => ?_))
      obtain ⟨v4, rfl, h⟩ := h
      refine Or.inl ⟨_, rfl, ?_⟩
      show gWp none 168 (61, [some (.ref 1), some (.int x1), some (.int x2), some (.int x3), some (.int (1 : Int32))], [.int v4], μ3) _ P
      exact gWp_end gT_168 rfl (gEnd_int trivial) h
    · replace h := h.2 (fun q => c (decide_eq_true q))
      refine gWp_sts gT_168 1 (f' := (40, [some (.ref 1), some (.int x1), some (.int x2), some (.int x3), some (.int (1 : Int32))], [.int x2], μ1)) (cs := []) rfl trivial ?_
      refine gWp_stat gT_168 (pc := 40) (c01 := 0) (as := [.int x2]) (rest := []) rfl (Or.inl rfl) rfl rfl rfl ⟨by decide, Nat.le_of_ble_eq_true rfl, by decide, Nat.le_of_ble_eq_true rfl⟩ (gWp_imp h (fun μ5 r h => ?_))
      obtain ⟨v6, rfl, h⟩ := h
      refine Or.inl ⟨_, rfl, ?_⟩
      show gWp none 168 (43, [some (.ref 1), some (.int x1), some (.int x2), some (.int x3), some (.int (1 : Int32))], [.int v6], μ5) _ P
      refine gWp_if gT_168 (pc := 43) rfl ⟨fun c => ?_, fun c => ?_⟩
      · replace h := h.1 (of_decide_eq_true c)
        refine gWp_sts gT_168 2 (f' := (58, [some (.ref 1), some (.int x1), some (.int x2), some (.int x3), some (.int (1 : Int32))], [.int (1 : Int32), .ref 1], μ5)) (cs := []) rfl trivial ?_
        refine gWp_virt gT_168 (pc := 58) (q := 1) (as := [.ref 1, .int (1 : Int32)]) (rest := []) rfl rfl rfl rfl rfl rfl ⟨by decide, Nat.le_of_ble_eq_true rfl, by decide, Nat.le_of_ble_eq_true rfl⟩ (gWp_imp h (fun μ7 r h => ?_))
        obtain ⟨v8, rfl, h⟩ := h
        refine Or.inl ⟨_, rfl, ?_⟩
        show gWp none 168 (61, [some (.ref 1), some (.int x1), some (.int x2), some (.int x3), some (.int (1 : Int32))], [.int v8], μ7) _ P
        exact gWp_end gT_168 rfl (gEnd_int trivial) h
      · replace h := h.2 (fun q => c (decide_eq_true q))
        refine gWp_sts gT_168 3 (f' := (50, [some (.ref 1), some (.int x1), some (.int x2), some (.int x3), some (.int (1 : Int32))], [.int (40 : Int32), .int (1 : Int32), .int x3], μ5)) (cs := []) rfl trivial ?_
        refine gWp_stat gT_168 (pc := 50) (c01 := 0) (as := [.int x3, .int (1 : Int32), .int (40 : Int32)]) (rest := []) rfl (Or.inl rfl) rfl rfl rfl ⟨by decide, Nat.le_of_ble_eq_true rfl, by decide, Nat.le_of_ble_eq_true rfl⟩ (gWp_imp h (fun μ9 r h => ?_))
        obtain ⟨v10, rfl, h⟩ := h
        refine Or.inl ⟨_, rfl, ?_⟩
        show gWp none 168 (53, [some (.ref 1), some (.int x1), some (.int x2), some (.int x3), some (.int (1 : Int32))], [.int v10], μ9) _ P
        refine gWp_if gT_168 (pc := 53) rfl ⟨fun c => ?_, fun c => ?_⟩
        · replace h := h.1 (of_decide_eq_true c)
          refine gWp_sts gT_168 3 (f' := (65, [some (.ref 1), some (.int x1), some (.int x2), some (.int x3), some (.int (1 : Int32))], [.int x2, .int x1, .ref 1], μ9)) (cs := []) rfl trivial ?_
          refine gWp_virt gT_168 (pc := 65) (q := 1) (as := [.ref 1, .int x1, .int x2]) (rest := []) rfl rfl rfl rfl rfl rfl ⟨by decide, Nat.le_of_ble_eq_true rfl, by decide, Nat.le_of_ble_eq_true rfl⟩ (gWp_imp h (fun μ11 r h => ?_))
          obtain ⟨v12, rfl, h⟩ := h
          refine Or.inl ⟨_, rfl, ?_⟩
          show gWp none 168 (68, [some (.ref 1), some (.int x1), some (.int x2), some (.int x3), some (.int (1 : Int32))], [.int v12], μ11) _ P
          refine gWp_sts gT_168 1 (f' := (69, [some (.ref 1), some (.int x1), some (.int x2), some (.int x3), some (.int (1 : Int32))], [.int (-1 : Int32), .int v12], μ11)) (cs := []) rfl trivial ?_
          refine gWp_icmp gT_168 (pc := 69) rfl ⟨fun c => ?_, fun c => ?_⟩
          · replace h := h.1 (of_decide_eq_true c)
            refine gWp_sts gT_168 2 (f' := (83, [some (.ref 1), some (.int x1), some (.int x2), some (.int x3), some (.int (1 : Int32))], [.int (2 : Int32), .ref 1], μ11)) (cs := []) rfl trivial ?_
            refine gWp_virt gT_168 (pc := 83) (q := 1) (as := [.ref 1, .int (2 : Int32)]) (rest := []) rfl rfl rfl rfl rfl rfl ⟨by decide, Nat.le_of_ble_eq_true rfl, by decide, Nat.le_of_ble_eq_true rfl⟩ (gWp_imp h (fun μ13 r h => ?_))
            obtain ⟨v14, rfl, h⟩ := h
            refine Or.inl ⟨_, rfl, ?_⟩
            show gWp none 168 (86, [some (.ref 1), some (.int x1), some (.int x2), some (.int x3), some (.int (1 : Int32))], [.int v14], μ13) _ P
            exact gWp_end gT_168 rfl (gEnd_int trivial) h
          · replace h := h.2 (Classical.not_not.mp (fun q => c (decide_eq_true q)))
            refine gWp_sts gT_168 3 (f' := (78, [some (.ref 1), some (.int x1), some (.int x2), some (.int x3), some (.int (1 : Int32))], [.int (20 : Int32), .int (gI μ11 1 8)], μ11)) (cs := []) rfl trivial ?_
            refine gWp_icmp gT_168 (pc := 78) rfl ⟨fun c => ?_, fun c => ?_⟩
            · replace h := h.1 (of_decide_eq_true c)
              obtain ⟨c1, c2, c3, h⟩ := h
              refine gWp_sts gT_168 33 (f' := (142, [some (.ref 1), some (.int x1), some (.int x2), some (.int x3), some (.int (1 : Int32))], [.int (((200 : Int32) + ((gI μ11 1 8) + (1 : Int32))) - (1 : Int32))], (gsI (gsI (gsI (gsI (gsI μ11 1 9 (0 : Int32)) 46 ((gI μ11 1 8).toNatClampNeg) x1) 47 ((gI μ11 1 8).toNatClampNeg) (vp_nar .char x2)) 48 ((gI μ11 1 8).toNatClampNeg) x3) 1 8 ((gI μ11 1 8) + (1 : Int32))))) (cs := [vp_in (gI μ11 1 8) 20, vp_in (gI μ11 1 8) 20, vp_in (gI μ11 1 8) 20, (Value.ref 1 : Value).category = 1]) rfl ⟨c1, c2, c3, rfl⟩ ?_
              exact gWp_end gT_168 rfl (gEnd_int trivial) h
            · replace h := h.2 (Classical.not_not.mp (fun q => c (decide_eq_true q)))
              refine gWp_sts gT_168 2 (f' := (83, [some (.ref 1), some (.int x1), some (.int x2), some (.int x3), some (.int (1 : Int32))], [.int (2 : Int32), .ref 1], μ11)) (cs := []) rfl trivial ?_
              refine gWp_virt gT_168 (pc := 83) (q := 1) (as := [.ref 1, .int (2 : Int32)]) (rest := []) rfl rfl rfl rfl rfl rfl ⟨by decide, Nat.le_of_ble_eq_true rfl, by decide, Nat.le_of_ble_eq_true rfl⟩ (gWp_imp h (fun μ15 r h => ?_))
              obtain ⟨v16, rfl, h⟩ := h
              refine Or.inl ⟨_, rfl, ?_⟩
              show gWp none 168 (86, [some (.ref 1), some (.int x1), some (.int x2), some (.int x3), some (.int (1 : Int32))], [.int v16], μ15) _ P
              exact gWp_end gT_168 rfl (gEnd_int trivial) h
        · replace h := h.2 (Classical.not_not.mp (fun q => c (decide_eq_true q)))
          refine gWp_sts gT_168 2 (f' := (58, [some (.ref 1), some (.int x1), some (.int x2), some (.int x3), some (.int (1 : Int32))], [.int (1 : Int32), .ref 1], μ9)) (cs := []) rfl trivial ?_
          refine gWp_virt gT_168 (pc := 58) (q := 1) (as := [.ref 1, .int (1 : Int32)]) (rest := []) rfl rfl rfl rfl rfl rfl ⟨by decide, Nat.le_of_ble_eq_true rfl, by decide, Nat.le_of_ble_eq_true rfl⟩ (gWp_imp h (fun μ17 r h => ?_))
          obtain ⟨v18, rfl, h⟩ := h
          refine Or.inl ⟨_, rfl, ?_⟩
          show gWp none 168 (61, [some (.ref 1), some (.int x1), some (.int x2), some (.int x3), some (.int (1 : Int32))], [.int v18], μ17) _ P
          exact gWp_end gT_168 rfl (gEnd_int trivial) h
  · replace h := h.2 (Classical.not_not.mp (fun q => c (decide_eq_true q)))
    refine gWp_sts gT_168 8 (f' := (21, [some (.ref 1), some (.int x1), some (.int x2), some (.int x3), none], [.int (((200 : Int32) + (gI μ1 1 8)) - (1 : Int32)), .int (200 : Int32), .int x1], μ1)) (cs := []) rfl trivial ?_
    refine gWp_stat gT_168 (pc := 21) (c01 := 0) (as := [.int x1, .int (200 : Int32), .int (((200 : Int32) + (gI μ1 1 8)) - (1 : Int32))]) (rest := []) rfl (Or.inl rfl) rfl rfl rfl ⟨by decide, Nat.le_of_ble_eq_true rfl, by decide, Nat.le_of_ble_eq_true rfl⟩ (gWp_imp h (fun μ19 r h => ?_))
    obtain ⟨v20, rfl, h⟩ := h
    refine Or.inl ⟨_, rfl, ?_⟩
    show gWp none 168 (24, [some (.ref 1), some (.int x1), some (.int x2), some (.int x3), none], [.int v20], μ19) _ P
    refine gWp_if gT_168 (pc := 24) rfl ⟨fun c => ?_, fun c => ?_⟩
    · replace h := h.1 (of_decide_eq_true c)
      refine gWp_sts gT_168 3 (f' := (36, [some (.ref 1), some (.int x1), some (.int x2), some (.int x3), some (.int (0 : Int32))], [.int (0 : Int32)], μ19)) (cs := []) rfl trivial ?_
      refine gWp_if gT_168 (pc := 36) rfl ⟨fun c => ?_, fun c => ?_⟩
      · replace h := h.1 (of_decide_eq_true c)
        refine gWp_sts gT_168 2 (f' := (58, [some (.ref 1), some (.int x1), some (.int x2), some (.int x3), some (.int (0 : Int32))], [.int (1 : Int32), .ref 1], μ19)) (cs := []) rfl trivial ?_
        refine gWp_virt gT_168 (pc := 58) (q := 1) (as := [.ref 1, .int (1 : Int32)]) (rest := []) rfl rfl rfl rfl rfl rfl ⟨by decide, Nat.le_of_ble_eq_true rfl, by decide, Nat.le_of_ble_eq_true rfl⟩ (gWp_imp h (fun μ21 r h => ?_))
        obtain ⟨v22, rfl, h⟩ := h
        refine Or.inl ⟨_, rfl, ?_⟩
        show gWp none 168 (61, [some (.ref 1), some (.int x1), some (.int x2), some (.int x3), some (.int (0 : Int32))], [.int v22], μ21) _ P
        exact gWp_end gT_168 rfl (gEnd_int trivial) h
      · replace h := h.2 (fun q => c (decide_eq_true q))
        refine gWp_sts gT_168 1 (f' := (40, [some (.ref 1), some (.int x1), some (.int x2), some (.int x3), some (.int (0 : Int32))], [.int x2], μ19)) (cs := []) rfl trivial ?_
        refine gWp_stat gT_168 (pc := 40) (c01 := 0) (as := [.int x2]) (rest := []) rfl (Or.inl rfl) rfl rfl rfl ⟨by decide, Nat.le_of_ble_eq_true rfl, by decide, Nat.le_of_ble_eq_true rfl⟩ (gWp_imp h (fun μ23 r h => ?_))
        obtain ⟨v24, rfl, h⟩ := h
        refine Or.inl ⟨_, rfl, ?_⟩
        show gWp none 168 (43, [some (.ref 1), some (.int x1), some (.int x2), some (.int x3), some (.int (0 : Int32))], [.int v24], μ23) _ P
        refine gWp_if gT_168 (pc := 43) rfl ⟨fun c => ?_, fun c => ?_⟩
        · replace h := h.1 (of_decide_eq_true c)
          refine gWp_sts gT_168 2 (f' := (58, [some (.ref 1), some (.int x1), some (.int x2), some (.int x3), some (.int (0 : Int32))], [.int (1 : Int32), .ref 1], μ23)) (cs := []) rfl trivial ?_
          refine gWp_virt gT_168 (pc := 58) (q := 1) (as := [.ref 1, .int (1 : Int32)]) (rest := []) rfl rfl rfl rfl rfl rfl ⟨by decide, Nat.le_of_ble_eq_true rfl, by decide, Nat.le_of_ble_eq_true rfl⟩ (gWp_imp h (fun μ25 r h => ?_))
          obtain ⟨v26, rfl, h⟩ := h
          refine Or.inl ⟨_, rfl, ?_⟩
          show gWp none 168 (61, [some (.ref 1), some (.int x1), some (.int x2), some (.int x3), some (.int (0 : Int32))], [.int v26], μ25) _ P
          exact gWp_end gT_168 rfl (gEnd_int trivial) h
        · replace h := h.2 (fun q => c (decide_eq_true q))
          refine gWp_sts gT_168 3 (f' := (50, [some (.ref 1), some (.int x1), some (.int x2), some (.int x3), some (.int (0 : Int32))], [.int (40 : Int32), .int (1 : Int32), .int x3], μ23)) (cs := []) rfl trivial ?_
          refine gWp_stat gT_168 (pc := 50) (c01 := 0) (as := [.int x3, .int (1 : Int32), .int (40 : Int32)]) (rest := []) rfl (Or.inl rfl) rfl rfl rfl ⟨by decide, Nat.le_of_ble_eq_true rfl, by decide, Nat.le_of_ble_eq_true rfl⟩ (gWp_imp h (fun μ27 r h => ?_))
          obtain ⟨v28, rfl, h⟩ := h
          refine Or.inl ⟨_, rfl, ?_⟩
          show gWp none 168 (53, [some (.ref 1), some (.int x1), some (.int x2), some (.int x3), some (.int (0 : Int32))], [.int v28], μ27) _ P
          refine gWp_if gT_168 (pc := 53) rfl ⟨fun c => ?_, fun c => ?_⟩
          · replace h := h.1 (of_decide_eq_true c)
            refine gWp_sts gT_168 3 (f' := (65, [some (.ref 1), some (.int x1), some (.int x2), some (.int x3), some (.int (0 : Int32))], [.int x2, .int x1, .ref 1], μ27)) (cs := []) rfl trivial ?_
            refine gWp_virt gT_168 (pc := 65) (q := 1) (as := [.ref 1, .int x1, .int x2]) (rest := []) rfl rfl rfl rfl rfl rfl ⟨by decide, Nat.le_of_ble_eq_true rfl, by decide, Nat.le_of_ble_eq_true rfl⟩ (gWp_imp h (fun μ29 r h => ?_))
            obtain ⟨v30, rfl, h⟩ := h
            refine Or.inl ⟨_, rfl, ?_⟩
            show gWp none 168 (68, [some (.ref 1), some (.int x1), some (.int x2), some (.int x3), some (.int (0 : Int32))], [.int v30], μ29) _ P
            refine gWp_sts gT_168 1 (f' := (69, [some (.ref 1), some (.int x1), some (.int x2), some (.int x3), some (.int (0 : Int32))], [.int (-1 : Int32), .int v30], μ29)) (cs := []) rfl trivial ?_
            refine gWp_icmp gT_168 (pc := 69) rfl ⟨fun c => ?_, fun c => ?_⟩
            · replace h := h.1 (of_decide_eq_true c)
              refine gWp_sts gT_168 2 (f' := (83, [some (.ref 1), some (.int x1), some (.int x2), some (.int x3), some (.int (0 : Int32))], [.int (2 : Int32), .ref 1], μ29)) (cs := []) rfl trivial ?_
              refine gWp_virt gT_168 (pc := 83) (q := 1) (as := [.ref 1, .int (2 : Int32)]) (rest := []) rfl rfl rfl rfl rfl rfl ⟨by decide, Nat.le_of_ble_eq_true rfl, by decide, Nat.le_of_ble_eq_true rfl⟩ (gWp_imp h (fun μ31 r h => ?_))
              obtain ⟨v32, rfl, h⟩ := h
              refine Or.inl ⟨_, rfl, ?_⟩
              show gWp none 168 (86, [some (.ref 1), some (.int x1), some (.int x2), some (.int x3), some (.int (0 : Int32))], [.int v32], μ31) _ P
              exact gWp_end gT_168 rfl (gEnd_int trivial) h
            · replace h := h.2 (Classical.not_not.mp (fun q => c (decide_eq_true q)))
              refine gWp_sts gT_168 3 (f' := (78, [some (.ref 1), some (.int x1), some (.int x2), some (.int x3), some (.int (0 : Int32))], [.int (20 : Int32), .int (gI μ29 1 8)], μ29)) (cs := []) rfl trivial ?_
              refine gWp_icmp gT_168 (pc := 78) rfl ⟨fun c => ?_, fun c => ?_⟩
              · replace h := h.1 (of_decide_eq_true c)
                obtain ⟨c1, c2, c3, h⟩ := h
                refine gWp_sts gT_168 33 (f' := (142, [some (.ref 1), some (.int x1), some (.int x2), some (.int x3), some (.int (0 : Int32))], [.int (((200 : Int32) + ((gI μ29 1 8) + (1 : Int32))) - (1 : Int32))], (gsI (gsI (gsI (gsI (gsI μ29 1 9 (0 : Int32)) 46 ((gI μ29 1 8).toNatClampNeg) x1) 47 ((gI μ29 1 8).toNatClampNeg) (vp_nar .char x2)) 48 ((gI μ29 1 8).toNatClampNeg) x3) 1 8 ((gI μ29 1 8) + (1 : Int32))))) (cs := [vp_in (gI μ29 1 8) 20, vp_in (gI μ29 1 8) 20, vp_in (gI μ29 1 8) 20, (Value.ref 1 : Value).category = 1]) rfl ⟨c1, c2, c3, rfl⟩ ?_
                exact gWp_end gT_168 rfl (gEnd_int trivial) h
              · replace h := h.2 (Classical.not_not.mp (fun q => c (decide_eq_true q)))
                refine gWp_sts gT_168 2 (f' := (83, [some (.ref 1), some (.int x1), some (.int x2), some (.int x3), some (.int (0 : Int32))], [.int (2 : Int32), .ref 1], μ29)) (cs := []) rfl trivial ?_
                refine gWp_virt gT_168 (pc := 83) (q := 1) (as := [.ref 1, .int (2 : Int32)]) (rest := []) rfl rfl rfl rfl rfl rfl ⟨by decide, Nat.le_of_ble_eq_true rfl, by decide, Nat.le_of_ble_eq_true rfl⟩ (gWp_imp h (fun μ33 r h => ?_))
                obtain ⟨v34, rfl, h⟩ := h
                refine Or.inl ⟨_, rfl, ?_⟩
                show gWp none 168 (86, [some (.ref 1), some (.int x1), some (.int x2), some (.int x3), some (.int (0 : Int32))], [.int v34], μ33) _ P
                exact gWp_end gT_168 rfl (gEnd_int trivial) h
          · replace h := h.2 (Classical.not_not.mp (fun q => c (decide_eq_true q)))
            refine gWp_sts gT_168 2 (f' := (58, [some (.ref 1), some (.int x1), some (.int x2), some (.int x3), some (.int (0 : Int32))], [.int (1 : Int32), .ref 1], μ27)) (cs := []) rfl trivial ?_
            refine gWp_virt gT_168 (pc := 58) (q := 1) (as := [.ref 1, .int (1 : Int32)]) (rest := []) rfl rfl rfl rfl rfl rfl ⟨by decide, Nat.le_of_ble_eq_true rfl, by decide, Nat.le_of_ble_eq_true rfl⟩ (gWp_imp h (fun μ35 r h => ?_))
            obtain ⟨v36, rfl, h⟩ := h
            refine Or.inl ⟨_, rfl, ?_⟩
            show gWp none 168 (61, [some (.ref 1), some (.int x1), some (.int x2), some (.int x3), some (.int (0 : Int32))], [.int v36], μ35) _ P
            exact gWp_end gT_168 rfl (gEnd_int trivial) h
    · replace h := h.2 (fun q => c (decide_eq_true q))
      refine gWp_sts gT_168 4 (f' := (36, [some (.ref 1), some (.int x1), some (.int x2), some (.int x3), some (.int (1 : Int32))], [.int (1 : Int32)], μ19)) (cs := []) rfl trivial ?_
      refine gWp_if gT_168 (pc := 36) rfl ⟨fun c => ?_, fun c => ?_⟩
      · replace h := h.1 (of_decide_eq_true c)
        refine gWp_sts gT_168 2 (f' := (58, [some (.ref 1), some (.int x1), some (.int x2), some (.int x3), some (.int (1 : Int32))], [.int (1 : Int32), .ref 1], μ19)) (cs := []) rfl trivial ?_
        refine gWp_virt gT_168 (pc := 58) (q := 1) (as := [.ref 1, .int (1 : Int32)]) (rest := []) rfl rfl rfl rfl rfl rfl ⟨by decide, Nat.le_of_ble_eq_true rfl, by decide, Nat.le_of_ble_eq_true rfl⟩ (gWp_imp h (fun μ37 r h => ?_))
        obtain ⟨v38, rfl, h⟩ := h
        refine Or.inl ⟨_, rfl, ?_⟩
        show gWp none 168 (61, [some (.ref 1), some (.int x1), some (.int x2), some (.int x3), some (.int (1 : Int32))], [.int v38], μ37) _ P
        exact gWp_end gT_168 rfl (gEnd_int trivial) h
      · replace h := h.2 (fun q => c (decide_eq_true q))
        refine gWp_sts gT_168 1 (f' := (40, [some (.ref 1), some (.int x1), some (.int x2), some (.int x3), some (.int (1 : Int32))], [.int x2], μ19)) (cs := []) rfl trivial ?_
        refine gWp_stat gT_168 (pc := 40) (c01 := 0) (as := [.int x2]) (rest := []) rfl (Or.inl rfl) rfl rfl rfl ⟨by decide, Nat.le_of_ble_eq_true rfl, by decide, Nat.le_of_ble_eq_true rfl⟩ (gWp_imp h (fun μ39 r h => ?_))
        obtain ⟨v40, rfl, h⟩ := h
        refine Or.inl ⟨_, rfl, ?_⟩
        show gWp none 168 (43, [some (.ref 1), some (.int x1), some (.int x2), some (.int x3), some (.int (1 : Int32))], [.int v40], μ39) _ P
        refine gWp_if gT_168 (pc := 43) rfl ⟨fun c => ?_, fun c => ?_⟩
        · replace h := h.1 (of_decide_eq_true c)
          refine gWp_sts gT_168 2 (f' := (58, [some (.ref 1), some (.int x1), some (.int x2), some (.int x3), some (.int (1 : Int32))], [.int (1 : Int32), .ref 1], μ39)) (cs := []) rfl trivial ?_
          refine gWp_virt gT_168 (pc := 58) (q := 1) (as := [.ref 1, .int (1 : Int32)]) (rest := []) rfl rfl rfl rfl rfl rfl ⟨by decide, Nat.le_of_ble_eq_true rfl, by decide, Nat.le_of_ble_eq_true rfl⟩ (gWp_imp h (fun μ41 r h => ?_))
          obtain ⟨v42, rfl, h⟩ := h
          refine Or.inl ⟨_, rfl, ?_⟩
          show gWp none 168 (61, [some (.ref 1), some (.int x1), some (.int x2), some (.int x3), some (.int (1 : Int32))], [.int v42], μ41) _ P
          exact gWp_end gT_168 rfl (gEnd_int trivial) h
        · replace h := h.2 (fun q => c (decide_eq_true q))
          refine gWp_sts gT_168 3 (f' := (50, [some (.ref 1), some (.int x1), some (.int x2), some (.int x3), some (.int (1 : Int32))], [.int (40 : Int32), .int (1 : Int32), .int x3], μ39)) (cs := []) rfl trivial ?_
          refine gWp_stat gT_168 (pc := 50) (c01 := 0) (as := [.int x3, .int (1 : Int32), .int (40 : Int32)]) (rest := []) rfl (Or.inl rfl) rfl rfl rfl ⟨by decide, Nat.le_of_ble_eq_true rfl, by decide, Nat.le_of_ble_eq_true rfl⟩ (gWp_imp h (fun μ43 r h => ?_))
          obtain ⟨v44, rfl, h⟩ := h
          refine Or.inl ⟨_, rfl, ?_⟩
          show gWp none 168 (53, [some (.ref 1), some (.int x1), some (.int x2), some (.int x3), some (.int (1 : Int32))], [.int v44], μ43) _ P
          refine gWp_if gT_168 (pc := 53) rfl ⟨fun c => ?_, fun c => ?_⟩
          · replace h := h.1 (of_decide_eq_true c)
            refine gWp_sts gT_168 3 (f' := (65, [some (.ref 1), some (.int x1), some (.int x2), some (.int x3), some (.int (1 : Int32))], [.int x2, .int x1, .ref 1], μ43)) (cs := []) rfl trivial ?_
            refine gWp_virt gT_168 (pc := 65) (q := 1) (as := [.ref 1, .int x1, .int x2]) (rest := []) rfl rfl rfl rfl rfl rfl ⟨by decide, Nat.le_of_ble_eq_true rfl, by decide, Nat.le_of_ble_eq_true rfl⟩ (gWp_imp h (fun μ45 r h => ?_))
            obtain ⟨v46, rfl, h⟩ := h
            refine Or.inl ⟨_, rfl, ?_⟩
            show gWp none 168 (68, [some (.ref 1), some (.int x1), some (.int x2), some (.int x3), some (.int (1 : Int32))], [.int v46], μ45) _ P
            refine gWp_sts gT_168 1 (f' := (69, [some (.ref 1), some (.int x1), some (.int x2), some (.int x3), some (.int (1 : Int32))], [.int (-1 : Int32), .int v46], μ45)) (cs := []) rfl trivial ?_
            refine gWp_icmp gT_168 (pc := 69) rfl ⟨fun c => ?_, fun c => ?_⟩
            · replace h := h.1 (of_decide_eq_true c)
              refine gWp_sts gT_168 2 (f' := (83, [some (.ref 1), some (.int x1), some (.int x2), some (.int x3), some (.int (1 : Int32))], [.int (2 : Int32), .ref 1], μ45)) (cs := []) rfl trivial ?_
              refine gWp_virt gT_168 (pc := 83) (q := 1) (as := [.ref 1, .int (2 : Int32)]) (rest := []) rfl rfl rfl rfl rfl rfl ⟨by decide, Nat.le_of_ble_eq_true rfl, by decide, Nat.le_of_ble_eq_true rfl⟩ (gWp_imp h (fun μ47 r h => ?_))
              obtain ⟨v48, rfl, h⟩ := h
              refine Or.inl ⟨_, rfl, ?_⟩
              show gWp none 168 (86, [some (.ref 1), some (.int x1), some (.int x2), some (.int x3), some (.int (1 : Int32))], [.int v48], μ47) _ P
              exact gWp_end gT_168 rfl (gEnd_int trivial) h
            · replace h := h.2 (Classical.not_not.mp (fun q => c (decide_eq_true q)))
              refine gWp_sts gT_168 3 (f' := (78, [some (.ref 1), some (.int x1), some (.int x2), some (.int x3), some (.int (1 : Int32))], [.int (20 : Int32), .int (gI μ45 1 8)], μ45)) (cs := []) rfl trivial ?_
              refine gWp_icmp gT_168 (pc := 78) rfl ⟨fun c => ?_, fun c => ?_⟩
              · replace h := h.1 (of_decide_eq_true c)
                obtain ⟨c1, c2, c3, h⟩ := h
                refine gWp_sts gT_168 33 (f' := (142, [some (.ref 1), some (.int x1), some (.int x2), some (.int x3), some (.int (1 : Int32))], [.int (((200 : Int32) + ((gI μ45 1 8) + (1 : Int32))) - (1 : Int32))], (gsI (gsI (gsI (gsI (gsI μ45 1 9 (0 : Int32)) 46 ((gI μ45 1 8).toNatClampNeg) x1) 47 ((gI μ45 1 8).toNatClampNeg) (vp_nar .char x2)) 48 ((gI μ45 1 8).toNatClampNeg) x3) 1 8 ((gI μ45 1 8) + (1 : Int32))))) (cs := [vp_in (gI μ45 1 8) 20, vp_in (gI μ45 1 8) 20, vp_in (gI μ45 1 8) 20, (Value.ref 1 : Value).category = 1]) rfl ⟨c1, c2, c3, rfl⟩ ?_
                exact gWp_end gT_168 rfl (gEnd_int trivial) h
              · replace h := h.2 (Classical.not_not.mp (fun q => c (decide_eq_true q)))
                refine gWp_sts gT_168 2 (f' := (83, [some (.ref 1), some (.int x1), some (.int x2), some (.int x3), some (.int (1 : Int32))], [.int (2 : Int32), .ref 1], μ45)) (cs := []) rfl trivial ?_
                refine gWp_virt gT_168 (pc := 83) (q := 1) (as := [.ref 1, .int (2 : Int32)]) (rest := []) rfl rfl rfl rfl rfl rfl ⟨by decide, Nat.le_of_ble_eq_true rfl, by decide, Nat.le_of_ble_eq_true rfl⟩ (gWp_imp h (fun μ49 r h => ?_))
                obtain ⟨v50, rfl, h⟩ := h
                refine Or.inl ⟨_, rfl, ?_⟩
                show gWp none 168 (86, [some (.ref 1), some (.int x1), some (.int x2), some (.int x3), some (.int (1 : Int32))], [.int v50], μ49) _ P
                exact gWp_end gT_168 rfl (gEnd_int trivial) h
          · replace h := h.2 (Classical.not_not.mp (fun q => c (decide_eq_true q)))
            refine gWp_sts gT_168 2 (f' := (58, [some (.ref 1), some (.int x1), some (.int x2), some (.int x3), some (.int (1 : Int32))], [.int (1 : Int32), .ref 1], μ43)) (cs := []) rfl trivial ?_
            refine gWp_virt gT_168 (pc := 58) (q := 1) (as := [.ref 1, .int (1 : Int32)]) (rest := []) rfl rfl rfl rfl rfl rfl ⟨by decide, Nat.le_of_ble_eq_true rfl, by decide, Nat.le_of_ble_eq_true rfl⟩ (gWp_imp h (fun μ51 r h => ?_))
            obtain ⟨v52, rfl, h⟩ := h
            refine Or.inl ⟨_, rfl, ?_⟩
            show gWp none 168 (61, [some (.ref 1), some (.int x1), some (.int x2), some (.int x3), some (.int (1 : Int32))], [.int v52], μ51) _ P
            exact gWp_end gT_168 rfl (gEnd_int trivial) h
/-! GlyphmillModel.length -/
theorem gT_169 : gCode[169]? = some gC_169 := rfl
set_option maxRecDepth 20000 in
theorem vc_169 {μ : gMu} {P : gMu → gRes → Prop} (h : P (gsI μ 1 9 (0 : Int32)) (.inl (some (.int (gI μ 1 1))))) : gWp none 169 (0, [some (.ref 1)], [], μ) 0 P := by
  refine gWp_sts gT_169 5 (f' := (9, [some (.ref 1)], [.int (gI μ 1 1)], (gsI μ 1 9 (0 : Int32)))) (cs := []) rfl trivial ?_
  exact gWp_end gT_169 rfl (gEnd_int trivial) h
/-! GlyphmillModel.charAt -/
theorem gT_170 : gCode[170]? = some gC_170 := rfl
set_option maxRecDepth 20000 in
theorem vc_170 {μ : gMu} {x1 : Int32} {P : gMu → gRes → Prop} (h : gCl' 153 [.int x1, .int (0 : Int32), .int ((gI μ 1 1) - (1 : Int32))] μ (fun μ1 r => (∃ v2, r = .inl (some (.int v2)) ∧ (((v2 = 0) → ((((1 : Int32) ≤ 0) → ((vp_in x1 50) ∧ ((narrow .char (.int (gI μ1 44 x1.toNatClampNeg)) = .int (gI μ1 44 x1.toNatClampNeg)) ∧ P (gsI μ1 1 9 (1 : Int32)) (.inl (some (.int (gI μ1 44 x1.toNatClampNeg))))))) ∧ ((¬ (1 : Int32) ≤ 0) → ((narrow .char (.int (32 : Int32)) = .int (32 : Int32)) ∧ P (gsI μ1 1 9 (1 : Int32)) (.inl (some (.int (32 : Int32)))))))) ∧ ((¬ v2 = 0) → ((((0 : Int32) ≤ 0) → ((vp_in x1 50) ∧ ((narrow .char (.int (gI μ1 44 x1.toNatClampNeg)) = .int (gI μ1 44 x1.toNatClampNeg)) ∧ P (gsI μ1 1 9 (0 : Int32)) (.inl (some (.int (gI μ1 44 x1.toNatClampNeg))))))) ∧ ((¬ (0 : Int32) ≤ 0) → ((narrow .char (.int (32 : Int32)) = .int (32 : Int32)) ∧ P (gsI μ1 1 9 (0 : Int32)) (.inl (some (.int (32 : Int32)))))))))))) : gWp none 170 (0, [some (.ref 1), some (.int x1)], [], μ) 0 P := by
  refine gWp_sts gT_170 7 (f' := (9, [some (.ref 1), some (.int x1)], [.int ((gI μ 1 1) - (1 : Int32)), .int (0 : Int32), .int x1, .ref 1], μ)) (cs := []) rfl trivial ?_
  refine gWp_stat gT_170 (pc := 9) (c01 := 0) (as := [.int x1, .int (0 : Int32), .int ((gI μ 1 1) - (1 : Int32))]) (rest := [.ref 1]) rfl (Or.inl rfl) rfl rfl rfl ⟨by decide, Nat.le_of_ble_eq_true rfl, by decide, Nat.le_of_ble_eq_true rfl⟩ (gWp_imp h (fun μ1 r h => ?_))
  obtain ⟨v2, rfl, h⟩ := h
  refine Or.inl ⟨_, rfl, ?_⟩
  show gWp none 170 (12, [some (.ref 1), some (.int x1)], [.int v2, .ref 1], μ1) _ P
  refine gWp_if gT_170 (pc := 12) rfl ⟨fun c => ?_, fun c => ?_⟩
  · replace h := h.1 (of_decide_eq_true c)
    refine gWp_sts gT_170 4 (f' := (27, [some (.ref 1), some (.int x1)], [.int (1 : Int32)], (gsI μ1 1 9 (1 : Int32)))) (cs := []) rfl trivial ?_
    refine gWp_if gT_170 (pc := 27) rfl ⟨fun c => ?_, fun c => ?_⟩
    · replace h := h.1 (of_decide_eq_true c)
      obtain ⟨c1, h⟩ := h
      refine gWp_sts gT_170 4 (f' := (41, [some (.ref 1), some (.int x1)], [.int (gI μ1 44 x1.toNatClampNeg)], (gsI μ1 1 9 (1 : Int32)))) (cs := [vp_in x1 50]) rfl c1 ?_
      exact gWp_end gT_170 rfl (gEnd_int h.1) h.2
    · replace h := h.2 (fun q => c (decide_eq_true q))
      refine gWp_sts gT_170 2 (f' := (41, [some (.ref 1), some (.int x1)], [.int (32 : Int32)], (gsI μ1 1 9 (1 : Int32)))) (cs := []) rfl trivial ?_
      exact gWp_end gT_170 rfl (gEnd_int h.1) h.2
  · replace h := h.2 (fun q => c (decide_eq_true q))
    refine gWp_sts gT_170 5 (f' := (27, [some (.ref 1), some (.int x1)], [.int (0 : Int32)], (gsI μ1 1 9 (0 : Int32)))) (cs := []) rfl trivial ?_
    refine gWp_if gT_170 (pc := 27) rfl ⟨fun c => ?_, fun c => ?_⟩
    · replace h := h.1 (of_decide_eq_true c)
      obtain ⟨c1, h⟩ := h
      refine gWp_sts gT_170 4 (f' := (41, [some (.ref 1), some (.int x1)], [.int (gI μ1 44 x1.toNatClampNeg)], (gsI μ1 1 9 (0 : Int32)))) (cs := [vp_in x1 50]) rfl c1 ?_
      exact gWp_end gT_170 rfl (gEnd_int h.1) h.2
    · replace h := h.2 (fun q => c (decide_eq_true q))
      refine gWp_sts gT_170 2 (f' := (41, [some (.ref 1), some (.int x1)], [.int (32 : Int32)], (gsI μ1 1 9 (0 : Int32)))) (cs := []) rfl trivial ?_
      exact gWp_end gT_170 rfl (gEnd_int h.1) h.2
/-! GlyphmillModel.open -/
theorem gT_171 : gCode[171]? = some gC_171 := rfl
set_option maxRecDepth 20000 in
theorem vc_171 {μ : gMu} {P : gMu → gRes → Prop} (h : gCl' 160 [.ref 1] (gsI μ 1 9 (0 : Int32)) (fun μ1 r => (r = .inl none ∧ (P μ1 (.inl (some (.int (gI μ1 1 20)))))))) : gWp none 171 (0, [some (.ref 1)], [], μ) 0 P := by
  refine gWp_sts gT_171 4 (f' := (6, [some (.ref 1)], [.ref 1], (gsI μ 1 9 (0 : Int32)))) (cs := []) rfl trivial ?_
  refine gWp_virt gT_171 (pc := 6) (q := 1) (as := [.ref 1]) (rest := []) rfl rfl rfl rfl rfl rfl ⟨by decide, Nat.le_of_ble_eq_true rfl, by decide, Nat.le_of_ble_eq_true rfl⟩ (gWp_imp h (fun μ1 r h => ?_))
  obtain ⟨rfl, h⟩ := h
  refine Or.inl ⟨_, rfl, ?_⟩
  show gWp none 171 (9, [some (.ref 1)], [], μ1) _ P
  refine gWp_sts gT_171 2 (f' := (13, [some (.ref 1)], [.int (gI μ1 1 20)], μ1)) (cs := []) rfl trivial ?_
  exact gWp_end gT_171 rfl (gEnd_int trivial) h
/-! GlyphmillModel.isBreak -/
theorem gT_172 : gCode[172]? = some gC_172 := rfl
set_option maxRecDepth 20000 in
theorem vc_172 {μ : gMu} {x1 : Int32} {P : gMu → gRes → Prop} (h : ((x1 ≤ 0) → (P μ (.inl (some (.int (0 : Int32)))))) ∧ ((¬ x1 ≤ 0) → ((vp_in x1 50) ∧ ((((gI μ 50 x1.toNatClampNeg) = (32 : Int32)) → (P μ (.inl (some (.int (0 : Int32)))))) ∧ ((¬ (gI μ 50 x1.toNatClampNeg) = (32 : Int32)) → ((vp_in (x1 - (1 : Int32)) 50) ∧ ((((gI μ 50 ((x1 - (1 : Int32)).toNatClampNeg)) = (32 : Int32)) → (P μ (.inl (some (.int (1 : Int32)))))) ∧ ((¬ (gI μ 50 ((x1 - (1 : Int32)).toNatClampNeg)) = (32 : Int32)) → ((vp_in (x1 - (1 : Int32)) 50) ∧ (((¬ (gI μ 50 ((x1 - (1 : Int32)).toNatClampNeg)) = (45 : Int32)) → (P μ (.inl (some (.int (0 : Int32)))))) ∧ (((gI μ 50 ((x1 - (1 : Int32)).toNatClampNeg)) = (45 : Int32)) → (P μ (.inl (some (.int (1 : Int32)))))))))))))))) : gWp none 172 (0, [some (.ref 1), some (.int x1)], [], μ) 0 P := by
  refine gWp_sts gT_172 1 (f' := (1, [some (.ref 1), some (.int x1)], [.int x1], μ)) (cs := []) rfl trivial ?_
  refine gWp_if gT_172 (pc := 1) rfl ⟨fun c => ?_, fun c => ?_⟩
  · replace h := h.1 (of_decide_eq_true c)
    refine gWp_sts gT_172 1 (f' := (46, [some (.ref 1), some (.int x1)], [.int (0 : Int32)], μ)) (cs := []) rfl trivial ?_
    exact gWp_end gT_172 rfl (gEnd_int (show narrow .boolean (.int (0 : Int32)) = .int (0 : Int32) by decide)) h
  · replace h := h.2 (fun q => c (decide_eq_true q))
    obtain ⟨c1, h⟩ := h
    refine gWp_sts gT_172 5 (f' := (12, [some (.ref 1), some (.int x1)], [.int (32 : Int32), .int (gI μ 50 x1.toNatClampNeg)], μ)) (cs := [vp_in x1 50]) rfl c1 ?_
    refine gWp_icmp gT_172 (pc := 12) rfl ⟨fun c => ?_, fun c => ?_⟩
    · replace h := h.1 (of_decide_eq_true c)
      refine gWp_sts gT_172 1 (f' := (46, [some (.ref 1), some (.int x1)], [.int (0 : Int32)], μ)) (cs := []) rfl trivial ?_
      exact gWp_end gT_172 rfl (gEnd_int (show narrow .boolean (.int (0 : Int32)) = .int (0 : Int32) by decide)) h
    · replace h := h.2 (fun q => c (decide_eq_true q))
      obtain ⟨c1, h⟩ := h
      refine gWp_sts gT_172 7 (f' := (25, [some (.ref 1), some (.int x1)], [.int (32 : Int32), .int (gI μ 50 ((x1 - (1 : Int32)).toNatClampNeg))], μ)) (cs := [vp_in (x1 - (1 : Int32)) 50]) rfl c1 ?_
      refine gWp_icmp gT_172 (pc := 25) rfl ⟨fun c => ?_, fun c => ?_⟩
      · replace h := h.1 (of_decide_eq_true c)
        refine gWp_sts gT_172 2 (f' := (46, [some (.ref 1), some (.int x1)], [.int (1 : Int32)], μ)) (cs := []) rfl trivial ?_
        exact gWp_end gT_172 rfl (gEnd_int (show narrow .boolean (.int (1 : Int32)) = .int (1 : Int32) by decide)) h
      · replace h := h.2 (fun q => c (decide_eq_true q))
        obtain ⟨c1, h⟩ := h
        refine gWp_sts gT_172 7 (f' := (38, [some (.ref 1), some (.int x1)], [.int (45 : Int32), .int (gI μ 50 ((x1 - (1 : Int32)).toNatClampNeg))], μ)) (cs := [vp_in (x1 - (1 : Int32)) 50]) rfl c1 ?_
        refine gWp_icmp gT_172 (pc := 38) rfl ⟨fun c => ?_, fun c => ?_⟩
        · replace h := h.1 (of_decide_eq_true c)
          refine gWp_sts gT_172 1 (f' := (46, [some (.ref 1), some (.int x1)], [.int (0 : Int32)], μ)) (cs := []) rfl trivial ?_
          exact gWp_end gT_172 rfl (gEnd_int (show narrow .boolean (.int (0 : Int32)) = .int (0 : Int32) by decide)) h
        · replace h := h.2 (Classical.not_not.mp (fun q => c (decide_eq_true q)))
          refine gWp_sts gT_172 2 (f' := (46, [some (.ref 1), some (.int x1)], [.int (1 : Int32)], μ)) (cs := []) rfl trivial ?_
          exact gWp_end gT_172 rfl (gEnd_int (show narrow .boolean (.int (1 : Int32)) = .int (1 : Int32) by decide)) h
/-! GlyphmillModel.laysGlyphs -/
theorem gT_173 : gCode[173]? = some gC_173 := rfl
set_option maxRecDepth 20000 in
theorem vc_173_80 {μ : gMu} {x1 : Int32} {x2 : Int32} {x3 : Int32} {x4 : Int32} {P : gMu → gRes → Prop} (h : ((x3 ≤ x4) → (gWp none 173 (2, [some (.ref 1), some (.int x3), some (.int x2), some (.int x3), some (.int x4)], [], μ) 0 P)) ∧ ((¬ x3 ≤ x4) → ((vp_in x4 50) ∧ ((vp_in x4 50) ∧ (gWp none 173 (80, [some (.ref 1), some (.int x1), some (.int x2), some (.int x3), some (.int (x4 + (1 : Int32)))], [], (gsI (gsI μ 55 x4.toNatClampNeg x2) 56 x4.toNatClampNeg x1)) 0 P))))) : gWp none 173 (80, [some (.ref 1), some (.int x1), some (.int x2), some (.int x3), some (.int x4)], [], μ) 0 P := by
  refine gWp_sts gT_173 2 (f' := (83, [some (.ref 1), some (.int x1), some (.int x2), some (.int x3), some (.int x4)], [.int x3, .int x4], μ)) (cs := []) rfl trivial ?_
  refine gWp_icmp gT_173 (pc := 83) rfl ⟨fun c => ?_, fun c => ?_⟩
  · replace h := h.1 (of_decide_eq_true c)
    refine gWp_sts gT_173 3 (f' := (2, [some (.ref 1), some (.int x3), some (.int x2), some (.int x3), some (.int x4)], [], μ)) (cs := []) rfl trivial ?_
    exact h
  · replace h := h.2 (fun q => c (decide_eq_true q))
    obtain ⟨c1, c2, h⟩ := h
    refine gWp_sts gT_173 12 (f' := (80, [some (.ref 1), some (.int x1), some (.int x2), some (.int x3), some (.int (x4 + (1 : Int32)))], [], (gsI (gsI μ 55 x4.toNatClampNeg x2) 56 x4.toNatClampNeg x1))) (cs := [vp_in x4 50, vp_in x4 50]) rfl ⟨c1, c2⟩ ?_
    exact h
set_option maxRecDepth 20000 in
theorem vc_173_21 {μ : gMu} {x1 : Int32} {x2 : Int32} {x3 : Int32} {P : gMu → gRes → Prop} (h : (((gI μ 1 19) ≤ x3) → (gWp none 173 (80, [some (.ref 1), some (.int x1), some (.int x2), some (.int x3), some (.int x1)], [], μ) 0 P)) ∧ ((¬ (gI μ 1 19) ≤ x3) → ((vp_in x3 50) ∧ ((vp_in x1 50) ∧ (((¬ (gI μ 54 x3.toNatClampNeg) = (gI μ 54 x1.toNatClampNeg)) → (gWp none 173 (80, [some (.ref 1), some (.int x1), some (.int x2), some (.int x3), some (.int x1)], [], μ) 0 P)) ∧ (((gI μ 54 x3.toNatClampNeg) = (gI μ 54 x1.toNatClampNeg)) → ((vp_in x3 50) ∧ (gCl' 167 [.ref 1, .int x2, .int (gI μ 50 x3.toNatClampNeg)] μ (fun μ1 r => (∃ v2, r = .inl (some (.int v2)) ∧ (((v2 = (-1 : Int32)) → (gWp none 173 (80, [some (.ref 1), some (.int x1), some (.int x2), some (.int x3), some (.int x1)], [], μ1) 0 P)) ∧ ((¬ v2 = (-1 : Int32)) → ((vp_in x3 50) ∧ (gCl' 167 [.ref 1, .int x2, .int (gI μ1 50 x3.toNatClampNeg)] μ1 (fun μ3 r => (∃ v4, r = .inl (some (.int v4)) ∧ (gWp none 173 (21, [some (.ref 1), some (.int x1), some (.int v4), some (.int (x3 + (1 : Int32))), none], [], μ3) 0 P))))))))))))))))) : gWp none 173 (21, [some (.ref 1), some (.int x1), some (.int x2), some (.int x3), none], [], μ) 0 P := by
  refine gWp_sts gT_173 3 (f' := (26, [some (.ref 1), some (.int x1), some (.int x2), some (.int x3), none], [.int (gI μ 1 19), .int x3], μ)) (cs := []) rfl trivial ?_
  refine gWp_icmp gT_173 (pc := 26) rfl ⟨fun c => ?_, fun c => ?_⟩
  · replace h := h.1 (of_decide_eq_true c)
    refine gWp_sts gT_173 2 (f' := (80, [some (.ref 1), some (.int x1), some (.int x2), some (.int x3), some (.int x1)], [], μ)) (cs := []) rfl trivial ?_
    exact h
  · replace h := h.2 (fun q => c (decide_eq_true q))
    obtain ⟨c1, c2, h⟩ := h
    refine gWp_sts gT_173 8 (f' := (41, [some (.ref 1), some (.int x1), some (.int x2), some (.int x3), none], [.int (gI μ 54 x1.toNatClampNeg), .int (gI μ 54 x3.toNatClampNeg)], μ)) (cs := [vp_in x3 50, vp_in x1 50]) rfl ⟨c1, c2⟩ ?_
    refine gWp_icmp gT_173 (pc := 41) rfl ⟨fun c => ?_, fun c => ?_⟩
    · replace h := h.1 (of_decide_eq_true c)
      refine gWp_sts gT_173 2 (f' := (80, [some (.ref 1), some (.int x1), some (.int x2), some (.int x3), some (.int x1)], [], μ)) (cs := []) rfl trivial ?_
      exact h
    · replace h := h.2 (Classical.not_not.mp (fun q => c (decide_eq_true q)))
      obtain ⟨c1, h⟩ := h
      refine gWp_sts gT_173 6 (f' := (52, [some (.ref 1), some (.int x1), some (.int x2), some (.int x3), none], [.int (gI μ 50 x3.toNatClampNeg), .int x2, .ref 1], μ)) (cs := [vp_in x3 50]) rfl c1 ?_
      refine gWp_virt gT_173 (pc := 52) (q := 1) (as := [.ref 1, .int x2, .int (gI μ 50 x3.toNatClampNeg)]) (rest := []) rfl rfl rfl rfl rfl rfl ⟨by decide, Nat.le_of_ble_eq_true rfl, by decide, Nat.le_of_ble_eq_true rfl⟩ (gWp_imp h (fun μ1 r h => ?_))
      obtain ⟨v2, rfl, h⟩ := h
      refine Or.inl ⟨_, rfl, ?_⟩
      show gWp none 173 (55, [some (.ref 1), some (.int x1), some (.int x2), some (.int x3), none], [.int v2], μ1) _ P
      refine gWp_sts gT_173 1 (f' := (56, [some (.ref 1), some (.int x1), some (.int x2), some (.int x3), none], [.int (-1 : Int32), .int v2], μ1)) (cs := []) rfl trivial ?_
      refine gWp_icmp gT_173 (pc := 56) rfl ⟨fun c => ?_, fun c => ?_⟩
      · replace h := h.1 (of_decide_eq_true c)
        refine gWp_sts gT_173 2 (f' := (80, [some (.ref 1), some (.int x1), some (.int x2), some (.int x3), some (.int x1)], [], μ1)) (cs := []) rfl trivial ?_
        exact h
      · replace h := h.2 (fun q => c (decide_eq_true q))
        obtain ⟨c1, h⟩ := h
        refine gWp_sts gT_173 6 (f' := (67, [some (.ref 1), some (.int x1), some (.int x2), some (.int x3), none], [.int (gI μ1 50 x3.toNatClampNeg), .int x2, .ref 1], μ1)) (cs := [vp_in x3 50]) rfl c1 ?_
        refine gWp_virt gT_173 (pc := 67) (q := 1) (as := [.ref 1, .int x2, .int (gI μ1 50 x3.toNatClampNeg)]) (rest := []) rfl rfl rfl rfl rfl rfl ⟨by decide, Nat.le_of_ble_eq_true rfl, by decide, Nat.le_of_ble_eq_true rfl⟩ (gWp_imp h (fun μ3 r h => ?_))
        obtain ⟨v4, rfl, h⟩ := h
        refine Or.inl ⟨_, rfl, ?_⟩
        show gWp none 173 (70, [some (.ref 1), some (.int x1), some (.int x2), some (.int x3), none], [.int v4], μ3) _ P
        refine gWp_sts gT_173 3 (f' := (21, [some (.ref 1), some (.int x1), some (.int v4), some (.int (x3 + (1 : Int32))), none], [], μ3)) (cs := []) rfl trivial ?_
        exact h
set_option maxRecDepth 20000 in
theorem vc_173_2 {μ : gMu} {x1 : Int32} {P : gMu → gRes → Prop} (h : (((gI μ 1 19) ≤ x1) → (P μ (.inl none))) ∧ ((¬ (gI μ 1 19) ≤ x1) → ((vp_in x1 50) ∧ (gWp none 173 (21, [some (.ref 1), some (.int x1), some (.int (gI μ 50 x1.toNatClampNeg)), some (.int (x1 + (1 : Int32))), none], [], μ) 0 P)))) : gWp none 173 (2, [some (.ref 1), some (.int x1), none, none, none], [], μ) 0 P := by
  refine gWp_sts gT_173 3 (f' := (7, [some (.ref 1), some (.int x1), none, none, none], [.int (gI μ 1 19), .int x1], μ)) (cs := []) rfl trivial ?_
  refine gWp_icmp gT_173 (pc := 7) rfl ⟨fun c => ?_, fun c => ?_⟩
  · replace h := h.1 (of_decide_eq_true c)
    exact gWp_end gT_173 rfl rfl h
  · replace h := h.2 (fun q => c (decide_eq_true q))
    obtain ⟨c1, h⟩ := h
    refine gWp_sts gT_173 9 (f' := (21, [some (.ref 1), some (.int x1), some (.int (gI μ 50 x1.toNatClampNeg)), some (.int (x1 + (1 : Int32))), none], [], μ)) (cs := [vp_in x1 50]) rfl c1 ?_
    exact h
set_option maxRecDepth 20000 in
theorem vc_173 {μ : gMu} {P : gMu → gRes → Prop} (h : gWp none 173 (2, [some (.ref 1), some (.int (0 : Int32)), none, none, none], [], μ) 0 P) : gWp none 173 (0, [some (.ref 1), none, none, none, none], [], μ) 0 P := by
  refine gWp_sts gT_173 2 (f' := (2, [some (.ref 1), some (.int (0 : Int32)), none, none, none], [], μ)) (cs := []) rfl trivial ?_
  exact h
/-! GlyphmillModel.direction -/
theorem gT_174 : gCode[174]? = some gC_174 := rfl
set_option maxRecDepth 20000 in
theorem vc_174 {μ : gMu} {x0 : Int32} {P : gMu → gRes → Prop} (h : (¬ (2 : Int32) = 0) ∧ (((¬ (x0 - x0 / (2 : Int32) * (2 : Int32)) = 0) → ((narrow .char (.int (82 : Int32)) = .int (82 : Int32)) ∧ P μ (.inl (some (.int (82 : Int32)))))) ∧ (((x0 - x0 / (2 : Int32) * (2 : Int32)) = 0) → ((narrow .char (.int (76 : Int32)) = .int (76 : Int32)) ∧ P μ (.inl (some (.int (76 : Int32)))))))) : gWp none 174 (0, [some (.int x0)], [], μ) 0 P := by
  obtain ⟨c1, h⟩ := h
  refine gWp_sts gT_174 3 (f' := (3, [some (.int x0)], [.int (x0 - x0 / (2 : Int32) * (2 : Int32))], μ)) (cs := [¬ (2 : Int32) = 0]) rfl c1 ?_
  refine gWp_if gT_174 (pc := 3) rfl ⟨fun c => ?_, fun c => ?_⟩
  · replace h := h.1 (of_decide_eq_true c)
    refine gWp_sts gT_174 1 (f' := (13, [some (.int x0)], [.int (82 : Int32)], μ)) (cs := []) rfl trivial ?_
    exact gWp_end gT_174 rfl (gEnd_int h.1) h.2
  · replace h := h.2 (Classical.not_not.mp (fun q => c (decide_eq_true q)))
    refine gWp_sts gT_174 2 (f' := (13, [some (.int x0)], [.int (76 : Int32)], μ)) (cs := []) rfl trivial ?_
    exact gWp_end gT_174 rfl (gEnd_int h.1) h.2
/-! GlyphmillModel.laysStretch -/
theorem gT_175 : gCode[175]? = some gC_175 := rfl
set_option maxRecDepth 20000 in
theorem vc_175_276 {μ : gMu} {x1 : Int32} {x2 : Int32} {x3 : Int32} {x4 : Int32} {x5 : Int32} {x6 : Int32} {x7 : Int32} {P : gMu → gRes → Prop} (h : ((x2 ≤ x7) → (P μ (.inl none))) ∧ ((¬ x2 ≤ x7) → ((¬ (2 : Int32) = 0) ∧ (((¬ (x6 - x6 / (2 : Int32) * (2 : Int32)) = 0) → ((vp_in x7 50) ∧ (((¬ (gI μ 57 x7.toNatClampNeg) = (82 : Int32)) → ((vp_in x7 50) ∧ (gWp none 175 (276, [some (.ref 1), some (.int x1), some (.int x2), some (.int x3), some (.int x4), some (.int x5), some (.int x6), some (.int (x7 + (1 : Int32))), none, none, none, none], [], (gsI μ 52 x7.toNatClampNeg (x6 + (1 : Int32)))) 0 P))) ∧ (((gI μ 57 x7.toNatClampNeg) = (82 : Int32)) → ((vp_in x7 50) ∧ (gWp none 175 (276, [some (.ref 1), some (.int x1), some (.int x2), some (.int x3), some (.int x4), some (.int x5), some (.int x6), some (.int (x7 + (1 : Int32))), none, none, none, none], [], (gsI μ 52 x7.toNatClampNeg x6)) 0 P)))))) ∧ (((x6 - x6 / (2 : Int32) * (2 : Int32)) = 0) → ((vp_in x7 50) ∧ (((¬ (gI μ 57 x7.toNatClampNeg) = (76 : Int32)) → ((vp_in x7 50) ∧ (((¬ (gI μ 57 x7.toNatClampNeg) = (82 : Int32)) → ((vp_in x7 50) ∧ (gWp none 175 (276, [some (.ref 1), some (.int x1), some (.int x2), some (.int x3), some (.int x4), some (.int x5), some (.int x6), some (.int (x7 + (1 : Int32))), none, none, none, none], [], (gsI μ 52 x7.toNatClampNeg (x6 + (2 : Int32)))) 0 P))) ∧ (((gI μ 57 x7.toNatClampNeg) = (82 : Int32)) → ((vp_in x7 50) ∧ (gWp none 175 (276, [some (.ref 1), some (.int x1), some (.int x2), some (.int x3), some (.int x4), some (.int x5), some (.int x6), some (.int (x7 + (1 : Int32))), none, none, none, none], [], (gsI μ 52 x7.toNatClampNeg (x6 + (1 : Int32)))) 0 P)))))) ∧ (((gI μ 57 x7.toNatClampNeg) = (76 : Int32)) → ((vp_in x7 50) ∧ (gWp none 175 (276, [some (.ref 1), some (.int x1), some (.int x2), some (.int x3), some (.int x4), some (.int x5), some (.int x6), some (.int (x7 + (1 : Int32))), none, none, none, none], [], (gsI μ 52 x7.toNatClampNeg x6)) 0 P)))))))))) : gWp none 175 (276, [some (.ref 1), some (.int x1), some (.int x2), some (.int x3), some (.int x4), some (.int x5), some (.int x6), some (.int x7), none, none, none, none], [], μ) 0 P := by
  refine gWp_sts gT_175 2 (f' := (279, [some (.ref 1), some (.int x1), some (.int x2), some (.int x3), some (.int x4), some (.int x5), some (.int x6), some (.int x7), none, none, none, none], [.int x2, .int x7], μ)) (cs := []) rfl trivial ?_
  refine gWp_icmp gT_175 (pc := 279) rfl ⟨fun c => ?_, fun c => ?_⟩
  · replace h := h.1 (of_decide_eq_true c)
    exact gWp_end gT_175 rfl rfl h
  · replace h := h.2 (fun q => c (decide_eq_true q))
    obtain ⟨c1, h⟩ := h
    refine gWp_sts gT_175 3 (f' := (286, [some (.ref 1), some (.int x1), some (.int x2), some (.int x3), some (.int x4), some (.int x5), some (.int x6), some (.int x7), none, none, none, none], [.int (x6 - x6 / (2 : Int32) * (2 : Int32))], μ)) (cs := [¬ (2 : Int32) = 0]) rfl c1 ?_
    refine gWp_if gT_175 (pc := 286) rfl ⟨fun c => ?_, fun c => ?_⟩
    · replace h := h.1 (of_decide_eq_true c)
      obtain ⟨c1, h⟩ := h
      refine gWp_sts gT_175 8 (f' := (354, [some (.ref 1), some (.int x1), some (.int x2), some (.int x3), some (.int x4), some (.int x5), some (.int x6), some (.int x7), none, none, none, none], [.int (82 : Int32), .int (gI μ 57 x7.toNatClampNeg), .int x7, .ref 52], μ)) (cs := [vp_in x7 50]) rfl c1 ?_
      refine gWp_icmp gT_175 (pc := 354) rfl ⟨fun c => ?_, fun c => ?_⟩
      · replace h := h.1 (of_decide_eq_true c)
        obtain ⟨c1, h⟩ := h
        refine gWp_sts gT_175 6 (f' := (276, [some (.ref 1), some (.int x1), some (.int x2), some (.int x3), some (.int x4), some (.int x5), some (.int x6), some (.int (x7 + (1 : Int32))), none, none, none, none], [], (gsI μ 52 x7.toNatClampNeg (x6 + (1 : Int32))))) (cs := [vp_in x7 50]) rfl c1 ?_
        exact h
      · replace h := h.2 (Classical.not_not.mp (fun q => c (decide_eq_true q)))
        obtain ⟨c1, h⟩ := h
        refine gWp_sts gT_175 5 (f' := (276, [some (.ref 1), some (.int x1), some (.int x2), some (.int x3), some (.int x4), some (.int x5), some (.int x6), some (.int (x7 + (1 : Int32))), none, none, none, none], [], (gsI μ 52 x7.toNatClampNeg x6))) (cs := [vp_in x7 50]) rfl c1 ?_
        exact h
    · replace h := h.2 (Classical.not_not.mp (fun q => c (decide_eq_true q)))
      obtain ⟨c1, h⟩ := h
      refine gWp_sts gT_175 8 (f' := (304, [some (.ref 1), some (.int x1), some (.int x2), some (.int x3), some (.int x4), some (.int x5), some (.int x6), some (.int x7), none, none, none, none], [.int (76 : Int32), .int (gI μ 57 x7.toNatClampNeg), .int x7, .ref 52], μ)) (cs := [vp_in x7 50]) rfl c1 ?_
      refine gWp_icmp gT_175 (pc := 304) rfl ⟨fun c => ?_, fun c => ?_⟩
      · replace h := h.1 (of_decide_eq_true c)
        obtain ⟨c1, h⟩ := h
        refine gWp_sts gT_175 5 (f' := (321, [some (.ref 1), some (.int x1), some (.int x2), some (.int x3), some (.int x4), some (.int x5), some (.int x6), some (.int x7), none, none, none, none], [.int (82 : Int32), .int (gI μ 57 x7.toNatClampNeg), .int x7, .ref 52], μ)) (cs := [vp_in x7 50]) rfl c1 ?_
        refine gWp_icmp gT_175 (pc := 321) rfl ⟨fun c => ?_, fun c => ?_⟩
        · replace h := h.1 (of_decide_eq_true c)
          obtain ⟨c1, h⟩ := h
          refine gWp_sts gT_175 7 (f' := (276, [some (.ref 1), some (.int x1), some (.int x2), some (.int x3), some (.int x4), some (.int x5), some (.int x6), some (.int (x7 + (1 : Int32))), none, none, none, none], [], (gsI μ 52 x7.toNatClampNeg (x6 + (2 : Int32))))) (cs := [vp_in x7 50]) rfl c1 ?_
          exact h
        · replace h := h.2 (Classical.not_not.mp (fun q => c (decide_eq_true q)))
          obtain ⟨c1, h⟩ := h
          refine gWp_sts gT_175 8 (f' := (276, [some (.ref 1), some (.int x1), some (.int x2), some (.int x3), some (.int x4), some (.int x5), some (.int x6), some (.int (x7 + (1 : Int32))), none, none, none, none], [], (gsI μ 52 x7.toNatClampNeg (x6 + (1 : Int32))))) (cs := [vp_in x7 50]) rfl c1 ?_
          exact h
      · replace h := h.2 (Classical.not_not.mp (fun q => c (decide_eq_true q)))
        obtain ⟨c1, h⟩ := h
        refine gWp_sts gT_175 6 (f' := (276, [some (.ref 1), some (.int x1), some (.int x2), some (.int x3), some (.int x4), some (.int x5), some (.int x6), some (.int (x7 + (1 : Int32))), none, none, none, none], [], (gsI μ 52 x7.toNatClampNeg x6))) (cs := [vp_in x7 50]) rfl c1 ?_
        exact h
set_option maxRecDepth 20000 in
theorem vc_175_230 {μ : gMu} {x1 : Int32} {x2 : Int32} {x3 : Int32} {x4 : Int32} {x5 : Int32} {x6 : Int32} {x7 : Int32} {x8 : Int32} {x9 : Int32} {x10 : Int32} {x11 : Int32} {P : gMu → gRes → Prop} (h : ((x8 ≤ x11) → (gWp none 175 (115, [some (.ref 1), some (.int x1), some (.int x2), some (.int x3), some (.int x4), some (.int x5), some (.int x6), some (.int (x7 + (1 : Int32))), some (.int x8), some (.int x9), some (.int x10), some (.int x11)], [], μ) 0 P)) ∧ ((¬ x8 ≤ x11) → (((¬ x9 = x10) → (gCl' 174 [.int x6] μ (fun μ1 r => (∃ v2, r = .inl (some (.int v2)) ∧ ((vp_in x11 50) ∧ (gWp none 175 (230, [some (.ref 1), some (.int x1), some (.int x2), some (.int x3), some (.int x4), some (.int x5), some (.int x6), some (.int x7), some (.int x8), some (.int x9), some (.int x10), some (.int (x11 + (1 : Int32)))], [], (gsI μ1 57 x11.toNatClampNeg (vp_nar .char v2))) 0 P)))))) ∧ ((x9 = x10) → ((vp_in x11 50) ∧ (gWp none 175 (230, [some (.ref 1), some (.int x1), some (.int x2), some (.int x3), some (.int x4), some (.int x5), some (.int x6), some (.int x7), some (.int x8), some (.int x9), some (.int x10), some (.int (x11 + (1 : Int32)))], [], (gsI μ 57 x11.toNatClampNeg (vp_nar .char x9))) 0 P)))))) : gWp none 175 (230, [some (.ref 1), some (.int x1), some (.int x2), some (.int x3), some (.int x4), some (.int x5), some (.int x6), some (.int x7), some (.int x8), some (.int x9), some (.int x10), some (.int x11)], [], μ) 0 P := by
  refine gWp_sts gT_175 2 (f' := (234, [some (.ref 1), some (.int x1), some (.int x2), some (.int x3), some (.int x4), some (.int x5), some (.int x6), some (.int x7), some (.int x8), some (.int x9), some (.int x10), some (.int x11)], [.int x8, .int x11], μ)) (cs := []) rfl trivial ?_
  refine gWp_icmp gT_175 (pc := 234) rfl ⟨fun c => ?_, fun c => ?_⟩
  · replace h := h.1 (of_decide_eq_true c)
    refine gWp_sts gT_175 2 (f' := (115, [some (.ref 1), some (.int x1), some (.int x2), some (.int x3), some (.int x4), some (.int x5), some (.int x6), some (.int (x7 + (1 : Int32))), some (.int x8), some (.int x9), some (.int x10), some (.int x11)], [], μ)) (cs := []) rfl trivial ?_
    exact h
  · replace h := h.2 (fun q => c (decide_eq_true q))
    refine gWp_sts gT_175 5 (f' := (247, [some (.ref 1), some (.int x1), some (.int x2), some (.int x3), some (.int x4), some (.int x5), some (.int x6), some (.int x7), some (.int x8), some (.int x9), some (.int x10), some (.int x11)], [.int x10, .int x9, .int x11, .ref 57], μ)) (cs := []) rfl trivial ?_
    refine gWp_icmp gT_175 (pc := 247) rfl ⟨fun c => ?_, fun c => ?_⟩
    · replace h := h.1 (of_decide_eq_true c)
      refine gWp_sts gT_175 1 (f' := (257, [some (.ref 1), some (.int x1), some (.int x2), some (.int x3), some (.int x4), some (.int x5), some (.int x6), some (.int x7), some (.int x8), some (.int x9), some (.int x10), some (.int x11)], [.int x6, .int x11, .ref 57], μ)) (cs := []) rfl trivial ?_
      refine gWp_stat gT_175 (pc := 257) (c01 := 0) (as := [.int x6]) (rest := [.int x11, .ref 57]) rfl (Or.inl rfl) rfl rfl rfl ⟨by decide, Nat.le_of_ble_eq_true rfl, by decide, Nat.le_of_ble_eq_true rfl⟩ (gWp_imp h (fun μ1 r h => ?_))
      obtain ⟨v2, rfl, h⟩ := h
      refine Or.inl ⟨_, rfl, ?_⟩
      show gWp none 175 (260, [some (.ref 1), some (.int x1), some (.int x2), some (.int x3), some (.int x4), some (.int x5), some (.int x6), some (.int x7), some (.int x8), some (.int x9), some (.int x10), some (.int x11)], [.int v2, .int x11, .ref 57], μ1) _ P
      obtain ⟨c1, h⟩ := h
      refine gWp_sts gT_175 3 (f' := (230, [some (.ref 1), some (.int x1), some (.int x2), some (.int x3), some (.int x4), some (.int x5), some (.int x6), some (.int x7), some (.int x8), some (.int x9), some (.int x10), some (.int (x11 + (1 : Int32)))], [], (gsI μ1 57 x11.toNatClampNeg (vp_nar .char v2)))) (cs := [vp_in x11 50]) rfl c1 ?_
      exact h
    · replace h := h.2 (Classical.not_not.mp (fun q => c (decide_eq_true q)))
      obtain ⟨c1, h⟩ := h
      refine gWp_sts gT_175 5 (f' := (230, [some (.ref 1), some (.int x1), some (.int x2), some (.int x3), some (.int x4), some (.int x5), some (.int x6), some (.int x7), some (.int x8), some (.int x9), some (.int x10), some (.int (x11 + (1 : Int32)))], [], (gsI μ 57 x11.toNatClampNeg (vp_nar .char x9)))) (cs := [vp_in x11 50]) rfl c1 ?_
      exact h
set_option maxRecDepth 20000 in
theorem vc_175_137 {μ : gMu} {x1 : Int32} {x2 : Int32} {x3 : Int32} {x4 : Int32} {x5 : Int32} {x6 : Int32} {x7 : Int32} {x8 : Int32} {P : gMu → gRes → Prop} (h : ((x2 ≤ x8) → (((¬ x7 = x1) → ((vp_in (x7 - (1 : Int32)) 50) ∧ (((¬ (gI μ 57 ((x7 - (1 : Int32)).toNatClampNeg)) = (76 : Int32)) → (((¬ x8 = x2) → ((vp_in x8 50) ∧ (((¬ (gI μ 57 x8.toNatClampNeg) = (76 : Int32)) → (gWp none 175 (230, [some (.ref 1), some (.int x1), some (.int x2), some (.int x3), some (.int x4), some (.int x5), some (.int x6), some (.int x7), some (.int x8), some (.int (82 : Int32)), some (.int (82 : Int32)), some (.int x7)], [], μ) 0 P)) ∧ (((gI μ 57 x8.toNatClampNeg) = (76 : Int32)) → (gWp none 175 (230, [some (.ref 1), some (.int x1), some (.int x2), some (.int x3), some (.int x4), some (.int x5), some (.int x6), some (.int x7), some (.int x8), some (.int (82 : Int32)), some (.int (76 : Int32)), some (.int x7)], [], μ) 0 P))))) ∧ ((x8 = x2) → (gWp none 175 (230, [some (.ref 1), some (.int x1), some (.int x2), some (.int x3), some (.int x4), some (.int x5), some (.int x6), some (.int x7), some (.int x8), some (.int (82 : Int32)), some (.int x4), some (.int x7)], [], μ) 0 P)))) ∧ (((gI μ 57 ((x7 - (1 : Int32)).toNatClampNeg)) = (76 : Int32)) → (((¬ x8 = x2) → ((vp_in x8 50) ∧ (((¬ (gI μ 57 x8.toNatClampNeg) = (76 : Int32)) → (gWp none 175 (230, [some (.ref 1), some (.int x1), some (.int x2), some (.int x3), some (.int x4), some (.int x5), some (.int x6), some (.int x7), some (.int x8), some (.int (76 : Int32)), some (.int (82 : Int32)), some (.int x7)], [], μ) 0 P)) ∧ (((gI μ 57 x8.toNatClampNeg) = (76 : Int32)) → (gWp none 175 (230, [some (.ref 1), some (.int x1), some (.int x2), some (.int x3), some (.int x4), some (.int x5), some (.int x6), some (.int x7), some (.int x8), some (.int (76 : Int32)), some (.int (76 : Int32)), some (.int x7)], [], μ) 0 P))))) ∧ ((x8 = x2) → (gWp none 175 (230, [some (.ref 1), some (.int x1), some (.int x2), some (.int x3), some (.int x4), some (.int x5), some (.int x6), some (.int x7), some (.int x8), some (.int (76 : Int32)), some (.int x4), some (.int x7)], [], μ) 0 P))))))) ∧ ((x7 = x1) → (((¬ x8 = x2) → ((vp_in x8 50) ∧ (((¬ (gI μ 57 x8.toNatClampNeg) = (76 : Int32)) → (gWp none 175 (230, [some (.ref 1), some (.int x1), some (.int x2), some (.int x3), some (.int x4), some (.int x5), some (.int x6), some (.int x7), some (.int x8), some (.int x3), some (.int (82 : Int32)), some (.int x7)], [], μ) 0 P)) ∧ (((gI μ 57 x8.toNatClampNeg) = (76 : Int32)) → (gWp none 175 (230, [some (.ref 1), some (.int x1), some (.int x2), some (.int x3), some (.int x4), some (.int x5), some (.int x6), some (.int x7), some (.int x8), some (.int x3), some (.int (76 : Int32)), some (.int x7)], [], μ) 0 P))))) ∧ ((x8 = x2) → (gWp none 175 (230, [some (.ref 1), some (.int x1), some (.int x2), some (.int x3), some (.int x4), some (.int x5), some (.int x6), some (.int x7), some (.int x8), some (.int x3), some (.int x4), some (.int x7)], [], μ) 0 P)))))) ∧ ((¬ x2 ≤ x8) → ((vp_in x8 50) ∧ (((¬ (gI μ 57 x8.toNatClampNeg) = (32 : Int32)) → (((¬ x7 = x1) → ((vp_in (x7 - (1 : Int32)) 50) ∧ (((¬ (gI μ 57 ((x7 - (1 : Int32)).toNatClampNeg)) = (76 : Int32)) → (((¬ x8 = x2) → ((vp_in x8 50) ∧ (((¬ (gI μ 57 x8.toNatClampNeg) = (76 : Int32)) → (gWp none 175 (230, [some (.ref 1), some (.int x1), some (.int x2), some (.int x3), some (.int x4), some (.int x5), some (.int x6), some (.int x7), some (.int x8), some (.int (82 : Int32)), some (.int (82 : Int32)), some (.int x7)], [], μ) 0 P)) ∧ (((gI μ 57 x8.toNatClampNeg) = (76 : Int32)) → (gWp none 175 (230, [some (.ref 1), some (.int x1), some (.int x2), some (.int x3), some (.int x4), some (.int x5), some (.int x6), some (.int x7), some (.int x8), some (.int (82 : Int32)), some (.int (76 : Int32)), some (.int x7)], [], μ) 0 P))))) ∧ ((x8 = x2) → (gWp none 175 (230, [some (.ref 1), some (.int x1), some (.int x2), some (.int x3), some (.int x4), some (.int x5), some (.int x6), some (.int x7), some (.int x8), some (.int (82 : Int32)), some (.int x4), some (.int x7)], [], μ) 0 P)))) ∧ (((gI μ 57 ((x7 - (1 : Int32)).toNatClampNeg)) = (76 : Int32)) → (((¬ x8 = x2) → ((vp_in x8 50) ∧ (((¬ (gI μ 57 x8.toNatClampNeg) = (76 : Int32)) → (gWp none 175 (230, [some (.ref 1), some (.int x1), some (.int x2), some (.int x3), some (.int x4), some (.int x5), some (.int x6), some (.int x7), some (.int x8), some (.int (76 : Int32)), some (.int (82 : Int32)), some (.int x7)], [], μ) 0 P)) ∧ (((gI μ 57 x8.toNatClampNeg) = (76 : Int32)) → (gWp none 175 (230, [some (.ref 1), some (.int x1), some (.int x2), some (.int x3), some (.int x4), some (.int x5), some (.int x6), some (.int x7), some (.int x8), some (.int (76 : Int32)), some (.int (76 : Int32)), some (.int x7)], [], μ) 0 P))))) ∧ ((x8 = x2) → (gWp none 175 (230, [some (.ref 1), some (.int x1), some (.int x2), some (.int x3), some (.int x4), some (.int x5), some (.int x6), some (.int x7), some (.int x8), some (.int (76 : Int32)), some (.int x4), some (.int x7)], [], μ) 0 P))))))) ∧ ((x7 = x1) → (((¬ x8 = x2) → ((vp_in x8 50) ∧ (((¬ (gI μ 57 x8.toNatClampNeg) = (76 : Int32)) → (gWp none 175 (230, [some (.ref 1), some (.int x1), some (.int x2), some (.int x3), some (.int x4), some (.int x5), some (.int x6), some (.int x7), some (.int x8), some (.int x3), some (.int (82 : Int32)), some (.int x7)], [], μ) 0 P)) ∧ (((gI μ 57 x8.toNatClampNeg) = (76 : Int32)) → (gWp none 175 (230, [some (.ref 1), some (.int x1), some (.int x2), some (.int x3), some (.int x4), some (.int x5), some (.int x6), some (.int x7), some (.int x8), some (.int x3), some (.int (76 : Int32)), some (.int x7)], [], μ) 0 P))))) ∧ ((x8 = x2) → (gWp none 175 (230, [some (.ref 1), some (.int x1), some (.int x2), some (.int x3), some (.int x4), some (.int x5), some (.int x6), some (.int x7), some (.int x8), some (.int x3), some (.int x4), some (.int x7)], [], μ) 0 P)))))) ∧ (((gI μ 57 x8.toNatClampNeg) = (32 : Int32)) → (gWp none 175 (137, [some (.ref 1), some (.int x1), some (.int x2), some (.int x3), some (.int x4), some (.int x5), some (.int x6), some (.int x7), some (.int (x8 + (1 : Int32))), none, none, none], [], μ) 0 P)))))) : gWp none 175 (137, [some (.ref 1), some (.int x1), some (.int x2), some (.int x3), some (.int x4), some (.int x5), some (.int x6), some (.int x7), some (.int x8), none, none, none], [], μ) 0 P := by
  refine gWp_sts gT_175 2 (f' := (140, [some (.ref 1), some (.int x1), some (.int x2), some (.int x3), some (.int x4), some (.int x5), some (.int x6), some (.int x7), some (.int x8), none, none, none], [.int x2, .int x8], μ)) (cs := []) rfl trivial ?_
  refine gWp_icmp gT_175 (pc := 140) rfl ⟨fun c => ?_, fun c => ?_⟩
  · replace h := h.1 (of_decide_eq_true c)
    refine gWp_sts gT_175 2 (f' := (164, [some (.ref 1), some (.int x1), some (.int x2), some (.int x3), some (.int x4), some (.int x5), some (.int x6), some (.int x7), some (.int x8), none, none, none], [.int x1, .int x7], μ)) (cs := []) rfl trivial ?_
    refine gWp_icmp gT_175 (pc := 164) rfl ⟨fun c => ?_, fun c => ?_⟩
    · replace h := h.1 (of_decide_eq_true c)
      obtain ⟨c1, h⟩ := h
      refine gWp_sts gT_175 7 (f' := (182, [some (.ref 1), some (.int x1), some (.int x2), some (.int x3), some (.int x4), some (.int x5), some (.int x6), some (.int x7), some (.int x8), none, none, none], [.int (76 : Int32), .int (gI μ 57 ((x7 - (1 : Int32)).toNatClampNeg))], μ)) (cs := [vp_in (x7 - (1 : Int32)) 50]) rfl c1 ?_
      refine gWp_icmp gT_175 (pc := 182) rfl ⟨fun c => ?_, fun c => ?_⟩
      · replace h := h.1 (of_decide_eq_true c)
        refine gWp_sts gT_175 4 (f' := (197, [some (.ref 1), some (.int x1), some (.int x2), some (.int x3), some (.int x4), some (.int x5), some (.int x6), some (.int x7), some (.int x8), some (.int (82 : Int32)), none, none], [.int x2, .int x8], μ)) (cs := []) rfl trivial ?_
        refine gWp_icmp gT_175 (pc := 197) rfl ⟨fun c => ?_, fun c => ?_⟩
        · replace h := h.1 (of_decide_eq_true c)
          obtain ⟨c1, h⟩ := h
          refine gWp_sts gT_175 5 (f' := (214, [some (.ref 1), some (.int x1), some (.int x2), some (.int x3), some (.int x4), some (.int x5), some (.int x6), some (.int x7), some (.int x8), some (.int (82 : Int32)), none, none], [.int (76 : Int32), .int (gI μ 57 x8.toNatClampNeg)], μ)) (cs := [vp_in x8 50]) rfl c1 ?_
          refine gWp_icmp gT_175 (pc := 214) rfl ⟨fun c => ?_, fun c => ?_⟩
          · replace h := h.1 (of_decide_eq_true c)
            refine gWp_sts gT_175 4 (f' := (230, [some (.ref 1), some (.int x1), some (.int x2), some (.int x3), some (.int x4), some (.int x5), some (.int x6), some (.int x7), some (.int x8), some (.int (82 : Int32)), some (.int (82 : Int32)), some (.int x7)], [], μ)) (cs := []) rfl trivial ?_
            exact h
          · replace h := h.2 (Classical.not_not.mp (fun q => c (decide_eq_true q)))
            refine gWp_sts gT_175 5 (f' := (230, [some (.ref 1), some (.int x1), some (.int x2), some (.int x3), some (.int x4), some (.int x5), some (.int x6), some (.int x7), some (.int x8), some (.int (82 : Int32)), some (.int (76 : Int32)), some (.int x7)], [], μ)) (cs := []) rfl trivial ?_
            exact h
        · replace h := h.2 (Classical.not_not.mp (fun q => c (decide_eq_true q)))
          refine gWp_sts gT_175 5 (f' := (230, [some (.ref 1), some (.int x1), some (.int x2), some (.int x3), some (.int x4), some (.int x5), some (.int x6), some (.int x7), some (.int x8), some (.int (82 : Int32)), some (.int x4), some (.int x7)], [], μ)) (cs := []) rfl trivial ?_
          exact h
      · replace h := h.2 (Classical.not_not.mp (fun q => c (decide_eq_true q)))
        refine gWp_sts gT_175 5 (f' := (197, [some (.ref 1), some (.int x1), some (.int x2), some (.int x3), some (.int x4), some (.int x5), some (.int x6), some (.int x7), some (.int x8), some (.int (76 : Int32)), none, none], [.int x2, .int x8], μ)) (cs := []) rfl trivial ?_
        refine gWp_icmp gT_175 (pc := 197) rfl ⟨fun c => ?_, fun c => ?_⟩
        · replace h := h.1 (of_decide_eq_true c)
          obtain ⟨c1, h⟩ := h
          refine gWp_sts gT_175 5 (f' := (214, [some (.ref 1), some (.int x1), some (.int x2), some (.int x3), some (.int x4), some (.int x5), some (.int x6), some (.int x7), some (.int x8), some (.int (76 : Int32)), none, none], [.int (76 : Int32), .int (gI μ 57 x8.toNatClampNeg)], μ)) (cs := [vp_in x8 50]) rfl c1 ?_
          refine gWp_icmp gT_175 (pc := 214) rfl ⟨fun c => ?_, fun c => ?_⟩
          · replace h := h.1 (of_decide_eq_true c)
            refine gWp_sts gT_175 4 (f' := (230, [some (.ref 1), some (.int x1), some (.int x2), some (.int x3), some (.int x4), some (.int x5), some (.int x6), some (.int x7), some (.int x8), some (.int (76 : Int32)), some (.int (82 : Int32)), some (.int x7)], [], μ)) (cs := []) rfl trivial ?_
            exact h
          · replace h := h.2 (Classical.not_not.mp (fun q => c (decide_eq_true q)))
            refine gWp_sts gT_175 5 (f' := (230, [some (.ref 1), some (.int x1), some (.int x2), some (.int x3), some (.int x4), some (.int x5), some (.int x6), some (.int x7), some (.int x8), some (.int (76 : Int32)), some (.int (76 : Int32)), some (.int x7)], [], μ)) (cs := []) rfl trivial ?_
            exact h
        · replace h := h.2 (Classical.not_not.mp (fun q => c (decide_eq_true q)))
          refine gWp_sts gT_175 5 (f' := (230, [some (.ref 1), some (.int x1), some (.int x2), some (.int x3), some (.int x4), some (.int x5), some (.int x6), some (.int x7), some (.int x8), some (.int (76 : Int32)), some (.int x4), some (.int x7)], [], μ)) (cs := []) rfl trivial ?_
          exact h
    · replace h := h.2 (Classical.not_not.mp (fun q => c (decide_eq_true q)))
      refine gWp_sts gT_175 5 (f' := (197, [some (.ref 1), some (.int x1), some (.int x2), some (.int x3), some (.int x4), some (.int x5), some (.int x6), some (.int x7), some (.int x8), some (.int x3), none, none], [.int x2, .int x8], μ)) (cs := []) rfl trivial ?_
      refine gWp_icmp gT_175 (pc := 197) rfl ⟨fun c => ?_, fun c => ?_⟩
      · replace h := h.1 (of_decide_eq_true c)
        obtain ⟨c1, h⟩ := h
        refine gWp_sts gT_175 5 (f' := (214, [some (.ref 1), some (.int x1), some (.int x2), some (.int x3), some (.int x4), some (.int x5), some (.int x6), some (.int x7), some (.int x8), some (.int x3), none, none], [.int (76 : Int32), .int (gI μ 57 x8.toNatClampNeg)], μ)) (cs := [vp_in x8 50]) rfl c1 ?_
        refine gWp_icmp gT_175 (pc := 214) rfl ⟨fun c => ?_, fun c => ?_⟩
        · replace h := h.1 (of_decide_eq_true c)
          refine gWp_sts gT_175 4 (f' := (230, [some (.ref 1), some (.int x1), some (.int x2), some (.int x3), some (.int x4), some (.int x5), some (.int x6), some (.int x7), some (.int x8), some (.int x3), some (.int (82 : Int32)), some (.int x7)], [], μ)) (cs := []) rfl trivial ?_
          exact h
        · replace h := h.2 (Classical.not_not.mp (fun q => c (decide_eq_true q)))
          refine gWp_sts gT_175 5 (f' := (230, [some (.ref 1), some (.int x1), some (.int x2), some (.int x3), some (.int x4), some (.int x5), some (.int x6), some (.int x7), some (.int x8), some (.int x3), some (.int (76 : Int32)), some (.int x7)], [], μ)) (cs := []) rfl trivial ?_
          exact h
      · replace h := h.2 (Classical.not_not.mp (fun q => c (decide_eq_true q)))
        refine gWp_sts gT_175 5 (f' := (230, [some (.ref 1), some (.int x1), some (.int x2), some (.int x3), some (.int x4), some (.int x5), some (.int x6), some (.int x7), some (.int x8), some (.int x3), some (.int x4), some (.int x7)], [], μ)) (cs := []) rfl trivial ?_
        exact h
  · replace h := h.2 (fun q => c (decide_eq_true q))
    obtain ⟨c1, h⟩ := h
    refine gWp_sts gT_175 5 (f' := (152, [some (.ref 1), some (.int x1), some (.int x2), some (.int x3), some (.int x4), some (.int x5), some (.int x6), some (.int x7), some (.int x8), none, none, none], [.int (32 : Int32), .int (gI μ 57 x8.toNatClampNeg)], μ)) (cs := [vp_in x8 50]) rfl c1 ?_
    refine gWp_icmp gT_175 (pc := 152) rfl ⟨fun c => ?_, fun c => ?_⟩
    · replace h := h.1 (of_decide_eq_true c)
      refine gWp_sts gT_175 2 (f' := (164, [some (.ref 1), some (.int x1), some (.int x2), some (.int x3), some (.int x4), some (.int x5), some (.int x6), some (.int x7), some (.int x8), none, none, none], [.int x1, .int x7], μ)) (cs := []) rfl trivial ?_
      refine gWp_icmp gT_175 (pc := 164) rfl ⟨fun c => ?_, fun c => ?_⟩
      · replace h := h.1 (of_decide_eq_true c)
        obtain ⟨c1, h⟩ := h
        refine gWp_sts gT_175 7 (f' := (182, [some (.ref 1), some (.int x1), some (.int x2), some (.int x3), some (.int x4), some (.int x5), some (.int x6), some (.int x7), some (.int x8), none, none, none], [.int (76 : Int32), .int (gI μ 57 ((x7 - (1 : Int32)).toNatClampNeg))], μ)) (cs := [vp_in (x7 - (1 : Int32)) 50]) rfl c1 ?_
        refine gWp_icmp gT_175 (pc := 182) rfl ⟨fun c => ?_, fun c => ?_⟩
        · replace h := h.1 (of_decide_eq_true c)
          refine gWp_sts gT_175 4 (f' := (197, [some (.ref 1), some (.int x1), some (.int x2), some (.int x3), some (.int x4), some (.int x5), some (.int x6), some (.int x7), some (.int x8), some (.int (82 : Int32)), none, none], [.int x2, .int x8], μ)) (cs := []) rfl trivial ?_
          refine gWp_icmp gT_175 (pc := 197) rfl ⟨fun c => ?_, fun c => ?_⟩
          · replace h := h.1 (of_decide_eq_true c)
            obtain ⟨c1, h⟩ := h
            refine gWp_sts gT_175 5 (f' := (214, [some (.ref 1), some (.int x1), some (.int x2), some (.int x3), some (.int x4), some (.int x5), some (.int x6), some (.int x7), some (.int x8), some (.int (82 : Int32)), none, none], [.int (76 : Int32), .int (gI μ 57 x8.toNatClampNeg)], μ)) (cs := [vp_in x8 50]) rfl c1 ?_
            refine gWp_icmp gT_175 (pc := 214) rfl ⟨fun c => ?_, fun c => ?_⟩
            · replace h := h.1 (of_decide_eq_true c)
              refine gWp_sts gT_175 4 (f' := (230, [some (.ref 1), some (.int x1), some (.int x2), some (.int x3), some (.int x4), some (.int x5), some (.int x6), some (.int x7), some (.int x8), some (.int (82 : Int32)), some (.int (82 : Int32)), some (.int x7)], [], μ)) (cs := []) rfl trivial ?_
              exact h
            · replace h := h.2 (Classical.not_not.mp (fun q => c (decide_eq_true q)))
              refine gWp_sts gT_175 5 (f' := (230, [some (.ref 1), some (.int x1), some (.int x2), some (.int x3), some (.int x4), some (.int x5), some (.int x6), some (.int x7), some (.int x8), some (.int (82 : Int32)), some (.int (76 : Int32)), some (.int x7)], [], μ)) (cs := []) rfl trivial ?_
              exact h
          · replace h := h.2 (Classical.not_not.mp (fun q => c (decide_eq_true q)))
            refine gWp_sts gT_175 5 (f' := (230, [some (.ref 1), some (.int x1), some (.int x2), some (.int x3), some (.int x4), some (.int x5), some (.int x6), some (.int x7), some (.int x8), some (.int (82 : Int32)), some (.int x4), some (.int x7)], [], μ)) (cs := []) rfl trivial ?_
            exact h
        · replace h := h.2 (Classical.not_not.mp (fun q => c (decide_eq_true q)))
          refine gWp_sts gT_175 5 (f' := (197, [some (.ref 1), some (.int x1), some (.int x2), some (.int x3), some (.int x4), some (.int x5), some (.int x6), some (.int x7), some (.int x8), some (.int (76 : Int32)), none, none], [.int x2, .int x8], μ)) (cs := []) rfl trivial ?_
          refine gWp_icmp gT_175 (pc := 197) rfl ⟨fun c => ?_, fun c => ?_⟩
          · replace h := h.1 (of_decide_eq_true c)
            obtain ⟨c1, h⟩ := h
            refine gWp_sts gT_175 5 (f' := (214, [some (.ref 1), some (.int x1), some (.int x2), some (.int x3), some (.int x4), some (.int x5), some (.int x6), some (.int x7), some (.int x8), some (.int (76 : Int32)), none, none], [.int (76 : Int32), .int (gI μ 57 x8.toNatClampNeg)], μ)) (cs := [vp_in x8 50]) rfl c1 ?_
            refine gWp_icmp gT_175 (pc := 214) rfl ⟨fun c => ?_, fun c => ?_⟩
            · replace h := h.1 (of_decide_eq_true c)
              refine gWp_sts gT_175 4 (f' := (230, [some (.ref 1), some (.int x1), some (.int x2), some (.int x3), some (.int x4), some (.int x5), some (.int x6), some (.int x7), some (.int x8), some (.int (76 : Int32)), some (.int (82 : Int32)), some (.int x7)], [], μ)) (cs := []) rfl trivial ?_
              exact h
            · replace h := h.2 (Classical.not_not.mp (fun q => c (decide_eq_true q)))
              refine gWp_sts gT_175 5 (f' := (230, [some (.ref 1), some (.int x1), some (.int x2), some (.int x3), some (.int x4), some (.int x5), some (.int x6), some (.int x7), some (.int x8), some (.int (76 : Int32)), some (.int (76 : Int32)), some (.int x7)], [], μ)) (cs := []) rfl trivial ?_
              exact h
          · replace h := h.2 (Classical.not_not.mp (fun q => c (decide_eq_true q)))
            refine gWp_sts gT_175 5 (f' := (230, [some (.ref 1), some (.int x1), some (.int x2), some (.int x3), some (.int x4), some (.int x5), some (.int x6), some (.int x7), some (.int x8), some (.int (76 : Int32)), some (.int x4), some (.int x7)], [], μ)) (cs := []) rfl trivial ?_
            exact h
      · replace h := h.2 (Classical.not_not.mp (fun q => c (decide_eq_true q)))
        refine gWp_sts gT_175 5 (f' := (197, [some (.ref 1), some (.int x1), some (.int x2), some (.int x3), some (.int x4), some (.int x5), some (.int x6), some (.int x7), some (.int x8), some (.int x3), none, none], [.int x2, .int x8], μ)) (cs := []) rfl trivial ?_
        refine gWp_icmp gT_175 (pc := 197) rfl ⟨fun c => ?_, fun c => ?_⟩
        · replace h := h.1 (of_decide_eq_true c)
          obtain ⟨c1, h⟩ := h
          refine gWp_sts gT_175 5 (f' := (214, [some (.ref 1), some (.int x1), some (.int x2), some (.int x3), some (.int x4), some (.int x5), some (.int x6), some (.int x7), some (.int x8), some (.int x3), none, none], [.int (76 : Int32), .int (gI μ 57 x8.toNatClampNeg)], μ)) (cs := [vp_in x8 50]) rfl c1 ?_
          refine gWp_icmp gT_175 (pc := 214) rfl ⟨fun c => ?_, fun c => ?_⟩
          · replace h := h.1 (of_decide_eq_true c)
            refine gWp_sts gT_175 4 (f' := (230, [some (.ref 1), some (.int x1), some (.int x2), some (.int x3), some (.int x4), some (.int x5), some (.int x6), some (.int x7), some (.int x8), some (.int x3), some (.int (82 : Int32)), some (.int x7)], [], μ)) (cs := []) rfl trivial ?_
            exact h
          · replace h := h.2 (Classical.not_not.mp (fun q => c (decide_eq_true q)))
            refine gWp_sts gT_175 5 (f' := (230, [some (.ref 1), some (.int x1), some (.int x2), some (.int x3), some (.int x4), some (.int x5), some (.int x6), some (.int x7), some (.int x8), some (.int x3), some (.int (76 : Int32)), some (.int x7)], [], μ)) (cs := []) rfl trivial ?_
            exact h
        · replace h := h.2 (Classical.not_not.mp (fun q => c (decide_eq_true q)))
          refine gWp_sts gT_175 5 (f' := (230, [some (.ref 1), some (.int x1), some (.int x2), some (.int x3), some (.int x4), some (.int x5), some (.int x6), some (.int x7), some (.int x8), some (.int x3), some (.int x4), some (.int x7)], [], μ)) (cs := []) rfl trivial ?_
          exact h
    · replace h := h.2 (Classical.not_not.mp (fun q => c (decide_eq_true q)))
      refine gWp_sts gT_175 2 (f' := (137, [some (.ref 1), some (.int x1), some (.int x2), some (.int x3), some (.int x4), some (.int x5), some (.int x6), some (.int x7), some (.int (x8 + (1 : Int32))), none, none, none], [], μ)) (cs := []) rfl trivial ?_
      exact h
set_option maxRecDepth 20000 in
theorem vc_175_115 {μ : gMu} {x1 : Int32} {x2 : Int32} {x3 : Int32} {x4 : Int32} {x5 : Int32} {x6 : Int32} {x7 : Int32} {P : gMu → gRes → Prop} (h : ((x2 ≤ x7) → (gWp none 175 (276, [some (.ref 1), some (.int x1), some (.int x2), some (.int x3), some (.int x4), some (.int x5), some (.int x6), some (.int x1), none, none, none, none], [], μ) 0 P)) ∧ ((¬ x2 ≤ x7) → ((vp_in x7 50) ∧ (((¬ (gI μ 57 x7.toNatClampNeg) = (32 : Int32)) → (gWp none 175 (115, [some (.ref 1), some (.int x1), some (.int x2), some (.int x3), some (.int x4), some (.int x5), some (.int x6), some (.int (x7 + (1 : Int32))), none, none, none, none], [], μ) 0 P)) ∧ (((gI μ 57 x7.toNatClampNeg) = (32 : Int32)) → (gWp none 175 (137, [some (.ref 1), some (.int x1), some (.int x2), some (.int x3), some (.int x4), some (.int x5), some (.int x6), some (.int x7), some (.int x7), none, none, none], [], μ) 0 P)))))) : gWp none 175 (115, [some (.ref 1), some (.int x1), some (.int x2), some (.int x3), some (.int x4), some (.int x5), some (.int x6), some (.int x7), none, none, none, none], [], μ) 0 P := by
  refine gWp_sts gT_175 2 (f' := (118, [some (.ref 1), some (.int x1), some (.int x2), some (.int x3), some (.int x4), some (.int x5), some (.int x6), some (.int x7), none, none, none, none], [.int x2, .int x7], μ)) (cs := []) rfl trivial ?_
  refine gWp_icmp gT_175 (pc := 118) rfl ⟨fun c => ?_, fun c => ?_⟩
  · replace h := h.1 (of_decide_eq_true c)
    refine gWp_sts gT_175 2 (f' := (276, [some (.ref 1), some (.int x1), some (.int x2), some (.int x3), some (.int x4), some (.int x5), some (.int x6), some (.int x1), none, none, none, none], [], μ)) (cs := []) rfl trivial ?_
    exact h
  · replace h := h.2 (fun q => c (decide_eq_true q))
    obtain ⟨c1, h⟩ := h
    refine gWp_sts gT_175 5 (f' := (130, [some (.ref 1), some (.int x1), some (.int x2), some (.int x3), some (.int x4), some (.int x5), some (.int x6), some (.int x7), none, none, none, none], [.int (32 : Int32), .int (gI μ 57 x7.toNatClampNeg)], μ)) (cs := [vp_in x7 50]) rfl c1 ?_
    refine gWp_icmp gT_175 (pc := 130) rfl ⟨fun c => ?_, fun c => ?_⟩
    · replace h := h.1 (of_decide_eq_true c)
      refine gWp_sts gT_175 2 (f' := (115, [some (.ref 1), some (.int x1), some (.int x2), some (.int x3), some (.int x4), some (.int x5), some (.int x6), some (.int (x7 + (1 : Int32))), none, none, none, none], [], μ)) (cs := []) rfl trivial ?_
      exact h
    · replace h := h.2 (Classical.not_not.mp (fun q => c (decide_eq_true q)))
      refine gWp_sts gT_175 2 (f' := (137, [some (.ref 1), some (.int x1), some (.int x2), some (.int x3), some (.int x4), some (.int x5), some (.int x6), some (.int x7), some (.int x7), none, none, none], [], μ)) (cs := []) rfl trivial ?_
      exact h
set_option maxRecDepth 20000 in
theorem vc_175_6 {μ : gMu} {x1 : Int32} {x2 : Int32} {x3 : Int32} {x4 : Int32} {x5 : Int32} {x6 : Int32} {P : gMu → gRes → Prop} (h : ((x2 ≤ x6) → ((vp_in x1 50) ∧ (gWp none 175 (115, [some (.ref 1), some (.int x1), some (.int x2), some (.int x3), some (.int x4), some (.int x5), some (.int (gI μ 51 x1.toNatClampNeg)), some (.int x1), none, none, none, none], [], μ) 0 P))) ∧ ((¬ x2 ≤ x6) → ((vp_in x6 50) ∧ (gCl' 154 [.int (gI μ 50 x6.toNatClampNeg)] μ (fun μ1 r => (∃ v2, r = .inl (some (.int v2)) ∧ (((v2 = 0) → (gCl' 155 [.int (gI μ 50 x6.toNatClampNeg)] μ1 (fun μ3 r => (∃ v4, r = .inl (some (.int v4)) ∧ (((v4 = 0) → (gCl' 155 [.int (gI μ 50 x6.toNatClampNeg)] μ3 (fun μ5 r => (∃ v6, r = .inl (some (.int v6)) ∧ (((v6 = 0) → (gCl' 156 [.int (gI μ 50 x6.toNatClampNeg)] μ5 (fun μ7 r => (∃ v8, r = .inl (some (.int v8)) ∧ (((v8 = 0) → (((¬ x5 = (76 : Int32)) → ((vp_in x6 50) ∧ (gWp none 175 (6, [some (.ref 1), some (.int x1), some (.int x2), some (.int x3), some (.int x4), some (.int x5), some (.int (x6 + (1 : Int32))), some (.int (gI μ 50 x6.toNatClampNeg)), none, none, none, none], [], (gsI μ7 57 x6.toNatClampNeg (vp_nar .char (78 : Int32)))) 0 P))) ∧ ((x5 = (76 : Int32)) → ((vp_in x6 50) ∧ (gWp none 175 (6, [some (.ref 1), some (.int x1), some (.int x2), some (.int x3), some (.int x4), some (.int x5), some (.int (x6 + (1 : Int32))), some (.int (gI μ 50 x6.toNatClampNeg)), none, none, none, none], [], (gsI μ7 57 x6.toNatClampNeg (vp_nar .char (76 : Int32)))) 0 P))))) ∧ ((¬ v8 = 0) → ((vp_in x6 50) ∧ (gWp none 175 (6, [some (.ref 1), some (.int x1), some (.int x2), some (.int x3), some (.int x4), some (.int x5), some (.int (x6 + (1 : Int32))), some (.int (gI μ 50 x6.toNatClampNeg)), none, none, none, none], [], (gsI μ7 57 x6.toNatClampNeg (vp_nar .char (32 : Int32)))) 0 P)))))))) ∧ ((¬ v6 = 0) → ((vp_in x6 50) ∧ (gWp none 175 (6, [some (.ref 1), some (.int x1), some (.int x2), some (.int x3), some (.int x4), some (.int x5), some (.int (x6 + (1 : Int32))), some (.int (gI μ 50 x6.toNatClampNeg)), none, none, none, none], [], (gsI μ5 57 x6.toNatClampNeg (vp_nar .char x5))) 0 P)))))))) ∧ ((¬ v4 = 0) → (gCl' 155 [.int (gI μ 50 x6.toNatClampNeg)] μ3 (fun μ9 r => (∃ v10, r = .inl (some (.int v10)) ∧ (((v10 = 0) → (gCl' 156 [.int (gI μ 50 x6.toNatClampNeg)] μ9 (fun μ11 r => (∃ v12, r = .inl (some (.int v12)) ∧ (((v12 = 0) → (((¬ (82 : Int32) = (76 : Int32)) → ((vp_in x6 50) ∧ (gWp none 175 (6, [some (.ref 1), some (.int x1), some (.int x2), some (.int x3), some (.int x4), some (.int (82 : Int32)), some (.int (x6 + (1 : Int32))), some (.int (gI μ 50 x6.toNatClampNeg)), none, none, none, none], [], (gsI μ11 57 x6.toNatClampNeg (vp_nar .char (78 : Int32)))) 0 P))) ∧ (((82 : Int32) = (76 : Int32)) → ((vp_in x6 50) ∧ (gWp none 175 (6, [some (.ref 1), some (.int x1), some (.int x2), some (.int x3), some (.int x4), some (.int (82 : Int32)), some (.int (x6 + (1 : Int32))), some (.int (gI μ 50 x6.toNatClampNeg)), none, none, none, none], [], (gsI μ11 57 x6.toNatClampNeg (vp_nar .char (76 : Int32)))) 0 P))))) ∧ ((¬ v12 = 0) → ((vp_in x6 50) ∧ (gWp none 175 (6, [some (.ref 1), some (.int x1), some (.int x2), some (.int x3), some (.int x4), some (.int (82 : Int32)), some (.int (x6 + (1 : Int32))), some (.int (gI μ 50 x6.toNatClampNeg)), none, none, none, none], [], (gsI μ11 57 x6.toNatClampNeg (vp_nar .char (32 : Int32)))) 0 P)))))))) ∧ ((¬ v10 = 0) → ((vp_in x6 50) ∧ (gWp none 175 (6, [some (.ref 1), some (.int x1), some (.int x2), some (.int x3), some (.int x4), some (.int (82 : Int32)), some (.int (x6 + (1 : Int32))), some (.int (gI μ 50 x6.toNatClampNeg)), none, none, none, none], [], (gsI μ9 57 x6.toNatClampNeg (vp_nar .char (82 : Int32)))) 0 P))))))))))))) ∧ ((¬ v2 = 0) → (gCl' 155 [.int (gI μ 50 x6.toNatClampNeg)] μ1 (fun μ13 r => (∃ v14, r = .inl (some (.int v14)) ∧ (((v14 = 0) → (gCl' 156 [.int (gI μ 50 x6.toNatClampNeg)] μ13 (fun μ15 r => (∃ v16, r = .inl (some (.int v16)) ∧ (((v16 = 0) → (((¬ (76 : Int32) = (76 : Int32)) → ((vp_in x6 50) ∧ (gWp none 175 (6, [some (.ref 1), some (.int x1), some (.int x2), some (.int x3), some (.int x4), some (.int (76 : Int32)), some (.int (x6 + (1 : Int32))), some (.int (gI μ 50 x6.toNatClampNeg)), none, none, none, none], [], (gsI μ15 57 x6.toNatClampNeg (vp_nar .char (78 : Int32)))) 0 P))) ∧ (((76 : Int32) = (76 : Int32)) → ((vp_in x6 50) ∧ (gWp none 175 (6, [some (.ref 1), some (.int x1), some (.int x2), some (.int x3), some (.int x4), some (.int (76 : Int32)), some (.int (x6 + (1 : Int32))), some (.int (gI μ 50 x6.toNatClampNeg)), none, none, none, none], [], (gsI μ15 57 x6.toNatClampNeg (vp_nar .char (76 : Int32)))) 0 P))))) ∧ ((¬ v16 = 0) → ((vp_in x6 50) ∧ (gWp none 175 (6, [some (.ref 1), some (.int x1), some (.int x2), some (.int x3), some (.int x4), some (.int (76 : Int32)), some (.int (x6 + (1 : Int32))), some (.int (gI μ 50 x6.toNatClampNeg)), none, none, none, none], [], (gsI μ15 57 x6.toNatClampNeg (vp_nar .char (32 : Int32)))) 0 P)))))))) ∧ ((¬ v14 = 0) → ((vp_in x6 50) ∧ (gWp none 175 (6, [some (.ref 1), some (.int x1), some (.int x2), some (.int x3), some (.int x4), some (.int (76 : Int32)), some (.int (x6 + (1 : Int32))), some (.int (gI μ 50 x6.toNatClampNeg)), none, none, none, none], [], (gsI μ13 57 x6.toNatClampNeg (vp_nar .char (76 : Int32)))) 0 P))))))))))))))) : gWp none 175 (6, [some (.ref 1), some (.int x1), some (.int x2), some (.int x3), some (.int x4), some (.int x5), some (.int x6), none, none, none, none, none], [], μ) 0 P := by
  refine gWp_sts gT_175 2 (f' := (9, [some (.ref 1), some (.int x1), some (.int x2), some (.int x3), some (.int x4), some (.int x5), some (.int x6), none, none, none, none, none], [.int x2, .int x6], μ)) (cs := []) rfl trivial ?_
  refine gWp_icmp gT_175 (pc := 9) rfl ⟨fun c => ?_, fun c => ?_⟩
  · replace h := h.1 (of_decide_eq_true c)
    obtain ⟨c1, h⟩ := h
    refine gWp_sts gT_175 7 (f' := (115, [some (.ref 1), some (.int x1), some (.int x2), some (.int x3), some (.int x4), some (.int x5), some (.int (gI μ 51 x1.toNatClampNeg)), some (.int x1), none, none, none, none], [], μ)) (cs := [vp_in x1 50]) rfl c1 ?_
    exact h
  · replace h := h.2 (fun q => c (decide_eq_true q))
    obtain ⟨c1, h⟩ := h
    refine gWp_sts gT_175 6 (f' := (23, [some (.ref 1), some (.int x1), some (.int x2), some (.int x3), some (.int x4), some (.int x5), some (.int x6), some (.int (gI μ 50 x6.toNatClampNeg)), none, none, none, none], [.int (gI μ 50 x6.toNatClampNeg)], μ)) (cs := [vp_in x6 50]) rfl c1 ?_
    refine gWp_stat gT_175 (pc := 23) (c01 := 0) (as := [.int (gI μ 50 x6.toNatClampNeg)]) (rest := []) rfl (Or.inl rfl) rfl rfl rfl ⟨by decide, Nat.le_of_ble_eq_true rfl, by decide, Nat.le_of_ble_eq_true rfl⟩ (gWp_imp h (fun μ1 r h => ?_))
    obtain ⟨v2, rfl, h⟩ := h
    refine Or.inl ⟨_, rfl, ?_⟩
    show gWp none 175 (26, [some (.ref 1), some (.int x1), some (.int x2), some (.int x3), some (.int x4), some (.int x5), some (.int x6), some (.int (gI μ 50 x6.toNatClampNeg)), none, none, none, none], [.int v2], μ1) _ P
    refine gWp_if gT_175 (pc := 26) rfl ⟨fun c => ?_, fun c => ?_⟩
    · replace h := h.1 (of_decide_eq_true c)
      refine gWp_sts gT_175 1 (f' := (36, [some (.ref 1), some (.int x1), some (.int x2), some (.int x3), some (.int x4), some (.int x5), some (.int x6), some (.int (gI μ 50 x6.toNatClampNeg)), none, none, none, none], [.int (gI μ 50 x6.toNatClampNeg)], μ1)) (cs := []) rfl trivial ?_
      refine gWp_stat gT_175 (pc := 36) (c01 := 0) (as := [.int (gI μ 50 x6.toNatClampNeg)]) (rest := []) rfl (Or.inl rfl) rfl rfl rfl ⟨by decide, Nat.le_of_ble_eq_true rfl, by decide, Nat.le_of_ble_eq_true rfl⟩ (gWp_imp h (fun μ3 r h => ?_))
      obtain ⟨v4, rfl, h⟩ := h
      refine Or.inl ⟨_, rfl, ?_⟩
      show gWp none 175 (39, [some (.ref 1), some (.int x1), some (.int x2), some (.int x3), some (.int x4), some (.int x5), some (.int x6), some (.int (gI μ 50 x6.toNatClampNeg)), none, none, none, none], [.int v4], μ3) _ P
      refine gWp_if gT_175 (pc := 39) rfl ⟨fun c => ?_, fun c => ?_⟩
      · replace h := h.1 (of_decide_eq_true c)
        refine gWp_sts gT_175 6 (f' := (59, [some (.ref 1), some (.int x1), some (.int x2), some (.int x3), some (.int x4), some (.int x5), some (.int x6), some (.int (gI μ 50 x6.toNatClampNeg)), none, none, none, none], [.int (gI μ 50 x6.toNatClampNeg), .int x6, .ref 57], μ3)) (cs := []) rfl trivial ?_
        refine gWp_stat gT_175 (pc := 59) (c01 := 0) (as := [.int (gI μ 50 x6.toNatClampNeg)]) (rest := [.int x6, .ref 57]) rfl (Or.inl rfl) rfl rfl rfl ⟨by decide, Nat.le_of_ble_eq_true rfl, by decide, Nat.le_of_ble_eq_true rfl⟩ (gWp_imp h (fun μ5 r h => ?_))
        obtain ⟨v6, rfl, h⟩ := h
        refine Or.inl ⟨_, rfl, ?_⟩
        show gWp none 175 (62, [some (.ref 1), some (.int x1), some (.int x2), some (.int x3), some (.int x4), some (.int x5), some (.int x6), some (.int (gI μ 50 x6.toNatClampNeg)), none, none, none, none], [.int v6, .int x6, .ref 57], μ5) _ P
        refine gWp_if gT_175 (pc := 62) rfl ⟨fun c => ?_, fun c => ?_⟩
        · replace h := h.1 (of_decide_eq_true c)
          refine gWp_sts gT_175 1 (f' := (72, [some (.ref 1), some (.int x1), some (.int x2), some (.int x3), some (.int x4), some (.int x5), some (.int x6), some (.int (gI μ 50 x6.toNatClampNeg)), none, none, none, none], [.int (gI μ 50 x6.toNatClampNeg), .int x6, .ref 57], μ5)) (cs := []) rfl trivial ?_
          refine gWp_stat gT_175 (pc := 72) (c01 := 0) (as := [.int (gI μ 50 x6.toNatClampNeg)]) (rest := [.int x6, .ref 57]) rfl (Or.inl rfl) rfl rfl rfl ⟨by decide, Nat.le_of_ble_eq_true rfl, by decide, Nat.le_of_ble_eq_true rfl⟩ (gWp_imp h (fun μ7 r h => ?_))
          obtain ⟨v8, rfl, h⟩ := h
          refine Or.inl ⟨_, rfl, ?_⟩
          show gWp none 175 (75, [some (.ref 1), some (.int x1), some (.int x2), some (.int x3), some (.int x4), some (.int x5), some (.int x6), some (.int (gI μ 50 x6.toNatClampNeg)), none, none, none, none], [.int v8, .int x6, .ref 57], μ7) _ P
          refine gWp_if gT_175 (pc := 75) rfl ⟨fun c => ?_, fun c => ?_⟩
          · replace h := h.1 (of_decide_eq_true c)
            refine gWp_sts gT_175 2 (f' := (87, [some (.ref 1), some (.int x1), some (.int x2), some (.int x3), some (.int x4), some (.int x5), some (.int x6), some (.int (gI μ 50 x6.toNatClampNeg)), none, none, none, none], [.int (76 : Int32), .int x5, .int x6, .ref 57], μ7)) (cs := []) rfl trivial ?_
            refine gWp_icmp gT_175 (pc := 87) rfl ⟨fun c => ?_, fun c => ?_⟩
            · replace h := h.1 (of_decide_eq_true c)
              obtain ⟨c1, h⟩ := h
              refine gWp_sts gT_175 4 (f' := (6, [some (.ref 1), some (.int x1), some (.int x2), some (.int x3), some (.int x4), some (.int x5), some (.int (x6 + (1 : Int32))), some (.int (gI μ 50 x6.toNatClampNeg)), none, none, none, none], [], (gsI μ7 57 x6.toNatClampNeg (vp_nar .char (78 : Int32))))) (cs := [vp_in x6 50]) rfl c1 ?_
              exact h
            · replace h := h.2 (Classical.not_not.mp (fun q => c (decide_eq_true q)))
              obtain ⟨c1, h⟩ := h
              refine gWp_sts gT_175 5 (f' := (6, [some (.ref 1), some (.int x1), some (.int x2), some (.int x3), some (.int x4), some (.int x5), some (.int (x6 + (1 : Int32))), some (.int (gI μ 50 x6.toNatClampNeg)), none, none, none, none], [], (gsI μ7 57 x6.toNatClampNeg (vp_nar .char (76 : Int32))))) (cs := [vp_in x6 50]) rfl c1 ?_
              exact h
          · replace h := h.2 (fun q => c (decide_eq_true q))
            obtain ⟨c1, h⟩ := h
            refine gWp_sts gT_175 5 (f' := (6, [some (.ref 1), some (.int x1), some (.int x2), some (.int x3), some (.int x4), some (.int x5), some (.int (x6 + (1 : Int32))), some (.int (gI μ 50 x6.toNatClampNeg)), none, none, none, none], [], (gsI μ7 57 x6.toNatClampNeg (vp_nar .char (32 : Int32))))) (cs := [vp_in x6 50]) rfl c1 ?_
            exact h
        · replace h := h.2 (fun q => c (decide_eq_true q))
          obtain ⟨c1, h⟩ := h
          refine gWp_sts gT_175 5 (f' := (6, [some (.ref 1), some (.int x1), some (.int x2), some (.int x3), some (.int x4), some (.int x5), some (.int (x6 + (1 : Int32))), some (.int (gI μ 50 x6.toNatClampNeg)), none, none, none, none], [], (gsI μ5 57 x6.toNatClampNeg (vp_nar .char x5)))) (cs := [vp_in x6 50]) rfl c1 ?_
          exact h
      · replace h := h.2 (fun q => c (decide_eq_true q))
        refine gWp_sts gT_175 7 (f' := (59, [some (.ref 1), some (.int x1), some (.int x2), some (.int x3), some (.int x4), some (.int (82 : Int32)), some (.int x6), some (.int (gI μ 50 x6.toNatClampNeg)), none, none, none, none], [.int (gI μ 50 x6.toNatClampNeg), .int x6, .ref 57], μ3)) (cs := []) rfl trivial ?_
        refine gWp_stat gT_175 (pc := 59) (c01 := 0) (as := [.int (gI μ 50 x6.toNatClampNeg)]) (rest := [.int x6, .ref 57]) rfl (Or.inl rfl) rfl rfl rfl ⟨by decide, Nat.le_of_ble_eq_true rfl, by decide, Nat.le_of_ble_eq_true rfl⟩ (gWp_imp h (fun μ9 r h => ?_))
        obtain ⟨v10, rfl, h⟩ := h
        refine Or.inl ⟨_, rfl, ?_⟩
        show gWp none 175 (62, [some (.ref 1), some (.int x1), some (.int x2), some (.int x3), some (.int x4), some (.int (82 : Int32)), some (.int x6), some (.int (gI μ 50 x6.toNatClampNeg)), none, none, none, none], [.int v10, .int x6, .ref 57], μ9) _ P
        refine gWp_if gT_175 (pc := 62) rfl ⟨fun c => ?_, fun c => ?_⟩
        · replace h := h.1 (of_decide_eq_true c)
          refine gWp_sts gT_175 1 (f' := (72, [some (.ref 1), some (.int x1), some (.int x2), some (.int x3), some (.int x4), some (.int (82 : Int32)), some (.int x6), some (.int (gI μ 50 x6.toNatClampNeg)), none, none, none, none], [.int (gI μ 50 x6.toNatClampNeg), .int x6, .ref 57], μ9)) (cs := []) rfl trivial ?_
          refine gWp_stat gT_175 (pc := 72) (c01 := 0) (as := [.int (gI μ 50 x6.toNatClampNeg)]) (rest := [.int x6, .ref 57]) rfl (Or.inl rfl) rfl rfl rfl ⟨by decide, Nat.le_of_ble_eq_true rfl, by decide, Nat.le_of_ble_eq_true rfl⟩ (gWp_imp h (fun μ11 r h => ?_))
          obtain ⟨v12, rfl, h⟩ := h
          refine Or.inl ⟨_, rfl, ?_⟩
          show gWp none 175 (75, [some (.ref 1), some (.int x1), some (.int x2), some (.int x3), some (.int x4), some (.int (82 : Int32)), some (.int x6), some (.int (gI μ 50 x6.toNatClampNeg)), none, none, none, none], [.int v12, .int x6, .ref 57], μ11) _ P
          refine gWp_if gT_175 (pc := 75) rfl ⟨fun c => ?_, fun c => ?_⟩
          · replace h := h.1 (of_decide_eq_true c)
            refine gWp_sts gT_175 2 (f' := (87, [some (.ref 1), some (.int x1), some (.int x2), some (.int x3), some (.int x4), some (.int (82 : Int32)), some (.int x6), some (.int (gI μ 50 x6.toNatClampNeg)), none, none, none, none], [.int (76 : Int32), .int (82 : Int32), .int x6, .ref 57], μ11)) (cs := []) rfl trivial ?_
            refine gWp_icmp gT_175 (pc := 87) rfl ⟨fun c => ?_, fun c => ?_⟩
            · replace h := h.1 (of_decide_eq_true c)
              obtain ⟨c1, h⟩ := h
              refine gWp_sts gT_175 4 (f' := (6, [some (.ref 1), some (.int x1), some (.int x2), some (.int x3), some (.int x4), some (.int (82 : Int32)), some (.int (x6 + (1 : Int32))), some (.int (gI μ 50 x6.toNatClampNeg)), none, none, none, none], [], (gsI μ11 57 x6.toNatClampNeg (vp_nar .char (78 : Int32))))) (cs := [vp_in x6 50]) rfl c1 ?_
              exact h
            · replace h := h.2 (Classical.not_not.mp (fun q => c (decide_eq_true q)))
              obtain ⟨c1, h⟩ := h
              refine gWp_sts gT_175 5 (f' := (6, [some (.ref 1), some (.int x1), some (.int x2), some (.int x3), some (.int x4), some (.int (82 : Int32)), some (.int (x6 + (1 : Int32))), some (.int (gI μ 50 x6.toNatClampNeg)), none, none, none, none], [], (gsI μ11 57 x6.toNatClampNeg (vp_nar .char (76 : Int32))))) (cs := [vp_in x6 50]) rfl c1 ?_
              exact h
          · replace h := h.2 (fun q => c (decide_eq_true q))
            obtain ⟨c1, h⟩ := h
            refine gWp_sts gT_175 5 (f' := (6, [some (.ref 1), some (.int x1), some (.int x2), some (.int x3), some (.int x4), some (.int (82 : Int32)), some (.int (x6 + (1 : Int32))), some (.int (gI μ 50 x6.toNatClampNeg)), none, none, none, none], [], (gsI μ11 57 x6.toNatClampNeg (vp_nar .char (32 : Int32))))) (cs := [vp_in x6 50]) rfl c1 ?_
            exact h
        · replace h := h.2 (fun q => c (decide_eq_true q))
          obtain ⟨c1, h⟩ := h
          refine gWp_sts gT_175 5 (f' := (6, [some (.ref 1), some (.int x1), some (.int x2), some (.int x3), some (.int x4), some (.int (82 : Int32)), some (.int (x6 + (1 : Int32))), some (.int (gI μ 50 x6.toNatClampNeg)), none, none, none, none], [], (gsI μ9 57 x6.toNatClampNeg (vp_nar .char (82 : Int32))))) (cs := [vp_in x6 50]) rfl c1 ?_
          exact h
    · replace h := h.2 (fun q => c (decide_eq_true q))
      refine gWp_sts gT_175 7 (f' := (59, [some (.ref 1), some (.int x1), some (.int x2), some (.int x3), some (.int x4), some (.int (76 : Int32)), some (.int x6), some (.int (gI μ 50 x6.toNatClampNeg)), none, none, none, none], [.int (gI μ 50 x6.toNatClampNeg), .int x6, .ref 57], μ1)) (cs := []) rfl trivial ?_
      refine gWp_stat gT_175 (pc := 59) (c01 := 0) (as := [.int (gI μ 50 x6.toNatClampNeg)]) (rest := [.int x6, .ref 57]) rfl (Or.inl rfl) rfl rfl rfl ⟨by decide, Nat.le_of_ble_eq_true rfl, by decide, Nat.le_of_ble_eq_true rfl⟩ (gWp_imp h (fun μ13 r h => ?_))
      obtain ⟨v14, rfl, h⟩ := h
      refine Or.inl ⟨_, rfl, ?_⟩
      show gWp none 175 (62, [some (.ref 1), some (.int x1), some (.int x2), some (.int x3), some (.int x4), some (.int (76 : Int32)), some (.int x6), some (.int (gI μ 50 x6.toNatClampNeg)), none, none, none, none], [.int v14, .int x6, .ref 57], μ13) _ P
      refine gWp_if gT_175 (pc := 62) rfl ⟨fun c => ?_, fun c => ?_⟩
      · replace h := h.1 (of_decide_eq_true c)
        refine gWp_sts gT_175 1 (f' := (72, [some (.ref 1), some (.int x1), some (.int x2), some (.int x3), some (.int x4), some (.int (76 : Int32)), some (.int x6), some (.int (gI μ 50 x6.toNatClampNeg)), none, none, none, none], [.int (gI μ 50 x6.toNatClampNeg), .int x6, .ref 57], μ13)) (cs := []) rfl trivial ?_
        refine gWp_stat gT_175 (pc := 72) (c01 := 0) (as := [.int (gI μ 50 x6.toNatClampNeg)]) (rest := [.int x6, .ref 57]) rfl (Or.inl rfl) rfl rfl rfl ⟨by decide, Nat.le_of_ble_eq_true rfl, by decide, Nat.le_of_ble_eq_true rfl⟩ (gWp_imp h (fun μ15 r h => ?_))
        obtain ⟨v16, rfl, h⟩ := h
        refine Or.inl ⟨_, rfl, ?_⟩
        show gWp none 175 (75, [some (.ref 1), some (.int x1), some (.int x2), some (.int x3), some (.int x4), some (.int (76 : Int32)), some (.int x6), some (.int (gI μ 50 x6.toNatClampNeg)), none, none, none, none], [.int v16, .int x6, .ref 57], μ15) _ P
        refine gWp_if gT_175 (pc := 75) rfl ⟨fun c => ?_, fun c => ?_⟩
        · replace h := h.1 (of_decide_eq_true c)
          refine gWp_sts gT_175 2 (f' := (87, [some (.ref 1), some (.int x1), some (.int x2), some (.int x3), some (.int x4), some (.int (76 : Int32)), some (.int x6), some (.int (gI μ 50 x6.toNatClampNeg)), none, none, none, none], [.int (76 : Int32), .int (76 : Int32), .int x6, .ref 57], μ15)) (cs := []) rfl trivial ?_
          refine gWp_icmp gT_175 (pc := 87) rfl ⟨fun c => ?_, fun c => ?_⟩
          · replace h := h.1 (of_decide_eq_true c)
            obtain ⟨c1, h⟩ := h
            refine gWp_sts gT_175 4 (f' := (6, [some (.ref 1), some (.int x1), some (.int x2), some (.int x3), some (.int x4), some (.int (76 : Int32)), some (.int (x6 + (1 : Int32))), some (.int (gI μ 50 x6.toNatClampNeg)), none, none, none, none], [], (gsI μ15 57 x6.toNatClampNeg (vp_nar .char (78 : Int32))))) (cs := [vp_in x6 50]) rfl c1 ?_
            exact h
          · replace h := h.2 (Classical.not_not.mp (fun q => c (decide_eq_true q)))
            obtain ⟨c1, h⟩ := h
            refine gWp_sts gT_175 5 (f' := (6, [some (.ref 1), some (.int x1), some (.int x2), some (.int x3), some (.int x4), some (.int (76 : Int32)), some (.int (x6 + (1 : Int32))), some (.int (gI μ 50 x6.toNatClampNeg)), none, none, none, none], [], (gsI μ15 57 x6.toNatClampNeg (vp_nar .char (76 : Int32))))) (cs := [vp_in x6 50]) rfl c1 ?_
            exact h
        · replace h := h.2 (fun q => c (decide_eq_true q))
          obtain ⟨c1, h⟩ := h
          refine gWp_sts gT_175 5 (f' := (6, [some (.ref 1), some (.int x1), some (.int x2), some (.int x3), some (.int x4), some (.int (76 : Int32)), some (.int (x6 + (1 : Int32))), some (.int (gI μ 50 x6.toNatClampNeg)), none, none, none, none], [], (gsI μ15 57 x6.toNatClampNeg (vp_nar .char (32 : Int32))))) (cs := [vp_in x6 50]) rfl c1 ?_
          exact h
      · replace h := h.2 (fun q => c (decide_eq_true q))
        obtain ⟨c1, h⟩ := h
        refine gWp_sts gT_175 5 (f' := (6, [some (.ref 1), some (.int x1), some (.int x2), some (.int x3), some (.int x4), some (.int (76 : Int32)), some (.int (x6 + (1 : Int32))), some (.int (gI μ 50 x6.toNatClampNeg)), none, none, none, none], [], (gsI μ13 57 x6.toNatClampNeg (vp_nar .char (76 : Int32))))) (cs := [vp_in x6 50]) rfl c1 ?_
        exact h
set_option maxRecDepth 20000 in
theorem vc_175 {μ : gMu} {x1 : Int32} {x2 : Int32} {x3 : Int32} {x4 : Int32} {P : gMu → gRes → Prop} (h : gWp none 175 (6, [some (.ref 1), some (.int x1), some (.int x2), some (.int x3), some (.int x4), some (.int x3), some (.int x1), none, none, none, none, none], [], μ) 0 P) : gWp none 175 (0, [some (.ref 1), some (.int x1), some (.int x2), some (.int x3), some (.int x4), none, none, none, none, none, none, none], [], μ) 0 P := by
  refine gWp_sts gT_175 4 (f' := (6, [some (.ref 1), some (.int x1), some (.int x2), some (.int x3), some (.int x4), some (.int x3), some (.int x1), none, none, none, none, none], [], μ)) (cs := []) rfl trivial ?_
  exact h
/-! GlyphmillModel.laysLevels -/
theorem gT_176 : gCode[176]? = some gC_176 := rfl
set_option maxRecDepth 20000 in
theorem vc_176_12 {μ : gMu} {x1 : Int32} {x2 : Int32} {P : gMu → gRes → Prop} (h : (((gI μ 1 19) ≤ x2) → (((¬ x1 = 0) → ((vp_in (x1 - (1 : Int32)) 50) ∧ (((¬ x2 = (gI μ 1 19)) → ((vp_in x2 50) ∧ ((vp_in x1 50) ∧ (gCl' 174 [.int (if (gI μ 51 x1.toNatClampNeg) < (gI μ 51 ((x1 - (1 : Int32)).toNatClampNeg)) then gI μ 51 ((x1 - (1 : Int32)).toNatClampNeg) else gI μ 51 x1.toNatClampNeg)] μ (fun μ1 r => (∃ v2, r = .inl (some (.int v2)) ∧ ((vp_in x1 50) ∧ (gCl' 174 [.int (if (gI μ1 51 x1.toNatClampNeg) < (gI μ 51 x2.toNatClampNeg) then gI μ 51 x2.toNatClampNeg else gI μ1 51 x1.toNatClampNeg)] μ1 (fun μ3 r => (∃ v4, r = .inl (some (.int v4)) ∧ (gCl' 175 [.ref 1, .int x1, .int x2, .int v2, .int v4] μ3 (fun μ5 r => (r = .inl none ∧ (gWp none 176 (2, [some (.ref 1), some (.int x2), some (.int x2), some (.int (gI μ 51 ((x1 - (1 : Int32)).toNatClampNeg))), some (.int (gI μ 51 x2.toNatClampNeg))], [], μ5) 0 P)))))))))))))) ∧ ((x2 = (gI μ 1 19)) → (gCl' 159 [.ref 1] μ (fun μ6 r => (∃ v7, r = .inl (some (.int v7)) ∧ ((vp_in x1 50) ∧ (gCl' 174 [.int (if (gI μ6 51 x1.toNatClampNeg) < (gI μ 51 ((x1 - (1 : Int32)).toNatClampNeg)) then gI μ 51 ((x1 - (1 : Int32)).toNatClampNeg) else gI μ6 51 x1.toNatClampNeg)] μ6 (fun μ8 r => (∃ v9, r = .inl (some (.int v9)) ∧ ((vp_in x1 50) ∧ (gCl' 174 [.int (if (gI μ8 51 x1.toNatClampNeg) < v7 then v7 else gI μ8 51 x1.toNatClampNeg)] μ8 (fun μ10 r => (∃ v11, r = .inl (some (.int v11)) ∧ (gCl' 175 [.ref 1, .int x1, .int x2, .int v9, .int v11] μ10 (fun μ12 r => (r = .inl none ∧ (gWp none 176 (2, [some (.ref 1), some (.int x2), some (.int x2), some (.int (gI μ 51 ((x1 - (1 : Int32)).toNatClampNeg))), some (.int v7)], [], μ12) 0 P))))))))))))))))))) ∧ ((x1 = 0) → (gCl' 159 [.ref 1] μ (fun μ13 r => (∃ v14, r = .inl (some (.int v14)) ∧ (((¬ x2 = (gI μ13 1 19)) → ((vp_in x2 50) ∧ ((vp_in x1 50) ∧ (gCl' 174 [.int (if (gI μ13 51 x1.toNatClampNeg) < v14 then v14 else gI μ13 51 x1.toNatClampNeg)] μ13 (fun μ15 r => (∃ v16, r = .inl (some (.int v16)) ∧ ((vp_in x1 50) ∧ (gCl' 174 [.int (if (gI μ15 51 x1.toNatClampNeg) < (gI μ13 51 x2.toNatClampNeg) then gI μ13 51 x2.toNatClampNeg else gI μ15 51 x1.toNatClampNeg)] μ15 (fun μ17 r => (∃ v18, r = .inl (some (.int v18)) ∧ (gCl' 175 [.ref 1, .int x1, .int x2, .int v16, .int v18] μ17 (fun μ19 r => (r = .inl none ∧ (gWp none 176 (2, [some (.ref 1), some (.int x2), some (.int x2), some (.int v14), some (.int (gI μ13 51 x2.toNatClampNeg))], [], μ19) 0 P)))))))))))))) ∧ ((x2 = (gI μ13 1 19)) → (gCl' 159 [.ref 1] μ13 (fun μ20 r => (∃ v21, r = .inl (some (.int v21)) ∧ ((vp_in x1 50) ∧ (gCl' 174 [.int (if (gI μ20 51 x1.toNatClampNeg) < v14 then v14 else gI μ20 51 x1.toNatClampNeg)] μ20 (fun μ22 r => (∃ v23, r = .inl (some (.int v23)) ∧ ((vp_in x1 50) ∧ (gCl' 174 [.int (if (gI μ22 51 x1.toNatClampNeg) < v21 then v21 else gI μ22 51 x1.toNatClampNeg)] μ22 (fun μ24 r => (∃ v25, r = .inl (some (.int v25)) ∧ (gCl' 175 [.ref 1, .int x1, .int x2, .int v23, .int v25] μ24 (fun μ26 r => (r = .inl none ∧ (gWp none 176 (2, [some (.ref 1), some (.int x2), some (.int x2), some (.int v14), some (.int v21)], [], μ26) 0 P))))))))))))))))))))))) ∧ ((¬ (gI μ 1 19) ≤ x2) → ((vp_in x2 50) ∧ ((vp_in x1 50) ∧ (((¬ (gI μ 51 x2.toNatClampNeg) = (gI μ 51 x1.toNatClampNeg)) → (((¬ x1 = 0) → ((vp_in (x1 - (1 : Int32)) 50) ∧ (((¬ x2 = (gI μ 1 19)) → ((vp_in x2 50) ∧ ((vp_in x1 50) ∧ (gCl' 174 [.int (if (gI μ 51 x1.toNatClampNeg) < (gI μ 51 ((x1 - (1 : Int32)).toNatClampNeg)) then gI μ 51 ((x1 - (1 : Int32)).toNatClampNeg) else gI μ 51 x1.toNatClampNeg)] μ (fun μ27 r => (∃ v28, r = .inl (some (.int v28)) ∧ ((vp_in x1 50) ∧ (gCl' 174 [.int (if (gI μ27 51 x1.toNatClampNeg) < (gI μ 51 x2.toNatClampNeg) then gI μ 51 x2.toNatClampNeg else gI μ27 51 x1.toNatClampNeg)] μ27 (fun μ29 r => (∃ v30, r = .inl (some (.int v30)) ∧ (gCl' 175 [.ref 1, .int x1, .int x2, .int v28, .int v30] μ29 (fun μ31 r => (r = .inl none ∧ (gWp none 176 (2, [some (.ref 1), some (.int x2), some (.int x2), some (.int (gI μ 51 ((x1 - (1 : Int32)).toNatClampNeg))), some (.int (gI μ 51 x2.toNatClampNeg))], [], μ31) 0 P)))))))))))))) ∧ ((x2 = (gI μ 1 19)) → (gCl' 159 [.ref 1] μ (fun μ32 r => (∃ v33, r = .inl (some (.int v33)) ∧ ((vp_in x1 50) ∧ (gCl' 174 [.int (if (gI μ32 51 x1.toNatClampNeg) < (gI μ 51 ((x1 - (1 : Int32)).toNatClampNeg)) then gI μ 51 ((x1 - (1 : Int32)).toNatClampNeg) else gI μ32 51 x1.toNatClampNeg)] μ32 (fun μ34 r => (∃ v35, r = .inl (some (.int v35)) ∧ ((vp_in x1 50) ∧ (gCl' 174 [.int (if (gI μ34 51 x1.toNatClampNeg) < v33 then v33 else gI μ34 51 x1.toNatClampNeg)] μ34 (fun μ36 r => (∃ v37, r = .inl (some (.int v37)) ∧ (gCl' 175 [.ref 1, .int x1, .int x2, .int v35, .int v37] μ36 (fun μ38 r => (r = .inl none ∧ (gWp none 176 (2, [some (.ref 1), some (.int x2), some (.int x2), some (.int (gI μ 51 ((x1 - (1 : Int32)).toNatClampNeg))), some (.int v33)], [], μ38) 0 P))))))))))))))))))) ∧ ((x1 = 0) → (gCl' 159 [.ref 1] μ (fun μ39 r => (∃ v40, r = .inl (some (.int v40)) ∧ (((¬ x2 = (gI μ39 1 19)) → ((vp_in x2 50) ∧ ((vp_in x1 50) ∧ (gCl' 174 [.int (if (gI μ39 51 x1.toNatClampNeg) < v40 then v40 else gI μ39 51 x1.toNatClampNeg)] μ39 (fun μ41 r => (∃ v42, r = .inl (some (.int v42)) ∧ ((vp_in x1 50) ∧ (gCl' 174 [.int (if (gI μ41 51 x1.toNatClampNeg) < (gI μ39 51 x2.toNatClampNeg) then gI μ39 51 x2.toNatClampNeg else gI μ41 51 x1.toNatClampNeg)] μ41 (fun μ43 r => (∃ v44, r = .inl (some (.int v44)) ∧ (gCl' 175 [.ref 1, .int x1, .int x2, .int v42, .int v44] μ43 (fun μ45 r => (r = .inl none ∧ (gWp none 176 (2, [some (.ref 1), some (.int x2), some (.int x2), some (.int v40), some (.int (gI μ39 51 x2.toNatClampNeg))], [], μ45) 0 P)))))))))))))) ∧ ((x2 = (gI μ39 1 19)) → (gCl' 159 [.ref 1] μ39 (fun μ46 r => (∃ v47, r = .inl (some (.int v47)) ∧ ((vp_in x1 50) ∧ (gCl' 174 [.int (if (gI μ46 51 x1.toNatClampNeg) < v40 then v40 else gI μ46 51 x1.toNatClampNeg)] μ46 (fun μ48 r => (∃ v49, r = .inl (some (.int v49)) ∧ ((vp_in x1 50) ∧ (gCl' 174 [.int (if (gI μ48 51 x1.toNatClampNeg) < v47 then v47 else gI μ48 51 x1.toNatClampNeg)] μ48 (fun μ50 r => (∃ v51, r = .inl (some (.int v51)) ∧ (gCl' 175 [.ref 1, .int x1, .int x2, .int v49, .int v51] μ50 (fun μ52 r => (r = .inl none ∧ (gWp none 176 (2, [some (.ref 1), some (.int x2), some (.int x2), some (.int v40), some (.int v47)], [], μ52) 0 P))))))))))))))))))))))) ∧ (((gI μ 51 x2.toNatClampNeg) = (gI μ 51 x1.toNatClampNeg)) → (gWp none 176 (12, [some (.ref 1), some (.int x1), some (.int (x2 + (1 : Int32))), none, none], [], μ) 0 P))))))) : gWp none 176 (12, [some (.ref 1), some (.int x1), some (.int x2), none, none], [], μ) 0 P := by
  refine gWp_sts gT_176 3 (f' := (17, [some (.ref 1), some (.int x1), some (.int x2), none, none], [.int (gI μ 1 19), .int x2], μ)) (cs := []) rfl trivial ?_
  refine gWp_icmp gT_176 (pc := 17) rfl ⟨fun c => ?_, fun c => ?_⟩
  · replace h := h.1 (of_decide_eq_true c)
    refine gWp_sts gT_176 1 (f' := (42, [some (.ref 1), some (.int x1), some (.int x2), none, none], [.int x1], μ)) (cs := []) rfl trivial ?_
    refine gWp_if gT_176 (pc := 42) rfl ⟨fun c => ?_, fun c => ?_⟩
    · replace h := h.1 (of_decide_eq_true c)
      obtain ⟨c1, h⟩ := h
      refine gWp_sts gT_176 10 (f' := (66, [some (.ref 1), some (.int x1), some (.int x2), some (.int (gI μ 51 ((x1 - (1 : Int32)).toNatClampNeg))), none], [.int (gI μ 1 19), .int x2], μ)) (cs := [vp_in (x1 - (1 : Int32)) 50]) rfl c1 ?_
      refine gWp_icmp gT_176 (pc := 66) rfl ⟨fun c => ?_, fun c => ?_⟩
      · replace h := h.1 (of_decide_eq_true c)
        obtain ⟨c1, c2, h⟩ := h
        refine gWp_sts gT_176 14 (f' := (97, [some (.ref 1), some (.int x1), some (.int x2), some (.int (gI μ 51 ((x1 - (1 : Int32)).toNatClampNeg))), some (.int (gI μ 51 x2.toNatClampNeg))], [.int (if (gI μ 51 x1.toNatClampNeg) < (gI μ 51 ((x1 - (1 : Int32)).toNatClampNeg)) then gI μ 51 ((x1 - (1 : Int32)).toNatClampNeg) else gI μ 51 x1.toNatClampNeg), .int x2, .int x1, .ref 1], μ)) (cs := [vp_in x2 50, vp_in x1 50, (([.int x2, .int x1, .ref 1] : List Value).map fun v => v.category).sum ≤ 8]) rfl ⟨c1, c2, (Nat.le_of_ble_eq_true rfl)⟩ ?_
        refine gWp_stat gT_176 (pc := 97) (c01 := 0) (as := [.int (if (gI μ 51 x1.toNatClampNeg) < (gI μ 51 ((x1 - (1 : Int32)).toNatClampNeg)) then gI μ 51 ((x1 - (1 : Int32)).toNatClampNeg) else gI μ 51 x1.toNatClampNeg)]) (rest := [.int x2, .int x1, .ref 1]) rfl (Or.inl rfl) rfl rfl rfl ⟨by decide, Nat.le_of_ble_eq_true rfl, by decide, Nat.le_of_ble_eq_true rfl⟩ (gWp_imp h (fun μ1 r h => ?_))
        obtain ⟨v2, rfl, h⟩ := h
        refine Or.inl ⟨_, rfl, ?_⟩
        show gWp none 176 (100, [some (.ref 1), some (.int x1), some (.int x2), some (.int (gI μ 51 ((x1 - (1 : Int32)).toNatClampNeg))), some (.int (gI μ 51 x2.toNatClampNeg))], [.int v2, .int x2, .int x1, .ref 1], μ1) _ P
        obtain ⟨c1, h⟩ := h
        refine gWp_sts gT_176 6 (f' := (111, [some (.ref 1), some (.int x1), some (.int x2), some (.int (gI μ 51 ((x1 - (1 : Int32)).toNatClampNeg))), some (.int (gI μ 51 x2.toNatClampNeg))], [.int (if (gI μ1 51 x1.toNatClampNeg) < (gI μ 51 x2.toNatClampNeg) then gI μ 51 x2.toNatClampNeg else gI μ1 51 x1.toNatClampNeg), .int v2, .int x2, .int x1, .ref 1], μ1)) (cs := [vp_in x1 50, (([.int v2, .int x2, .int x1, .ref 1] : List Value).map fun v => v.category).sum ≤ 8]) rfl ⟨c1, (Nat.le_of_ble_eq_true rfl)⟩ ?_
        refine gWp_stat gT_176 (pc := 111) (c01 := 0) (as := [.int (if (gI μ1 51 x1.toNatClampNeg) < (gI μ 51 x2.toNatClampNeg) then gI μ 51 x2.toNatClampNeg else gI μ1 51 x1.toNatClampNeg)]) (rest := [.int v2, .int x2, .int x1, .ref 1]) rfl (Or.inl rfl) rfl rfl rfl ⟨by decide, Nat.le_of_ble_eq_true rfl, by decide, Nat.le_of_ble_eq_true rfl⟩ (gWp_imp h (fun μ3 r h => ?_))
        obtain ⟨v4, rfl, h⟩ := h
        refine Or.inl ⟨_, rfl, ?_⟩
        show gWp none 176 (114, [some (.ref 1), some (.int x1), some (.int x2), some (.int (gI μ 51 ((x1 - (1 : Int32)).toNatClampNeg))), some (.int (gI μ 51 x2.toNatClampNeg))], [.int v4, .int v2, .int x2, .int x1, .ref 1], μ3) _ P
        refine gWp_virt gT_176 (pc := 114) (q := 1) (as := [.ref 1, .int x1, .int x2, .int v2, .int v4]) (rest := []) rfl rfl rfl rfl rfl rfl ⟨by decide, Nat.le_of_ble_eq_true rfl, by decide, Nat.le_of_ble_eq_true rfl⟩ (gWp_imp h (fun μ5 r h => ?_))
        obtain ⟨rfl, h⟩ := h
        refine Or.inl ⟨_, rfl, ?_⟩
        show gWp none 176 (117, [some (.ref 1), some (.int x1), some (.int x2), some (.int (gI μ 51 ((x1 - (1 : Int32)).toNatClampNeg))), some (.int (gI μ 51 x2.toNatClampNeg))], [], μ5) _ P
        refine gWp_sts gT_176 3 (f' := (2, [some (.ref 1), some (.int x2), some (.int x2), some (.int (gI μ 51 ((x1 - (1 : Int32)).toNatClampNeg))), some (.int (gI μ 51 x2.toNatClampNeg))], [], μ5)) (cs := []) rfl trivial ?_
        exact h
      · replace h := h.2 (Classical.not_not.mp (fun q => c (decide_eq_true q)))
        refine gWp_sts gT_176 1 (f' := (70, [some (.ref 1), some (.int x1), some (.int x2), some (.int (gI μ 51 ((x1 - (1 : Int32)).toNatClampNeg))), none], [.ref 1], μ)) (cs := []) rfl trivial ?_
        refine gWp_virt gT_176 (pc := 70) (q := 1) (as := [.ref 1]) (rest := []) rfl rfl rfl rfl rfl rfl ⟨by decide, Nat.le_of_ble_eq_true rfl, by decide, Nat.le_of_ble_eq_true rfl⟩ (gWp_imp h (fun μ6 r h => ?_))
        obtain ⟨v7, rfl, h⟩ := h
        refine Or.inl ⟨_, rfl, ?_⟩
        show gWp none 176 (73, [some (.ref 1), some (.int x1), some (.int x2), some (.int (gI μ 51 ((x1 - (1 : Int32)).toNatClampNeg))), none], [.int v7], μ6) _ P
        obtain ⟨c1, h⟩ := h
        refine gWp_sts gT_176 11 (f' := (97, [some (.ref 1), some (.int x1), some (.int x2), some (.int (gI μ 51 ((x1 - (1 : Int32)).toNatClampNeg))), some (.int v7)], [.int (if (gI μ6 51 x1.toNatClampNeg) < (gI μ 51 ((x1 - (1 : Int32)).toNatClampNeg)) then gI μ 51 ((x1 - (1 : Int32)).toNatClampNeg) else gI μ6 51 x1.toNatClampNeg), .int x2, .int x1, .ref 1], μ6)) (cs := [vp_in x1 50, (([.int x2, .int x1, .ref 1] : List Value).map fun v => v.category).sum ≤ 8]) rfl ⟨c1, (Nat.le_of_ble_eq_true rfl)⟩ ?_
        refine gWp_stat gT_176 (pc := 97) (c01 := 0) (as := [.int (if (gI μ6 51 x1.toNatClampNeg) < (gI μ 51 ((x1 - (1 : Int32)).toNatClampNeg)) then gI μ 51 ((x1 - (1 : Int32)).toNatClampNeg) else gI μ6 51 x1.toNatClampNeg)]) (rest := [.int x2, .int x1, .ref 1]) rfl (Or.inl rfl) rfl rfl rfl ⟨by decide, Nat.le_of_ble_eq_true rfl, by decide, Nat.le_of_ble_eq_true rfl⟩ (gWp_imp h (fun μ8 r h => ?_))
        obtain ⟨v9, rfl, h⟩ := h
        refine Or.inl ⟨_, rfl, ?_⟩
        show gWp none 176 (100, [some (.ref 1), some (.int x1), some (.int x2), some (.int (gI μ 51 ((x1 - (1 : Int32)).toNatClampNeg))), some (.int v7)], [.int v9, .int x2, .int x1, .ref 1], μ8) _ P
        obtain ⟨c1, h⟩ := h
        refine gWp_sts gT_176 6 (f' := (111, [some (.ref 1), some (.int x1), some (.int x2), some (.int (gI μ 51 ((x1 - (1 : Int32)).toNatClampNeg))), some (.int v7)], [.int (if (gI μ8 51 x1.toNatClampNeg) < v7 then v7 else gI μ8 51 x1.toNatClampNeg), .int v9, .int x2, .int x1, .ref 1], μ8)) (cs := [vp_in x1 50, (([.int v9, .int x2, .int x1, .ref 1] : List Value).map fun v => v.category).sum ≤ 8]) rfl ⟨c1, (Nat.le_of_ble_eq_true rfl)⟩ ?_
        refine gWp_stat gT_176 (pc := 111) (c01 := 0) (as := [.int (if (gI μ8 51 x1.toNatClampNeg) < v7 then v7 else gI μ8 51 x1.toNatClampNeg)]) (rest := [.int v9, .int x2, .int x1, .ref 1]) rfl (Or.inl rfl) rfl rfl rfl ⟨by decide, Nat.le_of_ble_eq_true rfl, by decide, Nat.le_of_ble_eq_true rfl⟩ (gWp_imp h (fun μ10 r h => ?_))
        obtain ⟨v11, rfl, h⟩ := h
        refine Or.inl ⟨_, rfl, ?_⟩
        show gWp none 176 (114, [some (.ref 1), some (.int x1), some (.int x2), some (.int (gI μ 51 ((x1 - (1 : Int32)).toNatClampNeg))), some (.int v7)], [.int v11, .int v9, .int x2, .int x1, .ref 1], μ10) _ P
        refine gWp_virt gT_176 (pc := 114) (q := 1) (as := [.ref 1, .int x1, .int x2, .int v9, .int v11]) (rest := []) rfl rfl rfl rfl rfl rfl ⟨by decide, Nat.le_of_ble_eq_true rfl, by decide, Nat.le_of_ble_eq_true rfl⟩ (gWp_imp h (fun μ12 r h => ?_))
        obtain ⟨rfl, h⟩ := h
        refine Or.inl ⟨_, rfl, ?_⟩
        show gWp none 176 (117, [some (.ref 1), some (.int x1), some (.int x2), some (.int (gI μ 51 ((x1 - (1 : Int32)).toNatClampNeg))), some (.int v7)], [], μ12) _ P
        refine gWp_sts gT_176 3 (f' := (2, [some (.ref 1), some (.int x2), some (.int x2), some (.int (gI μ 51 ((x1 - (1 : Int32)).toNatClampNeg))), some (.int v7)], [], μ12)) (cs := []) rfl trivial ?_
        exact h
    · replace h := h.2 (Classical.not_not.mp (fun q => c (decide_eq_true q)))
      refine gWp_sts gT_176 1 (f' := (46, [some (.ref 1), some (.int x1), some (.int x2), none, none], [.ref 1], μ)) (cs := []) rfl trivial ?_
      refine gWp_virt gT_176 (pc := 46) (q := 1) (as := [.ref 1]) (rest := []) rfl rfl rfl rfl rfl rfl ⟨by decide, Nat.le_of_ble_eq_true rfl, by decide, Nat.le_of_ble_eq_true rfl⟩ (gWp_imp h (fun μ13 r h => ?_))
      obtain ⟨v14, rfl, h⟩ := h
      refine Or.inl ⟨_, rfl, ?_⟩
      show gWp none 176 (49, [some (.ref 1), some (.int x1), some (.int x2), none, none], [.int v14], μ13) _ P
      refine gWp_sts gT_176 5 (f' := (66, [some (.ref 1), some (.int x1), some (.int x2), some (.int v14), none], [.int (gI μ13 1 19), .int x2], μ13)) (cs := []) rfl trivial ?_
      refine gWp_icmp gT_176 (pc := 66) rfl ⟨fun c => ?_, fun c => ?_⟩
      · replace h := h.1 (of_decide_eq_true c)
        obtain ⟨c1, c2, h⟩ := h
        refine gWp_sts gT_176 14 (f' := (97, [some (.ref 1), some (.int x1), some (.int x2), some (.int v14), some (.int (gI μ13 51 x2.toNatClampNeg))], [.int (if (gI μ13 51 x1.toNatClampNeg) < v14 then v14 else gI μ13 51 x1.toNatClampNeg), .int x2, .int x1, .ref 1], μ13)) (cs := [vp_in x2 50, vp_in x1 50, (([.int x2, .int x1, .ref 1] : List Value).map fun v => v.category).sum ≤ 8]) rfl ⟨c1, c2, (Nat.le_of_ble_eq_true rfl)⟩ ?_
        refine gWp_stat gT_176 (pc := 97) (c01 := 0) (as := [.int (if (gI μ13 51 x1.toNatClampNeg) < v14 then v14 else gI μ13 51 x1.toNatClampNeg)]) (rest := [.int x2, .int x1, .ref 1]) rfl (Or.inl rfl) rfl rfl rfl ⟨by decide, Nat.le_of_ble_eq_true rfl, by decide, Nat.le_of_ble_eq_true rfl⟩ (gWp_imp h (fun μ15 r h => ?_))
        obtain ⟨v16, rfl, h⟩ := h
        refine Or.inl ⟨_, rfl, ?_⟩
        show gWp none 176 (100, [some (.ref 1), some (.int x1), some (.int x2), some (.int v14), some (.int (gI μ13 51 x2.toNatClampNeg))], [.int v16, .int x2, .int x1, .ref 1], μ15) _ P
        obtain ⟨c1, h⟩ := h
        refine gWp_sts gT_176 6 (f' := (111, [some (.ref 1), some (.int x1), some (.int x2), some (.int v14), some (.int (gI μ13 51 x2.toNatClampNeg))], [.int (if (gI μ15 51 x1.toNatClampNeg) < (gI μ13 51 x2.toNatClampNeg) then gI μ13 51 x2.toNatClampNeg else gI μ15 51 x1.toNatClampNeg), .int v16, .int x2, .int x1, .ref 1], μ15)) (cs := [vp_in x1 50, (([.int v16, .int x2, .int x1, .ref 1] : List Value).map fun v => v.category).sum ≤ 8]) rfl ⟨c1, (Nat.le_of_ble_eq_true rfl)⟩ ?_
        refine gWp_stat gT_176 (pc := 111) (c01 := 0) (as := [.int (if (gI μ15 51 x1.toNatClampNeg) < (gI μ13 51 x2.toNatClampNeg) then gI μ13 51 x2.toNatClampNeg else gI μ15 51 x1.toNatClampNeg)]) (rest := [.int v16, .int x2, .int x1, .ref 1]) rfl (Or.inl rfl) rfl rfl rfl ⟨by decide, Nat.le_of_ble_eq_true rfl, by decide, Nat.le_of_ble_eq_true rfl⟩ (gWp_imp h (fun μ17 r h => ?_))
        obtain ⟨v18, rfl, h⟩ := h
        refine Or.inl ⟨_, rfl, ?_⟩
        show gWp none 176 (114, [some (.ref 1), some (.int x1), some (.int x2), some (.int v14), some (.int (gI μ13 51 x2.toNatClampNeg))], [.int v18, .int v16, .int x2, .int x1, .ref 1], μ17) _ P
        refine gWp_virt gT_176 (pc := 114) (q := 1) (as := [.ref 1, .int x1, .int x2, .int v16, .int v18]) (rest := []) rfl rfl rfl rfl rfl rfl ⟨by decide, Nat.le_of_ble_eq_true rfl, by decide, Nat.le_of_ble_eq_true rfl⟩ (gWp_imp h (fun μ19 r h => ?_))
        obtain ⟨rfl, h⟩ := h
        refine Or.inl ⟨_, rfl, ?_⟩
        show gWp none 176 (117, [some (.ref 1), some (.int x1), some (.int x2), some (.int v14), some (.int (gI μ13 51 x2.toNatClampNeg))], [], μ19) _ P
        refine gWp_sts gT_176 3 (f' := (2, [some (.ref 1), some (.int x2), some (.int x2), some (.int v14), some (.int (gI μ13 51 x2.toNatClampNeg))], [], μ19)) (cs := []) rfl trivial ?_
        exact h
      · replace h := h.2 (Classical.not_not.mp (fun q => c (decide_eq_true q)))
        refine gWp_sts gT_176 1 (f' := (70, [some (.ref 1), some (.int x1), some (.int x2), some (.int v14), none], [.ref 1], μ13)) (cs := []) rfl trivial ?_
        refine gWp_virt gT_176 (pc := 70) (q := 1) (as := [.ref 1]) (rest := []) rfl rfl rfl rfl rfl rfl ⟨by decide, Nat.le_of_ble_eq_true rfl, by decide, Nat.le_of_ble_eq_true rfl⟩ (gWp_imp h (fun μ20 r h => ?_))
        obtain ⟨v21, rfl, h⟩ := h
        refine Or.inl ⟨_, rfl, ?_⟩
        show gWp none 176 (73, [some (.ref 1), some (.int x1), some (.int x2), some (.int v14), none], [.int v21], μ20) _ P
        obtain ⟨c1, h⟩ := h
        refine gWp_sts gT_176 11 (f' := (97, [some (.ref 1), some (.int x1), some (.int x2), some (.int v14), some (.int v21)], [.int (if (gI μ20 51 x1.toNatClampNeg) < v14 then v14 else gI μ20 51 x1.toNatClampNeg), .int x2, .int x1, .ref 1], μ20)) (cs := [vp_in x1 50, (([.int x2, .int x1, .ref 1] : List Value).map fun v => v.category).sum ≤ 8]) rfl ⟨c1, (Nat.le_of_ble_eq_true rfl)⟩ ?_
        refine gWp_stat gT_176 (pc := 97) (c01 := 0) (as := [.int (if (gI μ20 51 x1.toNatClampNeg) < v14 then v14 else gI μ20 51 x1.toNatClampNeg)]) (rest := [.int x2, .int x1, .ref 1]) rfl (Or.inl rfl) rfl rfl rfl ⟨by decide, Nat.le_of_ble_eq_true rfl, by decide, Nat.le_of_ble_eq_true rfl⟩ (gWp_imp h (fun μ22 r h => ?_))
        obtain ⟨v23, rfl, h⟩ := h
        refine Or.inl ⟨_, rfl, ?_⟩
        show gWp none 176 (100, [some (.ref 1), some (.int x1), some (.int x2), some (.int v14), some (.int v21)], [.int v23, .int x2, .int x1, .ref 1], μ22) _ P
        obtain ⟨c1, h⟩ := h
        refine gWp_sts gT_176 6 (f' := (111, [some (.ref 1), some (.int x1), some (.int x2), some (.int v14), some (.int v21)], [.int (if (gI μ22 51 x1.toNatClampNeg) < v21 then v21 else gI μ22 51 x1.toNatClampNeg), .int v23, .int x2, .int x1, .ref 1], μ22)) (cs := [vp_in x1 50, (([.int v23, .int x2, .int x1, .ref 1] : List Value).map fun v => v.category).sum ≤ 8]) rfl ⟨c1, (Nat.le_of_ble_eq_true rfl)⟩ ?_
        refine gWp_stat gT_176 (pc := 111) (c01 := 0) (as := [.int (if (gI μ22 51 x1.toNatClampNeg) < v21 then v21 else gI μ22 51 x1.toNatClampNeg)]) (rest := [.int v23, .int x2, .int x1, .ref 1]) rfl (Or.inl rfl) rfl rfl rfl ⟨by decide, Nat.le_of_ble_eq_true rfl, by decide, Nat.le_of_ble_eq_true rfl⟩ (gWp_imp h (fun μ24 r h => ?_))
        obtain ⟨v25, rfl, h⟩ := h
        refine Or.inl ⟨_, rfl, ?_⟩
        show gWp none 176 (114, [some (.ref 1), some (.int x1), some (.int x2), some (.int v14), some (.int v21)], [.int v25, .int v23, .int x2, .int x1, .ref 1], μ24) _ P
        refine gWp_virt gT_176 (pc := 114) (q := 1) (as := [.ref 1, .int x1, .int x2, .int v23, .int v25]) (rest := []) rfl rfl rfl rfl rfl rfl ⟨by decide, Nat.le_of_ble_eq_true rfl, by decide, Nat.le_of_ble_eq_true rfl⟩ (gWp_imp h (fun μ26 r h => ?_))
        obtain ⟨rfl, h⟩ := h
        refine Or.inl ⟨_, rfl, ?_⟩
        show gWp none 176 (117, [some (.ref 1), some (.int x1), some (.int x2), some (.int v14), some (.int v21)], [], μ26) _ P
        refine gWp_sts gT_176 3 (f' := (2, [some (.ref 1), some (.int x2), some (.int x2), some (.int v14), some (.int v21)], [], μ26)) (cs := []) rfl trivial ?_
        exact h
  · replace h := h.2 (fun q => c (decide_eq_true q))
    obtain ⟨c1, c2, h⟩ := h
    refine gWp_sts gT_176 8 (f' := (32, [some (.ref 1), some (.int x1), some (.int x2), none, none], [.int (gI μ 51 x1.toNatClampNeg), .int (gI μ 51 x2.toNatClampNeg)], μ)) (cs := [vp_in x2 50, vp_in x1 50]) rfl ⟨c1, c2⟩ ?_
    refine gWp_icmp gT_176 (pc := 32) rfl ⟨fun c => ?_, fun c => ?_⟩
    · replace h := h.1 (of_decide_eq_true c)
      refine gWp_sts gT_176 1 (f' := (42, [some (.ref 1), some (.int x1), some (.int x2), none, none], [.int x1], μ)) (cs := []) rfl trivial ?_
      refine gWp_if gT_176 (pc := 42) rfl ⟨fun c => ?_, fun c => ?_⟩
      · replace h := h.1 (of_decide_eq_true c)
        obtain ⟨c1, h⟩ := h
        refine gWp_sts gT_176 10 (f' := (66, [some (.ref 1), some (.int x1), some (.int x2), some (.int (gI μ 51 ((x1 - (1 : Int32)).toNatClampNeg))), none], [.int (gI μ 1 19), .int x2], μ)) (cs := [vp_in (x1 - (1 : Int32)) 50]) rfl c1 ?_
        refine gWp_icmp gT_176 (pc := 66) rfl ⟨fun c => ?_, fun c => ?_⟩
        · replace h := h.1 (of_decide_eq_true c)
          obtain ⟨c1, c2, h⟩ := h
          refine gWp_sts gT_176 14 (f' := (97, [some (.ref 1), some (.int x1), some (.int x2), some (.int (gI μ 51 ((x1 - (1 : Int32)).toNatClampNeg))), some (.int (gI μ 51 x2.toNatClampNeg))], [.int (if (gI μ 51 x1.toNatClampNeg) < (gI μ 51 ((x1 - (1 : Int32)).toNatClampNeg)) then gI μ 51 ((x1 - (1 : Int32)).toNatClampNeg) else gI μ 51 x1.toNatClampNeg), .int x2, .int x1, .ref 1], μ)) (cs := [vp_in x2 50, vp_in x1 50, (([.int x2, .int x1, .ref 1] : List Value).map fun v => v.category).sum ≤ 8]) rfl ⟨c1, c2, (Nat.le_of_ble_eq_true rfl)⟩ ?_
          refine gWp_stat gT_176 (pc := 97) (c01 := 0) (as := [.int (if (gI μ 51 x1.toNatClampNeg) < (gI μ 51 ((x1 - (1 : Int32)).toNatClampNeg)) then gI μ 51 ((x1 - (1 : Int32)).toNatClampNeg) else gI μ 51 x1.toNatClampNeg)]) (rest := [.int x2, .int x1, .ref 1]) rfl (Or.inl rfl) rfl rfl rfl ⟨by decide, Nat.le_of_ble_eq_true rfl, by decide, Nat.le_of_ble_eq_true rfl⟩ (gWp_imp h (fun μ27 r h => ?_))
          obtain ⟨v28, rfl, h⟩ := h
          refine Or.inl ⟨_, rfl, ?_⟩
          show gWp none 176 (100, [some (.ref 1), some (.int x1), some (.int x2), some (.int (gI μ 51 ((x1 - (1 : Int32)).toNatClampNeg))), some (.int (gI μ 51 x2.toNatClampNeg))], [.int v28, .int x2, .int x1, .ref 1], μ27) _ P
          obtain ⟨c1, h⟩ := h
          refine gWp_sts gT_176 6 (f' := (111, [some (.ref 1), some (.int x1), some (.int x2), some (.int (gI μ 51 ((x1 - (1 : Int32)).toNatClampNeg))), some (.int (gI μ 51 x2.toNatClampNeg))], [.int (if (gI μ27 51 x1.toNatClampNeg) < (gI μ 51 x2.toNatClampNeg) then gI μ 51 x2.toNatClampNeg else gI μ27 51 x1.toNatClampNeg), .int v28, .int x2, .int x1, .ref 1], μ27)) (cs := [vp_in x1 50, (([.int v28, .int x2, .int x1, .ref 1] : List Value).map fun v => v.category).sum ≤ 8]) rfl ⟨c1, (Nat.le_of_ble_eq_true rfl)⟩ ?_
          refine gWp_stat gT_176 (pc := 111) (c01 := 0) (as := [.int (if (gI μ27 51 x1.toNatClampNeg) < (gI μ 51 x2.toNatClampNeg) then gI μ 51 x2.toNatClampNeg else gI μ27 51 x1.toNatClampNeg)]) (rest := [.int v28, .int x2, .int x1, .ref 1]) rfl (Or.inl rfl) rfl rfl rfl ⟨by decide, Nat.le_of_ble_eq_true rfl, by decide, Nat.le_of_ble_eq_true rfl⟩ (gWp_imp h (fun μ29 r h => ?_))
          obtain ⟨v30, rfl, h⟩ := h
          refine Or.inl ⟨_, rfl, ?_⟩
          show gWp none 176 (114, [some (.ref 1), some (.int x1), some (.int x2), some (.int (gI μ 51 ((x1 - (1 : Int32)).toNatClampNeg))), some (.int (gI μ 51 x2.toNatClampNeg))], [.int v30, .int v28, .int x2, .int x1, .ref 1], μ29) _ P
          refine gWp_virt gT_176 (pc := 114) (q := 1) (as := [.ref 1, .int x1, .int x2, .int v28, .int v30]) (rest := []) rfl rfl rfl rfl rfl rfl ⟨by decide, Nat.le_of_ble_eq_true rfl, by decide, Nat.le_of_ble_eq_true rfl⟩ (gWp_imp h (fun μ31 r h => ?_))
          obtain ⟨rfl, h⟩ := h
          refine Or.inl ⟨_, rfl, ?_⟩
          show gWp none 176 (117, [some (.ref 1), some (.int x1), some (.int x2), some (.int (gI μ 51 ((x1 - (1 : Int32)).toNatClampNeg))), some (.int (gI μ 51 x2.toNatClampNeg))], [], μ31) _ P
          refine gWp_sts gT_176 3 (f' := (2, [some (.ref 1), some (.int x2), some (.int x2), some (.int (gI μ 51 ((x1 - (1 : Int32)).toNatClampNeg))), some (.int (gI μ 51 x2.toNatClampNeg))], [], μ31)) (cs := []) rfl trivial ?_
          exact h
        · replace h := h.2 (Classical.not_not.mp (fun q => c (decide_eq_true q)))
          refine gWp_sts gT_176 1 (f' := (70, [some (.ref 1), some (.int x1), some (.int x2), some (.int (gI μ 51 ((x1 - (1 : Int32)).toNatClampNeg))), none], [.ref 1], μ)) (cs := []) rfl trivial ?_
          refine gWp_virt gT_176 (pc := 70) (q := 1) (as := [.ref 1]) (rest := []) rfl rfl rfl rfl rfl rfl ⟨by decide, Nat.le_of_ble_eq_true rfl, by decide, Nat.le_of_ble_eq_true rfl⟩ (gWp_imp h (fun μ32 r h => ?_))
          obtain ⟨v33, rfl, h⟩ := h
          refine Or.inl ⟨_, rfl, ?_⟩
          show gWp none 176 (73, [some (.ref 1), some (.int x1), some (.int x2), some (.int (gI μ 51 ((x1 - (1 : Int32)).toNatClampNeg))), none], [.int v33], μ32) _ P
          obtain ⟨c1, h⟩ := h
          refine gWp_sts gT_176 11 (f' := (97, [some (.ref 1), some (.int x1), some (.int x2), some (.int (gI μ 51 ((x1 - (1 : Int32)).toNatClampNeg))), some (.int v33)], [.int (if (gI μ32 51 x1.toNatClampNeg) < (gI μ 51 ((x1 - (1 : Int32)).toNatClampNeg)) then gI μ 51 ((x1 - (1 : Int32)).toNatClampNeg) else gI μ32 51 x1.toNatClampNeg), .int x2, .int x1, .ref 1], μ32)) (cs := [vp_in x1 50, (([.int x2, .int x1, .ref 1] : List Value).map fun v => v.category).sum ≤ 8]) rfl ⟨c1, (Nat.le_of_ble_eq_true rfl)⟩ ?_
          refine gWp_stat gT_176 (pc := 97) (c01 := 0) (as := [.int (if (gI μ32 51 x1.toNatClampNeg) < (gI μ 51 ((x1 - (1 : Int32)).toNatClampNeg)) then gI μ 51 ((x1 - (1 : Int32)).toNatClampNeg) else gI μ32 51 x1.toNatClampNeg)]) (rest := [.int x2, .int x1, .ref 1]) rfl (Or.inl rfl) rfl rfl rfl ⟨by decide, Nat.le_of_ble_eq_true rfl, by decide, Nat.le_of_ble_eq_true rfl⟩ (gWp_imp h (fun μ34 r h => ?_))
          obtain ⟨v35, rfl, h⟩ := h
          refine Or.inl ⟨_, rfl, ?_⟩
          show gWp none 176 (100, [some (.ref 1), some (.int x1), some (.int x2), some (.int (gI μ 51 ((x1 - (1 : Int32)).toNatClampNeg))), some (.int v33)], [.int v35, .int x2, .int x1, .ref 1], μ34) _ P
          obtain ⟨c1, h⟩ := h
          refine gWp_sts gT_176 6 (f' := (111, [some (.ref 1), some (.int x1), some (.int x2), some (.int (gI μ 51 ((x1 - (1 : Int32)).toNatClampNeg))), some (.int v33)], [.int (if (gI μ34 51 x1.toNatClampNeg) < v33 then v33 else gI μ34 51 x1.toNatClampNeg), .int v35, .int x2, .int x1, .ref 1], μ34)) (cs := [vp_in x1 50, (([.int v35, .int x2, .int x1, .ref 1] : List Value).map fun v => v.category).sum ≤ 8]) rfl ⟨c1, (Nat.le_of_ble_eq_true rfl)⟩ ?_
          refine gWp_stat gT_176 (pc := 111) (c01 := 0) (as := [.int (if (gI μ34 51 x1.toNatClampNeg) < v33 then v33 else gI μ34 51 x1.toNatClampNeg)]) (rest := [.int v35, .int x2, .int x1, .ref 1]) rfl (Or.inl rfl) rfl rfl rfl ⟨by decide, Nat.le_of_ble_eq_true rfl, by decide, Nat.le_of_ble_eq_true rfl⟩ (gWp_imp h (fun μ36 r h => ?_))
          obtain ⟨v37, rfl, h⟩ := h
          refine Or.inl ⟨_, rfl, ?_⟩
          show gWp none 176 (114, [some (.ref 1), some (.int x1), some (.int x2), some (.int (gI μ 51 ((x1 - (1 : Int32)).toNatClampNeg))), some (.int v33)], [.int v37, .int v35, .int x2, .int x1, .ref 1], μ36) _ P
          refine gWp_virt gT_176 (pc := 114) (q := 1) (as := [.ref 1, .int x1, .int x2, .int v35, .int v37]) (rest := []) rfl rfl rfl rfl rfl rfl ⟨by decide, Nat.le_of_ble_eq_true rfl, by decide, Nat.le_of_ble_eq_true rfl⟩ (gWp_imp h (fun μ38 r h => ?_))
          obtain ⟨rfl, h⟩ := h
          refine Or.inl ⟨_, rfl, ?_⟩
          show gWp none 176 (117, [some (.ref 1), some (.int x1), some (.int x2), some (.int (gI μ 51 ((x1 - (1 : Int32)).toNatClampNeg))), some (.int v33)], [], μ38) _ P
          refine gWp_sts gT_176 3 (f' := (2, [some (.ref 1), some (.int x2), some (.int x2), some (.int (gI μ 51 ((x1 - (1 : Int32)).toNatClampNeg))), some (.int v33)], [], μ38)) (cs := []) rfl trivial ?_
          exact h
      · replace h := h.2 (Classical.not_not.mp (fun q => c (decide_eq_true q)))
        refine gWp_sts gT_176 1 (f' := (46, [some (.ref 1), some (.int x1), some (.int x2), none, none], [.ref 1], μ)) (cs := []) rfl trivial ?_
        refine gWp_virt gT_176 (pc := 46) (q := 1) (as := [.ref 1]) (rest := []) rfl rfl rfl rfl rfl rfl ⟨by decide, Nat.le_of_ble_eq_true rfl, by decide, Nat.le_of_ble_eq_true rfl⟩ (gWp_imp h (fun μ39 r h => ?_))
        obtain ⟨v40, rfl, h⟩ := h
        refine Or.inl ⟨_, rfl, ?_⟩
        show gWp none 176 (49, [some (.ref 1), some (.int x1), some (.int x2), none, none], [.int v40], μ39) _ P
        refine gWp_sts gT_176 5 (f' := (66, [some (.ref 1), some (.int x1), some (.int x2), some (.int v40), none], [.int (gI μ39 1 19), .int x2], μ39)) (cs := []) rfl trivial ?_
        refine gWp_icmp gT_176 (pc := 66) rfl ⟨fun c => ?_, fun c => ?_⟩
        · replace h := h.1 (of_decide_eq_true c)
          obtain ⟨c1, c2, h⟩ := h
          refine gWp_sts gT_176 14 (f' := (97, [some (.ref 1), some (.int x1), some (.int x2), some (.int v40), some (.int (gI μ39 51 x2.toNatClampNeg))], [.int (if (gI μ39 51 x1.toNatClampNeg) < v40 then v40 else gI μ39 51 x1.toNatClampNeg), .int x2, .int x1, .ref 1], μ39)) (cs := [vp_in x2 50, vp_in x1 50, (([.int x2, .int x1, .ref 1] : List Value).map fun v => v.category).sum ≤ 8]) rfl ⟨c1, c2, (Nat.le_of_ble_eq_true rfl)⟩ ?_
          refine gWp_stat gT_176 (pc := 97) (c01 := 0) (as := [.int (if (gI μ39 51 x1.toNatClampNeg) < v40 then v40 else gI μ39 51 x1.toNatClampNeg)]) (rest := [.int x2, .int x1, .ref 1]) rfl (Or.inl rfl) rfl rfl rfl ⟨by decide, Nat.le_of_ble_eq_true rfl, by decide, Nat.le_of_ble_eq_true rfl⟩ (gWp_imp h (fun μ41 r h => ?_))
          obtain ⟨v42, rfl, h⟩ := h
          refine Or.inl ⟨_, rfl, ?_⟩
          show gWp none 176 (100, [some (.ref 1), some (.int x1), some (.int x2), some (.int v40), some (.int (gI μ39 51 x2.toNatClampNeg))], [.int v42, .int x2, .int x1, .ref 1], μ41) _ P
          obtain ⟨c1, h⟩ := h
          refine gWp_sts gT_176 6 (f' := (111, [some (.ref 1), some (.int x1), some (.int x2), some (.int v40), some (.int (gI μ39 51 x2.toNatClampNeg))], [.int (if (gI μ41 51 x1.toNatClampNeg) < (gI μ39 51 x2.toNatClampNeg) then gI μ39 51 x2.toNatClampNeg else gI μ41 51 x1.toNatClampNeg), .int v42, .int x2, .int x1, .ref 1], μ41)) (cs := [vp_in x1 50, (([.int v42, .int x2, .int x1, .ref 1] : List Value).map fun v => v.category).sum ≤ 8]) rfl ⟨c1, (Nat.le_of_ble_eq_true rfl)⟩ ?_
          refine gWp_stat gT_176 (pc := 111) (c01 := 0) (as := [.int (if (gI μ41 51 x1.toNatClampNeg) < (gI μ39 51 x2.toNatClampNeg) then gI μ39 51 x2.toNatClampNeg else gI μ41 51 x1.toNatClampNeg)]) (rest := [.int v42, .int x2, .int x1, .ref 1]) rfl (Or.inl rfl) rfl rfl rfl ⟨by decide, Nat.le_of_ble_eq_true rfl, by decide, Nat.le_of_ble_eq_true rfl⟩ (gWp_imp h (fun μ43 r h => ?_))
          obtain ⟨v44, rfl, h⟩ := h
          refine Or.inl ⟨_, rfl, ?_⟩
          show gWp none 176 (114, [some (.ref 1), some (.int x1), some (.int x2), some (.int v40), some (.int (gI μ39 51 x2.toNatClampNeg))], [.int v44, .int v42, .int x2, .int x1, .ref 1], μ43) _ P
          refine gWp_virt gT_176 (pc := 114) (q := 1) (as := [.ref 1, .int x1, .int x2, .int v42, .int v44]) (rest := []) rfl rfl rfl rfl rfl rfl ⟨by decide, Nat.le_of_ble_eq_true rfl, by decide, Nat.le_of_ble_eq_true rfl⟩ (gWp_imp h (fun μ45 r h => ?_))
          obtain ⟨rfl, h⟩ := h
          refine Or.inl ⟨_, rfl, ?_⟩
          show gWp none 176 (117, [some (.ref 1), some (.int x1), some (.int x2), some (.int v40), some (.int (gI μ39 51 x2.toNatClampNeg))], [], μ45) _ P
          refine gWp_sts gT_176 3 (f' := (2, [some (.ref 1), some (.int x2), some (.int x2), some (.int v40), some (.int (gI μ39 51 x2.toNatClampNeg))], [], μ45)) (cs := []) rfl trivial ?_
          exact h
        · replace h := h.2 (Classical.not_not.mp (fun q => c (decide_eq_true q)))
          refine gWp_sts gT_176 1 (f' := (70, [some (.ref 1), some (.int x1), some (.int x2), some (.int v40), none], [.ref 1], μ39)) (cs := []) rfl trivial ?_
          refine gWp_virt gT_176 (pc := 70) (q := 1) (as := [.ref 1]) (rest := []) rfl rfl rfl rfl rfl rfl ⟨by decide, Nat.le_of_ble_eq_true rfl, by decide, Nat.le_of_ble_eq_true rfl⟩ (gWp_imp h (fun μ46 r h => ?_))
          obtain ⟨v47, rfl, h⟩ := h
          refine Or.inl ⟨_, rfl, ?_⟩
          show gWp none 176 (73, [some (.ref 1), some (.int x1), some (.int x2), some (.int v40), none], [.int v47], μ46) _ P
          obtain ⟨c1, h⟩ := h
          refine gWp_sts gT_176 11 (f' := (97, [some (.ref 1), some (.int x1), some (.int x2), some (.int v40), some (.int v47)], [.int (if (gI μ46 51 x1.toNatClampNeg) < v40 then v40 else gI μ46 51 x1.toNatClampNeg), .int x2, .int x1, .ref 1], μ46)) (cs := [vp_in x1 50, (([.int x2, .int x1, .ref 1] : List Value).map fun v => v.category).sum ≤ 8]) rfl ⟨c1, (Nat.le_of_ble_eq_true rfl)⟩ ?_
          refine gWp_stat gT_176 (pc := 97) (c01 := 0) (as := [.int (if (gI μ46 51 x1.toNatClampNeg) < v40 then v40 else gI μ46 51 x1.toNatClampNeg)]) (rest := [.int x2, .int x1, .ref 1]) rfl (Or.inl rfl) rfl rfl rfl ⟨by decide, Nat.le_of_ble_eq_true rfl, by decide, Nat.le_of_ble_eq_true rfl⟩ (gWp_imp h (fun μ48 r h => ?_))
          obtain ⟨v49, rfl, h⟩ := h
          refine Or.inl ⟨_, rfl, ?_⟩
          show gWp none 176 (100, [some (.ref 1), some (.int x1), some (.int x2), some (.int v40), some (.int v47)], [.int v49, .int x2, .int x1, .ref 1], μ48) _ P
          obtain ⟨c1, h⟩ := h
          refine gWp_sts gT_176 6 (f' := (111, [some (.ref 1), some (.int x1), some (.int x2), some (.int v40), some (.int v47)], [.int (if (gI μ48 51 x1.toNatClampNeg) < v47 then v47 else gI μ48 51 x1.toNatClampNeg), .int v49, .int x2, .int x1, .ref 1], μ48)) (cs := [vp_in x1 50, (([.int v49, .int x2, .int x1, .ref 1] : List Value).map fun v => v.category).sum ≤ 8]) rfl ⟨c1, (Nat.le_of_ble_eq_true rfl)⟩ ?_
          refine gWp_stat gT_176 (pc := 111) (c01 := 0) (as := [.int (if (gI μ48 51 x1.toNatClampNeg) < v47 then v47 else gI μ48 51 x1.toNatClampNeg)]) (rest := [.int v49, .int x2, .int x1, .ref 1]) rfl (Or.inl rfl) rfl rfl rfl ⟨by decide, Nat.le_of_ble_eq_true rfl, by decide, Nat.le_of_ble_eq_true rfl⟩ (gWp_imp h (fun μ50 r h => ?_))
          obtain ⟨v51, rfl, h⟩ := h
          refine Or.inl ⟨_, rfl, ?_⟩
          show gWp none 176 (114, [some (.ref 1), some (.int x1), some (.int x2), some (.int v40), some (.int v47)], [.int v51, .int v49, .int x2, .int x1, .ref 1], μ50) _ P
          refine gWp_virt gT_176 (pc := 114) (q := 1) (as := [.ref 1, .int x1, .int x2, .int v49, .int v51]) (rest := []) rfl rfl rfl rfl rfl rfl ⟨by decide, Nat.le_of_ble_eq_true rfl, by decide, Nat.le_of_ble_eq_true rfl⟩ (gWp_imp h (fun μ52 r h => ?_))
          obtain ⟨rfl, h⟩ := h
          refine Or.inl ⟨_, rfl, ?_⟩
          show gWp none 176 (117, [some (.ref 1), some (.int x1), some (.int x2), some (.int v40), some (.int v47)], [], μ52) _ P
          refine gWp_sts gT_176 3 (f' := (2, [some (.ref 1), some (.int x2), some (.int x2), some (.int v40), some (.int v47)], [], μ52)) (cs := []) rfl trivial ?_
          exact h
    · replace h := h.2 (Classical.not_not.mp (fun q => c (decide_eq_true q)))
      refine gWp_sts gT_176 2 (f' := (12, [some (.ref 1), some (.int x1), some (.int (x2 + (1 : Int32))), none, none], [], μ)) (cs := []) rfl trivial ?_
      exact h
set_option maxRecDepth 20000 in
theorem vc_176_2 {μ : gMu} {x1 : Int32} {P : gMu → gRes → Prop} (h : (((gI μ 1 19) ≤ x1) → (P μ (.inl none))) ∧ ((¬ (gI μ 1 19) ≤ x1) → (gWp none 176 (12, [some (.ref 1), some (.int x1), some (.int x1), none, none], [], μ) 0 P))) : gWp none 176 (2, [some (.ref 1), some (.int x1), none, none, none], [], μ) 0 P := by
  refine gWp_sts gT_176 3 (f' := (7, [some (.ref 1), some (.int x1), none, none, none], [.int (gI μ 1 19), .int x1], μ)) (cs := []) rfl trivial ?_
  refine gWp_icmp gT_176 (pc := 7) rfl ⟨fun c => ?_, fun c => ?_⟩
  · replace h := h.1 (of_decide_eq_true c)
    exact gWp_end gT_176 rfl rfl h
  · replace h := h.2 (fun q => c (decide_eq_true q))
    refine gWp_sts gT_176 2 (f' := (12, [some (.ref 1), some (.int x1), some (.int x1), none, none], [], μ)) (cs := []) rfl trivial ?_
    exact h
set_option maxRecDepth 20000 in
theorem vc_176 {μ : gMu} {P : gMu → gRes → Prop} (h : gWp none 176 (2, [some (.ref 1), some (.int (0 : Int32)), none, none, none], [], μ) 0 P) : gWp none 176 (0, [some (.ref 1), none, none, none, none], [], μ) 0 P := by
  refine gWp_sts gT_176 2 (f' := (2, [some (.ref 1), some (.int (0 : Int32)), none, none, none], [], μ)) (cs := []) rfl trivial ?_
  exact h
/-! GlyphmillModel.scriptOf -/
theorem gT_177 : gCode[177]? = some gC_177 := rfl
set_option maxRecDepth 20000 in
theorem vc_177 {μ : gMu} {x0 : Int32} {P : gMu → gRes → Prop} (h : ((x0 < (97 : Int32)) → (gCl' 154 [.int x0] μ (fun μ1 r => (∃ v2, r = .inl (some (.int v2)) ∧ (((v2 = 0) → (P μ1 (.inl (some (.int (2 : Int32)))))) ∧ ((¬ v2 = 0) → (P μ1 (.inl (some (.int (1 : Int32))))))))))) ∧ ((¬ x0 < (97 : Int32)) → ((((109 : Int32) < x0) → (gCl' 154 [.int x0] μ (fun μ3 r => (∃ v4, r = .inl (some (.int v4)) ∧ (((v4 = 0) → (P μ3 (.inl (some (.int (2 : Int32)))))) ∧ ((¬ v4 = 0) → (P μ3 (.inl (some (.int (1 : Int32))))))))))) ∧ ((¬ (109 : Int32) < x0) → (P μ (.inl (some (.int (0 : Int32))))))))) : gWp none 177 (0, [some (.int x0)], [], μ) 0 P := by
  refine gWp_sts gT_177 2 (f' := (3, [some (.int x0)], [.int (97 : Int32), .int x0], μ)) (cs := []) rfl trivial ?_
  refine gWp_icmp gT_177 (pc := 3) rfl ⟨fun c => ?_, fun c => ?_⟩
  · replace h := h.1 (of_decide_eq_true c)
    refine gWp_sts gT_177 1 (f' := (17, [some (.int x0)], [.int x0], μ)) (cs := []) rfl trivial ?_
    refine gWp_stat gT_177 (pc := 17) (c01 := 0) (as := [.int x0]) (rest := []) rfl (Or.inl rfl) rfl rfl rfl ⟨by decide, Nat.le_of_ble_eq_true rfl, by decide, Nat.le_of_ble_eq_true rfl⟩ (gWp_imp h (fun μ1 r h => ?_))
    obtain ⟨v2, rfl, h⟩ := h
    refine Or.inl ⟨_, rfl, ?_⟩
    show gWp none 177 (20, [some (.int x0)], [.int v2], μ1) _ P
    refine gWp_if gT_177 (pc := 20) rfl ⟨fun c => ?_, fun c => ?_⟩
    · replace h := h.1 (of_decide_eq_true c)
      refine gWp_sts gT_177 1 (f' := (28, [some (.int x0)], [.int (2 : Int32)], μ1)) (cs := []) rfl trivial ?_
      exact gWp_end gT_177 rfl (gEnd_int trivial) h
    · replace h := h.2 (fun q => c (decide_eq_true q))
      refine gWp_sts gT_177 2 (f' := (28, [some (.int x0)], [.int (1 : Int32)], μ1)) (cs := []) rfl trivial ?_
      exact gWp_end gT_177 rfl (gEnd_int trivial) h
  · replace h := h.2 (fun q => c (decide_eq_true q))
    refine gWp_sts gT_177 2 (f' := (9, [some (.int x0)], [.int (109 : Int32), .int x0], μ)) (cs := []) rfl trivial ?_
    refine gWp_icmp gT_177 (pc := 9) rfl ⟨fun c => ?_, fun c => ?_⟩
    · replace h := h.1 (of_decide_eq_true c)
      refine gWp_sts gT_177 1 (f' := (17, [some (.int x0)], [.int x0], μ)) (cs := []) rfl trivial ?_
      refine gWp_stat gT_177 (pc := 17) (c01 := 0) (as := [.int x0]) (rest := []) rfl (Or.inl rfl) rfl rfl rfl ⟨by decide, Nat.le_of_ble_eq_true rfl, by decide, Nat.le_of_ble_eq_true rfl⟩ (gWp_imp h (fun μ3 r h => ?_))
      obtain ⟨v4, rfl, h⟩ := h
      refine Or.inl ⟨_, rfl, ?_⟩
      show gWp none 177 (20, [some (.int x0)], [.int v4], μ3) _ P
      refine gWp_if gT_177 (pc := 20) rfl ⟨fun c => ?_, fun c => ?_⟩
      · replace h := h.1 (of_decide_eq_true c)
        refine gWp_sts gT_177 1 (f' := (28, [some (.int x0)], [.int (2 : Int32)], μ3)) (cs := []) rfl trivial ?_
        exact gWp_end gT_177 rfl (gEnd_int trivial) h
      · replace h := h.2 (fun q => c (decide_eq_true q))
        refine gWp_sts gT_177 2 (f' := (28, [some (.int x0)], [.int (1 : Int32)], μ3)) (cs := []) rfl trivial ?_
        exact gWp_end gT_177 rfl (gEnd_int trivial) h
    · replace h := h.2 (fun q => c (decide_eq_true q))
      refine gWp_sts gT_177 2 (f' := (28, [some (.int x0)], [.int (0 : Int32)], μ)) (cs := []) rfl trivial ?_
      exact gWp_end gT_177 rfl (gEnd_int trivial) h
/-! GlyphmillModel.laysScripts -/
theorem gT_178 : gCode[178]? = some gC_178 := rfl
set_option maxRecDepth 20000 in
theorem vc_178_101 {μ : gMu} {x1 : Int32} {x2 : Int32} {P : gMu → gRes → Prop} (h : (((gI μ 1 19) ≤ x2) → (P μ (.inl none))) ∧ ((¬ (gI μ 1 19) ≤ x2) → (((x2 ≤ 0) → ((((0 : Int32) = 0) → ((vp_in x2 50) ∧ (gWp none 178 (101, [some (.ref 1), some (.int x1), some (.int (x2 + (1 : Int32))), some (.int (0 : Int32))], [], (gsI (gsI μ 1 21 ((gI μ 1 21) + (1 : Int32))) 54 x2.toNatClampNeg (((gI μ 1 21) + (1 : Int32)) - (1 : Int32)))) 0 P))) ∧ ((¬ (0 : Int32) = 0) → ((vp_in x2 50) ∧ (gWp none 178 (101, [some (.ref 1), some (.int x1), some (.int (x2 + (1 : Int32))), some (.int (0 : Int32))], [], (gsI (gsI μ 1 21 ((gI μ 1 21) + (0 : Int32))) 54 x2.toNatClampNeg (((gI μ 1 21) + (0 : Int32)) - (1 : Int32)))) 0 P))))) ∧ ((¬ x2 ≤ 0) → ((vp_in x2 50) ∧ ((vp_in (x2 - (1 : Int32)) 50) ∧ (((¬ (gI μ 52 x2.toNatClampNeg) = (gI μ 52 ((x2 - (1 : Int32)).toNatClampNeg))) → ((((0 : Int32) = 0) → ((vp_in x2 50) ∧ (gWp none 178 (101, [some (.ref 1), some (.int x1), some (.int (x2 + (1 : Int32))), some (.int (0 : Int32))], [], (gsI (gsI μ 1 21 ((gI μ 1 21) + (1 : Int32))) 54 x2.toNatClampNeg (((gI μ 1 21) + (1 : Int32)) - (1 : Int32)))) 0 P))) ∧ ((¬ (0 : Int32) = 0) → ((vp_in x2 50) ∧ (gWp none 178 (101, [some (.ref 1), some (.int x1), some (.int (x2 + (1 : Int32))), some (.int (0 : Int32))], [], (gsI (gsI μ 1 21 ((gI μ 1 21) + (0 : Int32))) 54 x2.toNatClampNeg (((gI μ 1 21) + (0 : Int32)) - (1 : Int32)))) 0 P))))) ∧ (((gI μ 52 x2.toNatClampNeg) = (gI μ 52 ((x2 - (1 : Int32)).toNatClampNeg))) → ((vp_in x2 50) ∧ ((vp_in (x2 - (1 : Int32)) 50) ∧ (((¬ (gI μ 53 x2.toNatClampNeg) = (gI μ 53 ((x2 - (1 : Int32)).toNatClampNeg))) → ((((0 : Int32) = 0) → ((vp_in x2 50) ∧ (gWp none 178 (101, [some (.ref 1), some (.int x1), some (.int (x2 + (1 : Int32))), some (.int (0 : Int32))], [], (gsI (gsI μ 1 21 ((gI μ 1 21) + (1 : Int32))) 54 x2.toNatClampNeg (((gI μ 1 21) + (1 : Int32)) - (1 : Int32)))) 0 P))) ∧ ((¬ (0 : Int32) = 0) → ((vp_in x2 50) ∧ (gWp none 178 (101, [some (.ref 1), some (.int x1), some (.int (x2 + (1 : Int32))), some (.int (0 : Int32))], [], (gsI (gsI μ 1 21 ((gI μ 1 21) + (0 : Int32))) 54 x2.toNatClampNeg (((gI μ 1 21) + (0 : Int32)) - (1 : Int32)))) 0 P))))) ∧ (((gI μ 53 x2.toNatClampNeg) = (gI μ 53 ((x2 - (1 : Int32)).toNatClampNeg))) → ((((1 : Int32) = 0) → ((vp_in x2 50) ∧ (gWp none 178 (101, [some (.ref 1), some (.int x1), some (.int (x2 + (1 : Int32))), some (.int (1 : Int32))], [], (gsI (gsI μ 1 21 ((gI μ 1 21) + (1 : Int32))) 54 x2.toNatClampNeg (((gI μ 1 21) + (1 : Int32)) - (1 : Int32)))) 0 P))) ∧ ((¬ (1 : Int32) = 0) → ((vp_in x2 50) ∧ (gWp none 178 (101, [some (.ref 1), some (.int x1), some (.int (x2 + (1 : Int32))), some (.int (1 : Int32))], [], (gsI (gsI μ 1 21 ((gI μ 1 21) + (0 : Int32))) 54 x2.toNatClampNeg (((gI μ 1 21) + (0 : Int32)) - (1 : Int32)))) 0 P)))))))))))))))) : gWp none 178 (101, [some (.ref 1), some (.int x1), some (.int x2), none], [], μ) 0 P := by
  refine gWp_sts gT_178 3 (f' := (106, [some (.ref 1), some (.int x1), some (.int x2), none], [.int (gI μ 1 19), .int x2], μ)) (cs := []) rfl trivial ?_
  refine gWp_icmp gT_178 (pc := 106) rfl ⟨fun c => ?_, fun c => ?_⟩
  · replace h := h.1 (of_decide_eq_true c)
    exact gWp_end gT_178 rfl rfl h
  · replace h := h.2 (fun q => c (decide_eq_true q))
    refine gWp_sts gT_178 1 (f' := (110, [some (.ref 1), some (.int x1), some (.int x2), none], [.int x2], μ)) (cs := []) rfl trivial ?_
    refine gWp_if gT_178 (pc := 110) rfl ⟨fun c => ?_, fun c => ?_⟩
    · replace h := h.1 (of_decide_eq_true c)
      refine gWp_sts gT_178 6 (f' := (159, [some (.ref 1), some (.int x1), some (.int x2), some (.int (0 : Int32))], [.int (0 : Int32), .int (gI μ 1 21), .ref 1], μ)) (cs := [(Value.ref 1 : Value).category = 1]) rfl rfl ?_
      refine gWp_if gT_178 (pc := 159) rfl ⟨fun c => ?_, fun c => ?_⟩
      · replace h := h.1 (of_decide_eq_true c)
        obtain ⟨c1, h⟩ := h
        refine gWp_sts gT_178 13 (f' := (101, [some (.ref 1), some (.int x1), some (.int (x2 + (1 : Int32))), some (.int (0 : Int32))], [], (gsI (gsI μ 1 21 ((gI μ 1 21) + (1 : Int32))) 54 x2.toNatClampNeg (((gI μ 1 21) + (1 : Int32)) - (1 : Int32))))) (cs := [vp_in x2 50]) rfl c1 ?_
        exact h
      · replace h := h.2 (fun q => c (decide_eq_true q))
        obtain ⟨c1, h⟩ := h
        refine gWp_sts gT_178 14 (f' := (101, [some (.ref 1), some (.int x1), some (.int (x2 + (1 : Int32))), some (.int (0 : Int32))], [], (gsI (gsI μ 1 21 ((gI μ 1 21) + (0 : Int32))) 54 x2.toNatClampNeg (((gI μ 1 21) + (0 : Int32)) - (1 : Int32))))) (cs := [vp_in x2 50]) rfl c1 ?_
        exact h
    · replace h := h.2 (fun q => c (decide_eq_true q))
      obtain ⟨c1, c2, h⟩ := h
      refine gWp_sts gT_178 10 (f' := (127, [some (.ref 1), some (.int x1), some (.int x2), none], [.int (gI μ 52 ((x2 - (1 : Int32)).toNatClampNeg)), .int (gI μ 52 x2.toNatClampNeg)], μ)) (cs := [vp_in x2 50, vp_in (x2 - (1 : Int32)) 50]) rfl ⟨c1, c2⟩ ?_
      refine gWp_icmp gT_178 (pc := 127) rfl ⟨fun c => ?_, fun c => ?_⟩
      · replace h := h.1 (of_decide_eq_true c)
        refine gWp_sts gT_178 6 (f' := (159, [some (.ref 1), some (.int x1), some (.int x2), some (.int (0 : Int32))], [.int (0 : Int32), .int (gI μ 1 21), .ref 1], μ)) (cs := [(Value.ref 1 : Value).category = 1]) rfl rfl ?_
        refine gWp_if gT_178 (pc := 159) rfl ⟨fun c => ?_, fun c => ?_⟩
        · replace h := h.1 (of_decide_eq_true c)
          obtain ⟨c1, h⟩ := h
          refine gWp_sts gT_178 13 (f' := (101, [some (.ref 1), some (.int x1), some (.int (x2 + (1 : Int32))), some (.int (0 : Int32))], [], (gsI (gsI μ 1 21 ((gI μ 1 21) + (1 : Int32))) 54 x2.toNatClampNeg (((gI μ 1 21) + (1 : Int32)) - (1 : Int32))))) (cs := [vp_in x2 50]) rfl c1 ?_
          exact h
        · replace h := h.2 (fun q => c (decide_eq_true q))
          obtain ⟨c1, h⟩ := h
          refine gWp_sts gT_178 14 (f' := (101, [some (.ref 1), some (.int x1), some (.int (x2 + (1 : Int32))), some (.int (0 : Int32))], [], (gsI (gsI μ 1 21 ((gI μ 1 21) + (0 : Int32))) 54 x2.toNatClampNeg (((gI μ 1 21) + (0 : Int32)) - (1 : Int32))))) (cs := [vp_in x2 50]) rfl c1 ?_
          exact h
      · replace h := h.2 (Classical.not_not.mp (fun q => c (decide_eq_true q)))
        obtain ⟨c1, c2, h⟩ := h
        refine gWp_sts gT_178 10 (f' := (144, [some (.ref 1), some (.int x1), some (.int x2), none], [.int (gI μ 53 ((x2 - (1 : Int32)).toNatClampNeg)), .int (gI μ 53 x2.toNatClampNeg)], μ)) (cs := [vp_in x2 50, vp_in (x2 - (1 : Int32)) 50]) rfl ⟨c1, c2⟩ ?_
        refine gWp_icmp gT_178 (pc := 144) rfl ⟨fun c => ?_, fun c => ?_⟩
        · replace h := h.1 (of_decide_eq_true c)
          refine gWp_sts gT_178 6 (f' := (159, [some (.ref 1), some (.int x1), some (.int x2), some (.int (0 : Int32))], [.int (0 : Int32), .int (gI μ 1 21), .ref 1], μ)) (cs := [(Value.ref 1 : Value).category = 1]) rfl rfl ?_
          refine gWp_if gT_178 (pc := 159) rfl ⟨fun c => ?_, fun c => ?_⟩
          · replace h := h.1 (of_decide_eq_true c)
            obtain ⟨c1, h⟩ := h
            refine gWp_sts gT_178 13 (f' := (101, [some (.ref 1), some (.int x1), some (.int (x2 + (1 : Int32))), some (.int (0 : Int32))], [], (gsI (gsI μ 1 21 ((gI μ 1 21) + (1 : Int32))) 54 x2.toNatClampNeg (((gI μ 1 21) + (1 : Int32)) - (1 : Int32))))) (cs := [vp_in x2 50]) rfl c1 ?_
            exact h
          · replace h := h.2 (fun q => c (decide_eq_true q))
            obtain ⟨c1, h⟩ := h
            refine gWp_sts gT_178 14 (f' := (101, [some (.ref 1), some (.int x1), some (.int (x2 + (1 : Int32))), some (.int (0 : Int32))], [], (gsI (gsI μ 1 21 ((gI μ 1 21) + (0 : Int32))) 54 x2.toNatClampNeg (((gI μ 1 21) + (0 : Int32)) - (1 : Int32))))) (cs := [vp_in x2 50]) rfl c1 ?_
            exact h
        · replace h := h.2 (Classical.not_not.mp (fun q => c (decide_eq_true q)))
          refine gWp_sts gT_178 7 (f' := (159, [some (.ref 1), some (.int x1), some (.int x2), some (.int (1 : Int32))], [.int (1 : Int32), .int (gI μ 1 21), .ref 1], μ)) (cs := [(Value.ref 1 : Value).category = 1]) rfl rfl ?_
          refine gWp_if gT_178 (pc := 159) rfl ⟨fun c => ?_, fun c => ?_⟩
          · replace h := h.1 (of_decide_eq_true c)
            obtain ⟨c1, h⟩ := h
            refine gWp_sts gT_178 13 (f' := (101, [some (.ref 1), some (.int x1), some (.int (x2 + (1 : Int32))), some (.int (1 : Int32))], [], (gsI (gsI μ 1 21 ((gI μ 1 21) + (1 : Int32))) 54 x2.toNatClampNeg (((gI μ 1 21) + (1 : Int32)) - (1 : Int32))))) (cs := [vp_in x2 50]) rfl c1 ?_
            exact h
          · replace h := h.2 (fun q => c (decide_eq_true q))
            obtain ⟨c1, h⟩ := h
            refine gWp_sts gT_178 14 (f' := (101, [some (.ref 1), some (.int x1), some (.int (x2 + (1 : Int32))), some (.int (1 : Int32))], [], (gsI (gsI μ 1 21 ((gI μ 1 21) + (0 : Int32))) 54 x2.toNatClampNeg (((gI μ 1 21) + (0 : Int32)) - (1 : Int32))))) (cs := [vp_in x2 50]) rfl c1 ?_
            exact h
set_option maxRecDepth 20000 in
theorem vc_178_47 {μ : gMu} {x1 : Int32} {x2 : Int32} {P : gMu → gRes → Prop} (h : (((gI μ 1 19) ≤ x2) → (gWp none 178 (101, [some (.ref 1), some (.int x1), some (.int (0 : Int32)), none], [], (gsI μ 1 21 (0 : Int32))) 0 P)) ∧ ((¬ (gI μ 1 19) ≤ x2) → ((vp_in x2 50) ∧ (gCl' 155 [.int (gI μ 50 x2.toNatClampNeg)] μ (fun μ1 r => (∃ v2, r = .inl (some (.int v2)) ∧ (((v2 = 0) → ((vp_in x2 50) ∧ (gWp none 178 (47, [some (.ref 1), some (.int x1), some (.int (x2 + (1 : Int32))), none], [], (gsI μ1 53 x2.toNatClampNeg x1)) 0 P))) ∧ ((¬ v2 = 0) → ((vp_in x2 50) ∧ (gCl' 177 [.int (gI μ1 50 x2.toNatClampNeg)] μ1 (fun μ3 r => (∃ v4, r = .inl (some (.int v4)) ∧ ((vp_in x2 50) ∧ (gWp none 178 (47, [some (.ref 1), some (.int v4), some (.int (x2 + (1 : Int32))), none], [], (gsI μ3 53 x2.toNatClampNeg v4)) 0 P)))))))))))))) : gWp none 178 (47, [some (.ref 1), some (.int x1), some (.int x2), none], [], μ) 0 P := by
  refine gWp_sts gT_178 3 (f' := (52, [some (.ref 1), some (.int x1), some (.int x2), none], [.int (gI μ 1 19), .int x2], μ)) (cs := []) rfl trivial ?_
  refine gWp_icmp gT_178 (pc := 52) rfl ⟨fun c => ?_, fun c => ?_⟩
  · replace h := h.1 (of_decide_eq_true c)
    refine gWp_sts gT_178 5 (f' := (101, [some (.ref 1), some (.int x1), some (.int (0 : Int32)), none], [], (gsI μ 1 21 (0 : Int32)))) (cs := []) rfl trivial ?_
    exact h
  · replace h := h.2 (fun q => c (decide_eq_true q))
    obtain ⟨c1, h⟩ := h
    refine gWp_sts gT_178 4 (f' := (61, [some (.ref 1), some (.int x1), some (.int x2), none], [.int (gI μ 50 x2.toNatClampNeg)], μ)) (cs := [vp_in x2 50]) rfl c1 ?_
    refine gWp_stat gT_178 (pc := 61) (c01 := 0) (as := [.int (gI μ 50 x2.toNatClampNeg)]) (rest := []) rfl (Or.inl rfl) rfl rfl rfl ⟨by decide, Nat.le_of_ble_eq_true rfl, by decide, Nat.le_of_ble_eq_true rfl⟩ (gWp_imp h (fun μ1 r h => ?_))
    obtain ⟨v2, rfl, h⟩ := h
    refine Or.inl ⟨_, rfl, ?_⟩
    show gWp none 178 (64, [some (.ref 1), some (.int x1), some (.int x2), none], [.int v2], μ1) _ P
    refine gWp_if gT_178 (pc := 64) rfl ⟨fun c => ?_, fun c => ?_⟩
    · replace h := h.1 (of_decide_eq_true c)
      obtain ⟨c1, h⟩ := h
      refine gWp_sts gT_178 9 (f' := (47, [some (.ref 1), some (.int x1), some (.int (x2 + (1 : Int32))), none], [], (gsI μ1 53 x2.toNatClampNeg x1))) (cs := [vp_in x2 50]) rfl c1 ?_
      exact h
    · replace h := h.2 (fun q => c (decide_eq_true q))
      obtain ⟨c1, h⟩ := h
      refine gWp_sts gT_178 4 (f' := (73, [some (.ref 1), some (.int x1), some (.int x2), none], [.int (gI μ1 50 x2.toNatClampNeg)], μ1)) (cs := [vp_in x2 50]) rfl c1 ?_
      refine gWp_stat gT_178 (pc := 73) (c01 := 0) (as := [.int (gI μ1 50 x2.toNatClampNeg)]) (rest := []) rfl (Or.inl rfl) rfl rfl rfl ⟨by decide, Nat.le_of_ble_eq_true rfl, by decide, Nat.le_of_ble_eq_true rfl⟩ (gWp_imp h (fun μ3 r h => ?_))
      obtain ⟨v4, rfl, h⟩ := h
      refine Or.inl ⟨_, rfl, ?_⟩
      show gWp none 178 (76, [some (.ref 1), some (.int x1), some (.int x2), none], [.int v4], μ3) _ P
      obtain ⟨c1, h⟩ := h
      refine gWp_sts gT_178 9 (f' := (47, [some (.ref 1), some (.int v4), some (.int (x2 + (1 : Int32))), none], [], (gsI μ3 53 x2.toNatClampNeg v4))) (cs := [vp_in x2 50]) rfl c1 ?_
      exact h
set_option maxRecDepth 20000 in
theorem vc_178_9 {μ : gMu} {x1 : Int32} {x2 : Int32} {P : gMu → gRes → Prop} (h : ((x2 < 0) → (gWp none 178 (47, [some (.ref 1), some (.int x1), some (.int (0 : Int32)), none], [], μ) 0 P)) ∧ ((¬ x2 < 0) → ((vp_in x2 50) ∧ (gCl' 155 [.int (gI μ 50 x2.toNatClampNeg)] μ (fun μ1 r => (∃ v2, r = .inl (some (.int v2)) ∧ (((v2 = 0) → (gWp none 178 (9, [some (.ref 1), some (.int x1), some (.int (x2 + (-1 : Int32))), none], [], μ1) 0 P)) ∧ ((¬ v2 = 0) → ((vp_in x2 50) ∧ (gCl' 177 [.int (gI μ1 50 x2.toNatClampNeg)] μ1 (fun μ3 r => (∃ v4, r = .inl (some (.int v4)) ∧ (gWp none 178 (9, [some (.ref 1), some (.int v4), some (.int (x2 + (-1 : Int32))), none], [], μ3) 0 P))))))))))))) : gWp none 178 (9, [some (.ref 1), some (.int x1), some (.int x2), none], [], μ) 0 P := by
  refine gWp_sts gT_178 1 (f' := (10, [some (.ref 1), some (.int x1), some (.int x2), none], [.int x2], μ)) (cs := []) rfl trivial ?_
  refine gWp_if gT_178 (pc := 10) rfl ⟨fun c => ?_, fun c => ?_⟩
  · replace h := h.1 (of_decide_eq_true c)
    refine gWp_sts gT_178 2 (f' := (47, [some (.ref 1), some (.int x1), some (.int (0 : Int32)), none], [], μ)) (cs := []) rfl trivial ?_
    exact h
  · replace h := h.2 (fun q => c (decide_eq_true q))
    obtain ⟨c1, h⟩ := h
    refine gWp_sts gT_178 4 (f' := (19, [some (.ref 1), some (.int x1), some (.int x2), none], [.int (gI μ 50 x2.toNatClampNeg)], μ)) (cs := [vp_in x2 50]) rfl c1 ?_
    refine gWp_stat gT_178 (pc := 19) (c01 := 0) (as := [.int (gI μ 50 x2.toNatClampNeg)]) (rest := []) rfl (Or.inl rfl) rfl rfl rfl ⟨by decide, Nat.le_of_ble_eq_true rfl, by decide, Nat.le_of_ble_eq_true rfl⟩ (gWp_imp h (fun μ1 r h => ?_))
    obtain ⟨v2, rfl, h⟩ := h
    refine Or.inl ⟨_, rfl, ?_⟩
    show gWp none 178 (22, [some (.ref 1), some (.int x1), some (.int x2), none], [.int v2], μ1) _ P
    refine gWp_if gT_178 (pc := 22) rfl ⟨fun c => ?_, fun c => ?_⟩
    · replace h := h.1 (of_decide_eq_true c)
      refine gWp_sts gT_178 4 (f' := (9, [some (.ref 1), some (.int x1), some (.int (x2 + (-1 : Int32))), none], [], μ1)) (cs := []) rfl trivial ?_
      exact h
    · replace h := h.2 (fun q => c (decide_eq_true q))
      obtain ⟨c1, h⟩ := h
      refine gWp_sts gT_178 4 (f' := (31, [some (.ref 1), some (.int x1), some (.int x2), none], [.int (gI μ1 50 x2.toNatClampNeg)], μ1)) (cs := [vp_in x2 50]) rfl c1 ?_
      refine gWp_stat gT_178 (pc := 31) (c01 := 0) (as := [.int (gI μ1 50 x2.toNatClampNeg)]) (rest := []) rfl (Or.inl rfl) rfl rfl rfl ⟨by decide, Nat.le_of_ble_eq_true rfl, by decide, Nat.le_of_ble_eq_true rfl⟩ (gWp_imp h (fun μ3 r h => ?_))
      obtain ⟨v4, rfl, h⟩ := h
      refine Or.inl ⟨_, rfl, ?_⟩
      show gWp none 178 (34, [some (.ref 1), some (.int x1), some (.int x2), none], [.int v4], μ3) _ P
      refine gWp_sts gT_178 4 (f' := (9, [some (.ref 1), some (.int v4), some (.int (x2 + (-1 : Int32))), none], [], μ3)) (cs := []) rfl trivial ?_
      exact h
set_option maxRecDepth 20000 in
theorem vc_178 {μ : gMu} {P : gMu → gRes → Prop} (h : gWp none 178 (9, [some (.ref 1), some (.int (0 : Int32)), some (.int ((gI μ 1 19) - (1 : Int32))), none], [], μ) 0 P) : gWp none 178 (0, [some (.ref 1), none, none, none], [], μ) 0 P := by
  refine gWp_sts gT_178 7 (f' := (9, [some (.ref 1), some (.int (0 : Int32)), some (.int ((gI μ 1 19) - (1 : Int32))), none], [], μ)) (cs := []) rfl trivial ?_
  exact h
/-! GlyphmillModel.lays -/
theorem gT_179 : gCode[179]? = some gC_179 := rfl
set_option maxRecDepth 20000 in
theorem vc_179_41 {μ : gMu} {x1 : Int32} {P : gMu → gRes → Prop} (h : (((gI μ 1 19) ≤ x1) → ((vp_in (gI μ 1 23) 51) ∧ (P (gsI μ 58 ((gI μ 1 23).toNatClampNeg) (gI μ 1 19)) (.inl none)))) ∧ ((¬ (gI μ 1 19) ≤ x1) → (gCl' 172 [.ref 1, .int x1] μ (fun μ1 r => (∃ v2, r = .inl (some (.int v2)) ∧ (((v2 = 0) → (gWp none 179 (41, [some (.ref 1), some (.int (x1 + (1 : Int32)))], [], μ1) 0 P)) ∧ ((¬ v2 = 0) → ((vp_in (gI μ1 1 23) 51) ∧ (gWp none 179 (41, [some (.ref 1), some (.int (x1 + (1 : Int32)))], [], (gsI (gsI μ1 58 ((gI μ1 1 23).toNatClampNeg) x1) 1 23 ((gI μ1 1 23) + (1 : Int32)))) 0 P))))))))) : gWp none 179 (41, [some (.ref 1), some (.int x1)], [], μ) 0 P := by
  refine gWp_sts gT_179 3 (f' := (46, [some (.ref 1), some (.int x1)], [.int (gI μ 1 19), .int x1], μ)) (cs := []) rfl trivial ?_
  refine gWp_icmp gT_179 (pc := 46) rfl ⟨fun c => ?_, fun c => ?_⟩
  · replace h := h.1 (of_decide_eq_true c)
    obtain ⟨c1, h⟩ := h
    refine gWp_sts gT_179 7 (f' := (96, [some (.ref 1), some (.int x1)], [], (gsI μ 58 ((gI μ 1 23).toNatClampNeg) (gI μ 1 19)))) (cs := [vp_in (gI μ 1 23) 51]) rfl c1 ?_
    exact gWp_end gT_179 rfl rfl h
  · replace h := h.2 (fun q => c (decide_eq_true q))
    refine gWp_sts gT_179 2 (f' := (51, [some (.ref 1), some (.int x1)], [.int x1, .ref 1], μ)) (cs := []) rfl trivial ?_
    refine gWp_virt gT_179 (pc := 51) (q := 1) (as := [.ref 1, .int x1]) (rest := []) rfl rfl rfl rfl rfl rfl ⟨by decide, Nat.le_of_ble_eq_true rfl, by decide, Nat.le_of_ble_eq_true rfl⟩ (gWp_imp h (fun μ1 r h => ?_))
    obtain ⟨v2, rfl, h⟩ := h
    refine Or.inl ⟨_, rfl, ?_⟩
    show gWp none 179 (54, [some (.ref 1), some (.int x1)], [.int v2], μ1) _ P
    refine gWp_if gT_179 (pc := 54) rfl ⟨fun c => ?_, fun c => ?_⟩
    · replace h := h.1 (of_decide_eq_true c)
      refine gWp_sts gT_179 2 (f' := (41, [some (.ref 1), some (.int (x1 + (1 : Int32)))], [], μ1)) (cs := []) rfl trivial ?_
      exact h
    · replace h := h.2 (fun q => c (decide_eq_true q))
      obtain ⟨c1, h⟩ := h
      refine gWp_sts gT_179 14 (f' := (41, [some (.ref 1), some (.int (x1 + (1 : Int32)))], [], (gsI (gsI μ1 58 ((gI μ1 1 23).toNatClampNeg) x1) 1 23 ((gI μ1 1 23) + (1 : Int32))))) (cs := [vp_in (gI μ1 1 23) 51, (Value.ref 1 : Value).category = 1]) rfl ⟨c1, rfl⟩ ?_
      exact h
set_option maxRecDepth 20000 in
theorem vc_179 {μ : gMu} {P : gMu → gRes → Prop} (h : gCl' 160 [.ref 1] μ (fun μ1 r => (r = .inl none ∧ (gCl' 176 [.ref 1] μ1 (fun μ2 r => (r = .inl none ∧ (gCl' 178 [.ref 1] μ2 (fun μ3 r => (r = .inl none ∧ (gCl' 173 [.ref 1] μ3 (fun μ4 r => (r = .inl none ∧ ((((gI μ4 1 19) ≤ 0) → ((vp_in (0 : Int32) 51) ∧ (gWp none 179 (41, [some (.ref 1), some (.int (0 : Int32))], [], (gsI (gsI μ4 1 23 (0 : Int32)) 58 ((0 : Int32).toNatClampNeg) (0 : Int32))) 0 P))) ∧ ((¬ (gI μ4 1 19) ≤ 0) → ((vp_in (0 : Int32) 51) ∧ (gWp none 179 (41, [some (.ref 1), some (.int (0 : Int32))], [], (gsI (gsI μ4 1 23 (1 : Int32)) 58 ((0 : Int32).toNatClampNeg) (0 : Int32))) 0 P)))))))))))))))) : gWp none 179 (0, [some (.ref 1), none], [], μ) 0 P := by
  refine gWp_sts gT_179 1 (f' := (1, [some (.ref 1), none], [.ref 1], μ)) (cs := []) rfl trivial ?_
  refine gWp_virt gT_179 (pc := 1) (q := 1) (as := [.ref 1]) (rest := []) rfl rfl rfl rfl rfl rfl ⟨by decide, Nat.le_of_ble_eq_true rfl, by decide, Nat.le_of_ble_eq_true rfl⟩ (gWp_imp h (fun μ1 r h => ?_))
  obtain ⟨rfl, h⟩ := h
  refine Or.inl ⟨_, rfl, ?_⟩
  show gWp none 179 (4, [some (.ref 1), none], [], μ1) _ P
  refine gWp_sts gT_179 1 (f' := (5, [some (.ref 1), none], [.ref 1], μ1)) (cs := []) rfl trivial ?_
  refine gWp_virt gT_179 (pc := 5) (q := 1) (as := [.ref 1]) (rest := []) rfl rfl rfl rfl rfl rfl ⟨by decide, Nat.le_of_ble_eq_true rfl, by decide, Nat.le_of_ble_eq_true rfl⟩ (gWp_imp h (fun μ2 r h => ?_))
  obtain ⟨rfl, h⟩ := h
  refine Or.inl ⟨_, rfl, ?_⟩
  show gWp none 179 (8, [some (.ref 1), none], [], μ2) _ P
  refine gWp_sts gT_179 1 (f' := (9, [some (.ref 1), none], [.ref 1], μ2)) (cs := []) rfl trivial ?_
  refine gWp_virt gT_179 (pc := 9) (q := 1) (as := [.ref 1]) (rest := []) rfl rfl rfl rfl rfl rfl ⟨by decide, Nat.le_of_ble_eq_true rfl, by decide, Nat.le_of_ble_eq_true rfl⟩ (gWp_imp h (fun μ3 r h => ?_))
  obtain ⟨rfl, h⟩ := h
  refine Or.inl ⟨_, rfl, ?_⟩
  show gWp none 179 (12, [some (.ref 1), none], [], μ3) _ P
  refine gWp_sts gT_179 1 (f' := (13, [some (.ref 1), none], [.ref 1], μ3)) (cs := []) rfl trivial ?_
  refine gWp_virt gT_179 (pc := 13) (q := 1) (as := [.ref 1]) (rest := []) rfl rfl rfl rfl rfl rfl ⟨by decide, Nat.le_of_ble_eq_true rfl, by decide, Nat.le_of_ble_eq_true rfl⟩ (gWp_imp h (fun μ4 r h => ?_))
  obtain ⟨rfl, h⟩ := h
  refine Or.inl ⟨_, rfl, ?_⟩
  show gWp none 179 (16, [some (.ref 1), none], [], μ4) _ P
  refine gWp_sts gT_179 3 (f' := (21, [some (.ref 1), none], [.int (gI μ4 1 19), .ref 1], μ4)) (cs := []) rfl trivial ?_
  refine gWp_if gT_179 (pc := 21) rfl ⟨fun c => ?_, fun c => ?_⟩
  · replace h := h.1 (of_decide_eq_true c)
    obtain ⟨c1, h⟩ := h
    refine gWp_sts gT_179 9 (f' := (41, [some (.ref 1), some (.int (0 : Int32))], [], (gsI (gsI μ4 1 23 (0 : Int32)) 58 ((0 : Int32).toNatClampNeg) (0 : Int32)))) (cs := [vp_in (0 : Int32) 51]) rfl c1 ?_
    exact h
  · replace h := h.2 (fun q => c (decide_eq_true q))
    obtain ⟨c1, h⟩ := h
    refine gWp_sts gT_179 10 (f' := (41, [some (.ref 1), some (.int (0 : Int32))], [], (gsI (gsI μ4 1 23 (1 : Int32)) 58 ((0 : Int32).toNatClampNeg) (0 : Int32)))) (cs := [vp_in (0 : Int32) 51]) rfl c1 ?_
    exact h
