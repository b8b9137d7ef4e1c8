/-! WHAT EACH METHOD OWES (methods 120 to 151), from its entry and from each head of a loop; written by wip/p41/vcgen.py -/
/-! Glyphmill.badnessOf -/
theorem gT_121 : gCode[121]? = some gC_121 := rfl
set_option maxRecDepth 20000 in
theorem vc_121 {μ : gMu} {x1 : Int32} {P : gMu → gRes → Prop} (h : gCl' 62 [.ref 0] μ (fun μ1 r => (r = .inl none ∧ (gCl' 113 [.ref 0, .int x1] μ1 (fun μ2 r => (r = .inl none ∧ ((vp_in x1 51) ∧ ((vp_in (x1 + (1 : Int32)) 51) ∧ (gCl' 31 [.ref 32, .int (gI μ2 37 x1.toNatClampNeg), .int (gI μ2 37 ((x1 + (1 : Int32)).toNatClampNeg))] μ2 (fun μ3 r => (∃ v4, r = .inl (some (.int v4)) ∧ (P μ3 (.inl (some (.int v4)))))))))) ∨ (∃ y, r = .inr y ∧ P μ2 (.inr y))))))) : gWp none 121 (0, [some (.ref 0), some (.int x1)], [], μ) 0 P := by
  refine gWp_sts gT_121 1 (f' := (1, [some (.ref 0), some (.int x1)], [.ref 0], μ)) (cs := []) rfl trivial ?_
  refine gWp_virt gT_121 (pc := 1) (q := 0) (as := [.ref 0]) (rest := []) rfl rfl rfl rfl rfl rfl ⟨by decide, Nat.le_of_ble_eq_true rfl, by decide, Nat.le_of_ble_eq_true rfl⟩ (gWp_imp h (fun μ1 r h => ?_))
  obtain ⟨rfl, h⟩ := h
  refine Or.inl ⟨_, rfl, ?_⟩
  show gWp none 121 (4, [some (.ref 0), some (.int x1)], [], μ1) _ P
  refine gWp_sts gT_121 2 (f' := (6, [some (.ref 0), some (.int x1)], [.int x1, .ref 0], μ1)) (cs := []) rfl trivial ?_
  refine gWp_virt gT_121 (pc := 6) (q := 0) (as := [.ref 0, .int x1]) (rest := []) rfl rfl rfl rfl rfl rfl ⟨by decide, Nat.le_of_ble_eq_true rfl, by decide, Nat.le_of_ble_eq_true rfl⟩ (gWp_imp h (fun μ2 r h => ?_))
  rcases h with h | h
  · obtain ⟨rfl, h⟩ := h
    refine Or.inl ⟨_, rfl, ?_⟩
    show gWp none 121 (9, [some (.ref 0), some (.int x1)], [], μ2) _ P
    obtain ⟨c1, c2, h⟩ := h
    refine gWp_sts gT_121 14 (f' := (33, [some (.ref 0), some (.int x1)], [.int (gI μ2 37 ((x1 + (1 : Int32)).toNatClampNeg)), .int (gI μ2 37 x1.toNatClampNeg), .ref 32], μ2)) (cs := [vp_in x1 51, vp_in (x1 + (1 : Int32)) 51]) rfl ⟨c1, c2⟩ ?_
    refine gWp_virt gT_121 (pc := 33) (q := 32) (as := [.ref 32, .int (gI μ2 37 x1.toNatClampNeg), .int (gI μ2 37 ((x1 + (1 : Int32)).toNatClampNeg))]) (rest := []) rfl rfl rfl rfl rfl rfl ⟨by decide, Nat.le_of_ble_eq_true rfl, by decide, Nat.le_of_ble_eq_true rfl⟩ (gWp_imp h (fun μ3 r h => ?_))
    obtain ⟨v4, rfl, h⟩ := h
    refine Or.inl ⟨_, rfl, ?_⟩
    show gWp none 121 (36, [some (.ref 0), some (.int x1)], [.int v4], μ3) _ P
    exact gWp_end gT_121 rfl (gEnd_int trivial) h
  · obtain ⟨y, rfl, h⟩ := h
    exact Or.inr (Or.inl ⟨y, rfl, rfl, h⟩)
/-! Glyphmill.demerits -/
theorem gT_123 : gCode[123]? = some gC_123 := rfl
set_option maxRecDepth 20000 in
theorem vc_123 {μ : gMu} {P : gMu → gRes → Prop} (h : gCl' 62 [.ref 0] μ (fun μ1 r => (r = .inl none ∧ (gCl' 107 [.ref 0] μ1 (fun μ2 r => (r = .inl none ∧ (P μ2 (.inl (some (.long (gJ μ2 32 9)))))) ∨ (∃ y, r = .inr y ∧ P μ2 (.inr y))))))) : gWp none 123 (0, [some (.ref 0)], [], μ) 0 P := by
  refine gWp_sts gT_123 1 (f' := (1, [some (.ref 0)], [.ref 0], μ)) (cs := []) rfl trivial ?_
  refine gWp_virt gT_123 (pc := 1) (q := 0) (as := [.ref 0]) (rest := []) rfl rfl rfl rfl rfl rfl ⟨by decide, Nat.le_of_ble_eq_true rfl, by decide, Nat.le_of_ble_eq_true rfl⟩ (gWp_imp h (fun μ1 r h => ?_))
  obtain ⟨rfl, h⟩ := h
  refine Or.inl ⟨_, rfl, ?_⟩
  show gWp none 123 (4, [some (.ref 0)], [], μ1) _ P
  refine gWp_sts gT_123 1 (f' := (5, [some (.ref 0)], [.ref 0], μ1)) (cs := []) rfl trivial ?_
  refine gWp_virt gT_123 (pc := 5) (q := 0) (as := [.ref 0]) (rest := []) rfl rfl rfl rfl rfl rfl ⟨by decide, Nat.le_of_ble_eq_true rfl, by decide, Nat.le_of_ble_eq_true rfl⟩ (gWp_imp h (fun μ2 r h => ?_))
  rcases h with h | h
  · obtain ⟨rfl, h⟩ := h
    refine Or.inl ⟨_, rfl, ?_⟩
    show gWp none 123 (8, [some (.ref 0)], [], μ2) _ P
    refine gWp_sts gT_123 3 (f' := (15, [some (.ref 0)], [.long (gJ μ2 32 9)], μ2)) (cs := []) rfl trivial ?_
    exact gWp_end gT_123 rfl rfl h
  · obtain ⟨y, rfl, h⟩ := h
    exact Or.inr (Or.inl ⟨y, rfl, rfl, h⟩)
/-! Glyphmill.needFewBreaks -/
theorem gT_125 : gCode[125]? = some gC_125 := rfl
set_option maxRecDepth 20000 in
theorem vc_125 {μ : gMu} {P : gMu → gRes → Prop} (h : gCl' 65 [.ref 29] μ (fun μ1 r => (∃ v2, r = .inl (some (.int v2)) ∧ (((v2 ≤ (9 : Int32)) → (P μ1 (.inl none))) ∧ ((¬ v2 ≤ (9 : Int32)) → (P μ1 (.inr 3))))))) : gWp none 125 (0, [some (.ref 0)], [], μ) 0 P := by
  refine gWp_sts gT_125 2 (f' := (4, [some (.ref 0)], [.ref 29], μ)) (cs := []) rfl trivial ?_
  refine gWp_virt gT_125 (pc := 4) (q := 29) (as := [.ref 29]) (rest := []) rfl rfl rfl rfl rfl rfl ⟨by decide, Nat.le_of_ble_eq_true rfl, by decide, Nat.le_of_ble_eq_true rfl⟩ (gWp_imp h (fun μ1 r h => ?_))
  obtain ⟨v2, rfl, h⟩ := h
  refine Or.inl ⟨_, rfl, ?_⟩
  show gWp none 125 (7, [some (.ref 0)], [.int v2], μ1) _ P
  refine gWp_sts gT_125 1 (f' := (9, [some (.ref 0)], [.int (9 : Int32), .int v2], μ1)) (cs := []) rfl trivial ?_
  refine gWp_icmp gT_125 (pc := 9) rfl ⟨fun c => ?_, fun c => ?_⟩
  · replace h := h.1 (of_decide_eq_true c)
    exact gWp_end gT_125 rfl rfl h
  · replace h := h.2 (fun q => c (decide_eq_true q))
    exact gWp_end gT_125 rfl rfl h
/-! java/lang/Integer.bitCount -/
theorem gT_126 : gCode[126]? = some gC_126 := rfl
set_option maxRecDepth 20000 in
theorem vc_126 {μ : gMu} {x0 : Int32} {P : gMu → gRes → Prop} (h : P μ (.inl (some (.int ((((((((x0 - (((x0.toUInt32 >>> ((1 : Int32).toUInt32 &&& Int32.toUInt32 31)).toInt32) &&& (1431655765 : Int32))) &&& (858993459 : Int32)) + ((((x0 - (((x0.toUInt32 >>> ((1 : Int32).toUInt32 &&& Int32.toUInt32 31)).toInt32) &&& (1431655765 : Int32))).toUInt32 >>> ((2 : Int32).toUInt32 &&& Int32.toUInt32 31)).toInt32) &&& (858993459 : Int32))) + (((((x0 - (((x0.toUInt32 >>> ((1 : Int32).toUInt32 &&& Int32.toUInt32 31)).toInt32) &&& (1431655765 : Int32))) &&& (858993459 : Int32)) + ((((x0 - (((x0.toUInt32 >>> ((1 : Int32).toUInt32 &&& Int32.toUInt32 31)).toInt32) &&& (1431655765 : Int32))).toUInt32 >>> ((2 : Int32).toUInt32 &&& Int32.toUInt32 31)).toInt32) &&& (858993459 : Int32))).toUInt32 >>> ((4 : Int32).toUInt32 &&& Int32.toUInt32 31)).toInt32)) &&& (252645135 : Int32)) + (((((((x0 - (((x0.toUInt32 >>> ((1 : Int32).toUInt32 &&& Int32.toUInt32 31)).toInt32) &&& (1431655765 : Int32))) &&& (858993459 : Int32)) + ((((x0 - (((x0.toUInt32 >>> ((1 : Int32).toUInt32 &&& Int32.toUInt32 31)).toInt32) &&& (1431655765 : Int32))).toUInt32 >>> ((2 : Int32).toUInt32 &&& Int32.toUInt32 31)).toInt32) &&& (858993459 : Int32))) + (((((x0 - (((x0.toUInt32 >>> ((1 : Int32).toUInt32 &&& Int32.toUInt32 31)).toInt32) &&& (1431655765 : Int32))) &&& (858993459 : Int32)) + ((((x0 - (((x0.toUInt32 >>> ((1 : Int32).toUInt32 &&& Int32.toUInt32 31)).toInt32) &&& (1431655765 : Int32))).toUInt32 >>> ((2 : Int32).toUInt32 &&& Int32.toUInt32 31)).toInt32) &&& (858993459 : Int32))).toUInt32 >>> ((4 : Int32).toUInt32 &&& Int32.toUInt32 31)).toInt32)) &&& (252645135 : Int32)).toUInt32 >>> ((8 : Int32).toUInt32 &&& Int32.toUInt32 31)).toInt32)) + ((((((((x0 - (((x0.toUInt32 >>> ((1 : Int32).toUInt32 &&& Int32.toUInt32 31)).toInt32) &&& (1431655765 : Int32))) &&& (858993459 : Int32)) + ((((x0 - (((x0.toUInt32 >>> ((1 : Int32).toUInt32 &&& Int32.toUInt32 31)).toInt32) &&& (1431655765 : Int32))).toUInt32 >>> ((2 : Int32).toUInt32 &&& Int32.toUInt32 31)).toInt32) &&& (858993459 : Int32))) + (((((x0 - (((x0.toUInt32 >>> ((1 : Int32).toUInt32 &&& Int32.toUInt32 31)).toInt32) &&& (1431655765 : Int32))) &&& (858993459 : Int32)) + ((((x0 - (((x0.toUInt32 >>> ((1 : Int32).toUInt32 &&& Int32.toUInt32 31)).toInt32) &&& (1431655765 : Int32))).toUInt32 >>> ((2 : Int32).toUInt32 &&& Int32.toUInt32 31)).toInt32) &&& (858993459 : Int32))).toUInt32 >>> ((4 : Int32).toUInt32 &&& Int32.toUInt32 31)).toInt32)) &&& (252645135 : Int32)) + (((((((x0 - (((x0.toUInt32 >>> ((1 : Int32).toUInt32 &&& Int32.toUInt32 31)).toInt32) &&& (1431655765 : Int32))) &&& (858993459 : Int32)) + ((((x0 - (((x0.toUInt32 >>> ((1 : Int32).toUInt32 &&& Int32.toUInt32 31)).toInt32) &&& (1431655765 : Int32))).toUInt32 >>> ((2 : Int32).toUInt32 &&& Int32.toUInt32 31)).toInt32) &&& (858993459 : Int32))) + (((((x0 - (((x0.toUInt32 >>> ((1 : Int32).toUInt32 &&& Int32.toUInt32 31)).toInt32) &&& (1431655765 : Int32))) &&& (858993459 : Int32)) + ((((x0 - (((x0.toUInt32 >>> ((1 : Int32).toUInt32 &&& Int32.toUInt32 31)).toInt32) &&& (1431655765 : Int32))).toUInt32 >>> ((2 : Int32).toUInt32 &&& Int32.toUInt32 31)).toInt32) &&& (858993459 : Int32))).toUInt32 >>> ((4 : Int32).toUInt32 &&& Int32.toUInt32 31)).toInt32)) &&& (252645135 : Int32)).toUInt32 >>> ((8 : Int32).toUInt32 &&& Int32.toUInt32 31)).toInt32)).toUInt32 >>> ((16 : Int32).toUInt32 &&& Int32.toUInt32 31)).toInt32)) &&& (63 : Int32)))))) : gWp none 126 (0, [some (.int x0)], [], μ) 0 P := by
  refine gWp_sts gT_126 41 (f' := (52, [some (.int (((((((x0 - (((x0.toUInt32 >>> ((1 : Int32).toUInt32 &&& Int32.toUInt32 31)).toInt32) &&& (1431655765 : Int32))) &&& (858993459 : Int32)) + ((((x0 - (((x0.toUInt32 >>> ((1 : Int32).toUInt32 &&& Int32.toUInt32 31)).toInt32) &&& (1431655765 : Int32))).toUInt32 >>> ((2 : Int32).toUInt32 &&& Int32.toUInt32 31)).toInt32) &&& (858993459 : Int32))) + (((((x0 - (((x0.toUInt32 >>> ((1 : Int32).toUInt32 &&& Int32.toUInt32 31)).toInt32) &&& (1431655765 : Int32))) &&& (858993459 : Int32)) + ((((x0 - (((x0.toUInt32 >>> ((1 : Int32).toUInt32 &&& Int32.toUInt32 31)).toInt32) &&& (1431655765 : Int32))).toUInt32 >>> ((2 : Int32).toUInt32 &&& Int32.toUInt32 31)).toInt32) &&& (858993459 : Int32))).toUInt32 >>> ((4 : Int32).toUInt32 &&& Int32.toUInt32 31)).toInt32)) &&& (252645135 : Int32)) + (((((((x0 - (((x0.toUInt32 >>> ((1 : Int32).toUInt32 &&& Int32.toUInt32 31)).toInt32) &&& (1431655765 : Int32))) &&& (858993459 : Int32)) + ((((x0 - (((x0.toUInt32 >>> ((1 : Int32).toUInt32 &&& Int32.toUInt32 31)).toInt32) &&& (1431655765 : Int32))).toUInt32 >>> ((2 : Int32).toUInt32 &&& Int32.toUInt32 31)).toInt32) &&& (858993459 : Int32))) + (((((x0 - (((x0.toUInt32 >>> ((1 : Int32).toUInt32 &&& Int32.toUInt32 31)).toInt32) &&& (1431655765 : Int32))) &&& (858993459 : Int32)) + ((((x0 - (((x0.toUInt32 >>> ((1 : Int32).toUInt32 &&& Int32.toUInt32 31)).toInt32) &&& (1431655765 : Int32))).toUInt32 >>> ((2 : Int32).toUInt32 &&& Int32.toUInt32 31)).toInt32) &&& (858993459 : Int32))).toUInt32 >>> ((4 : Int32).toUInt32 &&& Int32.toUInt32 31)).toInt32)) &&& (252645135 : Int32)).toUInt32 >>> ((8 : Int32).toUInt32 &&& Int32.toUInt32 31)).toInt32)) + ((((((((x0 - (((x0.toUInt32 >>> ((1 : Int32).toUInt32 &&& Int32.toUInt32 31)).toInt32) &&& (1431655765 : Int32))) &&& (858993459 : Int32)) + ((((x0 - (((x0.toUInt32 >>> ((1 : Int32).toUInt32 &&& Int32.toUInt32 31)).toInt32) &&& (1431655765 : Int32))).toUInt32 >>> ((2 : Int32).toUInt32 &&& Int32.toUInt32 31)).toInt32) &&& (858993459 : Int32))) + (((((x0 - (((x0.toUInt32 >>> ((1 : Int32).toUInt32 &&& Int32.toUInt32 31)).toInt32) &&& (1431655765 : Int32))) &&& (858993459 : Int32)) + ((((x0 - (((x0.toUInt32 >>> ((1 : Int32).toUInt32 &&& Int32.toUInt32 31)).toInt32) &&& (1431655765 : Int32))).toUInt32 >>> ((2 : Int32).toUInt32 &&& Int32.toUInt32 31)).toInt32) &&& (858993459 : Int32))).toUInt32 >>> ((4 : Int32).toUInt32 &&& Int32.toUInt32 31)).toInt32)) &&& (252645135 : Int32)) + (((((((x0 - (((x0.toUInt32 >>> ((1 : Int32).toUInt32 &&& Int32.toUInt32 31)).toInt32) &&& (1431655765 : Int32))) &&& (858993459 : Int32)) + ((((x0 - (((x0.toUInt32 >>> ((1 : Int32).toUInt32 &&& Int32.toUInt32 31)).toInt32) &&& (1431655765 : Int32))).toUInt32 >>> ((2 : Int32).toUInt32 &&& Int32.toUInt32 31)).toInt32) &&& (858993459 : Int32))) + (((((x0 - (((x0.toUInt32 >>> ((1 : Int32).toUInt32 &&& Int32.toUInt32 31)).toInt32) &&& (1431655765 : Int32))) &&& (858993459 : Int32)) + ((((x0 - (((x0.toUInt32 >>> ((1 : Int32).toUInt32 &&& Int32.toUInt32 31)).toInt32) &&& (1431655765 : Int32))).toUInt32 >>> ((2 : Int32).toUInt32 &&& Int32.toUInt32 31)).toInt32) &&& (858993459 : Int32))).toUInt32 >>> ((4 : Int32).toUInt32 &&& Int32.toUInt32 31)).toInt32)) &&& (252645135 : Int32)).toUInt32 >>> ((8 : Int32).toUInt32 &&& Int32.toUInt32 31)).toInt32)).toUInt32 >>> ((16 : Int32).toUInt32 &&& Int32.toUInt32 31)).toInt32)))], [.int ((((((((x0 - (((x0.toUInt32 >>> ((1 : Int32).toUInt32 &&& Int32.toUInt32 31)).toInt32) &&& (1431655765 : Int32))) &&& (858993459 : Int32)) + ((((x0 - (((x0.toUInt32 >>> ((1 : Int32).toUInt32 &&& Int32.toUInt32 31)).toInt32) &&& (1431655765 : Int32))).toUInt32 >>> ((2 : Int32).toUInt32 &&& Int32.toUInt32 31)).toInt32) &&& (858993459 : Int32))) + (((((x0 - (((x0.toUInt32 >>> ((1 : Int32).toUInt32 &&& Int32.toUInt32 31)).toInt32) &&& (1431655765 : Int32))) &&& (858993459 : Int32)) + ((((x0 - (((x0.toUInt32 >>> ((1 : Int32).toUInt32 &&& Int32.toUInt32 31)).toInt32) &&& (1431655765 : Int32))).toUInt32 >>> ((2 : Int32).toUInt32 &&& Int32.toUInt32 31)).toInt32) &&& (858993459 : Int32))).toUInt32 >>> ((4 : Int32).toUInt32 &&& Int32.toUInt32 31)).toInt32)) &&& (252645135 : Int32)) + (((((((x0 - (((x0.toUInt32 >>> ((1 : Int32).toUInt32 &&& Int32.toUInt32 31)).toInt32) &&& (1431655765 : Int32))) &&& (858993459 : Int32)) + ((((x0 - (((x0.toUInt32 >>> ((1 : Int32).toUInt32 &&& Int32.toUInt32 31)).toInt32) &&& (1431655765 : Int32))).toUInt32 >>> ((2 : Int32).toUInt32 &&& Int32.toUInt32 31)).toInt32) &&& (858993459 : Int32))) + (((((x0 - (((x0.toUInt32 >>> ((1 : Int32).toUInt32 &&& Int32.toUInt32 31)).toInt32) &&& (1431655765 : Int32))) &&& (858993459 : Int32)) + ((((x0 - (((x0.toUInt32 >>> ((1 : Int32).toUInt32 &&& Int32.toUInt32 31)).toInt32) &&& (1431655765 : Int32))).toUInt32 >>> ((2 : Int32).toUInt32 &&& Int32.toUInt32 31)).toInt32) &&& (858993459 : Int32))).toUInt32 >>> ((4 : Int32).toUInt32 &&& Int32.toUInt32 31)).toInt32)) &&& (252645135 : Int32)).toUInt32 >>> ((8 : Int32).toUInt32 &&& Int32.toUInt32 31)).toInt32)) + ((((((((x0 - (((x0.toUInt32 >>> ((1 : Int32).toUInt32 &&& Int32.toUInt32 31)).toInt32) &&& (1431655765 : Int32))) &&& (858993459 : Int32)) + ((((x0 - (((x0.toUInt32 >>> ((1 : Int32).toUInt32 &&& Int32.toUInt32 31)).toInt32) &&& (1431655765 : Int32))).toUInt32 >>> ((2 : Int32).toUInt32 &&& Int32.toUInt32 31)).toInt32) &&& (858993459 : Int32))) + (((((x0 - (((x0.toUInt32 >>> ((1 : Int32).toUInt32 &&& Int32.toUInt32 31)).toInt32) &&& (1431655765 : Int32))) &&& (858993459 : Int32)) + ((((x0 - (((x0.toUInt32 >>> ((1 : Int32).toUInt32 &&& Int32.toUInt32 31)).toInt32) &&& (1431655765 : Int32))).toUInt32 >>> ((2 : Int32).toUInt32 &&& Int32.toUInt32 31)).toInt32) &&& (858993459 : Int32))).toUInt32 >>> ((4 : Int32).toUInt32 &&& Int32.toUInt32 31)).toInt32)) &&& (252645135 : Int32)) + (((((((x0 - (((x0.toUInt32 >>> ((1 : Int32).toUInt32 &&& Int32.toUInt32 31)).toInt32) &&& (1431655765 : Int32))) &&& (858993459 : Int32)) + ((((x0 - (((x0.toUInt32 >>> ((1 : Int32).toUInt32 &&& Int32.toUInt32 31)).toInt32) &&& (1431655765 : Int32))).toUInt32 >>> ((2 : Int32).toUInt32 &&& Int32.toUInt32 31)).toInt32) &&& (858993459 : Int32))) + (((((x0 - (((x0.toUInt32 >>> ((1 : Int32).toUInt32 &&& Int32.toUInt32 31)).toInt32) &&& (1431655765 : Int32))) &&& (858993459 : Int32)) + ((((x0 - (((x0.toUInt32 >>> ((1 : Int32).toUInt32 &&& Int32.toUInt32 31)).toInt32) &&& (1431655765 : Int32))).toUInt32 >>> ((2 : Int32).toUInt32 &&& Int32.toUInt32 31)).toInt32) &&& (858993459 : Int32))).toUInt32 >>> ((4 : Int32).toUInt32 &&& Int32.toUInt32 31)).toInt32)) &&& (252645135 : Int32)).toUInt32 >>> ((8 : Int32).toUInt32 &&& Int32.toUInt32 31)).toInt32)).toUInt32 >>> ((16 : Int32).toUInt32 &&& Int32.toUInt32 31)).toInt32)) &&& (63 : Int32))], μ)) (cs := []) rfl trivial ?_
  exact gWp_end gT_126 rfl (gEnd_int trivial) h
/-! Glyphmill$Lines.trySet -/
theorem gT_127 : gCode[127]? = some gC_127 := rfl
set_option maxRecDepth 20000 in
theorem vc_127_8 {μ : gMu} {x1 : Int32} {x2 : Int64} {x4 : Int32} {x5 : Int32} {P : gMu → gRes → Prop} (h : (((gI μ 29 3) < x5) → (gCl' 126 [.int x1] μ (fun μ1 r => (∃ v2, r = .inl (some (.int v2)) ∧ ((((lg_cmp (gJ μ1 32 10) (-1 : Int64)) = 0) → (P (gsI (gsJ μ1 32 10 x2) 32 11 (v2 + (1 : Int32))) (.inl none))) ∧ ((¬ (lg_cmp (gJ μ1 32 10) (-1 : Int64)) = 0) → ((((lg_cmp x2 (gJ μ1 32 10)) < 0) → (P (gsI (gsJ μ1 32 10 x2) 32 11 (v2 + (1 : Int32))) (.inl none))) ∧ ((¬ (lg_cmp x2 (gJ μ1 32 10)) < 0) → (((¬ (lg_cmp x2 (gJ μ1 32 10)) = 0) → (P μ1 (.inl none))) ∧ (((lg_cmp x2 (gJ μ1 32 10)) = 0) → ((((gI μ1 32 11) ≤ (v2 + (1 : Int32))) → (P μ1 (.inl none))) ∧ ((¬ (gI μ1 32 11) ≤ (v2 + (1 : Int32))) → (P (gsI (gsJ μ1 32 10 x2) 32 11 (v2 + (1 : Int32))) (.inl none)))))))))))))) ∧ ((¬ (gI μ 29 3) < x5) → (((x5 = (gI μ 29 3)) → (gCl' 37 [.ref 32, .int x4, .int x5] μ (fun μ3 r => (∃ v4, r = .inl (some (.int v4)) ∧ (((¬ v4 = 0) → (gCl' 34 [.ref 32, .int x4, .int x5] μ3 (fun μ5 r => (∃ v6, r = .inl (some (.long v6)) ∧ (gWp none 127 (8, [some (.ref 32), some (.int x1), some (.long (x2 + v6)), none, some (.int x5), some (.int (x5 + (1 : Int32)))], [], μ5) 0 P))))) ∧ ((v4 = 0) → (P μ3 (.inl none)))))))) ∧ ((¬ x5 = (gI μ 29 3)) → (((¬ ((x1 >>> ((x5 - (1 : Int32)) &&& 31)) &&& (1 : Int32)) = (1 : Int32)) → (gWp none 127 (8, [some (.ref 32), some (.int x1), some (.long x2), none, some (.int x4), some (.int (x5 + (1 : Int32)))], [], μ) 0 P)) ∧ ((((x1 >>> ((x5 - (1 : Int32)) &&& 31)) &&& (1 : Int32)) = (1 : Int32)) → (gCl' 37 [.ref 32, .int x4, .int x5] μ (fun μ7 r => (∃ v8, r = .inl (some (.int v8)) ∧ (((¬ v8 = 0) → (gCl' 34 [.ref 32, .int x4, .int x5] μ7 (fun μ9 r => (∃ v10, r = .inl (some (.long v10)) ∧ (gWp none 127 (8, [some (.ref 32), some (.int x1), some (.long (x2 + v10)), none, some (.int x5), some (.int (x5 + (1 : Int32)))], [], μ9) 0 P))))) ∧ ((v8 = 0) → (P μ7 (.inl none))))))))))))) : gWp none 127 (8, [some (.ref 32), some (.int x1), some (.long x2), none, some (.int x4), some (.int x5)], [], μ) 0 P := by
  refine gWp_sts gT_127 4 (f' := (17, [some (.ref 32), some (.int x1), some (.long x2), none, some (.int x4), some (.int x5)], [.int (gI μ 29 3), .int x5], μ)) (cs := []) rfl trivial ?_
  refine gWp_icmp gT_127 (pc := 17) rfl ⟨fun c => ?_, fun c => ?_⟩
  · replace h := h.1 (of_decide_eq_true c)
    refine gWp_sts gT_127 1 (f' := (78, [some (.ref 32), some (.int x1), some (.long x2), none, some (.int x4), some (.int x5)], [.int x1], μ)) (cs := []) rfl trivial ?_
    refine gWp_stat gT_127 (pc := 78) (c01 := 0) (as := [.int x1]) (rest := []) rfl (Or.inl rfl) rfl rfl rfl ⟨by decide, Nat.le_of_ble_eq_true rfl, by decide, Nat.le_of_ble_eq_true rfl⟩ (gWp_imp h (fun μ1 r h => ?_))
    obtain ⟨v2, rfl, h⟩ := h
    refine Or.inl ⟨_, rfl, ?_⟩
    show gWp none 127 (81, [some (.ref 32), some (.int x1), some (.long x2), none, some (.int x4), some (.int x5)], [.int v2], μ1) _ P
    refine gWp_sts gT_127 7 (f' := (93, [some (.ref 32), some (.int x1), some (.long x2), none, some (.int x4), some (.int (v2 + (1 : Int32)))], [.int (lg_cmp (gJ μ1 32 10) (-1 : Int64))], μ1)) (cs := []) rfl trivial ?_
    refine gWp_if gT_127 (pc := 93) rfl ⟨fun c => ?_, fun c => ?_⟩
    · replace h := h.1 (of_decide_eq_true c)
      refine gWp_sts gT_127 6 (f' := (134, [some (.ref 32), some (.int x1), some (.long x2), none, some (.int x4), some (.int (v2 + (1 : Int32)))], [], (gsI (gsJ μ1 32 10 x2) 32 11 (v2 + (1 : Int32))))) (cs := []) rfl trivial ?_
      exact gWp_end gT_127 rfl rfl h
    · replace h := h.2 (fun q => c (decide_eq_true q))
      refine gWp_sts gT_127 4 (f' := (102, [some (.ref 32), some (.int x1), some (.long x2), none, some (.int x4), some (.int (v2 + (1 : Int32)))], [.int (lg_cmp x2 (gJ μ1 32 10))], μ1)) (cs := []) rfl trivial ?_
      refine gWp_if gT_127 (pc := 102) rfl ⟨fun c => ?_, fun c => ?_⟩
      · replace h := h.1 (of_decide_eq_true c)
        refine gWp_sts gT_127 6 (f' := (134, [some (.ref 32), some (.int x1), some (.long x2), none, some (.int x4), some (.int (v2 + (1 : Int32)))], [], (gsI (gsJ μ1 32 10 x2) 32 11 (v2 + (1 : Int32))))) (cs := []) rfl trivial ?_
        exact gWp_end gT_127 rfl rfl h
      · replace h := h.2 (fun q => c (decide_eq_true q))
        refine gWp_sts gT_127 4 (f' := (111, [some (.ref 32), some (.int x1), some (.long x2), none, some (.int x4), some (.int (v2 + (1 : Int32)))], [.int (lg_cmp x2 (gJ μ1 32 10))], μ1)) (cs := []) rfl trivial ?_
        refine gWp_if gT_127 (pc := 111) rfl ⟨fun c => ?_, fun c => ?_⟩
        · replace h := h.1 (of_decide_eq_true c)
          exact gWp_end gT_127 rfl rfl h
        · replace h := h.2 (Classical.not_not.mp (fun q => c (decide_eq_true q)))
          refine gWp_sts gT_127 3 (f' := (120, [some (.ref 32), some (.int x1), some (.long x2), none, some (.int x4), some (.int (v2 + (1 : Int32)))], [.int (gI μ1 32 11), .int (v2 + (1 : Int32))], μ1)) (cs := []) rfl trivial ?_
          refine gWp_icmp gT_127 (pc := 120) rfl ⟨fun c => ?_, fun c => ?_⟩
          · replace h := h.1 (of_decide_eq_true c)
            exact gWp_end gT_127 rfl rfl h
          · replace h := h.2 (fun q => c (decide_eq_true q))
            refine gWp_sts gT_127 6 (f' := (134, [some (.ref 32), some (.int x1), some (.long x2), none, some (.int x4), some (.int (v2 + (1 : Int32)))], [], (gsI (gsJ μ1 32 10 x2) 32 11 (v2 + (1 : Int32))))) (cs := []) rfl trivial ?_
            exact gWp_end gT_127 rfl rfl h
  · replace h := h.2 (fun q => c (decide_eq_true q))
    refine gWp_sts gT_127 4 (f' := (29, [some (.ref 32), some (.int x1), some (.long x2), none, some (.int x4), some (.int x5)], [.int (gI μ 29 3), .int x5], μ)) (cs := []) rfl trivial ?_
    refine gWp_icmp gT_127 (pc := 29) rfl ⟨fun c => ?_, fun c => ?_⟩
    · replace h := h.1 (of_decide_eq_true c)
      refine gWp_sts gT_127 3 (f' := (49, [some (.ref 32), some (.int x1), some (.long x2), none, some (.int x4), some (.int x5)], [.int x5, .int x4, .ref 32], μ)) (cs := []) rfl trivial ?_
      refine gWp_virt gT_127 (pc := 49) (q := 32) (as := [.ref 32, .int x4, .int x5]) (rest := []) rfl rfl rfl rfl rfl rfl ⟨by decide, Nat.le_of_ble_eq_true rfl, by decide, Nat.le_of_ble_eq_true rfl⟩ (gWp_imp h (fun μ3 r h => ?_))
      obtain ⟨v4, rfl, h⟩ := h
      refine Or.inl ⟨_, rfl, ?_⟩
      show gWp none 127 (52, [some (.ref 32), some (.int x1), some (.long x2), none, some (.int x4), some (.int x5)], [.int v4], μ3) _ P
      refine gWp_if gT_127 (pc := 52) rfl ⟨fun c => ?_, fun c => ?_⟩
      · replace h := h.1 (of_decide_eq_true c)
        refine gWp_sts gT_127 4 (f' := (62, [some (.ref 32), some (.int x1), some (.long x2), none, some (.int x4), some (.int x5)], [.int x5, .int x4, .ref 32, .long x2], μ3)) (cs := []) rfl trivial ?_
        refine gWp_virt gT_127 (pc := 62) (q := 32) (as := [.ref 32, .int x4, .int x5]) (rest := [.long x2]) rfl rfl rfl rfl rfl rfl ⟨by decide, Nat.le_of_ble_eq_true rfl, by decide, Nat.le_of_ble_eq_true rfl⟩ (gWp_imp h (fun μ5 r h => ?_))
        obtain ⟨v6, rfl, h⟩ := h
        refine Or.inl ⟨_, rfl, ?_⟩
        show gWp none 127 (65, [some (.ref 32), some (.int x1), some (.long x2), none, some (.int x4), some (.int x5)], [.long v6, .long x2], μ5) _ P
        refine gWp_sts gT_127 6 (f' := (8, [some (.ref 32), some (.int x1), some (.long (x2 + v6)), none, some (.int x5), some (.int (x5 + (1 : Int32)))], [], μ5)) (cs := []) rfl trivial ?_
        exact h
      · replace h := h.2 (Classical.not_not.mp (fun q => c (decide_eq_true q)))
        exact gWp_end gT_127 rfl rfl h
    · replace h := h.2 (fun q => c (decide_eq_true q))
      refine gWp_sts gT_127 8 (f' := (41, [some (.ref 32), some (.int x1), some (.long x2), none, some (.int x4), some (.int x5)], [.int (1 : Int32), .int ((x1 >>> ((x5 - (1 : Int32)) &&& 31)) &&& (1 : Int32))], μ)) (cs := []) rfl trivial ?_
      refine gWp_icmp gT_127 (pc := 41) rfl ⟨fun c => ?_, fun c => ?_⟩
      · replace h := h.1 (of_decide_eq_true c)
        refine gWp_sts gT_127 2 (f' := (8, [some (.ref 32), some (.int x1), some (.long x2), none, some (.int x4), some (.int (x5 + (1 : Int32)))], [], μ)) (cs := []) rfl trivial ?_
        exact h
      · replace h := h.2 (Classical.not_not.mp (fun q => c (decide_eq_true q)))
        refine gWp_sts gT_127 3 (f' := (49, [some (.ref 32), some (.int x1), some (.long x2), none, some (.int x4), some (.int x5)], [.int x5, .int x4, .ref 32], μ)) (cs := []) rfl trivial ?_
        refine gWp_virt gT_127 (pc := 49) (q := 32) (as := [.ref 32, .int x4, .int x5]) (rest := []) rfl rfl rfl rfl rfl rfl ⟨by decide, Nat.le_of_ble_eq_true rfl, by decide, Nat.le_of_ble_eq_true rfl⟩ (gWp_imp h (fun μ7 r h => ?_))
        obtain ⟨v8, rfl, h⟩ := h
        refine Or.inl ⟨_, rfl, ?_⟩
        show gWp none 127 (52, [some (.ref 32), some (.int x1), some (.long x2), none, some (.int x4), some (.int x5)], [.int v8], μ7) _ P
        refine gWp_if gT_127 (pc := 52) rfl ⟨fun c => ?_, fun c => ?_⟩
        · replace h := h.1 (of_decide_eq_true c)
          refine gWp_sts gT_127 4 (f' := (62, [some (.ref 32), some (.int x1), some (.long x2), none, some (.int x4), some (.int x5)], [.int x5, .int x4, .ref 32, .long x2], μ7)) (cs := []) rfl trivial ?_
          refine gWp_virt gT_127 (pc := 62) (q := 32) (as := [.ref 32, .int x4, .int x5]) (rest := [.long x2]) rfl rfl rfl rfl rfl rfl ⟨by decide, Nat.le_of_ble_eq_true rfl, by decide, Nat.le_of_ble_eq_true rfl⟩ (gWp_imp h (fun μ9 r h => ?_))
          obtain ⟨v10, rfl, h⟩ := h
          refine Or.inl ⟨_, rfl, ?_⟩
          show gWp none 127 (65, [some (.ref 32), some (.int x1), some (.long x2), none, some (.int x4), some (.int x5)], [.long v10, .long x2], μ9) _ P
          refine gWp_sts gT_127 6 (f' := (8, [some (.ref 32), some (.int x1), some (.long (x2 + v10)), none, some (.int x5), some (.int (x5 + (1 : Int32)))], [], μ9)) (cs := []) rfl trivial ?_
          exact h
        · replace h := h.2 (Classical.not_not.mp (fun q => c (decide_eq_true q)))
          exact gWp_end gT_127 rfl rfl h
set_option maxRecDepth 20000 in
theorem vc_127 {μ : gMu} {x1 : Int32} {P : gMu → gRes → Prop} (h : gWp none 127 (8, [some (.ref 32), some (.int x1), some (.long (0 : Int64)), none, some (.int (0 : Int32)), some (.int (1 : Int32))], [], μ) 0 P) : gWp none 127 (0, [some (.ref 32), some (.int x1), none, none, none, none], [], μ) 0 P := by
  refine gWp_sts gT_127 6 (f' := (8, [some (.ref 32), some (.int x1), some (.long (0 : Int64)), none, some (.int (0 : Int32)), some (.int (1 : Int32))], [], μ)) (cs := []) rfl trivial ?_
  exact h
/-! Glyphmill$Lines.tryAll -/
theorem gT_128 : gCode[128]? = some gC_128 := rfl
set_option maxRecDepth 20000 in
theorem vc_128_44 {μ : gMu} {x1 : Int32} {x2 : Int32} {P : gMu → gRes → Prop} (h : ((((1 : Int32) <<< (x1 &&& 31)) ≤ x2) → (P μ (.inl none))) ∧ ((¬ ((1 : Int32) <<< (x1 &&& 31)) ≤ x2) → (gCl' 127 [.ref 32, .int x2] μ (fun μ1 r => (r = .inl none ∧ (gWp none 128 (44, [some (.ref 32), some (.int x1), some (.int (x2 + (1 : Int32)))], [], μ1) 0 P)))))) : gWp none 128 (44, [some (.ref 32), some (.int x1), some (.int x2)], [], μ) 0 P := by
  refine gWp_sts gT_128 4 (f' := (48, [some (.ref 32), some (.int x1), some (.int x2)], [.int ((1 : Int32) <<< (x1 &&& 31)), .int x2], μ)) (cs := []) rfl trivial ?_
  refine gWp_icmp gT_128 (pc := 48) rfl ⟨fun c => ?_, fun c => ?_⟩
  · replace h := h.1 (of_decide_eq_true c)
    exact gWp_end gT_128 rfl rfl h
  · replace h := h.2 (fun q => c (decide_eq_true q))
    refine gWp_sts gT_128 2 (f' := (53, [some (.ref 32), some (.int x1), some (.int x2)], [.int x2, .ref 32], μ)) (cs := []) rfl trivial ?_
    refine gWp_virt gT_128 (pc := 53) (q := 32) (as := [.ref 32, .int x2]) (rest := []) rfl rfl rfl rfl rfl rfl ⟨by decide, Nat.le_of_ble_eq_true rfl, by decide, Nat.le_of_ble_eq_true rfl⟩ (gWp_imp h (fun μ1 r h => ?_))
    obtain ⟨rfl, h⟩ := h
    refine Or.inl ⟨_, rfl, ?_⟩
    show gWp none 128 (56, [some (.ref 32), some (.int x1), some (.int x2)], [], μ1) _ P
    refine gWp_sts gT_128 2 (f' := (44, [some (.ref 32), some (.int x1), some (.int (x2 + (1 : Int32)))], [], μ1)) (cs := []) rfl trivial ?_
    exact h
set_option maxRecDepth 20000 in
theorem vc_128 {μ : gMu} {P : gMu → gRes → Prop} (h : gCl' 65 [.ref 29] (gsI (gsJ μ 32 10 (-1 : Int64)) 32 11 (0 : Int32)) (fun μ1 r => (∃ v2, r = .inl (some (.int v2)) ∧ (((¬ (gI μ1 29 4) = 0) → (P (gsJ μ1 32 10 (0 : Int64)) (.inl none))) ∧ (((gI μ1 29 4) = 0) → (((v2 ≤ (9 : Int32)) → (gWp none 128 (44, [some (.ref 32), some (.int v2), some (.int (0 : Int32))], [], μ1) 0 P)) ∧ ((¬ v2 ≤ (9 : Int32)) → (P (gsJ μ1 32 10 (0 : Int64)) (.inl none))))))))) : gWp none 128 (0, [some (.ref 32), none, none], [], μ) 0 P := by
  refine gWp_sts gT_128 8 (f' := (16, [some (.ref 32), none, none], [.ref 29], (gsI (gsJ μ 32 10 (-1 : Int64)) 32 11 (0 : Int32)))) (cs := []) rfl trivial ?_
  refine gWp_virt gT_128 (pc := 16) (q := 29) (as := [.ref 29]) (rest := []) rfl rfl rfl rfl rfl rfl ⟨by decide, Nat.le_of_ble_eq_true rfl, by decide, Nat.le_of_ble_eq_true rfl⟩ (gWp_imp h (fun μ1 r h => ?_))
  obtain ⟨v2, rfl, h⟩ := h
  refine Or.inl ⟨_, rfl, ?_⟩
  show gWp none 128 (19, [some (.ref 32), none, none], [.int v2], μ1) _ P
  refine gWp_sts gT_128 4 (f' := (27, [some (.ref 32), some (.int v2), none], [.int (gI μ1 29 4)], μ1)) (cs := []) rfl trivial ?_
  refine gWp_if gT_128 (pc := 27) rfl ⟨fun c => ?_, fun c => ?_⟩
  · replace h := h.1 (of_decide_eq_true c)
    refine gWp_sts gT_128 3 (f' := (41, [some (.ref 32), some (.int v2), none], [], (gsJ μ1 32 10 (0 : Int64)))) (cs := []) rfl trivial ?_
    exact gWp_end gT_128 rfl rfl h
  · replace h := h.2 (Classical.not_not.mp (fun q => c (decide_eq_true q)))
    refine gWp_sts gT_128 2 (f' := (33, [some (.ref 32), some (.int v2), none], [.int (9 : Int32), .int v2], μ1)) (cs := []) rfl trivial ?_
    refine gWp_icmp gT_128 (pc := 33) rfl ⟨fun c => ?_, fun c => ?_⟩
    · replace h := h.1 (of_decide_eq_true c)
      refine gWp_sts gT_128 2 (f' := (44, [some (.ref 32), some (.int v2), some (.int (0 : Int32))], [], μ1)) (cs := []) rfl trivial ?_
      exact h
    · replace h := h.2 (fun q => c (decide_eq_true q))
      refine gWp_sts gT_128 3 (f' := (41, [some (.ref 32), some (.int v2), none], [], (gsJ μ1 32 10 (0 : Int64)))) (cs := []) rfl trivial ?_
      exact gWp_end gT_128 rfl rfl h
/-! Glyphmill.demeritsByTrying -/
theorem gT_129 : gCode[129]? = some gC_129 := rfl
set_option maxRecDepth 20000 in
theorem vc_129 {μ : gMu} {P : gMu → gRes → Prop} (h : gCl' 62 [.ref 0] μ (fun μ1 r => (r = .inl none ∧ (gCl' 107 [.ref 0] μ1 (fun μ2 r => (r = .inl none ∧ (gCl' 125 [.ref 0] μ2 (fun μ3 r => (r = .inl none ∧ (gCl' 128 [.ref 32] μ3 (fun μ4 r => (r = .inl none ∧ (P μ4 (.inl (some (.long (gJ μ4 32 10))))))))) ∨ (∃ y, r = .inr y ∧ P μ3 (.inr y))))) ∨ (∃ y, r = .inr y ∧ P μ2 (.inr y))))))) : gWp none 129 (0, [some (.ref 0)], [], μ) 0 P := by
  refine gWp_sts gT_129 1 (f' := (1, [some (.ref 0)], [.ref 0], μ)) (cs := []) rfl trivial ?_
  refine gWp_virt gT_129 (pc := 1) (q := 0) (as := [.ref 0]) (rest := []) rfl rfl rfl rfl rfl rfl ⟨by decide, Nat.le_of_ble_eq_true rfl, by decide, Nat.le_of_ble_eq_true rfl⟩ (gWp_imp h (fun μ1 r h => ?_))
  obtain ⟨rfl, h⟩ := h
  refine Or.inl ⟨_, rfl, ?_⟩
  show gWp none 129 (4, [some (.ref 0)], [], μ1) _ P
  refine gWp_sts gT_129 1 (f' := (5, [some (.ref 0)], [.ref 0], μ1)) (cs := []) rfl trivial ?_
  refine gWp_virt gT_129 (pc := 5) (q := 0) (as := [.ref 0]) (rest := []) rfl rfl rfl rfl rfl rfl ⟨by decide, Nat.le_of_ble_eq_true rfl, by decide, Nat.le_of_ble_eq_true rfl⟩ (gWp_imp h (fun μ2 r h => ?_))
  rcases h with h | h
  · obtain ⟨rfl, h⟩ := h
    refine Or.inl ⟨_, rfl, ?_⟩
    show gWp none 129 (8, [some (.ref 0)], [], μ2) _ P
    refine gWp_sts gT_129 1 (f' := (9, [some (.ref 0)], [.ref 0], μ2)) (cs := []) rfl trivial ?_
    refine gWp_virt gT_129 (pc := 9) (q := 0) (as := [.ref 0]) (rest := []) rfl rfl rfl rfl rfl rfl ⟨by decide, Nat.le_of_ble_eq_true rfl, by decide, Nat.le_of_ble_eq_true rfl⟩ (gWp_imp h (fun μ3 r h => ?_))
    rcases h with h | h
    · obtain ⟨rfl, h⟩ := h
      refine Or.inl ⟨_, rfl, ?_⟩
      show gWp none 129 (12, [some (.ref 0)], [], μ3) _ P
      refine gWp_sts gT_129 2 (f' := (16, [some (.ref 0)], [.ref 32], μ3)) (cs := []) rfl trivial ?_
      refine gWp_virt gT_129 (pc := 16) (q := 32) (as := [.ref 32]) (rest := []) rfl rfl rfl rfl rfl rfl ⟨by decide, Nat.le_of_ble_eq_true rfl, by decide, Nat.le_of_ble_eq_true rfl⟩ (gWp_imp h (fun μ4 r h => ?_))
      obtain ⟨rfl, h⟩ := h
      refine Or.inl ⟨_, rfl, ?_⟩
      show gWp none 129 (19, [some (.ref 0)], [], μ4) _ P
      refine gWp_sts gT_129 3 (f' := (26, [some (.ref 0)], [.long (gJ μ4 32 10)], μ4)) (cs := []) rfl trivial ?_
      exact gWp_end gT_129 rfl rfl h
    · obtain ⟨y, rfl, h⟩ := h
      exact Or.inr (Or.inl ⟨y, rfl, rfl, h⟩)
  · obtain ⟨y, rfl, h⟩ := h
    exact Or.inr (Or.inl ⟨y, rfl, rfl, h⟩)
/-! Glyphmill.linesByTrying -/
theorem gT_131 : gCode[131]? = some gC_131 := rfl
set_option maxRecDepth 20000 in
theorem vc_131 {μ : gMu} {P : gMu → gRes → Prop} (h : gCl' 62 [.ref 0] μ (fun μ1 r => (r = .inl none ∧ (gCl' 107 [.ref 0] μ1 (fun μ2 r => (r = .inl none ∧ (gCl' 125 [.ref 0] μ2 (fun μ3 r => (r = .inl none ∧ (gCl' 128 [.ref 32] μ3 (fun μ4 r => (r = .inl none ∧ (P μ4 (.inl (some (.int (gI μ4 32 11))))))))) ∨ (∃ y, r = .inr y ∧ P μ3 (.inr y))))) ∨ (∃ y, r = .inr y ∧ P μ2 (.inr y))))))) : gWp none 131 (0, [some (.ref 0)], [], μ) 0 P := by
  refine gWp_sts gT_131 1 (f' := (1, [some (.ref 0)], [.ref 0], μ)) (cs := []) rfl trivial ?_
  refine gWp_virt gT_131 (pc := 1) (q := 0) (as := [.ref 0]) (rest := []) rfl rfl rfl rfl rfl rfl ⟨by decide, Nat.le_of_ble_eq_true rfl, by decide, Nat.le_of_ble_eq_true rfl⟩ (gWp_imp h (fun μ1 r h => ?_))
  obtain ⟨rfl, h⟩ := h
  refine Or.inl ⟨_, rfl, ?_⟩
  show gWp none 131 (4, [some (.ref 0)], [], μ1) _ P
  refine gWp_sts gT_131 1 (f' := (5, [some (.ref 0)], [.ref 0], μ1)) (cs := []) rfl trivial ?_
  refine gWp_virt gT_131 (pc := 5) (q := 0) (as := [.ref 0]) (rest := []) rfl rfl rfl rfl rfl rfl ⟨by decide, Nat.le_of_ble_eq_true rfl, by decide, Nat.le_of_ble_eq_true rfl⟩ (gWp_imp h (fun μ2 r h => ?_))
  rcases h with h | h
  · obtain ⟨rfl, h⟩ := h
    refine Or.inl ⟨_, rfl, ?_⟩
    show gWp none 131 (8, [some (.ref 0)], [], μ2) _ P
    refine gWp_sts gT_131 1 (f' := (9, [some (.ref 0)], [.ref 0], μ2)) (cs := []) rfl trivial ?_
    refine gWp_virt gT_131 (pc := 9) (q := 0) (as := [.ref 0]) (rest := []) rfl rfl rfl rfl rfl rfl ⟨by decide, Nat.le_of_ble_eq_true rfl, by decide, Nat.le_of_ble_eq_true rfl⟩ (gWp_imp h (fun μ3 r h => ?_))
    rcases h with h | h
    · obtain ⟨rfl, h⟩ := h
      refine Or.inl ⟨_, rfl, ?_⟩
      show gWp none 131 (12, [some (.ref 0)], [], μ3) _ P
      refine gWp_sts gT_131 2 (f' := (16, [some (.ref 0)], [.ref 32], μ3)) (cs := []) rfl trivial ?_
      refine gWp_virt gT_131 (pc := 16) (q := 32) (as := [.ref 32]) (rest := []) rfl rfl rfl rfl rfl rfl ⟨by decide, Nat.le_of_ble_eq_true rfl, by decide, Nat.le_of_ble_eq_true rfl⟩ (gWp_imp h (fun μ4 r h => ?_))
      obtain ⟨rfl, h⟩ := h
      refine Or.inl ⟨_, rfl, ?_⟩
      show gWp none 131 (19, [some (.ref 0)], [], μ4) _ P
      refine gWp_sts gT_131 3 (f' := (26, [some (.ref 0)], [.int (gI μ4 32 11)], μ4)) (cs := []) rfl trivial ?_
      exact gWp_end gT_131 rfl (gEnd_int trivial) h
    · obtain ⟨y, rfl, h⟩ := h
      exact Or.inr (Or.inl ⟨y, rfl, rfl, h⟩)
  · obtain ⟨y, rfl, h⟩ := h
    exact Or.inr (Or.inl ⟨y, rfl, rfl, h⟩)
/-! Glyphmill.glyphsOf -/
theorem gT_133 : gCode[133]? = some gC_133 := rfl
set_option maxRecDepth 20000 in
theorem vc_133 {μ : gMu} {x1 : Int32} {P : gMu → gRes → Prop} (h : gCl' 62 [.ref 0] μ (fun μ1 r => (r = .inl none ∧ (gCl' 113 [.ref 0, .int x1] μ1 (fun μ2 r => (r = .inl none ∧ (gCl' 47 [.ref 38, .int x1] μ2 (fun μ3 r => (∃ v4, r = .inl (some (.int v4)) ∧ (gCl' 51 [.ref 38, .int x1] μ3 (fun μ5 r => (∃ v6, r = .inl (some (.int v6)) ∧ (P μ5 (.inl (some (.int (v4 - v6)))))))))))) ∨ (∃ y, r = .inr y ∧ P μ2 (.inr y))))))) : gWp none 133 (0, [some (.ref 0), some (.int x1)], [], μ) 0 P := by
  refine gWp_sts gT_133 1 (f' := (1, [some (.ref 0), some (.int x1)], [.ref 0], μ)) (cs := []) rfl trivial ?_
  refine gWp_virt gT_133 (pc := 1) (q := 0) (as := [.ref 0]) (rest := []) rfl rfl rfl rfl rfl rfl ⟨by decide, Nat.le_of_ble_eq_true rfl, by decide, Nat.le_of_ble_eq_true rfl⟩ (gWp_imp h (fun μ1 r h => ?_))
  obtain ⟨rfl, h⟩ := h
  refine Or.inl ⟨_, rfl, ?_⟩
  show gWp none 133 (4, [some (.ref 0), some (.int x1)], [], μ1) _ P
  refine gWp_sts gT_133 2 (f' := (6, [some (.ref 0), some (.int x1)], [.int x1, .ref 0], μ1)) (cs := []) rfl trivial ?_
  refine gWp_virt gT_133 (pc := 6) (q := 0) (as := [.ref 0, .int x1]) (rest := []) rfl rfl rfl rfl rfl rfl ⟨by decide, Nat.le_of_ble_eq_true rfl, by decide, Nat.le_of_ble_eq_true rfl⟩ (gWp_imp h (fun μ2 r h => ?_))
  rcases h with h | h
  · obtain ⟨rfl, h⟩ := h
    refine Or.inl ⟨_, rfl, ?_⟩
    show gWp none 133 (9, [some (.ref 0), some (.int x1)], [], μ2) _ P
    refine gWp_sts gT_133 3 (f' := (14, [some (.ref 0), some (.int x1)], [.int x1, .ref 38], μ2)) (cs := []) rfl trivial ?_
    refine gWp_virt gT_133 (pc := 14) (q := 38) (as := [.ref 38, .int x1]) (rest := []) rfl rfl rfl rfl rfl rfl ⟨by decide, Nat.le_of_ble_eq_true rfl, by decide, Nat.le_of_ble_eq_true rfl⟩ (gWp_imp h (fun μ3 r h => ?_))
    obtain ⟨v4, rfl, h⟩ := h
    refine Or.inl ⟨_, rfl, ?_⟩
    show gWp none 133 (17, [some (.ref 0), some (.int x1)], [.int v4], μ3) _ P
    refine gWp_sts gT_133 3 (f' := (22, [some (.ref 0), some (.int x1)], [.int x1, .ref 38, .int v4], μ3)) (cs := []) rfl trivial ?_
    refine gWp_virt gT_133 (pc := 22) (q := 38) (as := [.ref 38, .int x1]) (rest := [.int v4]) rfl rfl rfl rfl rfl rfl ⟨by decide, Nat.le_of_ble_eq_true rfl, by decide, Nat.le_of_ble_eq_true rfl⟩ (gWp_imp h (fun μ5 r h => ?_))
    obtain ⟨v6, rfl, h⟩ := h
    refine Or.inl ⟨_, rfl, ?_⟩
    show gWp none 133 (25, [some (.ref 0), some (.int x1)], [.int v6, .int v4], μ5) _ P
    refine gWp_sts gT_133 1 (f' := (26, [some (.ref 0), some (.int x1)], [.int (v4 - v6)], μ5)) (cs := []) rfl trivial ?_
    exact gWp_end gT_133 rfl (gEnd_int trivial) h
  · obtain ⟨y, rfl, h⟩ := h
    exact Or.inr (Or.inl ⟨y, rfl, rfl, h⟩)
/-! Glyphmill.glyphAt -/
theorem gT_135 : gCode[135]? = some gC_135 := rfl
set_option maxRecDepth 20000 in
theorem vc_135 {μ : gMu} {x1 : Int32} {x2 : Int32} {P : gMu → gRes → Prop} (h : gCl' 62 [.ref 0] μ (fun μ1 r => (r = .inl none ∧ (gCl' 113 [.ref 0, .int x1] μ1 (fun μ2 r => (r = .inl none ∧ (gCl' 51 [.ref 38, .int x1] μ2 (fun μ3 r => (∃ v4, r = .inl (some (.int v4)) ∧ (((x2 < 0) → (P μ3 (.inr 2))) ∧ ((¬ x2 < 0) → (gCl' 47 [.ref 38, .int x1] μ3 (fun μ5 r => (∃ v6, r = .inl (some (.int v6)) ∧ (((x2 < (v6 - v4)) → ((vp_in (v4 + x2) 50) ∧ (gCl' 67 [.ref 0, .int (gI μ5 40 ((v4 + x2).toNatClampNeg))] μ5 (fun μ7 r => (∃ v8, r = .inl (some (.int v8)) ∧ (P μ7 (.inl (some (.int v8))))))))) ∧ ((¬ x2 < (v6 - v4)) → (P μ5 (.inr 2))))))))))))) ∨ (∃ y, r = .inr y ∧ P μ2 (.inr y))))))) : gWp none 135 (0, [some (.ref 0), some (.int x1), some (.int x2), none], [], μ) 0 P := by
  refine gWp_sts gT_135 1 (f' := (1, [some (.ref 0), some (.int x1), some (.int x2), none], [.ref 0], μ)) (cs := []) rfl trivial ?_
  refine gWp_virt gT_135 (pc := 1) (q := 0) (as := [.ref 0]) (rest := []) rfl rfl rfl rfl rfl rfl ⟨by decide, Nat.le_of_ble_eq_true rfl, by decide, Nat.le_of_ble_eq_true rfl⟩ (gWp_imp h (fun μ1 r h => ?_))
  obtain ⟨rfl, h⟩ := h
  refine Or.inl ⟨_, rfl, ?_⟩
  show gWp none 135 (4, [some (.ref 0), some (.int x1), some (.int x2), none], [], μ1) _ P
  refine gWp_sts gT_135 2 (f' := (6, [some (.ref 0), some (.int x1), some (.int x2), none], [.int x1, .ref 0], μ1)) (cs := []) rfl trivial ?_
  refine gWp_virt gT_135 (pc := 6) (q := 0) (as := [.ref 0, .int x1]) (rest := []) rfl rfl rfl rfl rfl rfl ⟨by decide, Nat.le_of_ble_eq_true rfl, by decide, Nat.le_of_ble_eq_true rfl⟩ (gWp_imp h (fun μ2 r h => ?_))
  rcases h with h | h
  · obtain ⟨rfl, h⟩ := h
    refine Or.inl ⟨_, rfl, ?_⟩
    show gWp none 135 (9, [some (.ref 0), some (.int x1), some (.int x2), none], [], μ2) _ P
    refine gWp_sts gT_135 3 (f' := (14, [some (.ref 0), some (.int x1), some (.int x2), none], [.int x1, .ref 38], μ2)) (cs := []) rfl trivial ?_
    refine gWp_virt gT_135 (pc := 14) (q := 38) (as := [.ref 38, .int x1]) (rest := []) rfl rfl rfl rfl rfl rfl ⟨by decide, Nat.le_of_ble_eq_true rfl, by decide, Nat.le_of_ble_eq_true rfl⟩ (gWp_imp h (fun μ3 r h => ?_))
    obtain ⟨v4, rfl, h⟩ := h
    refine Or.inl ⟨_, rfl, ?_⟩
    show gWp none 135 (17, [some (.ref 0), some (.int x1), some (.int x2), none], [.int v4], μ3) _ P
    refine gWp_sts gT_135 2 (f' := (19, [some (.ref 0), some (.int x1), some (.int x2), some (.int v4)], [.int x2], μ3)) (cs := []) rfl trivial ?_
    refine gWp_if gT_135 (pc := 19) rfl ⟨fun c => ?_, fun c => ?_⟩
    · replace h := h.1 (of_decide_eq_true c)
      exact gWp_end gT_135 rfl rfl h
    · replace h := h.2 (fun q => c (decide_eq_true q))
      refine gWp_sts gT_135 4 (f' := (28, [some (.ref 0), some (.int x1), some (.int x2), some (.int v4)], [.int x1, .ref 38, .int x2], μ3)) (cs := []) rfl trivial ?_
      refine gWp_virt gT_135 (pc := 28) (q := 38) (as := [.ref 38, .int x1]) (rest := [.int x2]) rfl rfl rfl rfl rfl rfl ⟨by decide, Nat.le_of_ble_eq_true rfl, by decide, Nat.le_of_ble_eq_true rfl⟩ (gWp_imp h (fun μ5 r h => ?_))
      obtain ⟨v6, rfl, h⟩ := h
      refine Or.inl ⟨_, rfl, ?_⟩
      show gWp none 135 (31, [some (.ref 0), some (.int x1), some (.int x2), some (.int v4)], [.int v6, .int x2], μ5) _ P
      refine gWp_sts gT_135 2 (f' := (33, [some (.ref 0), some (.int x1), some (.int x2), some (.int v4)], [.int (v6 - v4), .int x2], μ5)) (cs := []) rfl trivial ?_
      refine gWp_icmp gT_135 (pc := 33) rfl ⟨fun c => ?_, fun c => ?_⟩
      · replace h := h.1 (of_decide_eq_true c)
        obtain ⟨c1, h⟩ := h
        refine gWp_sts gT_135 8 (f' := (59, [some (.ref 0), some (.int x1), some (.int x2), some (.int v4)], [.int (gI μ5 40 ((v4 + x2).toNatClampNeg)), .ref 0], μ5)) (cs := [vp_in (v4 + x2) 50]) rfl c1 ?_
        refine gWp_virt gT_135 (pc := 59) (q := 0) (as := [.ref 0, .int (gI μ5 40 ((v4 + x2).toNatClampNeg))]) (rest := []) rfl rfl rfl rfl rfl rfl ⟨by decide, Nat.le_of_ble_eq_true rfl, by decide, Nat.le_of_ble_eq_true rfl⟩ (gWp_imp h (fun μ7 r h => ?_))
        obtain ⟨v8, rfl, h⟩ := h
        refine Or.inl ⟨_, rfl, ?_⟩
        show gWp none 135 (62, [some (.ref 0), some (.int x1), some (.int x2), some (.int v4)], [.int v8], μ7) _ P
        exact gWp_end gT_135 rfl (gEnd_int trivial) h
      · replace h := h.2 (fun q => c (decide_eq_true q))
        exact gWp_end gT_135 rfl rfl h
  · obtain ⟨y, rfl, h⟩ := h
    exact Or.inr (Or.inl ⟨y, rfl, rfl, h⟩)
/-! Glyphmill.placedGlyph -/
theorem gT_137 : gCode[137]? = some gC_137 := rfl
set_option maxRecDepth 20000 in
theorem vc_137 {μ : gMu} {x1 : Int32} {P : gMu → gRes → Prop} (h : gCl' 116 [.ref 0, .int x1] μ (fun μ1 r => (∃ v2, r = .inl (some (.int v2)) ∧ ((vp_in v2 50) ∧ (((¬ (gI μ1 41 v2.toNatClampNeg) = (-1 : Int32)) → (P μ1 (.inl (some (.int v2))))) ∧ (((gI μ1 41 v2.toNatClampNeg) = (-1 : Int32)) → (P μ1 (.inr 4)))))) ∨ (∃ y, r = .inr y ∧ P μ1 (.inr y)))) : gWp none 137 (0, [some (.ref 0), some (.int x1), none], [], μ) 0 P := by
  refine gWp_sts gT_137 2 (f' := (2, [some (.ref 0), some (.int x1), none], [.int x1, .ref 0], μ)) (cs := []) rfl trivial ?_
  refine gWp_virt gT_137 (pc := 2) (q := 0) (as := [.ref 0, .int x1]) (rest := []) rfl rfl rfl rfl rfl rfl ⟨by decide, Nat.le_of_ble_eq_true rfl, by decide, Nat.le_of_ble_eq_true rfl⟩ (gWp_imp h (fun μ1 r h => ?_))
  rcases h with h | h
  · obtain ⟨v2, rfl, h⟩ := h
    refine Or.inl ⟨_, rfl, ?_⟩
    show gWp none 137 (5, [some (.ref 0), some (.int x1), none], [.int v2], μ1) _ P
    obtain ⟨c1, h⟩ := h
    refine gWp_sts gT_137 7 (f' := (16, [some (.ref 0), some (.int x1), some (.int v2)], [.int (-1 : Int32), .int (gI μ1 41 v2.toNatClampNeg)], μ1)) (cs := [vp_in v2 50]) rfl c1 ?_
    refine gWp_icmp gT_137 (pc := 16) rfl ⟨fun c => ?_, fun c => ?_⟩
    · replace h := h.1 (of_decide_eq_true c)
      refine gWp_sts gT_137 1 (f' := (31, [some (.ref 0), some (.int x1), some (.int v2)], [.int v2], μ1)) (cs := []) rfl trivial ?_
      exact gWp_end gT_137 rfl (gEnd_int trivial) h
    · replace h := h.2 (Classical.not_not.mp (fun q => c (decide_eq_true q)))
      exact gWp_end gT_137 rfl rfl h
  · obtain ⟨y, rfl, h⟩ := h
    exact Or.inr (Or.inl ⟨y, rfl, rfl, h⟩)
/-! Glyphmill.rankOf -/
theorem gT_138 : gCode[138]? = some gC_138 := rfl
set_option maxRecDepth 20000 in
theorem vc_138 {μ : gMu} {x1 : Int32} {P : gMu → gRes → Prop} (h : gCl' 62 [.ref 0] μ (fun μ1 r => (r = .inl none ∧ (gCl' 137 [.ref 0, .int x1] μ1 (fun μ2 r => (∃ v3, r = .inl (some (.int v3)) ∧ ((vp_in v3 50) ∧ (P μ2 (.inl (some (.int (gI μ2 41 v3.toNatClampNeg))))))) ∨ (∃ y, r = .inr y ∧ P μ2 (.inr y))))))) : gWp none 138 (0, [some (.ref 0), some (.int x1)], [], μ) 0 P := by
  refine gWp_sts gT_138 1 (f' := (1, [some (.ref 0), some (.int x1)], [.ref 0], μ)) (cs := []) rfl trivial ?_
  refine gWp_virt gT_138 (pc := 1) (q := 0) (as := [.ref 0]) (rest := []) rfl rfl rfl rfl rfl rfl ⟨by decide, Nat.le_of_ble_eq_true rfl, by decide, Nat.le_of_ble_eq_true rfl⟩ (gWp_imp h (fun μ1 r h => ?_))
  obtain ⟨rfl, h⟩ := h
  refine Or.inl ⟨_, rfl, ?_⟩
  show gWp none 138 (4, [some (.ref 0), some (.int x1)], [], μ1) _ P
  refine gWp_sts gT_138 5 (f' := (13, [some (.ref 0), some (.int x1)], [.int x1, .ref 0, .ref 41], μ1)) (cs := []) rfl trivial ?_
  refine gWp_virt gT_138 (pc := 13) (q := 0) (as := [.ref 0, .int x1]) (rest := [.ref 41]) rfl rfl rfl rfl rfl rfl ⟨by decide, Nat.le_of_ble_eq_true rfl, by decide, Nat.le_of_ble_eq_true rfl⟩ (gWp_imp h (fun μ2 r h => ?_))
  rcases h with h | h
  · obtain ⟨v3, rfl, h⟩ := h
    refine Or.inl ⟨_, rfl, ?_⟩
    show gWp none 138 (16, [some (.ref 0), some (.int x1)], [.int v3, .ref 41], μ2) _ P
    obtain ⟨c1, h⟩ := h
    refine gWp_sts gT_138 1 (f' := (17, [some (.ref 0), some (.int x1)], [.int (gI μ2 41 v3.toNatClampNeg)], μ2)) (cs := [vp_in v3 50]) rfl c1 ?_
    exact gWp_end gT_138 rfl (gEnd_int trivial) h
  · obtain ⟨y, rfl, h⟩ := h
    exact Or.inr (Or.inl ⟨y, rfl, rfl, h⟩)
/-! Glyphmill$Rows.countRank -/
theorem gT_140 : gCode[140]? = some gC_140 := rfl
set_option maxRecDepth 20000 in
theorem vc_140_90 {μ : gMu} {x1 : Int32} {x2 : Int32} {x3 : Int32} {x4 : Int32} {x5 : Int32} {P : gMu → gRes → Prop} (h : gCl' 47 [.ref 38, .int x2] μ (fun μ1 r => (∃ v2, r = .inl (some (.int v2)) ∧ (((v2 ≤ x5) → (P μ1 (.inl (some (.int x3))))) ∧ ((¬ v2 ≤ x5) → ((vp_in x5 50) ∧ (gCl' 13 [.int (if (gI μ1 25 x5.toNatClampNeg) < x4 then gI μ1 25 x5.toNatClampNeg else x4)] μ1 (fun μ3 r => (∃ v4, r = .inl (some (.int v4)) ∧ (((v4 = 0) → (gWp none 140 (90, [some (.ref 38), some (.int x1), some (.int x2), some (.int (x3 + (0 : Int32))), some (.int (if (gI μ1 25 x5.toNatClampNeg) < x4 then gI μ1 25 x5.toNatClampNeg else x4)), some (.int (x5 + (1 : Int32)))], [], μ3) 0 P)) ∧ ((¬ v4 = 0) → (gWp none 140 (90, [some (.ref 38), some (.int x1), some (.int x2), some (.int (x3 + (1 : Int32))), some (.int (if (gI μ1 25 x5.toNatClampNeg) < x4 then gI μ1 25 x5.toNatClampNeg else x4)), some (.int (x5 + (1 : Int32)))], [], μ3) 0 P)))))))))))) : gWp none 140 (90, [some (.ref 38), some (.int x1), some (.int x2), some (.int x3), some (.int x4), some (.int x5)], [], μ) 0 P := by
  refine gWp_sts gT_140 3 (f' := (94, [some (.ref 38), some (.int x1), some (.int x2), some (.int x3), some (.int x4), some (.int x5)], [.int x2, .ref 38, .int x5], μ)) (cs := []) rfl trivial ?_
  refine gWp_virt gT_140 (pc := 94) (q := 38) (as := [.ref 38, .int x2]) (rest := [.int x5]) rfl rfl rfl rfl rfl rfl ⟨by decide, Nat.le_of_ble_eq_true rfl, by decide, Nat.le_of_ble_eq_true rfl⟩ (gWp_imp h (fun μ1 r h => ?_))
  obtain ⟨v2, rfl, h⟩ := h
  refine Or.inl ⟨_, rfl, ?_⟩
  show gWp none 140 (97, [some (.ref 38), some (.int x1), some (.int x2), some (.int x3), some (.int x4), some (.int x5)], [.int v2, .int x5], μ1) _ P
  refine gWp_icmp gT_140 (pc := 97) rfl ⟨fun c => ?_, fun c => ?_⟩
  · replace h := h.1 (of_decide_eq_true c)
    refine gWp_sts gT_140 1 (f' := (140, [some (.ref 38), some (.int x1), some (.int x2), some (.int x3), some (.int x4), some (.int x5)], [.int x3], μ1)) (cs := []) rfl trivial ?_
    exact gWp_end gT_140 rfl (gEnd_int trivial) h
  · replace h := h.2 (fun q => c (decide_eq_true q))
    obtain ⟨c1, h⟩ := h
    refine gWp_sts gT_140 10 (f' := (120, [some (.ref 38), some (.int x1), some (.int x2), some (.int x3), some (.int (if (gI μ1 25 x5.toNatClampNeg) < x4 then gI μ1 25 x5.toNatClampNeg else x4)), some (.int x5)], [.int (if (gI μ1 25 x5.toNatClampNeg) < x4 then gI μ1 25 x5.toNatClampNeg else x4), .int x3], μ1)) (cs := [vp_in x5 50, (([] : List Value).map fun v => v.category).sum ≤ 8]) rfl ⟨c1, (Nat.le_of_ble_eq_true rfl)⟩ ?_
    refine gWp_stat gT_140 (pc := 120) (c01 := 1) (as := [.int (if (gI μ1 25 x5.toNatClampNeg) < x4 then gI μ1 25 x5.toNatClampNeg else x4)]) (rest := [.int x3]) rfl (Or.inr rfl) rfl rfl rfl ⟨by decide, Nat.le_of_ble_eq_true rfl, by decide, Nat.le_of_ble_eq_true rfl⟩ (gWp_imp h (fun μ3 r h => ?_))
    obtain ⟨v4, rfl, h⟩ := h
    refine Or.inl ⟨_, rfl, ?_⟩
    show gWp none 140 (123, [some (.ref 38), some (.int x1), some (.int x2), some (.int x3), some (.int (if (gI μ1 25 x5.toNatClampNeg) < x4 then gI μ1 25 x5.toNatClampNeg else x4)), some (.int x5)], [.int v4, .int x3], μ3) _ P
    refine gWp_if gT_140 (pc := 123) rfl ⟨fun c => ?_, fun c => ?_⟩
    · replace h := h.1 (of_decide_eq_true c)
      refine gWp_sts gT_140 5 (f' := (90, [some (.ref 38), some (.int x1), some (.int x2), some (.int (x3 + (0 : Int32))), some (.int (if (gI μ1 25 x5.toNatClampNeg) < x4 then gI μ1 25 x5.toNatClampNeg else x4)), some (.int (x5 + (1 : Int32)))], [], μ3)) (cs := []) rfl trivial ?_
      exact h
    · replace h := h.2 (fun q => c (decide_eq_true q))
      refine gWp_sts gT_140 6 (f' := (90, [some (.ref 38), some (.int x1), some (.int x2), some (.int (x3 + (1 : Int32))), some (.int (if (gI μ1 25 x5.toNatClampNeg) < x4 then gI μ1 25 x5.toNatClampNeg else x4)), some (.int (x5 + (1 : Int32)))], [], μ3)) (cs := []) rfl trivial ?_
      exact h
set_option maxRecDepth 20000 in
theorem vc_140_25 {μ : gMu} {x1 : Int32} {x2 : Int32} {x3 : Int32} {x4 : Int32} {x5 : Int32} {P : gMu → gRes → Prop} (h : gCl' 51 [.ref 38, .int x2] μ (fun μ1 r => (∃ v2, r = .inl (some (.int v2)) ∧ (((x5 < v2) → ((vp_in x1 50) ∧ (gWp none 140 (90, [some (.ref 38), some (.int x1), some (.int x2), some (.int x3), some (.int (gI μ1 25 x1.toNatClampNeg)), some (.int (x1 + (1 : Int32)))], [], μ1) 0 P))) ∧ ((¬ x5 < v2) → ((vp_in x5 50) ∧ (gCl' 13 [.int (if (gI μ1 25 x5.toNatClampNeg) < x4 then gI μ1 25 x5.toNatClampNeg else x4)] μ1 (fun μ3 r => (∃ v4, r = .inl (some (.int v4)) ∧ (((v4 = 0) → (gWp none 140 (25, [some (.ref 38), some (.int x1), some (.int x2), some (.int (x3 + (1 : Int32))), some (.int (if (gI μ1 25 x5.toNatClampNeg) < x4 then gI μ1 25 x5.toNatClampNeg else x4)), some (.int (x5 + (-1 : Int32)))], [], μ3) 0 P)) ∧ ((¬ v4 = 0) → (gWp none 140 (25, [some (.ref 38), some (.int x1), some (.int x2), some (.int (x3 + (0 : Int32))), some (.int (if (gI μ1 25 x5.toNatClampNeg) < x4 then gI μ1 25 x5.toNatClampNeg else x4)), some (.int (x5 + (-1 : Int32)))], [], μ3) 0 P)))))))))))) : gWp none 140 (25, [some (.ref 38), some (.int x1), some (.int x2), some (.int x3), some (.int x4), some (.int x5)], [], μ) 0 P := by
  refine gWp_sts gT_140 3 (f' := (29, [some (.ref 38), some (.int x1), some (.int x2), some (.int x3), some (.int x4), some (.int x5)], [.int x2, .ref 38, .int x5], μ)) (cs := []) rfl trivial ?_
  refine gWp_virt gT_140 (pc := 29) (q := 38) (as := [.ref 38, .int x2]) (rest := [.int x5]) rfl rfl rfl rfl rfl rfl ⟨by decide, Nat.le_of_ble_eq_true rfl, by decide, Nat.le_of_ble_eq_true rfl⟩ (gWp_imp h (fun μ1 r h => ?_))
  obtain ⟨v2, rfl, h⟩ := h
  refine Or.inl ⟨_, rfl, ?_⟩
  show gWp none 140 (32, [some (.ref 38), some (.int x1), some (.int x2), some (.int x3), some (.int x4), some (.int x5)], [.int v2, .int x5], μ1) _ P
  refine gWp_icmp gT_140 (pc := 32) rfl ⟨fun c => ?_, fun c => ?_⟩
  · replace h := h.1 (of_decide_eq_true c)
    obtain ⟨c1, h⟩ := h
    refine gWp_sts gT_140 10 (f' := (90, [some (.ref 38), some (.int x1), some (.int x2), some (.int x3), some (.int (gI μ1 25 x1.toNatClampNeg)), some (.int (x1 + (1 : Int32)))], [], μ1)) (cs := [vp_in x1 50]) rfl c1 ?_
    exact h
  · replace h := h.2 (fun q => c (decide_eq_true q))
    obtain ⟨c1, h⟩ := h
    refine gWp_sts gT_140 10 (f' := (55, [some (.ref 38), some (.int x1), some (.int x2), some (.int x3), some (.int (if (gI μ1 25 x5.toNatClampNeg) < x4 then gI μ1 25 x5.toNatClampNeg else x4)), some (.int x5)], [.int (if (gI μ1 25 x5.toNatClampNeg) < x4 then gI μ1 25 x5.toNatClampNeg else x4), .int x3], μ1)) (cs := [vp_in x5 50, (([] : List Value).map fun v => v.category).sum ≤ 8]) rfl ⟨c1, (Nat.le_of_ble_eq_true rfl)⟩ ?_
    refine gWp_stat gT_140 (pc := 55) (c01 := 1) (as := [.int (if (gI μ1 25 x5.toNatClampNeg) < x4 then gI μ1 25 x5.toNatClampNeg else x4)]) (rest := [.int x3]) rfl (Or.inr rfl) rfl rfl rfl ⟨by decide, Nat.le_of_ble_eq_true rfl, by decide, Nat.le_of_ble_eq_true rfl⟩ (gWp_imp h (fun μ3 r h => ?_))
    obtain ⟨v4, rfl, h⟩ := h
    refine Or.inl ⟨_, rfl, ?_⟩
    show gWp none 140 (58, [some (.ref 38), some (.int x1), some (.int x2), some (.int x3), some (.int (if (gI μ1 25 x5.toNatClampNeg) < x4 then gI μ1 25 x5.toNatClampNeg else x4)), some (.int x5)], [.int v4, .int x3], μ3) _ P
    refine gWp_if gT_140 (pc := 58) rfl ⟨fun c => ?_, fun c => ?_⟩
    · replace h := h.1 (of_decide_eq_true c)
      refine gWp_sts gT_140 5 (f' := (25, [some (.ref 38), some (.int x1), some (.int x2), some (.int (x3 + (1 : Int32))), some (.int (if (gI μ1 25 x5.toNatClampNeg) < x4 then gI μ1 25 x5.toNatClampNeg else x4)), some (.int (x5 + (-1 : Int32)))], [], μ3)) (cs := []) rfl trivial ?_
      exact h
    · replace h := h.2 (fun q => c (decide_eq_true q))
      refine gWp_sts gT_140 6 (f' := (25, [some (.ref 38), some (.int x1), some (.int x2), some (.int (x3 + (0 : Int32))), some (.int (if (gI μ1 25 x5.toNatClampNeg) < x4 then gI μ1 25 x5.toNatClampNeg else x4)), some (.int (x5 + (-1 : Int32)))], [], μ3)) (cs := []) rfl trivial ?_
      exact h
set_option maxRecDepth 20000 in
theorem vc_140 {μ : gMu} {x1 : Int32} {P : gMu → gRes → Prop} (h : (vp_in x1 50) ∧ ((vp_in x1 50) ∧ (gWp none 140 (25, [some (.ref 38), some (.int x1), some (.int (gI μ 39 x1.toNatClampNeg)), some (.int (0 : Int32)), some (.int (gI μ 25 x1.toNatClampNeg)), some (.int (x1 - (1 : Int32)))], [], μ) 0 P))) : gWp none 140 (0, [some (.ref 38), some (.int x1), none, none, none, none], [], μ) 0 P := by
  obtain ⟨c1, c2, h⟩ := h
  refine gWp_sts gT_140 17 (f' := (25, [some (.ref 38), some (.int x1), some (.int (gI μ 39 x1.toNatClampNeg)), some (.int (0 : Int32)), some (.int (gI μ 25 x1.toNatClampNeg)), some (.int (x1 - (1 : Int32)))], [], μ)) (cs := [vp_in x1 50, vp_in x1 50]) rfl ⟨c1, c2⟩ ?_
  exact h
/-! Glyphmill.rankByCounting -/
theorem gT_141 : gCode[141]? = some gC_141 := rfl
set_option maxRecDepth 20000 in
theorem vc_141 {μ : gMu} {x1 : Int32} {P : gMu → gRes → Prop} (h : gCl' 62 [.ref 0] μ (fun μ1 r => (r = .inl none ∧ (gCl' 137 [.ref 0, .int x1] μ1 (fun μ2 r => (∃ v3, r = .inl (some (.int v3)) ∧ (gCl' 140 [.ref 38, .int v3] μ2 (fun μ4 r => (∃ v5, r = .inl (some (.int v5)) ∧ (P μ4 (.inl (some (.int v5)))))))) ∨ (∃ y, r = .inr y ∧ P μ2 (.inr y))))))) : gWp none 141 (0, [some (.ref 0), some (.int x1)], [], μ) 0 P := by
  refine gWp_sts gT_141 1 (f' := (1, [some (.ref 0), some (.int x1)], [.ref 0], μ)) (cs := []) rfl trivial ?_
  refine gWp_virt gT_141 (pc := 1) (q := 0) (as := [.ref 0]) (rest := []) rfl rfl rfl rfl rfl rfl ⟨by decide, Nat.le_of_ble_eq_true rfl, by decide, Nat.le_of_ble_eq_true rfl⟩ (gWp_imp h (fun μ1 r h => ?_))
  obtain ⟨rfl, h⟩ := h
  refine Or.inl ⟨_, rfl, ?_⟩
  show gWp none 141 (4, [some (.ref 0), some (.int x1)], [], μ1) _ P
  refine gWp_sts gT_141 4 (f' := (10, [some (.ref 0), some (.int x1)], [.int x1, .ref 0, .ref 38], μ1)) (cs := []) rfl trivial ?_
  refine gWp_virt gT_141 (pc := 10) (q := 0) (as := [.ref 0, .int x1]) (rest := [.ref 38]) rfl rfl rfl rfl rfl rfl ⟨by decide, Nat.le_of_ble_eq_true rfl, by decide, Nat.le_of_ble_eq_true rfl⟩ (gWp_imp h (fun μ2 r h => ?_))
  rcases h with h | h
  · obtain ⟨v3, rfl, h⟩ := h
    refine Or.inl ⟨_, rfl, ?_⟩
    show gWp none 141 (13, [some (.ref 0), some (.int x1)], [.int v3, .ref 38], μ2) _ P
    refine gWp_virt gT_141 (pc := 13) (q := 38) (as := [.ref 38, .int v3]) (rest := []) rfl rfl rfl rfl rfl rfl ⟨by decide, Nat.le_of_ble_eq_true rfl, by decide, Nat.le_of_ble_eq_true rfl⟩ (gWp_imp h (fun μ4 r h => ?_))
    obtain ⟨v5, rfl, h⟩ := h
    refine Or.inl ⟨_, rfl, ?_⟩
    show gWp none 141 (16, [some (.ref 0), some (.int x1)], [.int v5], μ4) _ P
    exact gWp_end gT_141 rfl (gEnd_int trivial) h
  · obtain ⟨y, rfl, h⟩ := h
    exact Or.inr (Or.inl ⟨y, rfl, rfl, h⟩)
/-! Glyphmill.placeOf -/
theorem gT_143 : gCode[143]? = some gC_143 := rfl
set_option maxRecDepth 20000 in
theorem vc_143 {μ : gMu} {x1 : Int32} {P : gMu → gRes → Prop} (h : gCl' 62 [.ref 0] μ (fun μ1 r => (r = .inl none ∧ (gCl' 137 [.ref 0, .int x1] μ1 (fun μ2 r => (∃ v3, r = .inl (some (.int v3)) ∧ ((vp_in v3 50) ∧ (P μ2 (.inl (some (.int (gI μ2 42 v3.toNatClampNeg))))))) ∨ (∃ y, r = .inr y ∧ P μ2 (.inr y))))))) : gWp none 143 (0, [some (.ref 0), some (.int x1)], [], μ) 0 P := by
  refine gWp_sts gT_143 1 (f' := (1, [some (.ref 0), some (.int x1)], [.ref 0], μ)) (cs := []) rfl trivial ?_
  refine gWp_virt gT_143 (pc := 1) (q := 0) (as := [.ref 0]) (rest := []) rfl rfl rfl rfl rfl rfl ⟨by decide, Nat.le_of_ble_eq_true rfl, by decide, Nat.le_of_ble_eq_true rfl⟩ (gWp_imp h (fun μ1 r h => ?_))
  obtain ⟨rfl, h⟩ := h
  refine Or.inl ⟨_, rfl, ?_⟩
  show gWp none 143 (4, [some (.ref 0), some (.int x1)], [], μ1) _ P
  refine gWp_sts gT_143 5 (f' := (13, [some (.ref 0), some (.int x1)], [.int x1, .ref 0, .ref 42], μ1)) (cs := []) rfl trivial ?_
  refine gWp_virt gT_143 (pc := 13) (q := 0) (as := [.ref 0, .int x1]) (rest := [.ref 42]) rfl rfl rfl rfl rfl rfl ⟨by decide, Nat.le_of_ble_eq_true rfl, by decide, Nat.le_of_ble_eq_true rfl⟩ (gWp_imp h (fun μ2 r h => ?_))
  rcases h with h | h
  · obtain ⟨v3, rfl, h⟩ := h
    refine Or.inl ⟨_, rfl, ?_⟩
    show gWp none 143 (16, [some (.ref 0), some (.int x1)], [.int v3, .ref 42], μ2) _ P
    obtain ⟨c1, h⟩ := h
    refine gWp_sts gT_143 1 (f' := (17, [some (.ref 0), some (.int x1)], [.int (gI μ2 42 v3.toNatClampNeg)], μ2)) (cs := [vp_in v3 50]) rfl c1 ?_
    exact gWp_end gT_143 rfl (gEnd_int trivial) h
  · obtain ⟨y, rfl, h⟩ := h
    exact Or.inr (Or.inl ⟨y, rfl, rfl, h⟩)
/-! Glyphmill.justifiedWidth -/
theorem gT_145 : gCode[145]? = some gC_145 := rfl
set_option maxRecDepth 20000 in
theorem vc_145 {μ : gMu} {x1 : Int32} {P : gMu → gRes → Prop} (h : gCl' 62 [.ref 0] μ (fun μ1 r => (r = .inl none ∧ (gCl' 137 [.ref 0, .int x1] μ1 (fun μ2 r => (∃ v3, r = .inl (some (.int v3)) ∧ ((vp_in v3 50) ∧ (P μ2 (.inl (some (.int (gI μ2 1 v3.toNatClampNeg))))))) ∨ (∃ y, r = .inr y ∧ P μ2 (.inr y))))))) : gWp none 145 (0, [some (.ref 0), some (.int x1)], [], μ) 0 P := by
  refine gWp_sts gT_145 1 (f' := (1, [some (.ref 0), some (.int x1)], [.ref 0], μ)) (cs := []) rfl trivial ?_
  refine gWp_virt gT_145 (pc := 1) (q := 0) (as := [.ref 0]) (rest := []) rfl rfl rfl rfl rfl rfl ⟨by decide, Nat.le_of_ble_eq_true rfl, by decide, Nat.le_of_ble_eq_true rfl⟩ (gWp_imp h (fun μ1 r h => ?_))
  obtain ⟨rfl, h⟩ := h
  refine Or.inl ⟨_, rfl, ?_⟩
  show gWp none 145 (4, [some (.ref 0), some (.int x1)], [], μ1) _ P
  refine gWp_sts gT_145 5 (f' := (13, [some (.ref 0), some (.int x1)], [.int x1, .ref 0, .ref 1], μ1)) (cs := []) rfl trivial ?_
  refine gWp_virt gT_145 (pc := 13) (q := 0) (as := [.ref 0, .int x1]) (rest := [.ref 1]) rfl rfl rfl rfl rfl rfl ⟨by decide, Nat.le_of_ble_eq_true rfl, by decide, Nat.le_of_ble_eq_true rfl⟩ (gWp_imp h (fun μ2 r h => ?_))
  rcases h with h | h
  · obtain ⟨v3, rfl, h⟩ := h
    refine Or.inl ⟨_, rfl, ?_⟩
    show gWp none 145 (16, [some (.ref 0), some (.int x1)], [.int v3, .ref 1], μ2) _ P
    obtain ⟨c1, h⟩ := h
    refine gWp_sts gT_145 1 (f' := (17, [some (.ref 0), some (.int x1)], [.int (gI μ2 1 v3.toNatClampNeg)], μ2)) (cs := [vp_in v3 50]) rfl c1 ?_
    exact gWp_end gT_145 rfl (gEnd_int trivial) h
  · obtain ⟨y, rfl, h⟩ := h
    exact Or.inr (Or.inl ⟨y, rfl, rfl, h⟩)
