/-! WHAT EACH METHOD OWES (methods 180 to 229), from its entry and from each head of a loop; written by wip/whole/vcgen.py -/
/-! GlyphmillModel.place -/
theorem gT_180 : gCode[180]? = some gC_180 := rfl
set_option maxRecDepth 20000 in
theorem vc_180_54 {μ : gMu} {x1 : Int32} {x2 : Int32} {P : gMu → gRes → Prop} (h : (vp_in x2 50) ∧ ((((gI μ 49 x2.toNatClampNeg) = x1) → (P μ (.inl (some (.int x2))))) ∧ ((¬ (gI μ 49 x2.toNatClampNeg) = x1) → (gWp none 180 (54, [some (.ref 1), some (.int x1), some (.int (x2 + (1 : Int32)))], [], μ) 0 P)))) : gWp none 180 (54, [some (.ref 1), some (.int x1), some (.int x2)], [], μ) 0 P := by
  obtain ⟨c1, h⟩ := h
  refine gWp_sts gT_180 5 (f' := (61, [some (.ref 1), some (.int x1), some (.int x2)], [.int x1, .int (gI μ 49 x2.toNatClampNeg)], μ)) (cs := [vp_in x2 50]) rfl c1 ?_
  refine gWp_icmp gT_180 (pc := 61) rfl ⟨fun c => ?_, fun c => ?_⟩
  · replace h := h.1 (of_decide_eq_true c)
    refine gWp_sts gT_180 1 (f' := (71, [some (.ref 1), some (.int x1), some (.int x2)], [.int x2], μ)) (cs := []) rfl trivial ?_
    exact gWp_end gT_180 rfl (gEnd_int trivial) h
  · replace h := h.2 (fun q => c (decide_eq_true q))
    refine gWp_sts gT_180 2 (f' := (54, [some (.ref 1), some (.int x1), some (.int (x2 + (1 : Int32)))], [], μ)) (cs := []) rfl trivial ?_
    exact h
set_option maxRecDepth 20000 in
theorem vc_180 {μ : gMu} {x1 : Int32} {P : gMu → gRes → Prop} (h : gCl' 153 [.int x1, .int (0 : Int32), .int ((gI μ 1 1) - (1 : Int32))] μ (fun μ1 r => (∃ v2, r = .inl (some (.int v2)) ∧ (((¬ v2 = 0) → ((vp_in x1 50) ∧ (gCl' 158 [.int (gI μ1 44 x1.toNatClampNeg)] μ1 (fun μ3 r => (∃ v4, r = .inl (some (.int v4)) ∧ (((v4 = 0) → ((((0 : Int32) ≤ 0) → (gCl' 179 [.ref 1] (gsI μ3 1 9 (0 : Int32)) (fun μ5 r => (r = .inl none ∧ (gWp none 180 (54, [some (.ref 1), some (.int x1), some (.int (0 : Int32))], [], μ5) 0 P))))) ∧ ((¬ (0 : Int32) ≤ 0) → (P (gsI μ3 1 9 (0 : Int32)) (.inl (some (.int (-1 : Int32)))))))) ∧ ((¬ v4 = 0) → ((((2 : Int32) ≤ 0) → (gCl' 179 [.ref 1] (gsI μ3 1 9 (2 : Int32)) (fun μ6 r => (r = .inl none ∧ (gWp none 180 (54, [some (.ref 1), some (.int x1), some (.int (0 : Int32))], [], μ6) 0 P))))) ∧ ((¬ (2 : Int32) ≤ 0) → (P (gsI μ3 1 9 (2 : Int32)) (.inl (some (.int (-1 : Int32)))))))))))))) ∧ ((v2 = 0) → ((((1 : Int32) ≤ 0) → (gCl' 179 [.ref 1] (gsI μ1 1 9 (1 : Int32)) (fun μ7 r => (r = .inl none ∧ (gWp none 180 (54, [some (.ref 1), some (.int x1), some (.int (0 : Int32))], [], μ7) 0 P))))) ∧ ((¬ (1 : Int32) ≤ 0) → (P (gsI μ1 1 9 (1 : Int32)) (.inl (some (.int (-1 : Int32)))))))))))) : gWp none 180 (0, [some (.ref 1), some (.int x1), none], [], μ) 0 P := by
  refine gWp_sts gT_180 7 (f' := (9, [some (.ref 1), some (.int x1), none], [.int ((gI μ 1 1) - (1 : Int32)), .int (0 : Int32), .int x1, .ref 1], μ)) (cs := []) rfl trivial ?_
  refine gWp_stat gT_180 (pc := 9) (c01 := 0) (as := [.int x1, .int (0 : Int32), .int ((gI μ 1 1) - (1 : Int32))]) (rest := [.ref 1]) rfl (Or.inl rfl) rfl rfl rfl ⟨by decide, Nat.le_of_ble_eq_true rfl, by decide, Nat.le_of_ble_eq_true rfl⟩ (gWp_imp h (fun μ1 r h => ?_))
  obtain ⟨v2, rfl, h⟩ := h
  refine Or.inl ⟨_, rfl, ?_⟩
  show gWp none 180 (12, [some (.ref 1), some (.int x1), none], [.int v2, .ref 1], μ1) _ P
  refine gWp_if gT_180 (pc := 12) rfl ⟨fun c => ?_, fun c => ?_⟩
  · replace h := h.1 (of_decide_eq_true c)
    obtain ⟨c1, h⟩ := h
    refine gWp_sts gT_180 4 (f' := (25, [some (.ref 1), some (.int x1), none], [.int (gI μ1 44 x1.toNatClampNeg), .ref 1], μ1)) (cs := [vp_in x1 50]) rfl c1 ?_
    refine gWp_stat gT_180 (pc := 25) (c01 := 0) (as := [.int (gI μ1 44 x1.toNatClampNeg)]) (rest := [.ref 1]) rfl (Or.inl rfl) rfl rfl rfl ⟨by decide, Nat.le_of_ble_eq_true rfl, by decide, Nat.le_of_ble_eq_true rfl⟩ (gWp_imp h (fun μ3 r h => ?_))
    obtain ⟨v4, rfl, h⟩ := h
    refine Or.inl ⟨_, rfl, ?_⟩
    show gWp none 180 (28, [some (.ref 1), some (.int x1), none], [.int v4, .ref 1], μ3) _ P
    refine gWp_if gT_180 (pc := 28) rfl ⟨fun c => ?_, fun c => ?_⟩
    · replace h := h.1 (of_decide_eq_true c)
      refine gWp_sts gT_180 4 (f' := (43, [some (.ref 1), some (.int x1), none], [.int (0 : Int32)], (gsI μ3 1 9 (0 : Int32)))) (cs := []) rfl trivial ?_
      refine gWp_if gT_180 (pc := 43) rfl ⟨fun c => ?_, fun c => ?_⟩
      · replace h := h.1 (of_decide_eq_true c)
        refine gWp_sts gT_180 1 (f' := (49, [some (.ref 1), some (.int x1), none], [.ref 1], (gsI μ3 1 9 (0 : Int32)))) (cs := []) rfl trivial ?_
        refine gWp_virt gT_180 (pc := 49) (q := 1) (as := [.ref 1]) (rest := []) rfl rfl rfl rfl rfl rfl ⟨by decide, Nat.le_of_ble_eq_true rfl, by decide, Nat.le_of_ble_eq_true rfl⟩ (gWp_imp h (fun μ5 r h => ?_))
        obtain ⟨rfl, h⟩ := h
        refine Or.inl ⟨_, rfl, ?_⟩
        show gWp none 180 (52, [some (.ref 1), some (.int x1), none], [], μ5) _ P
        refine gWp_sts gT_180 2 (f' := (54, [some (.ref 1), some (.int x1), some (.int (0 : Int32))], [], μ5)) (cs := []) rfl trivial ?_
        exact h
      · replace h := h.2 (fun q => c (decide_eq_true q))
        refine gWp_sts gT_180 1 (f' := (47, [some (.ref 1), some (.int x1), none], [.int (-1 : Int32)], (gsI μ3 1 9 (0 : Int32)))) (cs := []) rfl trivial ?_
        exact gWp_end gT_180 rfl (gEnd_int trivial) h
    · replace h := h.2 (fun q => c (decide_eq_true q))
      refine gWp_sts gT_180 5 (f' := (43, [some (.ref 1), some (.int x1), none], [.int (2 : Int32)], (gsI μ3 1 9 (2 : Int32)))) (cs := []) rfl trivial ?_
      refine gWp_if gT_180 (pc := 43) rfl ⟨fun c => ?_, fun c => ?_⟩
      · replace h := h.1 (of_decide_eq_true c)
        refine gWp_sts gT_180 1 (f' := (49, [some (.ref 1), some (.int x1), none], [.ref 1], (gsI μ3 1 9 (2 : Int32)))) (cs := []) rfl trivial ?_
        refine gWp_virt gT_180 (pc := 49) (q := 1) (as := [.ref 1]) (rest := []) rfl rfl rfl rfl rfl rfl ⟨by decide, Nat.le_of_ble_eq_true rfl, by decide, Nat.le_of_ble_eq_true rfl⟩ (gWp_imp h (fun μ6 r h => ?_))
        obtain ⟨rfl, h⟩ := h
        refine Or.inl ⟨_, rfl, ?_⟩
        show gWp none 180 (52, [some (.ref 1), some (.int x1), none], [], μ6) _ P
        refine gWp_sts gT_180 2 (f' := (54, [some (.ref 1), some (.int x1), some (.int (0 : Int32))], [], μ6)) (cs := []) rfl trivial ?_
        exact h
      · replace h := h.2 (fun q => c (decide_eq_true q))
        refine gWp_sts gT_180 1 (f' := (47, [some (.ref 1), some (.int x1), none], [.int (-1 : Int32)], (gsI μ3 1 9 (2 : Int32)))) (cs := []) rfl trivial ?_
        exact gWp_end gT_180 rfl (gEnd_int trivial) h
  · replace h := h.2 (Classical.not_not.mp (fun q => c (decide_eq_true q)))
    refine gWp_sts gT_180 5 (f' := (43, [some (.ref 1), some (.int x1), none], [.int (1 : Int32)], (gsI μ1 1 9 (1 : Int32)))) (cs := []) rfl trivial ?_
    refine gWp_if gT_180 (pc := 43) rfl ⟨fun c => ?_, fun c => ?_⟩
    · replace h := h.1 (of_decide_eq_true c)
      refine gWp_sts gT_180 1 (f' := (49, [some (.ref 1), some (.int x1), none], [.ref 1], (gsI μ1 1 9 (1 : Int32)))) (cs := []) rfl trivial ?_
      refine gWp_virt gT_180 (pc := 49) (q := 1) (as := [.ref 1]) (rest := []) rfl rfl rfl rfl rfl rfl ⟨by decide, Nat.le_of_ble_eq_true rfl, by decide, Nat.le_of_ble_eq_true rfl⟩ (gWp_imp h (fun μ7 r h => ?_))
      obtain ⟨rfl, h⟩ := h
      refine Or.inl ⟨_, rfl, ?_⟩
      show gWp none 180 (52, [some (.ref 1), some (.int x1), none], [], μ7) _ P
      refine gWp_sts gT_180 2 (f' := (54, [some (.ref 1), some (.int x1), some (.int (0 : Int32))], [], μ7)) (cs := []) rfl trivial ?_
      exact h
    · replace h := h.2 (fun q => c (decide_eq_true q))
      refine gWp_sts gT_180 1 (f' := (47, [some (.ref 1), some (.int x1), none], [.int (-1 : Int32)], (gsI μ1 1 9 (1 : Int32)))) (cs := []) rfl trivial ?_
      exact gWp_end gT_180 rfl (gEnd_int trivial) h
/-! GlyphmillModel.embeddingOf -/
theorem gT_181 : gCode[181]? = some gC_181 := rfl
set_option maxRecDepth 20000 in
theorem vc_181 {μ : gMu} {x1 : Int32} {P : gMu → gRes → Prop} (h : gCl' 180 [.ref 1, .int x1] μ (fun μ1 r => (∃ v2, r = .inl (some (.int v2)) ∧ (((¬ v2 = (-1 : Int32)) → ((vp_in v2 50) ∧ (P μ1 (.inl (some (.int (gI μ1 51 v2.toNatClampNeg))))))) ∧ ((v2 = (-1 : Int32)) → (P μ1 (.inl (some (.int (0 : Int32)))))))))) : gWp none 181 (0, [some (.ref 1), some (.int x1), none], [], μ) 0 P := by
  refine gWp_sts gT_181 2 (f' := (2, [some (.ref 1), some (.int x1), none], [.int x1, .ref 1], μ)) (cs := []) rfl trivial ?_
  refine gWp_virt gT_181 (pc := 2) (q := 1) (as := [.ref 1, .int x1]) (rest := []) rfl rfl rfl rfl rfl rfl ⟨by decide, Nat.le_of_ble_eq_true rfl, by decide, Nat.le_of_ble_eq_true rfl⟩ (gWp_imp h (fun μ1 r h => ?_))
  obtain ⟨v2, rfl, h⟩ := h
  refine Or.inl ⟨_, rfl, ?_⟩
  show gWp none 181 (5, [some (.ref 1), some (.int x1), none], [.int v2], μ1) _ P
  refine gWp_sts gT_181 3 (f' := (8, [some (.ref 1), some (.int x1), some (.int v2)], [.int (-1 : Int32), .int v2], μ1)) (cs := []) rfl trivial ?_
  refine gWp_icmp gT_181 (pc := 8) rfl ⟨fun c => ?_, fun c => ?_⟩
  · replace h := h.1 (of_decide_eq_true c)
    obtain ⟨c1, h⟩ := h
    refine gWp_sts gT_181 4 (f' := (21, [some (.ref 1), some (.int x1), some (.int v2)], [.int (gI μ1 51 v2.toNatClampNeg)], μ1)) (cs := [vp_in v2 50]) rfl c1 ?_
    exact gWp_end gT_181 rfl (gEnd_int trivial) h
  · replace h := h.2 (Classical.not_not.mp (fun q => c (decide_eq_true q)))
    refine gWp_sts gT_181 2 (f' := (21, [some (.ref 1), some (.int x1), some (.int v2)], [.int (0 : Int32)], μ1)) (cs := []) rfl trivial ?_
    exact gWp_end gT_181 rfl (gEnd_int trivial) h
/-! GlyphmillModel.levelOf -/
theorem gT_182 : gCode[182]? = some gC_182 := rfl
set_option maxRecDepth 20000 in
theorem vc_182 {μ : gMu} {x1 : Int32} {P : gMu → gRes → Prop} (h : gCl' 180 [.ref 1, .int x1] μ (fun μ1 r => (∃ v2, r = .inl (some (.int v2)) ∧ (((¬ v2 = (-1 : Int32)) → ((vp_in v2 50) ∧ (P μ1 (.inl (some (.int (gI μ1 52 v2.toNatClampNeg))))))) ∧ ((v2 = (-1 : Int32)) → (P μ1 (.inl (some (.int (0 : Int32)))))))))) : gWp none 182 (0, [some (.ref 1), some (.int x1), none], [], μ) 0 P := by
  refine gWp_sts gT_182 2 (f' := (2, [some (.ref 1), some (.int x1), none], [.int x1, .ref 1], μ)) (cs := []) rfl trivial ?_
  refine gWp_virt gT_182 (pc := 2) (q := 1) (as := [.ref 1, .int x1]) (rest := []) rfl rfl rfl rfl rfl rfl ⟨by decide, Nat.le_of_ble_eq_true rfl, by decide, Nat.le_of_ble_eq_true rfl⟩ (gWp_imp h (fun μ1 r h => ?_))
  obtain ⟨v2, rfl, h⟩ := h
  refine Or.inl ⟨_, rfl, ?_⟩
  show gWp none 182 (5, [some (.ref 1), some (.int x1), none], [.int v2], μ1) _ P
  refine gWp_sts gT_182 3 (f' := (8, [some (.ref 1), some (.int x1), some (.int v2)], [.int (-1 : Int32), .int v2], μ1)) (cs := []) rfl trivial ?_
  refine gWp_icmp gT_182 (pc := 8) rfl ⟨fun c => ?_, fun c => ?_⟩
  · replace h := h.1 (of_decide_eq_true c)
    obtain ⟨c1, h⟩ := h
    refine gWp_sts gT_182 4 (f' := (21, [some (.ref 1), some (.int x1), some (.int v2)], [.int (gI μ1 52 v2.toNatClampNeg)], μ1)) (cs := [vp_in v2 50]) rfl c1 ?_
    exact gWp_end gT_182 rfl (gEnd_int trivial) h
  · replace h := h.2 (Classical.not_not.mp (fun q => c (decide_eq_true q)))
    refine gWp_sts gT_182 2 (f' := (21, [some (.ref 1), some (.int x1), some (.int v2)], [.int (0 : Int32)], μ1)) (cs := []) rfl trivial ?_
    exact gWp_end gT_182 rfl (gEnd_int trivial) h
/-! GlyphmillModel.scriptOf -/
theorem gT_183 : gCode[183]? = some gC_183 := rfl
set_option maxRecDepth 20000 in
theorem vc_183 {μ : gMu} {x1 : Int32} {P : gMu → gRes → Prop} (h : gCl' 180 [.ref 1, .int x1] μ (fun μ1 r => (∃ v2, r = .inl (some (.int v2)) ∧ (((¬ v2 = (-1 : Int32)) → ((vp_in v2 50) ∧ (P μ1 (.inl (some (.int (gI μ1 53 v2.toNatClampNeg))))))) ∧ ((v2 = (-1 : Int32)) → (P μ1 (.inl (some (.int (0 : Int32)))))))))) : gWp none 183 (0, [some (.ref 1), some (.int x1), none], [], μ) 0 P := by
  refine gWp_sts gT_183 2 (f' := (2, [some (.ref 1), some (.int x1), none], [.int x1, .ref 1], μ)) (cs := []) rfl trivial ?_
  refine gWp_virt gT_183 (pc := 2) (q := 1) (as := [.ref 1, .int x1]) (rest := []) rfl rfl rfl rfl rfl rfl ⟨by decide, Nat.le_of_ble_eq_true rfl, by decide, Nat.le_of_ble_eq_true rfl⟩ (gWp_imp h (fun μ1 r h => ?_))
  obtain ⟨v2, rfl, h⟩ := h
  refine Or.inl ⟨_, rfl, ?_⟩
  show gWp none 183 (5, [some (.ref 1), some (.int x1), none], [.int v2], μ1) _ P
  refine gWp_sts gT_183 3 (f' := (8, [some (.ref 1), some (.int x1), some (.int v2)], [.int (-1 : Int32), .int v2], μ1)) (cs := []) rfl trivial ?_
  refine gWp_icmp gT_183 (pc := 8) rfl ⟨fun c => ?_, fun c => ?_⟩
  · replace h := h.1 (of_decide_eq_true c)
    obtain ⟨c1, h⟩ := h
    refine gWp_sts gT_183 4 (f' := (21, [some (.ref 1), some (.int x1), some (.int v2)], [.int (gI μ1 53 v2.toNatClampNeg)], μ1)) (cs := [vp_in v2 50]) rfl c1 ?_
    exact gWp_end gT_183 rfl (gEnd_int trivial) h
  · replace h := h.2 (Classical.not_not.mp (fun q => c (decide_eq_true q)))
    refine gWp_sts gT_183 2 (f' := (21, [some (.ref 1), some (.int x1), some (.int v2)], [.int (0 : Int32)], μ1)) (cs := []) rfl trivial ?_
    exact gWp_end gT_183 rfl (gEnd_int trivial) h
/-! GlyphmillModel.runOf -/
theorem gT_184 : gCode[184]? = some gC_184 := rfl
set_option maxRecDepth 20000 in
theorem vc_184 {μ : gMu} {x1 : Int32} {P : gMu → gRes → Prop} (h : gCl' 180 [.ref 1, .int x1] μ (fun μ1 r => (∃ v2, r = .inl (some (.int v2)) ∧ (((¬ v2 = (-1 : Int32)) → ((vp_in v2 50) ∧ (P μ1 (.inl (some (.int (gI μ1 54 v2.toNatClampNeg))))))) ∧ ((v2 = (-1 : Int32)) → (P μ1 (.inl (some (.int (0 : Int32)))))))))) : gWp none 184 (0, [some (.ref 1), some (.int x1), none], [], μ) 0 P := by
  refine gWp_sts gT_184 2 (f' := (2, [some (.ref 1), some (.int x1), none], [.int x1, .ref 1], μ)) (cs := []) rfl trivial ?_
  refine gWp_virt gT_184 (pc := 2) (q := 1) (as := [.ref 1, .int x1]) (rest := []) rfl rfl rfl rfl rfl rfl ⟨by decide, Nat.le_of_ble_eq_true rfl, by decide, Nat.le_of_ble_eq_true rfl⟩ (gWp_imp h (fun μ1 r h => ?_))
  obtain ⟨v2, rfl, h⟩ := h
  refine Or.inl ⟨_, rfl, ?_⟩
  show gWp none 184 (5, [some (.ref 1), some (.int x1), none], [.int v2], μ1) _ P
  refine gWp_sts gT_184 3 (f' := (8, [some (.ref 1), some (.int x1), some (.int v2)], [.int (-1 : Int32), .int v2], μ1)) (cs := []) rfl trivial ?_
  refine gWp_icmp gT_184 (pc := 8) rfl ⟨fun c => ?_, fun c => ?_⟩
  · replace h := h.1 (of_decide_eq_true c)
    obtain ⟨c1, h⟩ := h
    refine gWp_sts gT_184 4 (f' := (21, [some (.ref 1), some (.int x1), some (.int v2)], [.int (gI μ1 54 v2.toNatClampNeg)], μ1)) (cs := [vp_in v2 50]) rfl c1 ?_
    exact gWp_end gT_184 rfl (gEnd_int trivial) h
  · replace h := h.2 (Classical.not_not.mp (fun q => c (decide_eq_true q)))
    refine gWp_sts gT_184 2 (f' := (21, [some (.ref 1), some (.int x1), some (.int v2)], [.int (0 : Int32)], μ1)) (cs := []) rfl trivial ?_
    exact gWp_end gT_184 rfl (gEnd_int trivial) h
/-! GlyphmillModel.runs -/
theorem gT_185 : gCode[185]? = some gC_185 := rfl
set_option maxRecDepth 20000 in
theorem vc_185 {μ : gMu} {P : gMu → gRes → Prop} (h : gCl' 179 [.ref 1] (gsI μ 1 9 (0 : Int32)) (fun μ1 r => (r = .inl none ∧ (P μ1 (.inl (some (.int (gI μ1 1 21)))))))) : gWp none 185 (0, [some (.ref 1)], [], μ) 0 P := by
  refine gWp_sts gT_185 4 (f' := (6, [some (.ref 1)], [.ref 1], (gsI μ 1 9 (0 : Int32)))) (cs := []) rfl trivial ?_
  refine gWp_virt gT_185 (pc := 6) (q := 1) (as := [.ref 1]) (rest := []) rfl rfl rfl rfl rfl rfl ⟨by decide, Nat.le_of_ble_eq_true rfl, by decide, Nat.le_of_ble_eq_true rfl⟩ (gWp_imp h (fun μ1 r h => ?_))
  obtain ⟨rfl, h⟩ := h
  refine Or.inl ⟨_, rfl, ?_⟩
  show gWp none 185 (9, [some (.ref 1)], [], μ1) _ P
  refine gWp_sts gT_185 2 (f' := (13, [some (.ref 1)], [.int (gI μ1 1 21)], μ1)) (cs := []) rfl trivial ?_
  exact gWp_end gT_185 rfl (gEnd_int trivial) h
/-! GlyphmillModel.glyphOf -/
theorem gT_186 : gCode[186]? = some gC_186 := rfl
set_option maxRecDepth 20000 in
theorem vc_186 {μ : gMu} {x1 : Int32} {P : gMu → gRes → Prop} (h : gCl' 180 [.ref 1, .int x1] μ (fun μ1 r => (∃ v2, r = .inl (some (.int v2)) ∧ (((¬ v2 = (-1 : Int32)) → ((vp_in v2 50) ∧ (P μ1 (.inl (some (.int (gI μ1 55 v2.toNatClampNeg))))))) ∧ ((v2 = (-1 : Int32)) → (P μ1 (.inl (some (.int (0 : Int32)))))))))) : gWp none 186 (0, [some (.ref 1), some (.int x1), none], [], μ) 0 P := by
  refine gWp_sts gT_186 2 (f' := (2, [some (.ref 1), some (.int x1), none], [.int x1, .ref 1], μ)) (cs := []) rfl trivial ?_
  refine gWp_virt gT_186 (pc := 2) (q := 1) (as := [.ref 1, .int x1]) (rest := []) rfl rfl rfl rfl rfl rfl ⟨by decide, Nat.le_of_ble_eq_true rfl, by decide, Nat.le_of_ble_eq_true rfl⟩ (gWp_imp h (fun μ1 r h => ?_))
  obtain ⟨v2, rfl, h⟩ := h
  refine Or.inl ⟨_, rfl, ?_⟩
  show gWp none 186 (5, [some (.ref 1), some (.int x1), none], [.int v2], μ1) _ P
  refine gWp_sts gT_186 3 (f' := (8, [some (.ref 1), some (.int x1), some (.int v2)], [.int (-1 : Int32), .int v2], μ1)) (cs := []) rfl trivial ?_
  refine gWp_icmp gT_186 (pc := 8) rfl ⟨fun c => ?_, fun c => ?_⟩
  · replace h := h.1 (of_decide_eq_true c)
    obtain ⟨c1, h⟩ := h
    refine gWp_sts gT_186 4 (f' := (21, [some (.ref 1), some (.int x1), some (.int v2)], [.int (gI μ1 55 v2.toNatClampNeg)], μ1)) (cs := [vp_in v2 50]) rfl c1 ?_
    exact gWp_end gT_186 rfl (gEnd_int trivial) h
  · replace h := h.2 (Classical.not_not.mp (fun q => c (decide_eq_true q)))
    refine gWp_sts gT_186 2 (f' := (21, [some (.ref 1), some (.int x1), some (.int v2)], [.int (0 : Int32)], μ1)) (cs := []) rfl trivial ?_
    exact gWp_end gT_186 rfl (gEnd_int trivial) h
/-! GlyphmillModel.glyphStart -/
theorem gT_187 : gCode[187]? = some gC_187 := rfl
set_option maxRecDepth 20000 in
theorem vc_187 {μ : gMu} {x1 : Int32} {P : gMu → gRes → Prop} (h : gCl' 180 [.ref 1, .int x1] μ (fun μ1 r => (∃ v2, r = .inl (some (.int v2)) ∧ (((¬ v2 = (-1 : Int32)) → ((vp_in v2 50) ∧ ((vp_in (gI μ1 56 v2.toNatClampNeg) 50) ∧ (P μ1 (.inl (some (.int (gI μ1 49 ((gI μ1 56 v2.toNatClampNeg).toNatClampNeg))))))))) ∧ ((v2 = (-1 : Int32)) → (P μ1 (.inl (some (.int (0 : Int32)))))))))) : gWp none 187 (0, [some (.ref 1), some (.int x1), none], [], μ) 0 P := by
  refine gWp_sts gT_187 2 (f' := (2, [some (.ref 1), some (.int x1), none], [.int x1, .ref 1], μ)) (cs := []) rfl trivial ?_
  refine gWp_virt gT_187 (pc := 2) (q := 1) (as := [.ref 1, .int x1]) (rest := []) rfl rfl rfl rfl rfl rfl ⟨by decide, Nat.le_of_ble_eq_true rfl, by decide, Nat.le_of_ble_eq_true rfl⟩ (gWp_imp h (fun μ1 r h => ?_))
  obtain ⟨v2, rfl, h⟩ := h
  refine Or.inl ⟨_, rfl, ?_⟩
  show gWp none 187 (5, [some (.ref 1), some (.int x1), none], [.int v2], μ1) _ P
  refine gWp_sts gT_187 3 (f' := (8, [some (.ref 1), some (.int x1), some (.int v2)], [.int (-1 : Int32), .int v2], μ1)) (cs := []) rfl trivial ?_
  refine gWp_icmp gT_187 (pc := 8) rfl ⟨fun c => ?_, fun c => ?_⟩
  · replace h := h.1 (of_decide_eq_true c)
    obtain ⟨c1, c2, h⟩ := h
    refine gWp_sts gT_187 7 (f' := (26, [some (.ref 1), some (.int x1), some (.int v2)], [.int (gI μ1 49 ((gI μ1 56 v2.toNatClampNeg).toNatClampNeg))], μ1)) (cs := [vp_in v2 50, vp_in (gI μ1 56 v2.toNatClampNeg) 50]) rfl ⟨c1, c2⟩ ?_
    exact gWp_end gT_187 rfl (gEnd_int trivial) h
  · replace h := h.2 (Classical.not_not.mp (fun q => c (decide_eq_true q)))
    refine gWp_sts gT_187 2 (f' := (26, [some (.ref 1), some (.int x1), some (.int v2)], [.int (0 : Int32)], μ1)) (cs := []) rfl trivial ?_
    exact gWp_end gT_187 rfl (gEnd_int trivial) h
/-! GlyphmillModel.glyphs -/
theorem gT_188 : gCode[188]? = some gC_188 := rfl
set_option maxRecDepth 20000 in
theorem vc_188_13 {μ : gMu} {x1 : Int32} {x2 : Int32} {P : gMu → gRes → Prop} (h : (((gI μ 1 19) ≤ x2) → (P μ (.inl (some (.int x1))))) ∧ ((¬ (gI μ 1 19) ≤ x2) → ((vp_in x2 50) ∧ (((¬ (gI μ 56 x2.toNatClampNeg) = x2) → (gWp none 188 (13, [some (.ref 1), some (.int (x1 + (0 : Int32))), some (.int (x2 + (1 : Int32)))], [], μ) 0 P)) ∧ (((gI μ 56 x2.toNatClampNeg) = x2) → (gWp none 188 (13, [some (.ref 1), some (.int (x1 + (1 : Int32))), some (.int (x2 + (1 : Int32)))], [], μ) 0 P)))))) : gWp none 188 (13, [some (.ref 1), some (.int x1), some (.int x2)], [], μ) 0 P := by
  refine gWp_sts gT_188 3 (f' := (18, [some (.ref 1), some (.int x1), some (.int x2)], [.int (gI μ 1 19), .int x2], μ)) (cs := []) rfl trivial ?_
  refine gWp_icmp gT_188 (pc := 18) rfl ⟨fun c => ?_, fun c => ?_⟩
  · replace h := h.1 (of_decide_eq_true c)
    refine gWp_sts gT_188 1 (f' := (46, [some (.ref 1), some (.int x1), some (.int x2)], [.int x1], μ)) (cs := []) rfl trivial ?_
    exact gWp_end gT_188 rfl (gEnd_int trivial) h
  · replace h := h.2 (fun q => c (decide_eq_true q))
    obtain ⟨c1, h⟩ := h
    refine gWp_sts gT_188 6 (f' := (29, [some (.ref 1), some (.int x1), some (.int x2)], [.int x2, .int (gI μ 56 x2.toNatClampNeg), .int x1], μ)) (cs := [vp_in x2 50]) rfl c1 ?_
    refine gWp_icmp gT_188 (pc := 29) rfl ⟨fun c => ?_, fun c => ?_⟩
    · replace h := h.1 (of_decide_eq_true c)
      refine gWp_sts gT_188 5 (f' := (13, [some (.ref 1), some (.int (x1 + (0 : Int32))), some (.int (x2 + (1 : Int32)))], [], μ)) (cs := []) rfl trivial ?_
      exact h
    · replace h := h.2 (Classical.not_not.mp (fun q => c (decide_eq_true q)))
      refine gWp_sts gT_188 6 (f' := (13, [some (.ref 1), some (.int (x1 + (1 : Int32))), some (.int (x2 + (1 : Int32)))], [], μ)) (cs := []) rfl trivial ?_
      exact h
set_option maxRecDepth 20000 in
theorem vc_188 {μ : gMu} {P : gMu → gRes → Prop} (h : gCl' 179 [.ref 1] (gsI μ 1 9 (0 : Int32)) (fun μ1 r => (r = .inl none ∧ (gWp none 188 (13, [some (.ref 1), some (.int (0 : Int32)), some (.int (0 : Int32))], [], μ1) 0 P)))) : gWp none 188 (0, [some (.ref 1), none, none], [], μ) 0 P := by
  refine gWp_sts gT_188 4 (f' := (6, [some (.ref 1), none, none], [.ref 1], (gsI μ 1 9 (0 : Int32)))) (cs := []) rfl trivial ?_
  refine gWp_virt gT_188 (pc := 6) (q := 1) (as := [.ref 1]) (rest := []) rfl rfl rfl rfl rfl rfl ⟨by decide, Nat.le_of_ble_eq_true rfl, by decide, Nat.le_of_ble_eq_true rfl⟩ (gWp_imp h (fun μ1 r h => ?_))
  obtain ⟨rfl, h⟩ := h
  refine Or.inl ⟨_, rfl, ?_⟩
  show gWp none 188 (9, [some (.ref 1), none, none], [], μ1) _ P
  refine gWp_sts gT_188 4 (f' := (13, [some (.ref 1), some (.int (0 : Int32)), some (.int (0 : Int32))], [], μ1)) (cs := []) rfl trivial ?_
  exact h
/-! GlyphmillModel.breaks -/
theorem gT_189 : gCode[189]? = some gC_189 := rfl
set_option maxRecDepth 20000 in
theorem vc_189 {μ : gMu} {P : gMu → gRes → Prop} (h : gCl' 179 [.ref 1] (gsI μ 1 9 (0 : Int32)) (fun μ1 r => (r = .inl none ∧ (P μ1 (.inl (some (.int (if (0 : Int32) < ((gI μ1 1 23) - (1 : Int32)) then (gI μ1 1 23) - (1 : Int32) else (0 : Int32))))))))) : gWp none 189 (0, [some (.ref 1)], [], μ) 0 P := by
  refine gWp_sts gT_189 4 (f' := (6, [some (.ref 1)], [.ref 1], (gsI μ 1 9 (0 : Int32)))) (cs := []) rfl trivial ?_
  refine gWp_virt gT_189 (pc := 6) (q := 1) (as := [.ref 1]) (rest := []) rfl rfl rfl rfl rfl rfl ⟨by decide, Nat.le_of_ble_eq_true rfl, by decide, Nat.le_of_ble_eq_true rfl⟩ (gWp_imp h (fun μ1 r h => ?_))
  obtain ⟨rfl, h⟩ := h
  refine Or.inl ⟨_, rfl, ?_⟩
  show gWp none 189 (9, [some (.ref 1)], [], μ1) _ P
  refine gWp_sts gT_189 6 (f' := (19, [some (.ref 1)], [.int (if (0 : Int32) < ((gI μ1 1 23) - (1 : Int32)) then (gI μ1 1 23) - (1 : Int32) else (0 : Int32))], μ1)) (cs := [(([] : List Value).map fun v => v.category).sum ≤ 8]) rfl (Nat.le_of_ble_eq_true rfl) ?_
  exact gWp_end gT_189 rfl (gEnd_int trivial) h
/-! GlyphmillModel.breakAt -/
theorem gT_190 : gCode[190]? = some gC_190 := rfl
set_option maxRecDepth 20000 in
theorem vc_190 {μ : gMu} {x1 : Int32} {P : gMu → gRes → Prop} (h : gCl' 179 [.ref 1] μ (fun μ1 r => (r = .inl none ∧ (gCl' 153 [.int x1, .int (0 : Int32), .int ((gI μ1 1 23) - (2 : Int32))] μ1 (fun μ2 r => (∃ v3, r = .inl (some (.int v3)) ∧ (((v3 = 0) → ((((1 : Int32) ≤ 0) → ((vp_in (x1 + (1 : Int32)) 51) ∧ ((vp_in (gI μ2 58 ((x1 + (1 : Int32)).toNatClampNeg)) 50) ∧ (P (gsI μ2 1 9 (1 : Int32)) (.inl (some (.int (gI μ2 49 ((gI μ2 58 ((x1 + (1 : Int32)).toNatClampNeg)).toNatClampNeg))))))))) ∧ ((¬ (1 : Int32) ≤ 0) → (P (gsI μ2 1 9 (1 : Int32)) (.inl (some (.int (0 : Int32)))))))) ∧ ((¬ v3 = 0) → ((((0 : Int32) ≤ 0) → ((vp_in (x1 + (1 : Int32)) 51) ∧ ((vp_in (gI μ2 58 ((x1 + (1 : Int32)).toNatClampNeg)) 50) ∧ (P (gsI μ2 1 9 (0 : Int32)) (.inl (some (.int (gI μ2 49 ((gI μ2 58 ((x1 + (1 : Int32)).toNatClampNeg)).toNatClampNeg))))))))) ∧ ((¬ (0 : Int32) ≤ 0) → (P (gsI μ2 1 9 (0 : Int32)) (.inl (some (.int (0 : Int32))))))))))))))) : gWp none 190 (0, [some (.ref 1), some (.int x1)], [], μ) 0 P := by
  refine gWp_sts gT_190 1 (f' := (1, [some (.ref 1), some (.int x1)], [.ref 1], μ)) (cs := []) rfl trivial ?_
  refine gWp_virt gT_190 (pc := 1) (q := 1) (as := [.ref 1]) (rest := []) rfl rfl rfl rfl rfl rfl ⟨by decide, Nat.le_of_ble_eq_true rfl, by decide, Nat.le_of_ble_eq_true rfl⟩ (gWp_imp h (fun μ1 r h => ?_))
  obtain ⟨rfl, h⟩ := h
  refine Or.inl ⟨_, rfl, ?_⟩
  show gWp none 190 (4, [some (.ref 1), some (.int x1)], [], μ1) _ P
  refine gWp_sts gT_190 7 (f' := (13, [some (.ref 1), some (.int x1)], [.int ((gI μ1 1 23) - (2 : Int32)), .int (0 : Int32), .int x1, .ref 1], μ1)) (cs := []) rfl trivial ?_
  refine gWp_stat gT_190 (pc := 13) (c01 := 0) (as := [.int x1, .int (0 : Int32), .int ((gI μ1 1 23) - (2 : Int32))]) (rest := [.ref 1]) rfl (Or.inl rfl) rfl rfl rfl ⟨by decide, Nat.le_of_ble_eq_true rfl, by decide, Nat.le_of_ble_eq_true rfl⟩ (gWp_imp h (fun μ2 r h => ?_))
  obtain ⟨v3, rfl, h⟩ := h
  refine Or.inl ⟨_, rfl, ?_⟩
  show gWp none 190 (16, [some (.ref 1), some (.int x1)], [.int v3, .ref 1], μ2) _ P
  refine gWp_if gT_190 (pc := 16) rfl ⟨fun c => ?_, fun c => ?_⟩
  · replace h := h.1 (of_decide_eq_true c)
    refine gWp_sts gT_190 4 (f' := (31, [some (.ref 1), some (.int x1)], [.int (1 : Int32)], (gsI μ2 1 9 (1 : Int32)))) (cs := []) rfl trivial ?_
    refine gWp_if gT_190 (pc := 31) rfl ⟨fun c => ?_, fun c => ?_⟩
    · replace h := h.1 (of_decide_eq_true c)
      obtain ⟨c1, c2, h⟩ := h
      refine gWp_sts gT_190 9 (f' := (51, [some (.ref 1), some (.int x1)], [.int (gI μ2 49 ((gI μ2 58 ((x1 + (1 : Int32)).toNatClampNeg)).toNatClampNeg))], (gsI μ2 1 9 (1 : Int32)))) (cs := [vp_in (x1 + (1 : Int32)) 51, vp_in (gI μ2 58 ((x1 + (1 : Int32)).toNatClampNeg)) 50]) rfl ⟨c1, c2⟩ ?_
      exact gWp_end gT_190 rfl (gEnd_int trivial) h
    · replace h := h.2 (fun q => c (decide_eq_true q))
      refine gWp_sts gT_190 2 (f' := (51, [some (.ref 1), some (.int x1)], [.int (0 : Int32)], (gsI μ2 1 9 (1 : Int32)))) (cs := []) rfl trivial ?_
      exact gWp_end gT_190 rfl (gEnd_int trivial) h
  · replace h := h.2 (fun q => c (decide_eq_true q))
    refine gWp_sts gT_190 5 (f' := (31, [some (.ref 1), some (.int x1)], [.int (0 : Int32)], (gsI μ2 1 9 (0 : Int32)))) (cs := []) rfl trivial ?_
    refine gWp_if gT_190 (pc := 31) rfl ⟨fun c => ?_, fun c => ?_⟩
    · replace h := h.1 (of_decide_eq_true c)
      obtain ⟨c1, c2, h⟩ := h
      refine gWp_sts gT_190 9 (f' := (51, [some (.ref 1), some (.int x1)], [.int (gI μ2 49 ((gI μ2 58 ((x1 + (1 : Int32)).toNatClampNeg)).toNatClampNeg))], (gsI μ2 1 9 (0 : Int32)))) (cs := [vp_in (x1 + (1 : Int32)) 51, vp_in (gI μ2 58 ((x1 + (1 : Int32)).toNatClampNeg)) 50]) rfl ⟨c1, c2⟩ ?_
      exact gWp_end gT_190 rfl (gEnd_int trivial) h
    · replace h := h.2 (fun q => c (decide_eq_true q))
      refine gWp_sts gT_190 2 (f' := (51, [some (.ref 1), some (.int x1)], [.int (0 : Int32)], (gsI μ2 1 9 (0 : Int32)))) (cs := []) rfl trivial ?_
      exact gWp_end gT_190 rfl (gEnd_int trivial) h
/-! GlyphmillModel.hasLines -/
theorem gT_191 : gCode[191]? = some gC_191 := rfl
set_option maxRecDepth 20000 in
theorem vc_191_4 {μ : gMu} {x1 : Int32} {x2 : Int32} {P : gMu → gRes → Prop} (h : (((gI μ 1 19) ≤ x2) → ((narrow .boolean (.int x1) = .int x1) ∧ P μ (.inl (some (.int x1))))) ∧ ((¬ (gI μ 1 19) ≤ x2) → (((¬ x1 = 0) → (gWp none 191 (4, [some (.ref 1), some (.int (1 : Int32)), some (.int (x2 + (1 : Int32)))], [], μ) 0 P)) ∧ ((x1 = 0) → ((vp_in x2 50) ∧ ((((gI μ 50 x2.toNatClampNeg) = (32 : Int32)) → (gWp none 191 (4, [some (.ref 1), some (.int (0 : Int32)), some (.int (x2 + (1 : Int32)))], [], μ) 0 P)) ∧ ((¬ (gI μ 50 x2.toNatClampNeg) = (32 : Int32)) → (gWp none 191 (4, [some (.ref 1), some (.int (1 : Int32)), some (.int (x2 + (1 : Int32)))], [], μ) 0 P)))))))) : gWp none 191 (4, [some (.ref 1), some (.int x1), some (.int x2)], [], μ) 0 P := by
  refine gWp_sts gT_191 3 (f' := (9, [some (.ref 1), some (.int x1), some (.int x2)], [.int (gI μ 1 19), .int x2], μ)) (cs := []) rfl trivial ?_
  refine gWp_icmp gT_191 (pc := 9) rfl ⟨fun c => ?_, fun c => ?_⟩
  · replace h := h.1 (of_decide_eq_true c)
    refine gWp_sts gT_191 1 (f' := (40, [some (.ref 1), some (.int x1), some (.int x2)], [.int x1], μ)) (cs := []) rfl trivial ?_
    exact gWp_end gT_191 rfl (gEnd_int h.1) h.2
  · replace h := h.2 (fun q => c (decide_eq_true q))
    refine gWp_sts gT_191 1 (f' := (13, [some (.ref 1), some (.int x1), some (.int x2)], [.int x1], μ)) (cs := []) rfl trivial ?_
    refine gWp_if gT_191 (pc := 13) rfl ⟨fun c => ?_, fun c => ?_⟩
    · replace h := h.1 (of_decide_eq_true c)
      refine gWp_sts gT_191 5 (f' := (4, [some (.ref 1), some (.int (1 : Int32)), some (.int (x2 + (1 : Int32)))], [], μ)) (cs := []) rfl trivial ?_
      exact h
    · replace h := h.2 (Classical.not_not.mp (fun q => c (decide_eq_true q)))
      obtain ⟨c1, h⟩ := h
      refine gWp_sts gT_191 5 (f' := (24, [some (.ref 1), some (.int x1), some (.int x2)], [.int (32 : Int32), .int (gI μ 50 x2.toNatClampNeg)], μ)) (cs := [vp_in x2 50]) rfl c1 ?_
      refine gWp_icmp gT_191 (pc := 24) rfl ⟨fun c => ?_, fun c => ?_⟩
      · replace h := h.1 (of_decide_eq_true c)
        refine gWp_sts gT_191 4 (f' := (4, [some (.ref 1), some (.int (0 : Int32)), some (.int (x2 + (1 : Int32)))], [], μ)) (cs := []) rfl trivial ?_
        exact h
      · replace h := h.2 (fun q => c (decide_eq_true q))
        refine gWp_sts gT_191 5 (f' := (4, [some (.ref 1), some (.int (1 : Int32)), some (.int (x2 + (1 : Int32)))], [], μ)) (cs := []) rfl trivial ?_
        exact h
set_option maxRecDepth 20000 in
theorem vc_191 {μ : gMu} {P : gMu → gRes → Prop} (h : gWp none 191 (4, [some (.ref 1), some (.int (0 : Int32)), some (.int (0 : Int32))], [], μ) 0 P) : gWp none 191 (0, [some (.ref 1), none, none], [], μ) 0 P := by
  refine gWp_sts gT_191 4 (f' := (4, [some (.ref 1), some (.int (0 : Int32)), some (.int (0 : Int32))], [], μ)) (cs := []) rfl trivial ?_
  exact h
/-! GlyphmillModel.lastOf -/
theorem gT_192 : gCode[192]? = some gC_192 := rfl
set_option maxRecDepth 20000 in
theorem vc_192_7 {μ : gMu} {x1 : Int32} {x2 : Int32} {x3 : Int32} {P : gMu → gRes → Prop} (h : (vp_in x1 51) ∧ (((x3 ≤ (gI μ 58 x1.toNatClampNeg)) → (P μ (.inl (some (.int x3))))) ∧ ((¬ x3 ≤ (gI μ 58 x1.toNatClampNeg)) → ((vp_in (x3 - (1 : Int32)) 50) ∧ (((¬ (gI μ 50 ((x3 - (1 : Int32)).toNatClampNeg)) = (32 : Int32)) → (P μ (.inl (some (.int x3))))) ∧ (((gI μ 50 ((x3 - (1 : Int32)).toNatClampNeg)) = (32 : Int32)) → (gWp none 192 (7, [some (.ref 1), some (.int x1), some (.int x2), some (.int (x3 + (-1 : Int32)))], [], μ) 0 P))))))) : gWp none 192 (7, [some (.ref 1), some (.int x1), some (.int x2), some (.int x3)], [], μ) 0 P := by
  obtain ⟨c1, h⟩ := h
  refine gWp_sts gT_192 5 (f' := (14, [some (.ref 1), some (.int x1), some (.int x2), some (.int x3)], [.int (gI μ 58 x1.toNatClampNeg), .int x3], μ)) (cs := [vp_in x1 51]) rfl c1 ?_
  refine gWp_icmp gT_192 (pc := 14) rfl ⟨fun c => ?_, fun c => ?_⟩
  · replace h := h.1 (of_decide_eq_true c)
    refine gWp_sts gT_192 1 (f' := (37, [some (.ref 1), some (.int x1), some (.int x2), some (.int x3)], [.int x3], μ)) (cs := []) rfl trivial ?_
    exact gWp_end gT_192 rfl (gEnd_int trivial) h
  · replace h := h.2 (fun q => c (decide_eq_true q))
    obtain ⟨c1, h⟩ := h
    refine gWp_sts gT_192 7 (f' := (27, [some (.ref 1), some (.int x1), some (.int x2), some (.int x3)], [.int (32 : Int32), .int (gI μ 50 ((x3 - (1 : Int32)).toNatClampNeg))], μ)) (cs := [vp_in (x3 - (1 : Int32)) 50]) rfl c1 ?_
    refine gWp_icmp gT_192 (pc := 27) rfl ⟨fun c => ?_, fun c => ?_⟩
    · replace h := h.1 (of_decide_eq_true c)
      refine gWp_sts gT_192 1 (f' := (37, [some (.ref 1), some (.int x1), some (.int x2), some (.int x3)], [.int x3], μ)) (cs := []) rfl trivial ?_
      exact gWp_end gT_192 rfl (gEnd_int trivial) h
    · replace h := h.2 (Classical.not_not.mp (fun q => c (decide_eq_true q)))
      refine gWp_sts gT_192 2 (f' := (7, [some (.ref 1), some (.int x1), some (.int x2), some (.int (x3 + (-1 : Int32)))], [], μ)) (cs := []) rfl trivial ?_
      exact h
set_option maxRecDepth 20000 in
theorem vc_192 {μ : gMu} {x1 : Int32} {x2 : Int32} {P : gMu → gRes → Prop} (h : (vp_in x2 51) ∧ (gWp none 192 (7, [some (.ref 1), some (.int x1), some (.int x2), some (.int (gI μ 58 x2.toNatClampNeg))], [], μ) 0 P)) : gWp none 192 (0, [some (.ref 1), some (.int x1), some (.int x2), none], [], μ) 0 P := by
  obtain ⟨c1, h⟩ := h
  refine gWp_sts gT_192 5 (f' := (7, [some (.ref 1), some (.int x1), some (.int x2), some (.int (gI μ 58 x2.toNatClampNeg))], [], μ)) (cs := [vp_in x2 51]) rfl c1 ?_
  exact h
/-! GlyphmillModel.widthAt -/
theorem gT_193 : gCode[193]? = some gC_193 := rfl
set_option maxRecDepth 20000 in
theorem vc_193 {μ : gMu} {x1 : Int32} {P : gMu → gRes → Prop} (h : (vp_in x1 50) ∧ ((((gI μ 55 x1.toNatClampNeg) < (200 : Int32)) → ((vp_in x1 50) ∧ ((vp_in (gI μ 55 x1.toNatClampNeg) 128) ∧ (P μ (.inl (some (.int (gI μ 45 ((gI μ 55 x1.toNatClampNeg).toNatClampNeg))))))))) ∧ ((¬ (gI μ 55 x1.toNatClampNeg) < (200 : Int32)) → ((vp_in x1 50) ∧ ((vp_in ((gI μ 55 x1.toNatClampNeg) - (200 : Int32)) 20) ∧ (P μ (.inl (some (.int (gI μ 48 (((gI μ 55 x1.toNatClampNeg) - (200 : Int32)).toNatClampNeg))))))))))) : gWp none 193 (0, [some (.ref 1), some (.int x1)], [], μ) 0 P := by
  obtain ⟨c1, h⟩ := h
  refine gWp_sts gT_193 5 (f' := (9, [some (.ref 1), some (.int x1)], [.int (200 : Int32), .int (gI μ 55 x1.toNatClampNeg)], μ)) (cs := [vp_in x1 50]) rfl c1 ?_
  refine gWp_icmp gT_193 (pc := 9) rfl ⟨fun c => ?_, fun c => ?_⟩
  · replace h := h.1 (of_decide_eq_true c)
    obtain ⟨c1, c2, h⟩ := h
    refine gWp_sts gT_193 7 (f' := (41, [some (.ref 1), some (.int x1)], [.int (gI μ 45 ((gI μ 55 x1.toNatClampNeg).toNatClampNeg))], μ)) (cs := [vp_in x1 50, vp_in (gI μ 55 x1.toNatClampNeg) 128]) rfl ⟨c1, c2⟩ ?_
    exact gWp_end gT_193 rfl (gEnd_int trivial) h
  · replace h := h.2 (fun q => c (decide_eq_true q))
    obtain ⟨c1, c2, h⟩ := h
    refine gWp_sts gT_193 10 (f' := (41, [some (.ref 1), some (.int x1)], [.int (gI μ 48 (((gI μ 55 x1.toNatClampNeg) - (200 : Int32)).toNatClampNeg))], μ)) (cs := [vp_in x1 50, vp_in ((gI μ 55 x1.toNatClampNeg) - (200 : Int32)) 20]) rfl ⟨c1, c2⟩ ?_
    exact gWp_end gT_193 rfl (gEnd_int trivial) h
/-! GlyphmillModel.natural -/
theorem gT_194 : gCode[194]? = some gC_194 := rfl
set_option maxRecDepth 20000 in
theorem vc_194_10 {μ : gMu} {x1 : Int32} {x2 : Int32} {x3 : Int32} {x4 : Int32} {P : gMu → gRes → Prop} (h : gCl' 192 [.ref 1, .int x1, .int x2] μ (fun μ1 r => (∃ v2, r = .inl (some (.int v2)) ∧ (((v2 ≤ x4) → (P μ1 (.inl (some (.int x3))))) ∧ ((¬ v2 ≤ x4) → ((vp_in x4 50) ∧ (((¬ (gI μ1 56 x4.toNatClampNeg) = x4) → (gWp none 194 (10, [some (.ref 1), some (.int x1), some (.int x2), some (.int (x3 + (0 : Int32))), some (.int (x4 + (1 : Int32)))], [], μ1) 0 P)) ∧ (((gI μ1 56 x4.toNatClampNeg) = x4) → (gCl' 193 [.ref 1, .int x4] μ1 (fun μ3 r => (∃ v4, r = .inl (some (.int v4)) ∧ (gWp none 194 (10, [some (.ref 1), some (.int x1), some (.int x2), some (.int (x3 + v4)), some (.int (x4 + (1 : Int32)))], [], μ3) 0 P)))))))))))) : gWp none 194 (10, [some (.ref 1), some (.int x1), some (.int x2), some (.int x3), some (.int x4)], [], μ) 0 P := by
  refine gWp_sts gT_194 4 (f' := (15, [some (.ref 1), some (.int x1), some (.int x2), some (.int x3), some (.int x4)], [.int x2, .int x1, .ref 1, .int x4], μ)) (cs := []) rfl trivial ?_
  refine gWp_virt gT_194 (pc := 15) (q := 1) (as := [.ref 1, .int x1, .int x2]) (rest := [.int x4]) rfl rfl rfl rfl rfl rfl ⟨by decide, Nat.le_of_ble_eq_true rfl, by decide, Nat.le_of_ble_eq_true rfl⟩ (gWp_imp h (fun μ1 r h => ?_))
  obtain ⟨v2, rfl, h⟩ := h
  refine Or.inl ⟨_, rfl, ?_⟩
  show gWp none 194 (18, [some (.ref 1), some (.int x1), some (.int x2), some (.int x3), some (.int x4)], [.int v2, .int x4], μ1) _ P
  refine gWp_icmp gT_194 (pc := 18) rfl ⟨fun c => ?_, fun c => ?_⟩
  · replace h := h.1 (of_decide_eq_true c)
    refine gWp_sts gT_194 1 (f' := (53, [some (.ref 1), some (.int x1), some (.int x2), some (.int x3), some (.int x4)], [.int x3], μ1)) (cs := []) rfl trivial ?_
    exact gWp_end gT_194 rfl (gEnd_int trivial) h
  · replace h := h.2 (fun q => c (decide_eq_true q))
    obtain ⟨c1, h⟩ := h
    refine gWp_sts gT_194 6 (f' := (31, [some (.ref 1), some (.int x1), some (.int x2), some (.int x3), some (.int x4)], [.int x4, .int (gI μ1 56 x4.toNatClampNeg), .int x3], μ1)) (cs := [vp_in x4 50]) rfl c1 ?_
    refine gWp_icmp gT_194 (pc := 31) rfl ⟨fun c => ?_, fun c => ?_⟩
    · replace h := h.1 (of_decide_eq_true c)
      refine gWp_sts gT_194 5 (f' := (10, [some (.ref 1), some (.int x1), some (.int x2), some (.int (x3 + (0 : Int32))), some (.int (x4 + (1 : Int32)))], [], μ1)) (cs := []) rfl trivial ?_
      exact h
    · replace h := h.2 (Classical.not_not.mp (fun q => c (decide_eq_true q)))
      refine gWp_sts gT_194 2 (f' := (37, [some (.ref 1), some (.int x1), some (.int x2), some (.int x3), some (.int x4)], [.int x4, .ref 1, .int x3], μ1)) (cs := []) rfl trivial ?_
      refine gWp_virt gT_194 (pc := 37) (q := 1) (as := [.ref 1, .int x4]) (rest := [.int x3]) rfl rfl rfl rfl rfl rfl ⟨by decide, Nat.le_of_ble_eq_true rfl, by decide, Nat.le_of_ble_eq_true rfl⟩ (gWp_imp h (fun μ3 r h => ?_))
      obtain ⟨v4, rfl, h⟩ := h
      refine Or.inl ⟨_, rfl, ?_⟩
      show gWp none 194 (40, [some (.ref 1), some (.int x1), some (.int x2), some (.int x3), some (.int x4)], [.int v4, .int x3], μ3) _ P
      refine gWp_sts gT_194 5 (f' := (10, [some (.ref 1), some (.int x1), some (.int x2), some (.int (x3 + v4)), some (.int (x4 + (1 : Int32)))], [], μ3)) (cs := []) rfl trivial ?_
      exact h
set_option maxRecDepth 20000 in
theorem vc_194 {μ : gMu} {x1 : Int32} {x2 : Int32} {P : gMu → gRes → Prop} (h : (vp_in x1 51) ∧ (gWp none 194 (10, [some (.ref 1), some (.int x1), some (.int x2), some (.int (0 : Int32)), some (.int (gI μ 58 x1.toNatClampNeg))], [], μ) 0 P)) : gWp none 194 (0, [some (.ref 1), some (.int x1), some (.int x2), none, none], [], μ) 0 P := by
  obtain ⟨c1, h⟩ := h
  refine gWp_sts gT_194 7 (f' := (10, [some (.ref 1), some (.int x1), some (.int x2), some (.int (0 : Int32)), some (.int (gI μ 58 x1.toNatClampNeg))], [], μ)) (cs := [vp_in x1 51]) rfl c1 ?_
  exact h
/-! GlyphmillModel.spaces -/
theorem gT_195 : gCode[195]? = some gC_195 := rfl
set_option maxRecDepth 20000 in
theorem vc_195_10 {μ : gMu} {x1 : Int32} {x2 : Int32} {x3 : Int32} {x4 : Int32} {P : gMu → gRes → Prop} (h : gCl' 192 [.ref 1, .int x1, .int x2] μ (fun μ1 r => (∃ v2, r = .inl (some (.int v2)) ∧ (((v2 ≤ x4) → (P μ1 (.inl (some (.int x3))))) ∧ ((¬ v2 ≤ x4) → ((vp_in x4 50) ∧ (((¬ (gI μ1 50 x4.toNatClampNeg) = (32 : Int32)) → (gWp none 195 (10, [some (.ref 1), some (.int x1), some (.int x2), some (.int (x3 + (0 : Int32))), some (.int (x4 + (1 : Int32)))], [], μ1) 0 P)) ∧ (((gI μ1 50 x4.toNatClampNeg) = (32 : Int32)) → (gWp none 195 (10, [some (.ref 1), some (.int x1), some (.int x2), some (.int (x3 + (1 : Int32))), some (.int (x4 + (1 : Int32)))], [], μ1) 0 P))))))))) : gWp none 195 (10, [some (.ref 1), some (.int x1), some (.int x2), some (.int x3), some (.int x4)], [], μ) 0 P := by
  refine gWp_sts gT_195 4 (f' := (15, [some (.ref 1), some (.int x1), some (.int x2), some (.int x3), some (.int x4)], [.int x2, .int x1, .ref 1, .int x4], μ)) (cs := []) rfl trivial ?_
  refine gWp_virt gT_195 (pc := 15) (q := 1) (as := [.ref 1, .int x1, .int x2]) (rest := [.int x4]) rfl rfl rfl rfl rfl rfl ⟨by decide, Nat.le_of_ble_eq_true rfl, by decide, Nat.le_of_ble_eq_true rfl⟩ (gWp_imp h (fun μ1 r h => ?_))
  obtain ⟨v2, rfl, h⟩ := h
  refine Or.inl ⟨_, rfl, ?_⟩
  show gWp none 195 (18, [some (.ref 1), some (.int x1), some (.int x2), some (.int x3), some (.int x4)], [.int v2, .int x4], μ1) _ P
  refine gWp_icmp gT_195 (pc := 18) rfl ⟨fun c => ?_, fun c => ?_⟩
  · replace h := h.1 (of_decide_eq_true c)
    refine gWp_sts gT_195 1 (f' := (48, [some (.ref 1), some (.int x1), some (.int x2), some (.int x3), some (.int x4)], [.int x3], μ1)) (cs := []) rfl trivial ?_
    exact gWp_end gT_195 rfl (gEnd_int trivial) h
  · replace h := h.2 (fun q => c (decide_eq_true q))
    obtain ⟨c1, h⟩ := h
    refine gWp_sts gT_195 6 (f' := (31, [some (.ref 1), some (.int x1), some (.int x2), some (.int x3), some (.int x4)], [.int (32 : Int32), .int (gI μ1 50 x4.toNatClampNeg), .int x3], μ1)) (cs := [vp_in x4 50]) rfl c1 ?_
    refine gWp_icmp gT_195 (pc := 31) rfl ⟨fun c => ?_, fun c => ?_⟩
    · replace h := h.1 (of_decide_eq_true c)
      refine gWp_sts gT_195 5 (f' := (10, [some (.ref 1), some (.int x1), some (.int x2), some (.int (x3 + (0 : Int32))), some (.int (x4 + (1 : Int32)))], [], μ1)) (cs := []) rfl trivial ?_
      exact h
    · replace h := h.2 (Classical.not_not.mp (fun q => c (decide_eq_true q)))
      refine gWp_sts gT_195 6 (f' := (10, [some (.ref 1), some (.int x1), some (.int x2), some (.int (x3 + (1 : Int32))), some (.int (x4 + (1 : Int32)))], [], μ1)) (cs := []) rfl trivial ?_
      exact h
set_option maxRecDepth 20000 in
theorem vc_195 {μ : gMu} {x1 : Int32} {x2 : Int32} {P : gMu → gRes → Prop} (h : (vp_in x1 51) ∧ (gWp none 195 (10, [some (.ref 1), some (.int x1), some (.int x2), some (.int (0 : Int32)), some (.int (gI μ 58 x1.toNatClampNeg))], [], μ) 0 P)) : gWp none 195 (0, [some (.ref 1), some (.int x1), some (.int x2), none, none], [], μ) 0 P := by
  obtain ⟨c1, h⟩ := h
  refine gWp_sts gT_195 7 (f' := (10, [some (.ref 1), some (.int x1), some (.int x2), some (.int (0 : Int32)), some (.int (gI μ 58 x1.toNatClampNeg))], [], μ)) (cs := [vp_in x1 51]) rfl c1 ?_
  exact h
/-! GlyphmillModel.isPossible -/
theorem gT_196 : gCode[196]? = some gC_196 := rfl
set_option maxRecDepth 20000 in
theorem vc_196 {μ : gMu} {x1 : Int32} {x2 : Int32} {P : gMu → gRes → Prop} (h : gCl' 194 [.ref 1, .int x1, .int x2] μ (fun μ1 r => (∃ v2, r = .inl (some (.int v2)) ∧ (gCl' 195 [.ref 1, .int x1, .int x2] μ1 (fun μ3 r => (∃ v4, r = .inl (some (.int v4)) ∧ (((((gI μ 1 3) - v2) < (-v4)) → (P μ3 (.inl (some (.int (0 : Int32)))))) ∧ ((¬ ((gI μ 1 3) - v2) < (-v4)) → (P μ3 (.inl (some (.int (1 : Int32))))))))))))) : gWp none 196 (0, [some (.ref 1), some (.int x1), some (.int x2), none], [], μ) 0 P := by
  refine gWp_sts gT_196 5 (f' := (7, [some (.ref 1), some (.int x1), some (.int x2), none], [.int x2, .int x1, .ref 1, .int (gI μ 1 3)], μ)) (cs := []) rfl trivial ?_
  refine gWp_virt gT_196 (pc := 7) (q := 1) (as := [.ref 1, .int x1, .int x2]) (rest := [.int (gI μ 1 3)]) rfl rfl rfl rfl rfl rfl ⟨by decide, Nat.le_of_ble_eq_true rfl, by decide, Nat.le_of_ble_eq_true rfl⟩ (gWp_imp h (fun μ1 r h => ?_))
  obtain ⟨v2, rfl, h⟩ := h
  refine Or.inl ⟨_, rfl, ?_⟩
  show gWp none 196 (10, [some (.ref 1), some (.int x1), some (.int x2), none], [.int v2, .int (gI μ 1 3)], μ1) _ P
  refine gWp_sts gT_196 6 (f' := (16, [some (.ref 1), some (.int x1), some (.int x2), some (.int ((gI μ 1 3) - v2))], [.int x2, .int x1, .ref 1, .int ((gI μ 1 3) - v2)], μ1)) (cs := []) rfl trivial ?_
  refine gWp_virt gT_196 (pc := 16) (q := 1) (as := [.ref 1, .int x1, .int x2]) (rest := [.int ((gI μ 1 3) - v2)]) rfl rfl rfl rfl rfl rfl ⟨by decide, Nat.le_of_ble_eq_true rfl, by decide, Nat.le_of_ble_eq_true rfl⟩ (gWp_imp h (fun μ3 r h => ?_))
  obtain ⟨v4, rfl, h⟩ := h
  refine Or.inl ⟨_, rfl, ?_⟩
  show gWp none 196 (19, [some (.ref 1), some (.int x1), some (.int x2), some (.int ((gI μ 1 3) - v2))], [.int v4, .int ((gI μ 1 3) - v2)], μ3) _ P
  refine gWp_sts gT_196 1 (f' := (20, [some (.ref 1), some (.int x1), some (.int x2), some (.int ((gI μ 1 3) - v2))], [.int (-v4), .int ((gI μ 1 3) - v2)], μ3)) (cs := []) rfl trivial ?_
  refine gWp_icmp gT_196 (pc := 20) rfl ⟨fun c => ?_, fun c => ?_⟩
  · replace h := h.1 (of_decide_eq_true c)
    refine gWp_sts gT_196 1 (f' := (28, [some (.ref 1), some (.int x1), some (.int x2), some (.int ((gI μ 1 3) - v2))], [.int (0 : Int32)], μ3)) (cs := []) rfl trivial ?_
    exact gWp_end gT_196 rfl (gEnd_int (show narrow .boolean (.int (0 : Int32)) = .int (0 : Int32) by decide)) h
  · replace h := h.2 (fun q => c (decide_eq_true q))
    refine gWp_sts gT_196 2 (f' := (28, [some (.ref 1), some (.int x1), some (.int x2), some (.int ((gI μ 1 3) - v2))], [.int (1 : Int32)], μ3)) (cs := []) rfl trivial ?_
    exact gWp_end gT_196 rfl (gEnd_int (show narrow .boolean (.int (1 : Int32)) = .int (1 : Int32) by decide)) h
/-! GlyphmillModel.wide -/
theorem gT_197 : gCode[197]? = some gC_197 := rfl
set_option maxRecDepth 20000 in
theorem vc_197_2 {μ : gMu} {x1 : Int32} {P : gMu → gRes → Prop} (h : (((gI μ 1 23) ≤ x1) → (P μ (.inl (some (.int (-1 : Int32)))))) ∧ ((¬ (gI μ 1 23) ≤ x1) → (gCl' 191 [.ref 1] μ (fun μ1 r => (∃ v2, r = .inl (some (.int v2)) ∧ (((v2 = 0) → (P μ1 (.inl (some (.int (-1 : Int32)))))) ∧ ((¬ v2 = 0) → (gCl' 196 [.ref 1, .int x1, .int (x1 + (1 : Int32))] μ1 (fun μ3 r => (∃ v4, r = .inl (some (.int v4)) ∧ (((¬ v4 = 0) → (gWp none 197 (2, [some (.ref 1), some (.int (x1 + (1 : Int32)))], [], μ3) 0 P)) ∧ ((v4 = 0) → (P μ3 (.inl (some (.int x1)))))))))))))))) : gWp none 197 (2, [some (.ref 1), some (.int x1)], [], μ) 0 P := by
  refine gWp_sts gT_197 3 (f' := (7, [some (.ref 1), some (.int x1)], [.int (gI μ 1 23), .int x1], μ)) (cs := []) rfl trivial ?_
  refine gWp_icmp gT_197 (pc := 7) rfl ⟨fun c => ?_, fun c => ?_⟩
  · replace h := h.1 (of_decide_eq_true c)
    refine gWp_sts gT_197 1 (f' := (37, [some (.ref 1), some (.int x1)], [.int (-1 : Int32)], μ)) (cs := []) rfl trivial ?_
    exact gWp_end gT_197 rfl (gEnd_int trivial) h
  · replace h := h.2 (fun q => c (decide_eq_true q))
    refine gWp_sts gT_197 1 (f' := (11, [some (.ref 1), some (.int x1)], [.ref 1], μ)) (cs := []) rfl trivial ?_
    refine gWp_virt gT_197 (pc := 11) (q := 1) (as := [.ref 1]) (rest := []) rfl rfl rfl rfl rfl rfl ⟨by decide, Nat.le_of_ble_eq_true rfl, by decide, Nat.le_of_ble_eq_true rfl⟩ (gWp_imp h (fun μ1 r h => ?_))
    obtain ⟨v2, rfl, h⟩ := h
    refine Or.inl ⟨_, rfl, ?_⟩
    show gWp none 197 (14, [some (.ref 1), some (.int x1)], [.int v2], μ1) _ P
    refine gWp_if gT_197 (pc := 14) rfl ⟨fun c => ?_, fun c => ?_⟩
    · replace h := h.1 (of_decide_eq_true c)
      refine gWp_sts gT_197 1 (f' := (37, [some (.ref 1), some (.int x1)], [.int (-1 : Int32)], μ1)) (cs := []) rfl trivial ?_
      exact gWp_end gT_197 rfl (gEnd_int trivial) h
    · replace h := h.2 (fun q => c (decide_eq_true q))
      refine gWp_sts gT_197 5 (f' := (22, [some (.ref 1), some (.int x1)], [.int (x1 + (1 : Int32)), .int x1, .ref 1], μ1)) (cs := []) rfl trivial ?_
      refine gWp_virt gT_197 (pc := 22) (q := 1) (as := [.ref 1, .int x1, .int (x1 + (1 : Int32))]) (rest := []) rfl rfl rfl rfl rfl rfl ⟨by decide, Nat.le_of_ble_eq_true rfl, by decide, Nat.le_of_ble_eq_true rfl⟩ (gWp_imp h (fun μ3 r h => ?_))
      obtain ⟨v4, rfl, h⟩ := h
      refine Or.inl ⟨_, rfl, ?_⟩
      show gWp none 197 (25, [some (.ref 1), some (.int x1)], [.int v4], μ3) _ P
      refine gWp_if gT_197 (pc := 25) rfl ⟨fun c => ?_, fun c => ?_⟩
      · replace h := h.1 (of_decide_eq_true c)
        refine gWp_sts gT_197 2 (f' := (2, [some (.ref 1), some (.int (x1 + (1 : Int32)))], [], μ3)) (cs := []) rfl trivial ?_
        exact h
      · replace h := h.2 (Classical.not_not.mp (fun q => c (decide_eq_true q)))
        refine gWp_sts gT_197 1 (f' := (29, [some (.ref 1), some (.int x1)], [.int x1], μ3)) (cs := []) rfl trivial ?_
        exact gWp_end gT_197 rfl (gEnd_int trivial) h
set_option maxRecDepth 20000 in
theorem vc_197 {μ : gMu} {P : gMu → gRes → Prop} (h : gWp none 197 (2, [some (.ref 1), some (.int (0 : Int32))], [], μ) 0 P) : gWp none 197 (0, [some (.ref 1), none], [], μ) 0 P := by
  refine gWp_sts gT_197 2 (f' := (2, [some (.ref 1), some (.int (0 : Int32))], [], μ)) (cs := []) rfl trivial ?_
  exact h
/-! GlyphmillModel.tooWide -/
theorem gT_198 : gCode[198]? = some gC_198 := rfl
set_option maxRecDepth 20000 in
theorem vc_198 {μ : gMu} {P : gMu → gRes → Prop} (h : gCl' 179 [.ref 1] (gsI μ 1 9 (0 : Int32)) (fun μ1 r => (r = .inl none ∧ (gCl' 197 [.ref 1] μ1 (fun μ2 r => (∃ v3, r = .inl (some (.int v3)) ∧ (((¬ v3 = (-1 : Int32)) → (gCl' 197 [.ref 1] μ2 (fun μ4 r => (∃ v5, r = .inl (some (.int v5)) ∧ ((vp_in v5 51) ∧ ((vp_in (gI μ4 58 v5.toNatClampNeg) 50) ∧ (P μ4 (.inl (some (.int (gI μ4 49 ((gI μ4 58 v5.toNatClampNeg).toNatClampNeg)))))))))))) ∧ ((v3 = (-1 : Int32)) → (P μ2 (.inl (some (.int (-1 : Int32))))))))))))) : gWp none 198 (0, [some (.ref 1)], [], μ) 0 P := by
  refine gWp_sts gT_198 4 (f' := (6, [some (.ref 1)], [.ref 1], (gsI μ 1 9 (0 : Int32)))) (cs := []) rfl trivial ?_
  refine gWp_virt gT_198 (pc := 6) (q := 1) (as := [.ref 1]) (rest := []) rfl rfl rfl rfl rfl rfl ⟨by decide, Nat.le_of_ble_eq_true rfl, by decide, Nat.le_of_ble_eq_true rfl⟩ (gWp_imp h (fun μ1 r h => ?_))
  obtain ⟨rfl, h⟩ := h
  refine Or.inl ⟨_, rfl, ?_⟩
  show gWp none 198 (9, [some (.ref 1)], [], μ1) _ P
  refine gWp_sts gT_198 1 (f' := (10, [some (.ref 1)], [.ref 1], μ1)) (cs := []) rfl trivial ?_
  refine gWp_virt gT_198 (pc := 10) (q := 1) (as := [.ref 1]) (rest := []) rfl rfl rfl rfl rfl rfl ⟨by decide, Nat.le_of_ble_eq_true rfl, by decide, Nat.le_of_ble_eq_true rfl⟩ (gWp_imp h (fun μ2 r h => ?_))
  obtain ⟨v3, rfl, h⟩ := h
  refine Or.inl ⟨_, rfl, ?_⟩
  show gWp none 198 (13, [some (.ref 1)], [.int v3], μ2) _ P
  refine gWp_sts gT_198 1 (f' := (14, [some (.ref 1)], [.int (-1 : Int32), .int v3], μ2)) (cs := []) rfl trivial ?_
  refine gWp_icmp gT_198 (pc := 14) rfl ⟨fun c => ?_, fun c => ?_⟩
  · replace h := h.1 (of_decide_eq_true c)
    refine gWp_sts gT_198 5 (f' := (30, [some (.ref 1)], [.ref 1, .ref 58, .ref 49], μ2)) (cs := []) rfl trivial ?_
    refine gWp_virt gT_198 (pc := 30) (q := 1) (as := [.ref 1]) (rest := [.ref 58, .ref 49]) rfl rfl rfl rfl rfl rfl ⟨by decide, Nat.le_of_ble_eq_true rfl, by decide, Nat.le_of_ble_eq_true rfl⟩ (gWp_imp h (fun μ4 r h => ?_))
    obtain ⟨v5, rfl, h⟩ := h
    refine Or.inl ⟨_, rfl, ?_⟩
    show gWp none 198 (33, [some (.ref 1)], [.int v5, .ref 58, .ref 49], μ4) _ P
    obtain ⟨c1, c2, h⟩ := h
    refine gWp_sts gT_198 2 (f' := (35, [some (.ref 1)], [.int (gI μ4 49 ((gI μ4 58 v5.toNatClampNeg).toNatClampNeg))], μ4)) (cs := [vp_in v5 51, vp_in (gI μ4 58 v5.toNatClampNeg) 50]) rfl ⟨c1, c2⟩ ?_
    exact gWp_end gT_198 rfl (gEnd_int trivial) h
  · replace h := h.2 (Classical.not_not.mp (fun q => c (decide_eq_true q)))
    refine gWp_sts gT_198 2 (f' := (35, [some (.ref 1)], [.int (-1 : Int32)], μ2)) (cs := []) rfl trivial ?_
    exact gWp_end gT_198 rfl (gEnd_int trivial) h
/-! GlyphmillModel.excess -/
theorem gT_199 : gCode[199]? = some gC_199 := rfl
set_option maxRecDepth 20000 in
theorem vc_199 {μ : gMu} {P : gMu → gRes → Prop} (h : gCl' 179 [.ref 1] (gsI μ 1 9 (0 : Int32)) (fun μ1 r => (r = .inl none ∧ (gCl' 197 [.ref 1] μ1 (fun μ2 r => (∃ v3, r = .inl (some (.int v3)) ∧ (((¬ v3 = (-1 : Int32)) → (gCl' 197 [.ref 1] μ2 (fun μ4 r => (∃ v5, r = .inl (some (.int v5)) ∧ (gCl' 197 [.ref 1] μ4 (fun μ6 r => (∃ v7, r = .inl (some (.int v7)) ∧ (gCl' 194 [.ref 1, .int v5, .int (v7 + (1 : Int32))] μ6 (fun μ8 r => (∃ v9, r = .inl (some (.int v9)) ∧ (P μ8 (.inl (some (.int (v9 - (gI μ8 1 3)))))))))))))))) ∧ ((v3 = (-1 : Int32)) → (P μ2 (.inl (some (.int (0 : Int32))))))))))))) : gWp none 199 (0, [some (.ref 1)], [], μ) 0 P := by
  refine gWp_sts gT_199 4 (f' := (6, [some (.ref 1)], [.ref 1], (gsI μ 1 9 (0 : Int32)))) (cs := []) rfl trivial ?_
  refine gWp_virt gT_199 (pc := 6) (q := 1) (as := [.ref 1]) (rest := []) rfl rfl rfl rfl rfl rfl ⟨by decide, Nat.le_of_ble_eq_true rfl, by decide, Nat.le_of_ble_eq_true rfl⟩ (gWp_imp h (fun μ1 r h => ?_))
  obtain ⟨rfl, h⟩ := h
  refine Or.inl ⟨_, rfl, ?_⟩
  show gWp none 199 (9, [some (.ref 1)], [], μ1) _ P
  refine gWp_sts gT_199 1 (f' := (10, [some (.ref 1)], [.ref 1], μ1)) (cs := []) rfl trivial ?_
  refine gWp_virt gT_199 (pc := 10) (q := 1) (as := [.ref 1]) (rest := []) rfl rfl rfl rfl rfl rfl ⟨by decide, Nat.le_of_ble_eq_true rfl, by decide, Nat.le_of_ble_eq_true rfl⟩ (gWp_imp h (fun μ2 r h => ?_))
  obtain ⟨v3, rfl, h⟩ := h
  refine Or.inl ⟨_, rfl, ?_⟩
  show gWp none 199 (13, [some (.ref 1)], [.int v3], μ2) _ P
  refine gWp_sts gT_199 1 (f' := (14, [some (.ref 1)], [.int (-1 : Int32), .int v3], μ2)) (cs := []) rfl trivial ?_
  refine gWp_icmp gT_199 (pc := 14) rfl ⟨fun c => ?_, fun c => ?_⟩
  · replace h := h.1 (of_decide_eq_true c)
    refine gWp_sts gT_199 2 (f' := (23, [some (.ref 1)], [.ref 1, .ref 1], μ2)) (cs := []) rfl trivial ?_
    refine gWp_virt gT_199 (pc := 23) (q := 1) (as := [.ref 1]) (rest := [.ref 1]) rfl rfl rfl rfl rfl rfl ⟨by decide, Nat.le_of_ble_eq_true rfl, by decide, Nat.le_of_ble_eq_true rfl⟩ (gWp_imp h (fun μ4 r h => ?_))
    obtain ⟨v5, rfl, h⟩ := h
    refine Or.inl ⟨_, rfl, ?_⟩
    show gWp none 199 (26, [some (.ref 1)], [.int v5, .ref 1], μ4) _ P
    refine gWp_sts gT_199 1 (f' := (27, [some (.ref 1)], [.ref 1, .int v5, .ref 1], μ4)) (cs := []) rfl trivial ?_
    refine gWp_virt gT_199 (pc := 27) (q := 1) (as := [.ref 1]) (rest := [.int v5, .ref 1]) rfl rfl rfl rfl rfl rfl ⟨by decide, Nat.le_of_ble_eq_true rfl, by decide, Nat.le_of_ble_eq_true rfl⟩ (gWp_imp h (fun μ6 r h => ?_))
    obtain ⟨v7, rfl, h⟩ := h
    refine Or.inl ⟨_, rfl, ?_⟩
    show gWp none 199 (30, [some (.ref 1)], [.int v7, .int v5, .ref 1], μ6) _ P
    refine gWp_sts gT_199 2 (f' := (32, [some (.ref 1)], [.int (v7 + (1 : Int32)), .int v5, .ref 1], μ6)) (cs := []) rfl trivial ?_
    refine gWp_virt gT_199 (pc := 32) (q := 1) (as := [.ref 1, .int v5, .int (v7 + (1 : Int32))]) (rest := []) rfl rfl rfl rfl rfl rfl ⟨by decide, Nat.le_of_ble_eq_true rfl, by decide, Nat.le_of_ble_eq_true rfl⟩ (gWp_imp h (fun μ8 r h => ?_))
    obtain ⟨v9, rfl, h⟩ := h
    refine Or.inl ⟨_, rfl, ?_⟩
    show gWp none 199 (35, [some (.ref 1)], [.int v9], μ8) _ P
    refine gWp_sts gT_199 3 (f' := (40, [some (.ref 1)], [.int (v9 - (gI μ8 1 3))], μ8)) (cs := []) rfl trivial ?_
    exact gWp_end gT_199 rfl (gEnd_int trivial) h
  · replace h := h.2 (Classical.not_not.mp (fun q => c (decide_eq_true q)))
    refine gWp_sts gT_199 2 (f' := (40, [some (.ref 1)], [.int (0 : Int32)], μ2)) (cs := []) rfl trivial ?_
    exact gWp_end gT_199 rfl (gEnd_int trivial) h
/-! GlyphmillModel.badness -/
theorem gT_200 : gCode[200]? = some gC_200 := rfl
set_option maxRecDepth 20000 in
theorem vc_200 {μ : gMu} {x1 : Int32} {x2 : Int32} {P : gMu → gRes → Prop} (h : gCl' 194 [.ref 1, .int x1, .int x2] μ (fun μ1 r => (∃ v2, r = .inl (some (.int v2)) ∧ (gCl' 195 [.ref 1, .int x1, .int x2] μ1 (fun μ3 r => (∃ v4, r = .inl (some (.int v4)) ∧ (((((gI μ 1 3) - v2) = 0) → (P μ3 (.inl (some (.int (0 : Int32)))))) ∧ ((¬ ((gI μ 1 3) - v2) = 0) → (((((gI μ 1 3) - v2) ≤ 0) → (((¬ v4 = 0) → (((((gI μ 1 3) - v2) ≤ 0) → ((¬ ((v4 * v4) * v4) = 0) ∧ (P μ3 (.inl (some (.int (((((-100 : Int32) * ((gI μ 1 3) - v2)) * ((gI μ 1 3) - v2)) * ((gI μ 1 3) - v2)) / ((v4 * v4) * v4)))))))) ∧ ((¬ ((gI μ 1 3) - v2) ≤ 0) → ((¬ ((((8 : Int32) * v4) * v4) * v4) = 0) ∧ (P μ3 (.inl (some (.int (if (((((100 : Int32) * ((gI μ 1 3) - v2)) * ((gI μ 1 3) - v2)) * ((gI μ 1 3) - v2)) / ((((8 : Int32) * v4) * v4) * v4)) < (10000 : Int32) then ((((100 : Int32) * ((gI μ 1 3) - v2)) * ((gI μ 1 3) - v2)) * ((gI μ 1 3) - v2)) / ((((8 : Int32) * v4) * v4) * v4) else (10000 : Int32)))))))))) ∧ ((v4 = 0) → (P μ3 (.inl (some (.int (10000 : Int32)))))))) ∧ ((¬ ((gI μ 1 3) - v2) ≤ 0) → (((¬ x2 = (gI μ3 1 23)) → (((¬ v4 = 0) → (((((gI μ 1 3) - v2) ≤ 0) → ((¬ ((v4 * v4) * v4) = 0) ∧ (P μ3 (.inl (some (.int (((((-100 : Int32) * ((gI μ 1 3) - v2)) * ((gI μ 1 3) - v2)) * ((gI μ 1 3) - v2)) / ((v4 * v4) * v4)))))))) ∧ ((¬ ((gI μ 1 3) - v2) ≤ 0) → ((¬ ((((8 : Int32) * v4) * v4) * v4) = 0) ∧ (P μ3 (.inl (some (.int (if (((((100 : Int32) * ((gI μ 1 3) - v2)) * ((gI μ 1 3) - v2)) * ((gI μ 1 3) - v2)) / ((((8 : Int32) * v4) * v4) * v4)) < (10000 : Int32) then ((((100 : Int32) * ((gI μ 1 3) - v2)) * ((gI μ 1 3) - v2)) * ((gI μ 1 3) - v2)) / ((((8 : Int32) * v4) * v4) * v4) else (10000 : Int32)))))))))) ∧ ((v4 = 0) → (P μ3 (.inl (some (.int (10000 : Int32)))))))) ∧ ((x2 = (gI μ3 1 23)) → (P μ3 (.inl (some (.int (0 : Int32))))))))))))))))) : gWp none 200 (0, [some (.ref 1), some (.int x1), some (.int x2), none, none], [], μ) 0 P := by
  refine gWp_sts gT_200 5 (f' := (7, [some (.ref 1), some (.int x1), some (.int x2), none, none], [.int x2, .int x1, .ref 1, .int (gI μ 1 3)], μ)) (cs := []) rfl trivial ?_
  refine gWp_virt gT_200 (pc := 7) (q := 1) (as := [.ref 1, .int x1, .int x2]) (rest := [.int (gI μ 1 3)]) rfl rfl rfl rfl rfl rfl ⟨by decide, Nat.le_of_ble_eq_true rfl, by decide, Nat.le_of_ble_eq_true rfl⟩ (gWp_imp h (fun μ1 r h => ?_))
  obtain ⟨v2, rfl, h⟩ := h
  refine Or.inl ⟨_, rfl, ?_⟩
  show gWp none 200 (10, [some (.ref 1), some (.int x1), some (.int x2), none, none], [.int v2, .int (gI μ 1 3)], μ1) _ P
  refine gWp_sts gT_200 5 (f' := (15, [some (.ref 1), some (.int x1), some (.int x2), some (.int ((gI μ 1 3) - v2)), none], [.int x2, .int x1, .ref 1], μ1)) (cs := []) rfl trivial ?_
  refine gWp_virt gT_200 (pc := 15) (q := 1) (as := [.ref 1, .int x1, .int x2]) (rest := []) rfl rfl rfl rfl rfl rfl ⟨by decide, Nat.le_of_ble_eq_true rfl, by decide, Nat.le_of_ble_eq_true rfl⟩ (gWp_imp h (fun μ3 r h => ?_))
  obtain ⟨v4, rfl, h⟩ := h
  refine Or.inl ⟨_, rfl, ?_⟩
  show gWp none 200 (18, [some (.ref 1), some (.int x1), some (.int x2), some (.int ((gI μ 1 3) - v2)), none], [.int v4], μ3) _ P
  refine gWp_sts gT_200 2 (f' := (21, [some (.ref 1), some (.int x1), some (.int x2), some (.int ((gI μ 1 3) - v2)), some (.int v4)], [.int ((gI μ 1 3) - v2)], μ3)) (cs := []) rfl trivial ?_
  refine gWp_if gT_200 (pc := 21) rfl ⟨fun c => ?_, fun c => ?_⟩
  · replace h := h.1 (of_decide_eq_true c)
    refine gWp_sts gT_200 1 (f' := (37, [some (.ref 1), some (.int x1), some (.int x2), some (.int ((gI μ 1 3) - v2)), some (.int v4)], [.int (0 : Int32)], μ3)) (cs := []) rfl trivial ?_
    exact gWp_end gT_200 rfl (gEnd_int trivial) h
  · replace h := h.2 (fun q => c (decide_eq_true q))
    refine gWp_sts gT_200 1 (f' := (25, [some (.ref 1), some (.int x1), some (.int x2), some (.int ((gI μ 1 3) - v2)), some (.int v4)], [.int ((gI μ 1 3) - v2)], μ3)) (cs := []) rfl trivial ?_
    refine gWp_if gT_200 (pc := 25) rfl ⟨fun c => ?_, fun c => ?_⟩
    · replace h := h.1 (of_decide_eq_true c)
      refine gWp_sts gT_200 1 (f' := (40, [some (.ref 1), some (.int x1), some (.int x2), some (.int ((gI μ 1 3) - v2)), some (.int v4)], [.int v4], μ3)) (cs := []) rfl trivial ?_
      refine gWp_if gT_200 (pc := 40) rfl ⟨fun c => ?_, fun c => ?_⟩
      · replace h := h.1 (of_decide_eq_true c)
        refine gWp_sts gT_200 1 (f' := (48, [some (.ref 1), some (.int x1), some (.int x2), some (.int ((gI μ 1 3) - v2)), some (.int v4)], [.int ((gI μ 1 3) - v2)], μ3)) (cs := []) rfl trivial ?_
        refine gWp_if gT_200 (pc := 48) rfl ⟨fun c => ?_, fun c => ?_⟩
        · replace h := h.1 (of_decide_eq_true c)
          obtain ⟨c1, h⟩ := h
          refine gWp_sts gT_200 13 (f' := (97, [some (.ref 1), some (.int x1), some (.int x2), some (.int ((gI μ 1 3) - v2)), some (.int v4)], [.int (((((-100 : Int32) * ((gI μ 1 3) - v2)) * ((gI μ 1 3) - v2)) * ((gI μ 1 3) - v2)) / ((v4 * v4) * v4))], μ3)) (cs := [¬ ((v4 * v4) * v4) = 0]) rfl c1 ?_
          exact gWp_end gT_200 rfl (gEnd_int trivial) h
        · replace h := h.2 (fun q => c (decide_eq_true q))
          obtain ⟨c1, h⟩ := h
          refine gWp_sts gT_200 18 (f' := (97, [some (.ref 1), some (.int x1), some (.int x2), some (.int ((gI μ 1 3) - v2)), some (.int v4)], [.int (if (((((100 : Int32) * ((gI μ 1 3) - v2)) * ((gI μ 1 3) - v2)) * ((gI μ 1 3) - v2)) / ((((8 : Int32) * v4) * v4) * v4)) < (10000 : Int32) then ((((100 : Int32) * ((gI μ 1 3) - v2)) * ((gI μ 1 3) - v2)) * ((gI μ 1 3) - v2)) / ((((8 : Int32) * v4) * v4) * v4) else (10000 : Int32))], μ3)) (cs := [¬ ((((8 : Int32) * v4) * v4) * v4) = 0, (([] : List Value).map fun v => v.category).sum ≤ 8]) rfl ⟨c1, (Nat.le_of_ble_eq_true rfl)⟩ ?_
          exact gWp_end gT_200 rfl (gEnd_int trivial) h
      · replace h := h.2 (Classical.not_not.mp (fun q => c (decide_eq_true q)))
        refine gWp_sts gT_200 1 (f' := (46, [some (.ref 1), some (.int x1), some (.int x2), some (.int ((gI μ 1 3) - v2)), some (.int v4)], [.int (10000 : Int32)], μ3)) (cs := []) rfl trivial ?_
        exact gWp_end gT_200 rfl (gEnd_int trivial) h
    · replace h := h.2 (fun q => c (decide_eq_true q))
      refine gWp_sts gT_200 3 (f' := (33, [some (.ref 1), some (.int x1), some (.int x2), some (.int ((gI μ 1 3) - v2)), some (.int v4)], [.int (gI μ3 1 23), .int x2], μ3)) (cs := []) rfl trivial ?_
      refine gWp_icmp gT_200 (pc := 33) rfl ⟨fun c => ?_, fun c => ?_⟩
      · replace h := h.1 (of_decide_eq_true c)
        refine gWp_sts gT_200 1 (f' := (40, [some (.ref 1), some (.int x1), some (.int x2), some (.int ((gI μ 1 3) - v2)), some (.int v4)], [.int v4], μ3)) (cs := []) rfl trivial ?_
        refine gWp_if gT_200 (pc := 40) rfl ⟨fun c => ?_, fun c => ?_⟩
        · replace h := h.1 (of_decide_eq_true c)
          refine gWp_sts gT_200 1 (f' := (48, [some (.ref 1), some (.int x1), some (.int x2), some (.int ((gI μ 1 3) - v2)), some (.int v4)], [.int ((gI μ 1 3) - v2)], μ3)) (cs := []) rfl trivial ?_
          refine gWp_if gT_200 (pc := 48) rfl ⟨fun c => ?_, fun c => ?_⟩
          · replace h := h.1 (of_decide_eq_true c)
            obtain ⟨c1, h⟩ := h
            refine gWp_sts gT_200 13 (f' := (97, [some (.ref 1), some (.int x1), some (.int x2), some (.int ((gI μ 1 3) - v2)), some (.int v4)], [.int (((((-100 : Int32) * ((gI μ 1 3) - v2)) * ((gI μ 1 3) - v2)) * ((gI μ 1 3) - v2)) / ((v4 * v4) * v4))], μ3)) (cs := [¬ ((v4 * v4) * v4) = 0]) rfl c1 ?_
            exact gWp_end gT_200 rfl (gEnd_int trivial) h
          · replace h := h.2 (fun q => c (decide_eq_true q))
            obtain ⟨c1, h⟩ := h
            refine gWp_sts gT_200 18 (f' := (97, [some (.ref 1), some (.int x1), some (.int x2), some (.int ((gI μ 1 3) - v2)), some (.int v4)], [.int (if (((((100 : Int32) * ((gI μ 1 3) - v2)) * ((gI μ 1 3) - v2)) * ((gI μ 1 3) - v2)) / ((((8 : Int32) * v4) * v4) * v4)) < (10000 : Int32) then ((((100 : Int32) * ((gI μ 1 3) - v2)) * ((gI μ 1 3) - v2)) * ((gI μ 1 3) - v2)) / ((((8 : Int32) * v4) * v4) * v4) else (10000 : Int32))], μ3)) (cs := [¬ ((((8 : Int32) * v4) * v4) * v4) = 0, (([] : List Value).map fun v => v.category).sum ≤ 8]) rfl ⟨c1, (Nat.le_of_ble_eq_true rfl)⟩ ?_
            exact gWp_end gT_200 rfl (gEnd_int trivial) h
        · replace h := h.2 (Classical.not_not.mp (fun q => c (decide_eq_true q)))
          refine gWp_sts gT_200 1 (f' := (46, [some (.ref 1), some (.int x1), some (.int x2), some (.int ((gI μ 1 3) - v2)), some (.int v4)], [.int (10000 : Int32)], μ3)) (cs := []) rfl trivial ?_
          exact gWp_end gT_200 rfl (gEnd_int trivial) h
      · replace h := h.2 (Classical.not_not.mp (fun q => c (decide_eq_true q)))
        refine gWp_sts gT_200 1 (f' := (37, [some (.ref 1), some (.int x1), some (.int x2), some (.int ((gI μ 1 3) - v2)), some (.int v4)], [.int (0 : Int32)], μ3)) (cs := []) rfl trivial ?_
        exact gWp_end gT_200 rfl (gEnd_int trivial) h
/-! GlyphmillModel.isHyphen -/
theorem gT_201 : gCode[201]? = some gC_201 := rfl
set_option maxRecDepth 20000 in
theorem vc_201 {μ : gMu} {x1 : Int32} {P : gMu → gRes → Prop} (h : (vp_in x1 51) ∧ ((((gI μ 58 x1.toNatClampNeg) ≤ 0) → (P μ (.inl (some (.int (0 : Int32)))))) ∧ ((¬ (gI μ 58 x1.toNatClampNeg) ≤ 0) → ((vp_in x1 51) ∧ ((vp_in ((gI μ 58 x1.toNatClampNeg) - (1 : Int32)) 50) ∧ (((¬ (gI μ 50 (((gI μ 58 x1.toNatClampNeg) - (1 : Int32)).toNatClampNeg)) = (45 : Int32)) → (P μ (.inl (some (.int (0 : Int32)))))) ∧ (((gI μ 50 (((gI μ 58 x1.toNatClampNeg) - (1 : Int32)).toNatClampNeg)) = (45 : Int32)) → (P μ (.inl (some (.int (1 : Int32)))))))))))) : gWp none 201 (0, [some (.ref 1), some (.int x1)], [], μ) 0 P := by
  obtain ⟨c1, h⟩ := h
  refine gWp_sts gT_201 4 (f' := (6, [some (.ref 1), some (.int x1)], [.int (gI μ 58 x1.toNatClampNeg)], μ)) (cs := [vp_in x1 51]) rfl c1 ?_
  refine gWp_if gT_201 (pc := 6) rfl ⟨fun c => ?_, fun c => ?_⟩
  · replace h := h.1 (of_decide_eq_true c)
    refine gWp_sts gT_201 1 (f' := (32, [some (.ref 1), some (.int x1)], [.int (0 : Int32)], μ)) (cs := []) rfl trivial ?_
    exact gWp_end gT_201 rfl (gEnd_int (show narrow .boolean (.int (0 : Int32)) = .int (0 : Int32) by decide)) h
  · replace h := h.2 (fun q => c (decide_eq_true q))
    obtain ⟨c1, c2, h⟩ := h
    refine gWp_sts gT_201 10 (f' := (24, [some (.ref 1), some (.int x1)], [.int (45 : Int32), .int (gI μ 50 (((gI μ 58 x1.toNatClampNeg) - (1 : Int32)).toNatClampNeg))], μ)) (cs := [vp_in x1 51, vp_in ((gI μ 58 x1.toNatClampNeg) - (1 : Int32)) 50]) rfl ⟨c1, c2⟩ ?_
    refine gWp_icmp gT_201 (pc := 24) rfl ⟨fun c => ?_, fun c => ?_⟩
    · replace h := h.1 (of_decide_eq_true c)
      refine gWp_sts gT_201 1 (f' := (32, [some (.ref 1), some (.int x1)], [.int (0 : Int32)], μ)) (cs := []) rfl trivial ?_
      exact gWp_end gT_201 rfl (gEnd_int (show narrow .boolean (.int (0 : Int32)) = .int (0 : Int32) by decide)) h
    · replace h := h.2 (Classical.not_not.mp (fun q => c (decide_eq_true q)))
      refine gWp_sts gT_201 2 (f' := (32, [some (.ref 1), some (.int x1)], [.int (1 : Int32)], μ)) (cs := []) rfl trivial ?_
      exact gWp_end gT_201 rfl (gEnd_int (show narrow .boolean (.int (1 : Int32)) = .int (1 : Int32) by decide)) h
/-! GlyphmillModel.demerits -/
theorem gT_202 : gCode[202]? = some gC_202 := rfl
set_option maxRecDepth 20000 in
theorem vc_202 {μ : gMu} {x1 : Int32} {x2 : Int32} {P : gMu → gRes → Prop} (h : gCl' 200 [.ref 1, .int x1, .int x2] μ (fun μ1 r => (∃ v2, r = .inl (some (.int v2)) ∧ ((((gI μ1 1 23) ≤ x2) → (P μ1 (.inl (some (.long (((1 : Int64) + v2.toInt64) * ((1 : Int64) + v2.toInt64))))))) ∧ ((¬ (gI μ1 1 23) ≤ x2) → (gCl' 201 [.ref 1, .int x2] μ1 (fun μ3 r => (∃ v4, r = .inl (some (.int v4)) ∧ (((v4 = 0) → (P μ3 (.inl (some (.long (((1 : Int64) + v2.toInt64) * ((1 : Int64) + v2.toInt64))))))) ∧ ((¬ v4 = 0) → (gCl' 201 [.ref 1, .int x1] μ3 (fun μ5 r => (∃ v6, r = .inl (some (.int v6)) ∧ (((v6 = 0) → (P μ5 (.inl (some (.long ((((1 : Int64) + v2.toInt64) * ((1 : Int64) + v2.toInt64)) + (2500 : Int64))))))) ∧ ((¬ v6 = 0) → (P μ5 (.inl (some (.long ((((1 : Int64) + v2.toInt64) * ((1 : Int64) + v2.toInt64)) + (5500 : Int64))))))))))))))))))))) : gWp none 202 (0, [some (.ref 1), some (.int x1), some (.int x2), none, none, none, none], [], μ) 0 P := by
  refine gWp_sts gT_202 4 (f' := (4, [some (.ref 1), some (.int x1), some (.int x2), none, none, none, none], [.int x2, .int x1, .ref 1, .long (1 : Int64)], μ)) (cs := []) rfl trivial ?_
  refine gWp_virt gT_202 (pc := 4) (q := 1) (as := [.ref 1, .int x1, .int x2]) (rest := [.long (1 : Int64)]) rfl rfl rfl rfl rfl rfl ⟨by decide, Nat.le_of_ble_eq_true rfl, by decide, Nat.le_of_ble_eq_true rfl⟩ (gWp_imp h (fun μ1 r h => ?_))
  obtain ⟨v2, rfl, h⟩ := h
  refine Or.inl ⟨_, rfl, ?_⟩
  show gWp none 202 (7, [some (.ref 1), some (.int x1), some (.int x2), none, none, none, none], [.int v2, .long (1 : Int64)], μ1) _ P
  refine gWp_sts gT_202 10 (f' := (20, [some (.ref 1), some (.int x1), some (.int x2), some (.long ((1 : Int64) + v2.toInt64)), none, some (.long (((1 : Int64) + v2.toInt64) * ((1 : Int64) + v2.toInt64))), none], [.int (gI μ1 1 23), .int x2], μ1)) (cs := []) rfl trivial ?_
  refine gWp_icmp gT_202 (pc := 20) rfl ⟨fun c => ?_, fun c => ?_⟩
  · replace h := h.1 (of_decide_eq_true c)
    refine gWp_sts gT_202 1 (f' := (55, [some (.ref 1), some (.int x1), some (.int x2), some (.long ((1 : Int64) + v2.toInt64)), none, some (.long (((1 : Int64) + v2.toInt64) * ((1 : Int64) + v2.toInt64))), none], [.long (((1 : Int64) + v2.toInt64) * ((1 : Int64) + v2.toInt64))], μ1)) (cs := []) rfl trivial ?_
    exact gWp_end gT_202 rfl rfl h
  · replace h := h.2 (fun q => c (decide_eq_true q))
    refine gWp_sts gT_202 2 (f' := (25, [some (.ref 1), some (.int x1), some (.int x2), some (.long ((1 : Int64) + v2.toInt64)), none, some (.long (((1 : Int64) + v2.toInt64) * ((1 : Int64) + v2.toInt64))), none], [.int x2, .ref 1], μ1)) (cs := []) rfl trivial ?_
    refine gWp_virt gT_202 (pc := 25) (q := 1) (as := [.ref 1, .int x2]) (rest := []) rfl rfl rfl rfl rfl rfl ⟨by decide, Nat.le_of_ble_eq_true rfl, by decide, Nat.le_of_ble_eq_true rfl⟩ (gWp_imp h (fun μ3 r h => ?_))
    obtain ⟨v4, rfl, h⟩ := h
    refine Or.inl ⟨_, rfl, ?_⟩
    show gWp none 202 (28, [some (.ref 1), some (.int x1), some (.int x2), some (.long ((1 : Int64) + v2.toInt64)), none, some (.long (((1 : Int64) + v2.toInt64) * ((1 : Int64) + v2.toInt64))), none], [.int v4], μ3) _ P
    refine gWp_if gT_202 (pc := 28) rfl ⟨fun c => ?_, fun c => ?_⟩
    · replace h := h.1 (of_decide_eq_true c)
      refine gWp_sts gT_202 1 (f' := (55, [some (.ref 1), some (.int x1), some (.int x2), some (.long ((1 : Int64) + v2.toInt64)), none, some (.long (((1 : Int64) + v2.toInt64) * ((1 : Int64) + v2.toInt64))), none], [.long (((1 : Int64) + v2.toInt64) * ((1 : Int64) + v2.toInt64))], μ3)) (cs := []) rfl trivial ?_
      exact gWp_end gT_202 rfl rfl h
    · replace h := h.2 (fun q => c (decide_eq_true q))
      refine gWp_sts gT_202 3 (f' := (35, [some (.ref 1), some (.int x1), some (.int x2), some (.long ((1 : Int64) + v2.toInt64)), none, some (.long (((1 : Int64) + v2.toInt64) * ((1 : Int64) + v2.toInt64))), none], [.int x1, .ref 1, .long (((1 : Int64) + v2.toInt64) * ((1 : Int64) + v2.toInt64))], μ3)) (cs := []) rfl trivial ?_
      refine gWp_virt gT_202 (pc := 35) (q := 1) (as := [.ref 1, .int x1]) (rest := [.long (((1 : Int64) + v2.toInt64) * ((1 : Int64) + v2.toInt64))]) rfl rfl rfl rfl rfl rfl ⟨by decide, Nat.le_of_ble_eq_true rfl, by decide, Nat.le_of_ble_eq_true rfl⟩ (gWp_imp h (fun μ5 r h => ?_))
      obtain ⟨v6, rfl, h⟩ := h
      refine Or.inl ⟨_, rfl, ?_⟩
      show gWp none 202 (38, [some (.ref 1), some (.int x1), some (.int x2), some (.long ((1 : Int64) + v2.toInt64)), none, some (.long (((1 : Int64) + v2.toInt64) * ((1 : Int64) + v2.toInt64))), none], [.int v6, .long (((1 : Int64) + v2.toInt64) * ((1 : Int64) + v2.toInt64))], μ5) _ P
      refine gWp_if gT_202 (pc := 38) rfl ⟨fun c => ?_, fun c => ?_⟩
      · replace h := h.1 (of_decide_eq_true c)
        refine gWp_sts gT_202 4 (f' := (55, [some (.ref 1), some (.int x1), some (.int x2), some (.long ((1 : Int64) + v2.toInt64)), none, some (.long ((((1 : Int64) + v2.toInt64) * ((1 : Int64) + v2.toInt64)) + (2500 : Int64))), none], [.long ((((1 : Int64) + v2.toInt64) * ((1 : Int64) + v2.toInt64)) + (2500 : Int64))], μ5)) (cs := []) rfl trivial ?_
        exact gWp_end gT_202 rfl rfl h
      · replace h := h.2 (fun q => c (decide_eq_true q))
        refine gWp_sts gT_202 5 (f' := (55, [some (.ref 1), some (.int x1), some (.int x2), some (.long ((1 : Int64) + v2.toInt64)), none, some (.long ((((1 : Int64) + v2.toInt64) * ((1 : Int64) + v2.toInt64)) + (5500 : Int64))), none], [.long ((((1 : Int64) + v2.toInt64) * ((1 : Int64) + v2.toInt64)) + (5500 : Int64))], μ5)) (cs := []) rfl trivial ?_
        exact gWp_end gT_202 rfl rfl h
/-! GlyphmillModel.laysLines -/
theorem gT_203 : gCode[203]? = some gC_203 := rfl
set_option maxRecDepth 20000 in
theorem vc_203_49 {μ : gMu} {x1 : Int32} {x2 : Int32} {x3 : Int32} {P : gMu → gRes → Prop} (h : ((x1 < x3) → (gWp none 203 (34, [some (.ref 1), some (.int x1), some (.int (x2 + (-1 : Int32))), some (.int x3), none, none, none], [], μ) 0 P)) ∧ ((¬ x1 < x3) → (gCl' 196 [.ref 1, .int x2, .int x3] μ (fun μ1 r => (∃ v2, r = .inl (some (.int v2)) ∧ (((v2 = 0) → (gWp none 203 (49, [some (.ref 1), some (.int x1), some (.int x2), some (.int (x3 + (1 : Int32))), none, none, none], [], μ1) 0 P)) ∧ ((¬ v2 = 0) → (gCl' 202 [.ref 1, .int x2, .int x3] μ1 (fun μ3 r => (∃ v4, r = .inl (some (.long v4)) ∧ ((vp_in x3 51) ∧ ((vp_in x3 51) ∧ ((vp_in x2 51) ∧ ((((gI μ3 61 x2.toNatClampNeg) = (-1 : Int32)) → ((vp_in x2 51) ∧ ((vp_in x2 51) ∧ ((vp_in x2 51) ∧ (gWp none 203 (49, [some (.ref 1), some (.int x1), some (.int x2), some (.int (x3 + (1 : Int32))), some (.long (v4 + (gJ μ3 59 x3.toNatClampNeg))), none, some (.int ((1 : Int32) + (gI μ3 60 x3.toNatClampNeg)))], [], (gsI (gsJ (gsI μ3 61 x2.toNatClampNeg x3) 59 x2.toNatClampNeg (v4 + (gJ μ3 59 x3.toNatClampNeg))) 60 x2.toNatClampNeg ((1 : Int32) + (gI μ3 60 x3.toNatClampNeg)))) 0 P))))) ∧ ((¬ (gI μ3 61 x2.toNatClampNeg) = (-1 : Int32)) → ((vp_in x2 51) ∧ ((((lg_cmp (v4 + (gJ μ3 59 x3.toNatClampNeg)) (gJ μ3 59 x2.toNatClampNeg)) < 0) → ((vp_in x2 51) ∧ ((vp_in x2 51) ∧ ((vp_in x2 51) ∧ (gWp none 203 (49, [some (.ref 1), some (.int x1), some (.int x2), some (.int (x3 + (1 : Int32))), some (.long (v4 + (gJ μ3 59 x3.toNatClampNeg))), none, some (.int ((1 : Int32) + (gI μ3 60 x3.toNatClampNeg)))], [], (gsI (gsJ (gsI μ3 61 x2.toNatClampNeg x3) 59 x2.toNatClampNeg (v4 + (gJ μ3 59 x3.toNatClampNeg))) 60 x2.toNatClampNeg ((1 : Int32) + (gI μ3 60 x3.toNatClampNeg)))) 0 P))))) ∧ ((¬ (lg_cmp (v4 + (gJ μ3 59 x3.toNatClampNeg)) (gJ μ3 59 x2.toNatClampNeg)) < 0) → ((vp_in x2 51) ∧ (((¬ (lg_cmp (v4 + (gJ μ3 59 x3.toNatClampNeg)) (gJ μ3 59 x2.toNatClampNeg)) = 0) → (gWp none 203 (49, [some (.ref 1), some (.int x1), some (.int x2), some (.int (x3 + (1 : Int32))), some (.long (v4 + (gJ μ3 59 x3.toNatClampNeg))), none, some (.int ((1 : Int32) + (gI μ3 60 x3.toNatClampNeg)))], [], μ3) 0 P)) ∧ (((lg_cmp (v4 + (gJ μ3 59 x3.toNatClampNeg)) (gJ μ3 59 x2.toNatClampNeg)) = 0) → ((vp_in x2 51) ∧ ((((gI μ3 60 x2.toNatClampNeg) ≤ ((1 : Int32) + (gI μ3 60 x3.toNatClampNeg))) → (gWp none 203 (49, [some (.ref 1), some (.int x1), some (.int x2), some (.int (x3 + (1 : Int32))), some (.long (v4 + (gJ μ3 59 x3.toNatClampNeg))), none, some (.int ((1 : Int32) + (gI μ3 60 x3.toNatClampNeg)))], [], μ3) 0 P)) ∧ ((¬ (gI μ3 60 x2.toNatClampNeg) ≤ ((1 : Int32) + (gI μ3 60 x3.toNatClampNeg))) → ((vp_in x2 51) ∧ ((vp_in x2 51) ∧ ((vp_in x2 51) ∧ (gWp none 203 (49, [some (.ref 1), some (.int x1), some (.int x2), some (.int (x3 + (1 : Int32))), some (.long (v4 + (gJ μ3 59 x3.toNatClampNeg))), none, some (.int ((1 : Int32) + (gI μ3 60 x3.toNatClampNeg)))], [], (gsI (gsJ (gsI μ3 61 x2.toNatClampNeg x3) 59 x2.toNatClampNeg (v4 + (gJ μ3 59 x3.toNatClampNeg))) 60 x2.toNatClampNeg ((1 : Int32) + (gI μ3 60 x3.toNatClampNeg)))) 0 P)))))))))))))))))))))))))))) : gWp none 203 (49, [some (.ref 1), some (.int x1), some (.int x2), some (.int x3), none, none, none], [], μ) 0 P := by
  refine gWp_sts gT_203 2 (f' := (51, [some (.ref 1), some (.int x1), some (.int x2), some (.int x3), none, none, none], [.int x1, .int x3], μ)) (cs := []) rfl trivial ?_
  refine gWp_icmp gT_203 (pc := 51) rfl ⟨fun c => ?_, fun c => ?_⟩
  · replace h := h.1 (of_decide_eq_true c)
    refine gWp_sts gT_203 2 (f' := (34, [some (.ref 1), some (.int x1), some (.int (x2 + (-1 : Int32))), some (.int x3), none, none, none], [], μ)) (cs := []) rfl trivial ?_
    exact h
  · replace h := h.2 (fun q => c (decide_eq_true q))
    refine gWp_sts gT_203 3 (f' := (57, [some (.ref 1), some (.int x1), some (.int x2), some (.int x3), none, none, none], [.int x3, .int x2, .ref 1], μ)) (cs := []) rfl trivial ?_
    refine gWp_virt gT_203 (pc := 57) (q := 1) (as := [.ref 1, .int x2, .int x3]) (rest := []) rfl rfl rfl rfl rfl rfl ⟨by decide, Nat.le_of_ble_eq_true rfl, by decide, Nat.le_of_ble_eq_true rfl⟩ (gWp_imp h (fun μ1 r h => ?_))
    obtain ⟨v2, rfl, h⟩ := h
    refine Or.inl ⟨_, rfl, ?_⟩
    show gWp none 203 (60, [some (.ref 1), some (.int x1), some (.int x2), some (.int x3), none, none, none], [.int v2], μ1) _ P
    refine gWp_if gT_203 (pc := 60) rfl ⟨fun c => ?_, fun c => ?_⟩
    · replace h := h.1 (of_decide_eq_true c)
      refine gWp_sts gT_203 2 (f' := (49, [some (.ref 1), some (.int x1), some (.int x2), some (.int (x3 + (1 : Int32))), none, none, none], [], μ1)) (cs := []) rfl trivial ?_
      exact h
    · replace h := h.2 (fun q => c (decide_eq_true q))
      refine gWp_sts gT_203 3 (f' := (66, [some (.ref 1), some (.int x1), some (.int x2), some (.int x3), none, none, none], [.int x3, .int x2, .ref 1], μ1)) (cs := []) rfl trivial ?_
      refine gWp_virt gT_203 (pc := 66) (q := 1) (as := [.ref 1, .int x2, .int x3]) (rest := []) rfl rfl rfl rfl rfl rfl ⟨by decide, Nat.le_of_ble_eq_true rfl, by decide, Nat.le_of_ble_eq_true rfl⟩ (gWp_imp h (fun μ3 r h => ?_))
      obtain ⟨v4, rfl, h⟩ := h
      refine Or.inl ⟨_, rfl, ?_⟩
      show gWp none 203 (69, [some (.ref 1), some (.int x1), some (.int x2), some (.int x3), none, none, none], [.long v4], μ3) _ P
      obtain ⟨c1, c2, c3, h⟩ := h
      refine gWp_sts gT_203 18 (f' := (95, [some (.ref 1), some (.int x1), some (.int x2), some (.int x3), some (.long (v4 + (gJ μ3 59 x3.toNatClampNeg))), none, some (.int ((1 : Int32) + (gI μ3 60 x3.toNatClampNeg)))], [.int (-1 : Int32), .int (gI μ3 61 x2.toNatClampNeg)], μ3)) (cs := [vp_in x3 51, vp_in x3 51, vp_in x2 51]) rfl ⟨c1, c2, c3⟩ ?_
      refine gWp_icmp gT_203 (pc := 95) rfl ⟨fun c => ?_, fun c => ?_⟩
      · replace h := h.1 (of_decide_eq_true c)
        obtain ⟨c1, c2, c3, h⟩ := h
        refine gWp_sts gT_203 17 (f' := (49, [some (.ref 1), some (.int x1), some (.int x2), some (.int (x3 + (1 : Int32))), some (.long (v4 + (gJ μ3 59 x3.toNatClampNeg))), none, some (.int ((1 : Int32) + (gI μ3 60 x3.toNatClampNeg)))], [], (gsI (gsJ (gsI μ3 61 x2.toNatClampNeg x3) 59 x2.toNatClampNeg (v4 + (gJ μ3 59 x3.toNatClampNeg))) 60 x2.toNatClampNeg ((1 : Int32) + (gI μ3 60 x3.toNatClampNeg))))) (cs := [vp_in x2 51, vp_in x2 51, vp_in x2 51]) rfl ⟨c1, c2, c3⟩ ?_
        exact h
      · replace h := h.2 (fun q => c (decide_eq_true q))
        obtain ⟨c1, h⟩ := h
        refine gWp_sts gT_203 6 (f' := (107, [some (.ref 1), some (.int x1), some (.int x2), some (.int x3), some (.long (v4 + (gJ μ3 59 x3.toNatClampNeg))), none, some (.int ((1 : Int32) + (gI μ3 60 x3.toNatClampNeg)))], [.int (lg_cmp (v4 + (gJ μ3 59 x3.toNatClampNeg)) (gJ μ3 59 x2.toNatClampNeg))], μ3)) (cs := [vp_in x2 51]) rfl c1 ?_
        refine gWp_if gT_203 (pc := 107) rfl ⟨fun c => ?_, fun c => ?_⟩
        · replace h := h.1 (of_decide_eq_true c)
          obtain ⟨c1, c2, c3, h⟩ := h
          refine gWp_sts gT_203 17 (f' := (49, [some (.ref 1), some (.int x1), some (.int x2), some (.int (x3 + (1 : Int32))), some (.long (v4 + (gJ μ3 59 x3.toNatClampNeg))), none, some (.int ((1 : Int32) + (gI μ3 60 x3.toNatClampNeg)))], [], (gsI (gsJ (gsI μ3 61 x2.toNatClampNeg x3) 59 x2.toNatClampNeg (v4 + (gJ μ3 59 x3.toNatClampNeg))) 60 x2.toNatClampNeg ((1 : Int32) + (gI μ3 60 x3.toNatClampNeg))))) (cs := [vp_in x2 51, vp_in x2 51, vp_in x2 51]) rfl ⟨c1, c2, c3⟩ ?_
          exact h
        · replace h := h.2 (fun q => c (decide_eq_true q))
          obtain ⟨c1, h⟩ := h
          refine gWp_sts gT_203 6 (f' := (119, [some (.ref 1), some (.int x1), some (.int x2), some (.int x3), some (.long (v4 + (gJ μ3 59 x3.toNatClampNeg))), none, some (.int ((1 : Int32) + (gI μ3 60 x3.toNatClampNeg)))], [.int (lg_cmp (v4 + (gJ μ3 59 x3.toNatClampNeg)) (gJ μ3 59 x2.toNatClampNeg))], μ3)) (cs := [vp_in x2 51]) rfl c1 ?_
          refine gWp_if gT_203 (pc := 119) rfl ⟨fun c => ?_, fun c => ?_⟩
          · replace h := h.1 (of_decide_eq_true c)
            refine gWp_sts gT_203 2 (f' := (49, [some (.ref 1), some (.int x1), some (.int x2), some (.int (x3 + (1 : Int32))), some (.long (v4 + (gJ μ3 59 x3.toNatClampNeg))), none, some (.int ((1 : Int32) + (gI μ3 60 x3.toNatClampNeg)))], [], μ3)) (cs := []) rfl trivial ?_
            exact h
          · replace h := h.2 (Classical.not_not.mp (fun q => c (decide_eq_true q)))
            obtain ⟨c1, h⟩ := h
            refine gWp_sts gT_203 5 (f' := (130, [some (.ref 1), some (.int x1), some (.int x2), some (.int x3), some (.long (v4 + (gJ μ3 59 x3.toNatClampNeg))), none, some (.int ((1 : Int32) + (gI μ3 60 x3.toNatClampNeg)))], [.int (gI μ3 60 x2.toNatClampNeg), .int ((1 : Int32) + (gI μ3 60 x3.toNatClampNeg))], μ3)) (cs := [vp_in x2 51]) rfl c1 ?_
            refine gWp_icmp gT_203 (pc := 130) rfl ⟨fun c => ?_, fun c => ?_⟩
            · replace h := h.1 (of_decide_eq_true c)
              refine gWp_sts gT_203 2 (f' := (49, [some (.ref 1), some (.int x1), some (.int x2), some (.int (x3 + (1 : Int32))), some (.long (v4 + (gJ μ3 59 x3.toNatClampNeg))), none, some (.int ((1 : Int32) + (gI μ3 60 x3.toNatClampNeg)))], [], μ3)) (cs := []) rfl trivial ?_
              exact h
            · replace h := h.2 (fun q => c (decide_eq_true q))
              obtain ⟨c1, c2, c3, h⟩ := h
              refine gWp_sts gT_203 17 (f' := (49, [some (.ref 1), some (.int x1), some (.int x2), some (.int (x3 + (1 : Int32))), some (.long (v4 + (gJ μ3 59 x3.toNatClampNeg))), none, some (.int ((1 : Int32) + (gI μ3 60 x3.toNatClampNeg)))], [], (gsI (gsJ (gsI μ3 61 x2.toNatClampNeg x3) 59 x2.toNatClampNeg (v4 + (gJ μ3 59 x3.toNatClampNeg))) 60 x2.toNatClampNeg ((1 : Int32) + (gI μ3 60 x3.toNatClampNeg))))) (cs := [vp_in x2 51, vp_in x2 51, vp_in x2 51]) rfl ⟨c1, c2, c3⟩ ?_
              exact h
set_option maxRecDepth 20000 in
theorem vc_203_34 {μ : gMu} {x1 : Int32} {x2 : Int32} {P : gMu → gRes → Prop} (h : ((x2 < 0) → (P μ (.inl none))) ∧ ((¬ x2 < 0) → ((vp_in x2 51) ∧ (gWp none 203 (49, [some (.ref 1), some (.int x1), some (.int x2), some (.int (x2 + (1 : Int32))), none, none, none], [], (gsI μ 61 x2.toNatClampNeg (-1 : Int32))) 0 P)))) : gWp none 203 (34, [some (.ref 1), some (.int x1), some (.int x2), none, none, none, none], [], μ) 0 P := by
  refine gWp_sts gT_203 1 (f' := (35, [some (.ref 1), some (.int x1), some (.int x2), none, none, none, none], [.int x2], μ)) (cs := []) rfl trivial ?_
  refine gWp_if gT_203 (pc := 35) rfl ⟨fun c => ?_, fun c => ?_⟩
  · replace h := h.1 (of_decide_eq_true c)
    exact gWp_end gT_203 rfl rfl h
  · replace h := h.2 (fun q => c (decide_eq_true q))
    obtain ⟨c1, h⟩ := h
    refine gWp_sts gT_203 9 (f' := (49, [some (.ref 1), some (.int x1), some (.int x2), some (.int (x2 + (1 : Int32))), none, none, none], [], (gsI μ 61 x2.toNatClampNeg (-1 : Int32)))) (cs := [vp_in x2 51]) rfl c1 ?_
    exact h
set_option maxRecDepth 20000 in
theorem vc_203 {μ : gMu} {P : gMu → gRes → Prop} (h : gCl' 191 [.ref 1] μ (fun μ1 r => (∃ v2, r = .inl (some (.int v2)) ∧ (((v2 = 0) → ((vp_in (0 : Int32) 51) ∧ ((vp_in (0 : Int32) 51) ∧ (gWp none 203 (34, [some (.ref 1), some (.int (0 : Int32)), some (.int ((0 : Int32) - (1 : Int32))), none, none, none, none], [], (gsI (gsJ μ1 59 ((0 : Int32).toNatClampNeg) (0 : Int64)) 60 ((0 : Int32).toNatClampNeg) (0 : Int32))) 0 P)))) ∧ ((¬ v2 = 0) → ((vp_in (gI μ1 1 23) 51) ∧ ((vp_in (gI μ1 1 23) 51) ∧ (gWp none 203 (34, [some (.ref 1), some (.int (gI μ1 1 23)), some (.int ((gI μ1 1 23) - (1 : Int32))), none, none, none, none], [], (gsI (gsJ μ1 59 ((gI μ1 1 23).toNatClampNeg) (0 : Int64)) 60 ((gI μ1 1 23).toNatClampNeg) (0 : Int32))) 0 P)))))))) : gWp none 203 (0, [some (.ref 1), none, none, none, none, none, none], [], μ) 0 P := by
  refine gWp_sts gT_203 1 (f' := (1, [some (.ref 1), none, none, none, none, none, none], [.ref 1], μ)) (cs := []) rfl trivial ?_
  refine gWp_virt gT_203 (pc := 1) (q := 1) (as := [.ref 1]) (rest := []) rfl rfl rfl rfl rfl rfl ⟨by decide, Nat.le_of_ble_eq_true rfl, by decide, Nat.le_of_ble_eq_true rfl⟩ (gWp_imp h (fun μ1 r h => ?_))
  obtain ⟨v2, rfl, h⟩ := h
  refine Or.inl ⟨_, rfl, ?_⟩
  show gWp none 203 (4, [some (.ref 1), none, none, none, none, none, none], [.int v2], μ1) _ P
  refine gWp_if gT_203 (pc := 4) rfl ⟨fun c => ?_, fun c => ?_⟩
  · replace h := h.1 (of_decide_eq_true c)
    obtain ⟨c1, c2, h⟩ := h
    refine gWp_sts gT_203 16 (f' := (34, [some (.ref 1), some (.int (0 : Int32)), some (.int ((0 : Int32) - (1 : Int32))), none, none, none, none], [], (gsI (gsJ μ1 59 ((0 : Int32).toNatClampNeg) (0 : Int64)) 60 ((0 : Int32).toNatClampNeg) (0 : Int32)))) (cs := [vp_in (0 : Int32) 51, vp_in (0 : Int32) 51]) rfl ⟨c1, c2⟩ ?_
    exact h
  · replace h := h.2 (fun q => c (decide_eq_true q))
    obtain ⟨c1, c2, h⟩ := h
    refine gWp_sts gT_203 18 (f' := (34, [some (.ref 1), some (.int (gI μ1 1 23)), some (.int ((gI μ1 1 23) - (1 : Int32))), none, none, none, none], [], (gsI (gsJ μ1 59 ((gI μ1 1 23).toNatClampNeg) (0 : Int64)) 60 ((gI μ1 1 23).toNatClampNeg) (0 : Int32)))) (cs := [vp_in (gI μ1 1 23) 51, vp_in (gI μ1 1 23) 51]) rfl ⟨c1, c2⟩ ?_
    exact h
/-! GlyphmillModel.cannot -/
theorem gT_204 : gCode[204]? = some gC_204 := rfl
set_option maxRecDepth 20000 in
theorem vc_204 {μ : gMu} {x1 : Int32} {P : gMu → gRes → Prop} (h : gCl' 179 [.ref 1] μ (fun μ1 r => (r = .inl none ∧ (gCl' 197 [.ref 1] μ1 (fun μ2 r => (∃ v3, r = .inl (some (.int v3)) ∧ (((¬ v3 = (-1 : Int32)) → (((¬ x1 = 0) → (((x1 ≤ 0) → (P (gsI μ2 1 9 x1) (.inl (some (.int (0 : Int32)))))) ∧ ((¬ x1 ≤ 0) → (P (gsI μ2 1 9 x1) (.inl (some (.int (1 : Int32)))))))) ∧ ((x1 = 0) → (gCl' 203 [.ref 1] (gsI μ2 1 9 x1) (fun μ4 r => (r = .inl none ∧ ((((gI μ4 1 9) ≤ 0) → (P μ4 (.inl (some (.int (0 : Int32)))))) ∧ ((¬ (gI μ4 1 9) ≤ 0) → (P μ4 (.inl (some (.int (1 : Int32))))))))))))) ∧ ((v3 = (-1 : Int32)) → (((¬ (0 : Int32) = 0) → ((((0 : Int32) ≤ 0) → (P (gsI μ2 1 9 (0 : Int32)) (.inl (some (.int (0 : Int32)))))) ∧ ((¬ (0 : Int32) ≤ 0) → (P (gsI μ2 1 9 (0 : Int32)) (.inl (some (.int (1 : Int32)))))))) ∧ (((0 : Int32) = 0) → (gCl' 203 [.ref 1] (gsI μ2 1 9 (0 : Int32)) (fun μ5 r => (r = .inl none ∧ ((((gI μ5 1 9) ≤ 0) → (P μ5 (.inl (some (.int (0 : Int32)))))) ∧ ((¬ (gI μ5 1 9) ≤ 0) → (P μ5 (.inl (some (.int (1 : Int32)))))))))))))))))))) : gWp none 204 (0, [some (.ref 1), some (.int x1)], [], μ) 0 P := by
  refine gWp_sts gT_204 1 (f' := (1, [some (.ref 1), some (.int x1)], [.ref 1], μ)) (cs := []) rfl trivial ?_
  refine gWp_virt gT_204 (pc := 1) (q := 1) (as := [.ref 1]) (rest := []) rfl rfl rfl rfl rfl rfl ⟨by decide, Nat.le_of_ble_eq_true rfl, by decide, Nat.le_of_ble_eq_true rfl⟩ (gWp_imp h (fun μ1 r h => ?_))
  obtain ⟨rfl, h⟩ := h
  refine Or.inl ⟨_, rfl, ?_⟩
  show gWp none 204 (4, [some (.ref 1), some (.int x1)], [], μ1) _ P
  refine gWp_sts gT_204 2 (f' := (6, [some (.ref 1), some (.int x1)], [.ref 1, .ref 1], μ1)) (cs := []) rfl trivial ?_
  refine gWp_virt gT_204 (pc := 6) (q := 1) (as := [.ref 1]) (rest := [.ref 1]) rfl rfl rfl rfl rfl rfl ⟨by decide, Nat.le_of_ble_eq_true rfl, by decide, Nat.le_of_ble_eq_true rfl⟩ (gWp_imp h (fun μ2 r h => ?_))
  obtain ⟨v3, rfl, h⟩ := h
  refine Or.inl ⟨_, rfl, ?_⟩
  show gWp none 204 (9, [some (.ref 1), some (.int x1)], [.int v3, .ref 1], μ2) _ P
  refine gWp_sts gT_204 1 (f' := (10, [some (.ref 1), some (.int x1)], [.int (-1 : Int32), .int v3, .ref 1], μ2)) (cs := []) rfl trivial ?_
  refine gWp_icmp gT_204 (pc := 10) rfl ⟨fun c => ?_, fun c => ?_⟩
  · replace h := h.1 (of_decide_eq_true c)
    refine gWp_sts gT_204 4 (f' := (25, [some (.ref 1), some (.int x1)], [.int x1], (gsI μ2 1 9 x1))) (cs := []) rfl trivial ?_
    refine gWp_if gT_204 (pc := 25) rfl ⟨fun c => ?_, fun c => ?_⟩
    · replace h := h.1 (of_decide_eq_true c)
      refine gWp_sts gT_204 2 (f' := (36, [some (.ref 1), some (.int x1)], [.int x1], (gsI μ2 1 9 x1))) (cs := []) rfl trivial ?_
      refine gWp_if gT_204 (pc := 36) rfl ⟨fun c => ?_, fun c => ?_⟩
      · replace h := h.1 (of_decide_eq_true c)
        refine gWp_sts gT_204 1 (f' := (44, [some (.ref 1), some (.int x1)], [.int (0 : Int32)], (gsI μ2 1 9 x1))) (cs := []) rfl trivial ?_
        exact gWp_end gT_204 rfl (gEnd_int (show narrow .boolean (.int (0 : Int32)) = .int (0 : Int32) by decide)) h
      · replace h := h.2 (fun q => c (decide_eq_true q))
        refine gWp_sts gT_204 2 (f' := (44, [some (.ref 1), some (.int x1)], [.int (1 : Int32)], (gsI μ2 1 9 x1))) (cs := []) rfl trivial ?_
        exact gWp_end gT_204 rfl (gEnd_int (show narrow .boolean (.int (1 : Int32)) = .int (1 : Int32) by decide)) h
    · replace h := h.2 (Classical.not_not.mp (fun q => c (decide_eq_true q)))
      refine gWp_sts gT_204 1 (f' := (29, [some (.ref 1), some (.int x1)], [.ref 1], (gsI μ2 1 9 x1))) (cs := []) rfl trivial ?_
      refine gWp_virt gT_204 (pc := 29) (q := 1) (as := [.ref 1]) (rest := []) rfl rfl rfl rfl rfl rfl ⟨by decide, Nat.le_of_ble_eq_true rfl, by decide, Nat.le_of_ble_eq_true rfl⟩ (gWp_imp h (fun μ4 r h => ?_))
      obtain ⟨rfl, h⟩ := h
      refine Or.inl ⟨_, rfl, ?_⟩
      show gWp none 204 (32, [some (.ref 1), some (.int x1)], [], μ4) _ P
      refine gWp_sts gT_204 2 (f' := (36, [some (.ref 1), some (.int x1)], [.int (gI μ4 1 9)], μ4)) (cs := []) rfl trivial ?_
      refine gWp_if gT_204 (pc := 36) rfl ⟨fun c => ?_, fun c => ?_⟩
      · replace h := h.1 (of_decide_eq_true c)
        refine gWp_sts gT_204 1 (f' := (44, [some (.ref 1), some (.int x1)], [.int (0 : Int32)], μ4)) (cs := []) rfl trivial ?_
        exact gWp_end gT_204 rfl (gEnd_int (show narrow .boolean (.int (0 : Int32)) = .int (0 : Int32) by decide)) h
      · replace h := h.2 (fun q => c (decide_eq_true q))
        refine gWp_sts gT_204 2 (f' := (44, [some (.ref 1), some (.int x1)], [.int (1 : Int32)], μ4)) (cs := []) rfl trivial ?_
        exact gWp_end gT_204 rfl (gEnd_int (show narrow .boolean (.int (1 : Int32)) = .int (1 : Int32) by decide)) h
  · replace h := h.2 (Classical.not_not.mp (fun q => c (decide_eq_true q)))
    refine gWp_sts gT_204 5 (f' := (25, [some (.ref 1), some (.int x1)], [.int (0 : Int32)], (gsI μ2 1 9 (0 : Int32)))) (cs := []) rfl trivial ?_
    refine gWp_if gT_204 (pc := 25) rfl ⟨fun c => ?_, fun c => ?_⟩
    · replace h := h.1 (of_decide_eq_true c)
      refine gWp_sts gT_204 2 (f' := (36, [some (.ref 1), some (.int x1)], [.int (0 : Int32)], (gsI μ2 1 9 (0 : Int32)))) (cs := []) rfl trivial ?_
      refine gWp_if gT_204 (pc := 36) rfl ⟨fun c => ?_, fun c => ?_⟩
      · replace h := h.1 (of_decide_eq_true c)
        refine gWp_sts gT_204 1 (f' := (44, [some (.ref 1), some (.int x1)], [.int (0 : Int32)], (gsI μ2 1 9 (0 : Int32)))) (cs := []) rfl trivial ?_
        exact gWp_end gT_204 rfl (gEnd_int (show narrow .boolean (.int (0 : Int32)) = .int (0 : Int32) by decide)) h
      · replace h := h.2 (fun q => c (decide_eq_true q))
        refine gWp_sts gT_204 2 (f' := (44, [some (.ref 1), some (.int x1)], [.int (1 : Int32)], (gsI μ2 1 9 (0 : Int32)))) (cs := []) rfl trivial ?_
        exact gWp_end gT_204 rfl (gEnd_int (show narrow .boolean (.int (1 : Int32)) = .int (1 : Int32) by decide)) h
    · replace h := h.2 (Classical.not_not.mp (fun q => c (decide_eq_true q)))
      refine gWp_sts gT_204 1 (f' := (29, [some (.ref 1), some (.int x1)], [.ref 1], (gsI μ2 1 9 (0 : Int32)))) (cs := []) rfl trivial ?_
      refine gWp_virt gT_204 (pc := 29) (q := 1) (as := [.ref 1]) (rest := []) rfl rfl rfl rfl rfl rfl ⟨by decide, Nat.le_of_ble_eq_true rfl, by decide, Nat.le_of_ble_eq_true rfl⟩ (gWp_imp h (fun μ5 r h => ?_))
      obtain ⟨rfl, h⟩ := h
      refine Or.inl ⟨_, rfl, ?_⟩
      show gWp none 204 (32, [some (.ref 1), some (.int x1)], [], μ5) _ P
      refine gWp_sts gT_204 2 (f' := (36, [some (.ref 1), some (.int x1)], [.int (gI μ5 1 9)], μ5)) (cs := []) rfl trivial ?_
      refine gWp_if gT_204 (pc := 36) rfl ⟨fun c => ?_, fun c => ?_⟩
      · replace h := h.1 (of_decide_eq_true c)
        refine gWp_sts gT_204 1 (f' := (44, [some (.ref 1), some (.int x1)], [.int (0 : Int32)], μ5)) (cs := []) rfl trivial ?_
        exact gWp_end gT_204 rfl (gEnd_int (show narrow .boolean (.int (0 : Int32)) = .int (0 : Int32) by decide)) h
      · replace h := h.2 (fun q => c (decide_eq_true q))
        refine gWp_sts gT_204 2 (f' := (44, [some (.ref 1), some (.int x1)], [.int (1 : Int32)], μ5)) (cs := []) rfl trivial ?_
        exact gWp_end gT_204 rfl (gEnd_int (show narrow .boolean (.int (1 : Int32)) = .int (1 : Int32) by decide)) h
/-! GlyphmillModel.lineCount -/
theorem gT_205 : gCode[205]? = some gC_205 := rfl
set_option maxRecDepth 20000 in
theorem vc_205 {μ : gMu} {P : gMu → gRes → Prop} (h : gCl' 191 [.ref 1] μ (fun μ1 r => (∃ v2, r = .inl (some (.int v2)) ∧ (((v2 = 0) → (P μ1 (.inl (some (.int (0 : Int32)))))) ∧ ((¬ v2 = 0) → ((vp_in (0 : Int32) 51) ∧ (P μ1 (.inl (some (.int (gI μ1 60 ((0 : Int32).toNatClampNeg)))))))))))) : gWp none 205 (0, [some (.ref 1)], [], μ) 0 P := by
  refine gWp_sts gT_205 1 (f' := (1, [some (.ref 1)], [.ref 1], μ)) (cs := []) rfl trivial ?_
  refine gWp_virt gT_205 (pc := 1) (q := 1) (as := [.ref 1]) (rest := []) rfl rfl rfl rfl rfl rfl ⟨by decide, Nat.le_of_ble_eq_true rfl, by decide, Nat.le_of_ble_eq_true rfl⟩ (gWp_imp h (fun μ1 r h => ?_))
  obtain ⟨v2, rfl, h⟩ := h
  refine Or.inl ⟨_, rfl, ?_⟩
  show gWp none 205 (4, [some (.ref 1)], [.int v2], μ1) _ P
  refine gWp_if gT_205 (pc := 4) rfl ⟨fun c => ?_, fun c => ?_⟩
  · replace h := h.1 (of_decide_eq_true c)
    refine gWp_sts gT_205 1 (f' := (17, [some (.ref 1)], [.int (0 : Int32)], μ1)) (cs := []) rfl trivial ?_
    exact gWp_end gT_205 rfl (gEnd_int trivial) h
  · replace h := h.2 (fun q => c (decide_eq_true q))
    obtain ⟨c1, h⟩ := h
    refine gWp_sts gT_205 5 (f' := (17, [some (.ref 1)], [.int (gI μ1 60 ((0 : Int32).toNatClampNeg))], μ1)) (cs := [vp_in (0 : Int32) 51]) rfl c1 ?_
    exact gWp_end gT_205 rfl (gEnd_int trivial) h
/-! GlyphmillModel.lines -/
theorem gT_206 : gCode[206]? = some gC_206 := rfl
set_option maxRecDepth 20000 in
theorem vc_206 {μ : gMu} {P : gMu → gRes → Prop} (h : gCl' 204 [.ref 1, .int (1 : Int32)] μ (fun μ1 r => (∃ v2, r = .inl (some (.int v2)) ∧ (((v2 = 0) → (gCl' 205 [.ref 1] μ1 (fun μ3 r => (∃ v4, r = .inl (some (.int v4)) ∧ (P μ3 (.inl (some (.int v4)))))))) ∧ ((¬ v2 = 0) → (P μ1 (.inl (some (.int (0 : Int32)))))))))) : gWp none 206 (0, [some (.ref 1)], [], μ) 0 P := by
  refine gWp_sts gT_206 2 (f' := (2, [some (.ref 1)], [.int (1 : Int32), .ref 1], μ)) (cs := []) rfl trivial ?_
  refine gWp_virt gT_206 (pc := 2) (q := 1) (as := [.ref 1, .int (1 : Int32)]) (rest := []) rfl rfl rfl rfl rfl rfl ⟨by decide, Nat.le_of_ble_eq_true rfl, by decide, Nat.le_of_ble_eq_true rfl⟩ (gWp_imp h (fun μ1 r h => ?_))
  obtain ⟨v2, rfl, h⟩ := h
  refine Or.inl ⟨_, rfl, ?_⟩
  show gWp none 206 (5, [some (.ref 1)], [.int v2], μ1) _ P
  refine gWp_if gT_206 (pc := 5) rfl ⟨fun c => ?_, fun c => ?_⟩
  · replace h := h.1 (of_decide_eq_true c)
    refine gWp_sts gT_206 1 (f' := (13, [some (.ref 1)], [.ref 1], μ1)) (cs := []) rfl trivial ?_
    refine gWp_virt gT_206 (pc := 13) (q := 1) (as := [.ref 1]) (rest := []) rfl rfl rfl rfl rfl rfl ⟨by decide, Nat.le_of_ble_eq_true rfl, by decide, Nat.le_of_ble_eq_true rfl⟩ (gWp_imp h (fun μ3 r h => ?_))
    obtain ⟨v4, rfl, h⟩ := h
    refine Or.inl ⟨_, rfl, ?_⟩
    show gWp none 206 (16, [some (.ref 1)], [.int v4], μ3) _ P
    exact gWp_end gT_206 rfl (gEnd_int trivial) h
  · replace h := h.2 (fun q => c (decide_eq_true q))
    refine gWp_sts gT_206 2 (f' := (16, [some (.ref 1)], [.int (0 : Int32)], μ1)) (cs := []) rfl trivial ?_
    exact gWp_end gT_206 rfl (gEnd_int trivial) h
/-! GlyphmillModel.linesByFirstFit -/
theorem gT_207 : gCode[207]? = some gC_207 := rfl
set_option maxRecDepth 20000 in
theorem vc_207_33 {μ : gMu} {x1 : Int32} {x2 : Int32} {x3 : Int32} {P : gMu → gRes → Prop} (h : (((gI μ 1 23) ≤ x3) → (gWp none 207 (21, [some (.ref 1), some (.int (x1 + (1 : Int32))), some (.int x3), some (.int x3)], [], μ) 0 P)) ∧ ((¬ (gI μ 1 23) ≤ x3) → (gCl' 194 [.ref 1, .int x2, .int (x3 + (1 : Int32))] μ (fun μ1 r => (∃ v2, r = .inl (some (.int v2)) ∧ ((((gI μ1 1 3) < v2) → (gWp none 207 (21, [some (.ref 1), some (.int (x1 + (1 : Int32))), some (.int x3), some (.int x3)], [], μ1) 0 P)) ∧ ((¬ (gI μ1 1 3) < v2) → (gWp none 207 (33, [some (.ref 1), some (.int x1), some (.int x2), some (.int (x3 + (1 : Int32)))], [], μ1) 0 P)))))))) : gWp none 207 (33, [some (.ref 1), some (.int x1), some (.int x2), some (.int x3)], [], μ) 0 P := by
  refine gWp_sts gT_207 3 (f' := (38, [some (.ref 1), some (.int x1), some (.int x2), some (.int x3)], [.int (gI μ 1 23), .int x3], μ)) (cs := []) rfl trivial ?_
  refine gWp_icmp gT_207 (pc := 38) rfl ⟨fun c => ?_, fun c => ?_⟩
  · replace h := h.1 (of_decide_eq_true c)
    refine gWp_sts gT_207 4 (f' := (21, [some (.ref 1), some (.int (x1 + (1 : Int32))), some (.int x3), some (.int x3)], [], μ)) (cs := []) rfl trivial ?_
    exact h
  · replace h := h.2 (fun q => c (decide_eq_true q))
    refine gWp_sts gT_207 5 (f' := (46, [some (.ref 1), some (.int x1), some (.int x2), some (.int x3)], [.int (x3 + (1 : Int32)), .int x2, .ref 1], μ)) (cs := []) rfl trivial ?_
    refine gWp_virt gT_207 (pc := 46) (q := 1) (as := [.ref 1, .int x2, .int (x3 + (1 : Int32))]) (rest := []) rfl rfl rfl rfl rfl rfl ⟨by decide, Nat.le_of_ble_eq_true rfl, by decide, Nat.le_of_ble_eq_true rfl⟩ (gWp_imp h (fun μ1 r h => ?_))
    obtain ⟨v2, rfl, h⟩ := h
    refine Or.inl ⟨_, rfl, ?_⟩
    show gWp none 207 (49, [some (.ref 1), some (.int x1), some (.int x2), some (.int x3)], [.int v2], μ1) _ P
    refine gWp_sts gT_207 2 (f' := (53, [some (.ref 1), some (.int x1), some (.int x2), some (.int x3)], [.int (gI μ1 1 3), .int v2], μ1)) (cs := []) rfl trivial ?_
    refine gWp_icmp gT_207 (pc := 53) rfl ⟨fun c => ?_, fun c => ?_⟩
    · replace h := h.1 (of_decide_eq_true c)
      refine gWp_sts gT_207 4 (f' := (21, [some (.ref 1), some (.int (x1 + (1 : Int32))), some (.int x3), some (.int x3)], [], μ1)) (cs := []) rfl trivial ?_
      exact h
    · replace h := h.2 (fun q => c (decide_eq_true q))
      refine gWp_sts gT_207 2 (f' := (33, [some (.ref 1), some (.int x1), some (.int x2), some (.int (x3 + (1 : Int32)))], [], μ1)) (cs := []) rfl trivial ?_
      exact h
set_option maxRecDepth 20000 in
theorem vc_207_21 {μ : gMu} {x1 : Int32} {x2 : Int32} {P : gMu → gRes → Prop} (h : (((gI μ 1 23) ≤ x2) → (P μ (.inl (some (.int x1))))) ∧ ((¬ (gI μ 1 23) ≤ x2) → (gWp none 207 (33, [some (.ref 1), some (.int x1), some (.int x2), some (.int (x2 + (1 : Int32)))], [], μ) 0 P))) : gWp none 207 (21, [some (.ref 1), some (.int x1), some (.int x2), none], [], μ) 0 P := by
  refine gWp_sts gT_207 3 (f' := (26, [some (.ref 1), some (.int x1), some (.int x2), none], [.int (gI μ 1 23), .int x2], μ)) (cs := []) rfl trivial ?_
  refine gWp_icmp gT_207 (pc := 26) rfl ⟨fun c => ?_, fun c => ?_⟩
  · replace h := h.1 (of_decide_eq_true c)
    refine gWp_sts gT_207 1 (f' := (71, [some (.ref 1), some (.int x1), some (.int x2), none], [.int x1], μ)) (cs := []) rfl trivial ?_
    exact gWp_end gT_207 rfl (gEnd_int trivial) h
  · replace h := h.2 (fun q => c (decide_eq_true q))
    refine gWp_sts gT_207 4 (f' := (33, [some (.ref 1), some (.int x1), some (.int x2), some (.int (x2 + (1 : Int32)))], [], μ)) (cs := []) rfl trivial ?_
    exact h
set_option maxRecDepth 20000 in
theorem vc_207 {μ : gMu} {P : gMu → gRes → Prop} (h : gCl' 204 [.ref 1, .int (1 : Int32)] μ (fun μ1 r => (∃ v2, r = .inl (some (.int v2)) ∧ (((¬ v2 = 0) → (P μ1 (.inl (some (.int (0 : Int32)))))) ∧ ((v2 = 0) → (gCl' 191 [.ref 1] μ1 (fun μ3 r => (∃ v4, r = .inl (some (.int v4)) ∧ (((¬ v4 = 0) → (gWp none 207 (21, [some (.ref 1), some (.int (0 : Int32)), some (.int (0 : Int32)), none], [], μ3) 0 P)) ∧ ((v4 = 0) → (P μ3 (.inl (some (.int (0 : Int32))))))))))))))) : gWp none 207 (0, [some (.ref 1), none, none, none], [], μ) 0 P := by
  refine gWp_sts gT_207 2 (f' := (2, [some (.ref 1), none, none, none], [.int (1 : Int32), .ref 1], μ)) (cs := []) rfl trivial ?_
  refine gWp_virt gT_207 (pc := 2) (q := 1) (as := [.ref 1, .int (1 : Int32)]) (rest := []) rfl rfl rfl rfl rfl rfl ⟨by decide, Nat.le_of_ble_eq_true rfl, by decide, Nat.le_of_ble_eq_true rfl⟩ (gWp_imp h (fun μ1 r h => ?_))
  obtain ⟨v2, rfl, h⟩ := h
  refine Or.inl ⟨_, rfl, ?_⟩
  show gWp none 207 (5, [some (.ref 1), none, none, none], [.int v2], μ1) _ P
  refine gWp_if gT_207 (pc := 5) rfl ⟨fun c => ?_, fun c => ?_⟩
  · replace h := h.1 (of_decide_eq_true c)
    refine gWp_sts gT_207 1 (f' := (16, [some (.ref 1), none, none, none], [.int (0 : Int32)], μ1)) (cs := []) rfl trivial ?_
    exact gWp_end gT_207 rfl (gEnd_int trivial) h
  · replace h := h.2 (Classical.not_not.mp (fun q => c (decide_eq_true q)))
    refine gWp_sts gT_207 1 (f' := (9, [some (.ref 1), none, none, none], [.ref 1], μ1)) (cs := []) rfl trivial ?_
    refine gWp_virt gT_207 (pc := 9) (q := 1) (as := [.ref 1]) (rest := []) rfl rfl rfl rfl rfl rfl ⟨by decide, Nat.le_of_ble_eq_true rfl, by decide, Nat.le_of_ble_eq_true rfl⟩ (gWp_imp h (fun μ3 r h => ?_))
    obtain ⟨v4, rfl, h⟩ := h
    refine Or.inl ⟨_, rfl, ?_⟩
    show gWp none 207 (12, [some (.ref 1), none, none, none], [.int v4], μ3) _ P
    refine gWp_if gT_207 (pc := 12) rfl ⟨fun c => ?_, fun c => ?_⟩
    · replace h := h.1 (of_decide_eq_true c)
      refine gWp_sts gT_207 4 (f' := (21, [some (.ref 1), some (.int (0 : Int32)), some (.int (0 : Int32)), none], [], μ3)) (cs := []) rfl trivial ?_
      exact h
    · replace h := h.2 (Classical.not_not.mp (fun q => c (decide_eq_true q)))
      refine gWp_sts gT_207 1 (f' := (16, [some (.ref 1), none, none, none], [.int (0 : Int32)], μ3)) (cs := []) rfl trivial ?_
      exact gWp_end gT_207 rfl (gEnd_int trivial) h
/-! GlyphmillModel.partOf -/
theorem gT_208 : gCode[208]? = some gC_208 := rfl
set_option maxRecDepth 20000 in
theorem vc_208_4 {μ : gMu} {x1 : Int32} {x2 : Int32} {x3 : Int32} {P : gMu → gRes → Prop} (h : ((x1 ≤ x3) → (P μ (.inl (some (.int x2))))) ∧ ((¬ x1 ≤ x3) → ((vp_in x2 51) ∧ (gWp none 208 (4, [some (.ref 1), some (.int x1), some (.int (gI μ 61 x2.toNatClampNeg)), some (.int (x3 + (1 : Int32)))], [], μ) 0 P)))) : gWp none 208 (4, [some (.ref 1), some (.int x1), some (.int x2), some (.int x3)], [], μ) 0 P := by
  refine gWp_sts gT_208 2 (f' := (6, [some (.ref 1), some (.int x1), some (.int x2), some (.int x3)], [.int x1, .int x3], μ)) (cs := []) rfl trivial ?_
  refine gWp_icmp gT_208 (pc := 6) rfl ⟨fun c => ?_, fun c => ?_⟩
  · replace h := h.1 (of_decide_eq_true c)
    refine gWp_sts gT_208 1 (f' := (23, [some (.ref 1), some (.int x1), some (.int x2), some (.int x3)], [.int x2], μ)) (cs := []) rfl trivial ?_
    exact gWp_end gT_208 rfl (gEnd_int trivial) h
  · replace h := h.2 (fun q => c (decide_eq_true q))
    obtain ⟨c1, h⟩ := h
    refine gWp_sts gT_208 7 (f' := (4, [some (.ref 1), some (.int x1), some (.int (gI μ 61 x2.toNatClampNeg)), some (.int (x3 + (1 : Int32)))], [], μ)) (cs := [vp_in x2 51]) rfl c1 ?_
    exact h
set_option maxRecDepth 20000 in
theorem vc_208 {μ : gMu} {x1 : Int32} {P : gMu → gRes → Prop} (h : gWp none 208 (4, [some (.ref 1), some (.int x1), some (.int (0 : Int32)), some (.int (0 : Int32))], [], μ) 0 P) : gWp none 208 (0, [some (.ref 1), some (.int x1), none, none], [], μ) 0 P := by
  refine gWp_sts gT_208 4 (f' := (4, [some (.ref 1), some (.int x1), some (.int (0 : Int32)), some (.int (0 : Int32))], [], μ)) (cs := []) rfl trivial ?_
  exact h
/-! GlyphmillModel.begins -/
theorem gT_209 : gCode[209]? = some gC_209 := rfl
set_option maxRecDepth 20000 in
theorem vc_209 {μ : gMu} {x1 : Int32} {P : gMu → gRes → Prop} (h : gCl' 204 [.ref 1, .int (1 : Int32)] μ (fun μ1 r => (∃ v2, r = .inl (some (.int v2)) ∧ (((v2 = 0) → (gCl' 205 [.ref 1] μ1 (fun μ3 r => (∃ v4, r = .inl (some (.int v4)) ∧ (gCl' 153 [.int x1, .int (0 : Int32), .int (v4 - (1 : Int32))] μ3 (fun μ5 r => (∃ v6, r = .inl (some (.int v6)) ∧ (((v6 = 0) → ((((2 : Int32) ≤ 0) → (gCl' 208 [.ref 1, .int x1] (gsI μ5 1 9 (2 : Int32)) (fun μ7 r => (∃ v8, r = .inl (some (.int v8)) ∧ (P μ7 (.inl (some (.int v8)))))))) ∧ ((¬ (2 : Int32) ≤ 0) → (P (gsI μ5 1 9 (2 : Int32)) (.inl (some (.int (-1 : Int32)))))))) ∧ ((¬ v6 = 0) → ((((0 : Int32) ≤ 0) → (gCl' 208 [.ref 1, .int x1] (gsI μ5 1 9 (0 : Int32)) (fun μ9 r => (∃ v10, r = .inl (some (.int v10)) ∧ (P μ9 (.inl (some (.int v10)))))))) ∧ ((¬ (0 : Int32) ≤ 0) → (P (gsI μ5 1 9 (0 : Int32)) (.inl (some (.int (-1 : Int32)))))))))))))))) ∧ ((¬ v2 = 0) → (P μ1 (.inl (some (.int (-1 : Int32)))))))))) : gWp none 209 (0, [some (.ref 1), some (.int x1)], [], μ) 0 P := by
  refine gWp_sts gT_209 2 (f' := (2, [some (.ref 1), some (.int x1)], [.int (1 : Int32), .ref 1], μ)) (cs := []) rfl trivial ?_
  refine gWp_virt gT_209 (pc := 2) (q := 1) (as := [.ref 1, .int (1 : Int32)]) (rest := []) rfl rfl rfl rfl rfl rfl ⟨by decide, Nat.le_of_ble_eq_true rfl, by decide, Nat.le_of_ble_eq_true rfl⟩ (gWp_imp h (fun μ1 r h => ?_))
  obtain ⟨v2, rfl, h⟩ := h
  refine Or.inl ⟨_, rfl, ?_⟩
  show gWp none 209 (5, [some (.ref 1), some (.int x1)], [.int v2], μ1) _ P
  refine gWp_if gT_209 (pc := 5) rfl ⟨fun c => ?_, fun c => ?_⟩
  · replace h := h.1 (of_decide_eq_true c)
    refine gWp_sts gT_209 4 (f' := (14, [some (.ref 1), some (.int x1)], [.ref 1, .int (0 : Int32), .int x1, .ref 1], μ1)) (cs := []) rfl trivial ?_
    refine gWp_virt gT_209 (pc := 14) (q := 1) (as := [.ref 1]) (rest := [.int (0 : Int32), .int x1, .ref 1]) rfl rfl rfl rfl rfl rfl ⟨by decide, Nat.le_of_ble_eq_true rfl, by decide, Nat.le_of_ble_eq_true rfl⟩ (gWp_imp h (fun μ3 r h => ?_))
    obtain ⟨v4, rfl, h⟩ := h
    refine Or.inl ⟨_, rfl, ?_⟩
    show gWp none 209 (17, [some (.ref 1), some (.int x1)], [.int v4, .int (0 : Int32), .int x1, .ref 1], μ3) _ P
    refine gWp_sts gT_209 2 (f' := (19, [some (.ref 1), some (.int x1)], [.int (v4 - (1 : Int32)), .int (0 : Int32), .int x1, .ref 1], μ3)) (cs := []) rfl trivial ?_
    refine gWp_stat gT_209 (pc := 19) (c01 := 0) (as := [.int x1, .int (0 : Int32), .int (v4 - (1 : Int32))]) (rest := [.ref 1]) rfl (Or.inl rfl) rfl rfl rfl ⟨by decide, Nat.le_of_ble_eq_true rfl, by decide, Nat.le_of_ble_eq_true rfl⟩ (gWp_imp h (fun μ5 r h => ?_))
    obtain ⟨v6, rfl, h⟩ := h
    refine Or.inl ⟨_, rfl, ?_⟩
    show gWp none 209 (22, [some (.ref 1), some (.int x1)], [.int v6, .ref 1], μ5) _ P
    refine gWp_if gT_209 (pc := 22) rfl ⟨fun c => ?_, fun c => ?_⟩
    · replace h := h.1 (of_decide_eq_true c)
      refine gWp_sts gT_209 4 (f' := (37, [some (.ref 1), some (.int x1)], [.int (2 : Int32)], (gsI μ5 1 9 (2 : Int32)))) (cs := []) rfl trivial ?_
      refine gWp_if gT_209 (pc := 37) rfl ⟨fun c => ?_, fun c => ?_⟩
      · replace h := h.1 (of_decide_eq_true c)
        refine gWp_sts gT_209 2 (f' := (46, [some (.ref 1), some (.int x1)], [.int x1, .ref 1], (gsI μ5 1 9 (2 : Int32)))) (cs := []) rfl trivial ?_
        refine gWp_virt gT_209 (pc := 46) (q := 1) (as := [.ref 1, .int x1]) (rest := []) rfl rfl rfl rfl rfl rfl ⟨by decide, Nat.le_of_ble_eq_true rfl, by decide, Nat.le_of_ble_eq_true rfl⟩ (gWp_imp h (fun μ7 r h => ?_))
        obtain ⟨v8, rfl, h⟩ := h
        refine Or.inl ⟨_, rfl, ?_⟩
        show gWp none 209 (49, [some (.ref 1), some (.int x1)], [.int v8], μ7) _ P
        exact gWp_end gT_209 rfl (gEnd_int trivial) h
      · replace h := h.2 (fun q => c (decide_eq_true q))
        refine gWp_sts gT_209 2 (f' := (49, [some (.ref 1), some (.int x1)], [.int (-1 : Int32)], (gsI μ5 1 9 (2 : Int32)))) (cs := []) rfl trivial ?_
        exact gWp_end gT_209 rfl (gEnd_int trivial) h
    · replace h := h.2 (fun q => c (decide_eq_true q))
      refine gWp_sts gT_209 5 (f' := (37, [some (.ref 1), some (.int x1)], [.int (0 : Int32)], (gsI μ5 1 9 (0 : Int32)))) (cs := []) rfl trivial ?_
      refine gWp_if gT_209 (pc := 37) rfl ⟨fun c => ?_, fun c => ?_⟩
      · replace h := h.1 (of_decide_eq_true c)
        refine gWp_sts gT_209 2 (f' := (46, [some (.ref 1), some (.int x1)], [.int x1, .ref 1], (gsI μ5 1 9 (0 : Int32)))) (cs := []) rfl trivial ?_
        refine gWp_virt gT_209 (pc := 46) (q := 1) (as := [.ref 1, .int x1]) (rest := []) rfl rfl rfl rfl rfl rfl ⟨by decide, Nat.le_of_ble_eq_true rfl, by decide, Nat.le_of_ble_eq_true rfl⟩ (gWp_imp h (fun μ9 r h => ?_))
        obtain ⟨v10, rfl, h⟩ := h
        refine Or.inl ⟨_, rfl, ?_⟩
        show gWp none 209 (49, [some (.ref 1), some (.int x1)], [.int v10], μ9) _ P
        exact gWp_end gT_209 rfl (gEnd_int trivial) h
      · replace h := h.2 (fun q => c (decide_eq_true q))
        refine gWp_sts gT_209 2 (f' := (49, [some (.ref 1), some (.int x1)], [.int (-1 : Int32)], (gsI μ5 1 9 (0 : Int32)))) (cs := []) rfl trivial ?_
        exact gWp_end gT_209 rfl (gEnd_int trivial) h
  · replace h := h.2 (fun q => c (decide_eq_true q))
    refine gWp_sts gT_209 1 (f' := (9, [some (.ref 1), some (.int x1)], [.int (-1 : Int32)], μ1)) (cs := []) rfl trivial ?_
    exact gWp_end gT_209 rfl (gEnd_int trivial) h
/-! GlyphmillModel.firstOf -/
theorem gT_210 : gCode[210]? = some gC_210 := rfl
set_option maxRecDepth 20000 in
theorem vc_210 {μ : gMu} {x1 : Int32} {P : gMu → gRes → Prop} (h : gCl' 209 [.ref 1, .int x1] μ (fun μ1 r => (∃ v2, r = .inl (some (.int v2)) ∧ (((¬ v2 = (-1 : Int32)) → ((vp_in v2 51) ∧ ((vp_in (gI μ1 58 v2.toNatClampNeg) 50) ∧ (P μ1 (.inl (some (.int (gI μ1 49 ((gI μ1 58 v2.toNatClampNeg).toNatClampNeg))))))))) ∧ ((v2 = (-1 : Int32)) → (P μ1 (.inl (some (.int (0 : Int32)))))))))) : gWp none 210 (0, [some (.ref 1), some (.int x1), none], [], μ) 0 P := by
  refine gWp_sts gT_210 2 (f' := (2, [some (.ref 1), some (.int x1), none], [.int x1, .ref 1], μ)) (cs := []) rfl trivial ?_
  refine gWp_virt gT_210 (pc := 2) (q := 1) (as := [.ref 1, .int x1]) (rest := []) rfl rfl rfl rfl rfl rfl ⟨by decide, Nat.le_of_ble_eq_true rfl, by decide, Nat.le_of_ble_eq_true rfl⟩ (gWp_imp h (fun μ1 r h => ?_))
  obtain ⟨v2, rfl, h⟩ := h
  refine Or.inl ⟨_, rfl, ?_⟩
  show gWp none 210 (5, [some (.ref 1), some (.int x1), none], [.int v2], μ1) _ P
  refine gWp_sts gT_210 3 (f' := (8, [some (.ref 1), some (.int x1), some (.int v2)], [.int (-1 : Int32), .int v2], μ1)) (cs := []) rfl trivial ?_
  refine gWp_icmp gT_210 (pc := 8) rfl ⟨fun c => ?_, fun c => ?_⟩
  · replace h := h.1 (of_decide_eq_true c)
    obtain ⟨c1, c2, h⟩ := h
    refine gWp_sts gT_210 7 (f' := (26, [some (.ref 1), some (.int x1), some (.int v2)], [.int (gI μ1 49 ((gI μ1 58 v2.toNatClampNeg).toNatClampNeg))], μ1)) (cs := [vp_in v2 51, vp_in (gI μ1 58 v2.toNatClampNeg) 50]) rfl ⟨c1, c2⟩ ?_
    exact gWp_end gT_210 rfl (gEnd_int trivial) h
  · replace h := h.2 (Classical.not_not.mp (fun q => c (decide_eq_true q)))
    refine gWp_sts gT_210 2 (f' := (26, [some (.ref 1), some (.int x1), some (.int v2)], [.int (0 : Int32)], μ1)) (cs := []) rfl trivial ?_
    exact gWp_end gT_210 rfl (gEnd_int trivial) h
/-! GlyphmillModel.line -/
theorem gT_211 : gCode[211]? = some gC_211 := rfl
set_option maxRecDepth 20000 in
theorem vc_211_51 {μ : gMu} {x1 : Int32} {x2 : Int32} {x3 : Int32} {x4 : Int32} {P : gMu → gRes → Prop} (h : (vp_in x4 51) ∧ ((vp_in (gI μ 61 x4.toNatClampNeg) 51) ∧ (((x2 < (gI μ 58 ((gI μ 61 x4.toNatClampNeg).toNatClampNeg))) → (P μ (.inl (some (.int x3))))) ∧ ((¬ x2 < (gI μ 58 ((gI μ 61 x4.toNatClampNeg).toNatClampNeg))) → ((vp_in x4 51) ∧ (gWp none 211 (51, [some (.ref 1), some (.int x1), some (.int x2), some (.int (x3 + (1 : Int32))), some (.int (gI μ 61 x4.toNatClampNeg))], [], μ) 0 P)))))) : gWp none 211 (51, [some (.ref 1), some (.int x1), some (.int x2), some (.int x3), some (.int x4)], [], μ) 0 P := by
  obtain ⟨c1, c2, h⟩ := h
  refine gWp_sts gT_211 8 (f' := (64, [some (.ref 1), some (.int x1), some (.int x2), some (.int x3), some (.int x4)], [.int x2, .int (gI μ 58 ((gI μ 61 x4.toNatClampNeg).toNatClampNeg))], μ)) (cs := [vp_in x4 51, vp_in (gI μ 61 x4.toNatClampNeg) 51]) rfl ⟨c1, c2⟩ ?_
  refine gWp_icmp gT_211 (pc := 64) rfl ⟨fun c => ?_, fun c => ?_⟩
  · replace h := h.1 (of_decide_eq_true c)
    refine gWp_sts gT_211 1 (f' := (83, [some (.ref 1), some (.int x1), some (.int x2), some (.int x3), some (.int x4)], [.int x3], μ)) (cs := []) rfl trivial ?_
    exact gWp_end gT_211 rfl (gEnd_int trivial) h
  · replace h := h.2 (fun q => c (decide_eq_true q))
    obtain ⟨c1, h⟩ := h
    refine gWp_sts gT_211 7 (f' := (51, [some (.ref 1), some (.int x1), some (.int x2), some (.int (x3 + (1 : Int32))), some (.int (gI μ 61 x4.toNatClampNeg))], [], μ)) (cs := [vp_in x4 51]) rfl c1 ?_
    exact h
set_option maxRecDepth 20000 in
theorem vc_211 {μ : gMu} {x1 : Int32} {P : gMu → gRes → Prop} (h : gCl' 180 [.ref 1, .int x1] μ (fun μ1 r => (∃ v2, r = .inl (some (.int v2)) ∧ (((v2 = (-1 : Int32)) → (P μ1 (.inl (some (.int (-1 : Int32)))))) ∧ ((¬ v2 = (-1 : Int32)) → (gCl' 204 [.ref 1, .int (3 : Int32)] μ1 (fun μ3 r => (∃ v4, r = .inl (some (.int v4)) ∧ (((v4 = 0) → (gCl' 191 [.ref 1] μ3 (fun μ5 r => (∃ v6, r = .inl (some (.int v6)) ∧ (((v6 = 0) → ((((4 : Int32) ≤ 0) → (gWp none 211 (51, [some (.ref 1), some (.int x1), some (.int v2), some (.int (0 : Int32)), some (.int (0 : Int32))], [], (gsI μ5 1 9 (4 : Int32))) 0 P)) ∧ ((¬ (4 : Int32) ≤ 0) → (P (gsI μ5 1 9 (4 : Int32)) (.inl (some (.int (-1 : Int32)))))))) ∧ ((¬ v6 = 0) → ((((0 : Int32) ≤ 0) → (gWp none 211 (51, [some (.ref 1), some (.int x1), some (.int v2), some (.int (0 : Int32)), some (.int (0 : Int32))], [], (gsI μ5 1 9 (0 : Int32))) 0 P)) ∧ ((¬ (0 : Int32) ≤ 0) → (P (gsI μ5 1 9 (0 : Int32)) (.inl (some (.int (-1 : Int32))))))))))))) ∧ ((¬ v4 = 0) → (P μ3 (.inl (some (.int (-1 : Int32))))))))))))))) : gWp none 211 (0, [some (.ref 1), some (.int x1), none, none, none], [], μ) 0 P := by
  refine gWp_sts gT_211 2 (f' := (2, [some (.ref 1), some (.int x1), none, none, none], [.int x1, .ref 1], μ)) (cs := []) rfl trivial ?_
  refine gWp_virt gT_211 (pc := 2) (q := 1) (as := [.ref 1, .int x1]) (rest := []) rfl rfl rfl rfl rfl rfl ⟨by decide, Nat.le_of_ble_eq_true rfl, by decide, Nat.le_of_ble_eq_true rfl⟩ (gWp_imp h (fun μ1 r h => ?_))
  obtain ⟨v2, rfl, h⟩ := h
  refine Or.inl ⟨_, rfl, ?_⟩
  show gWp none 211 (5, [some (.ref 1), some (.int x1), none, none, none], [.int v2], μ1) _ P
  refine gWp_sts gT_211 3 (f' := (8, [some (.ref 1), some (.int x1), some (.int v2), none, none], [.int (-1 : Int32), .int v2], μ1)) (cs := []) rfl trivial ?_
  refine gWp_icmp gT_211 (pc := 8) rfl ⟨fun c => ?_, fun c => ?_⟩
  · replace h := h.1 (of_decide_eq_true c)
    refine gWp_sts gT_211 1 (f' := (20, [some (.ref 1), some (.int x1), some (.int v2), none, none], [.int (-1 : Int32)], μ1)) (cs := []) rfl trivial ?_
    exact gWp_end gT_211 rfl (gEnd_int trivial) h
  · replace h := h.2 (fun q => c (decide_eq_true q))
    refine gWp_sts gT_211 2 (f' := (13, [some (.ref 1), some (.int x1), some (.int v2), none, none], [.int (3 : Int32), .ref 1], μ1)) (cs := []) rfl trivial ?_
    refine gWp_virt gT_211 (pc := 13) (q := 1) (as := [.ref 1, .int (3 : Int32)]) (rest := []) rfl rfl rfl rfl rfl rfl ⟨by decide, Nat.le_of_ble_eq_true rfl, by decide, Nat.le_of_ble_eq_true rfl⟩ (gWp_imp h (fun μ3 r h => ?_))
    obtain ⟨v4, rfl, h⟩ := h
    refine Or.inl ⟨_, rfl, ?_⟩
    show gWp none 211 (16, [some (.ref 1), some (.int x1), some (.int v2), none, none], [.int v4], μ3) _ P
    refine gWp_if gT_211 (pc := 16) rfl ⟨fun c => ?_, fun c => ?_⟩
    · replace h := h.1 (of_decide_eq_true c)
      refine gWp_sts gT_211 2 (f' := (23, [some (.ref 1), some (.int x1), some (.int v2), none, none], [.ref 1, .ref 1], μ3)) (cs := []) rfl trivial ?_
      refine gWp_virt gT_211 (pc := 23) (q := 1) (as := [.ref 1]) (rest := [.ref 1]) rfl rfl rfl rfl rfl rfl ⟨by decide, Nat.le_of_ble_eq_true rfl, by decide, Nat.le_of_ble_eq_true rfl⟩ (gWp_imp h (fun μ5 r h => ?_))
      obtain ⟨v6, rfl, h⟩ := h
      refine Or.inl ⟨_, rfl, ?_⟩
      show gWp none 211 (26, [some (.ref 1), some (.int x1), some (.int v2), none, none], [.int v6, .ref 1], μ5) _ P
      refine gWp_if gT_211 (pc := 26) rfl ⟨fun c => ?_, fun c => ?_⟩
      · replace h := h.1 (of_decide_eq_true c)
        refine gWp_sts gT_211 4 (f' := (41, [some (.ref 1), some (.int x1), some (.int v2), none, none], [.int (4 : Int32)], (gsI μ5 1 9 (4 : Int32)))) (cs := []) rfl trivial ?_
        refine gWp_if gT_211 (pc := 41) rfl ⟨fun c => ?_, fun c => ?_⟩
        · replace h := h.1 (of_decide_eq_true c)
          refine gWp_sts gT_211 4 (f' := (51, [some (.ref 1), some (.int x1), some (.int v2), some (.int (0 : Int32)), some (.int (0 : Int32))], [], (gsI μ5 1 9 (4 : Int32)))) (cs := []) rfl trivial ?_
          exact h
        · replace h := h.2 (fun q => c (decide_eq_true q))
          refine gWp_sts gT_211 1 (f' := (45, [some (.ref 1), some (.int x1), some (.int v2), none, none], [.int (-1 : Int32)], (gsI μ5 1 9 (4 : Int32)))) (cs := []) rfl trivial ?_
          exact gWp_end gT_211 rfl (gEnd_int trivial) h
      · replace h := h.2 (fun q => c (decide_eq_true q))
        refine gWp_sts gT_211 5 (f' := (41, [some (.ref 1), some (.int x1), some (.int v2), none, none], [.int (0 : Int32)], (gsI μ5 1 9 (0 : Int32)))) (cs := []) rfl trivial ?_
        refine gWp_if gT_211 (pc := 41) rfl ⟨fun c => ?_, fun c => ?_⟩
        · replace h := h.1 (of_decide_eq_true c)
          refine gWp_sts gT_211 4 (f' := (51, [some (.ref 1), some (.int x1), some (.int v2), some (.int (0 : Int32)), some (.int (0 : Int32))], [], (gsI μ5 1 9 (0 : Int32)))) (cs := []) rfl trivial ?_
          exact h
        · replace h := h.2 (fun q => c (decide_eq_true q))
          refine gWp_sts gT_211 1 (f' := (45, [some (.ref 1), some (.int x1), some (.int v2), none, none], [.int (-1 : Int32)], (gsI μ5 1 9 (0 : Int32)))) (cs := []) rfl trivial ?_
          exact gWp_end gT_211 rfl (gEnd_int trivial) h
    · replace h := h.2 (fun q => c (decide_eq_true q))
      refine gWp_sts gT_211 1 (f' := (20, [some (.ref 1), some (.int x1), some (.int v2), none, none], [.int (-1 : Int32)], μ3)) (cs := []) rfl trivial ?_
      exact gWp_end gT_211 rfl (gEnd_int trivial) h
/-! GlyphmillModel.lineOf -/
theorem gT_212 : gCode[212]? = some gC_212 := rfl
set_option maxRecDepth 20000 in
theorem vc_212 {μ : gMu} {x1 : Int32} {P : gMu → gRes → Prop} (h : gCl' 211 [.ref 1, .int x1] μ (fun μ1 r => (∃ v2, r = .inl (some (.int v2)) ∧ (((¬ v2 = (-1 : Int32)) → (P μ1 (.inl (some (.int v2))))) ∧ ((v2 = (-1 : Int32)) → (P μ1 (.inl (some (.int (0 : Int32)))))))))) : gWp none 212 (0, [some (.ref 1), some (.int x1), none], [], μ) 0 P := by
  refine gWp_sts gT_212 2 (f' := (2, [some (.ref 1), some (.int x1), none], [.int x1, .ref 1], μ)) (cs := []) rfl trivial ?_
  refine gWp_virt gT_212 (pc := 2) (q := 1) (as := [.ref 1, .int x1]) (rest := []) rfl rfl rfl rfl rfl rfl ⟨by decide, Nat.le_of_ble_eq_true rfl, by decide, Nat.le_of_ble_eq_true rfl⟩ (gWp_imp h (fun μ1 r h => ?_))
  obtain ⟨v2, rfl, h⟩ := h
  refine Or.inl ⟨_, rfl, ?_⟩
  show gWp none 212 (5, [some (.ref 1), some (.int x1), none], [.int v2], μ1) _ P
  refine gWp_sts gT_212 3 (f' := (8, [some (.ref 1), some (.int x1), some (.int v2)], [.int (-1 : Int32), .int v2], μ1)) (cs := []) rfl trivial ?_
  refine gWp_icmp gT_212 (pc := 8) rfl ⟨fun c => ?_, fun c => ?_⟩
  · replace h := h.1 (of_decide_eq_true c)
    refine gWp_sts gT_212 1 (f' := (16, [some (.ref 1), some (.int x1), some (.int v2)], [.int v2], μ1)) (cs := []) rfl trivial ?_
    exact gWp_end gT_212 rfl (gEnd_int trivial) h
  · replace h := h.2 (Classical.not_not.mp (fun q => c (decide_eq_true q)))
    refine gWp_sts gT_212 2 (f' := (16, [some (.ref 1), some (.int x1), some (.int v2)], [.int (0 : Int32)], μ1)) (cs := []) rfl trivial ?_
    exact gWp_end gT_212 rfl (gEnd_int trivial) h
/-! GlyphmillModel.widthOf -/
theorem gT_213 : gCode[213]? = some gC_213 := rfl
set_option maxRecDepth 20000 in
theorem vc_213 {μ : gMu} {x1 : Int32} {P : gMu → gRes → Prop} (h : gCl' 209 [.ref 1, .int x1] μ (fun μ1 r => (∃ v2, r = .inl (some (.int v2)) ∧ (((¬ v2 = (-1 : Int32)) → ((vp_in v2 51) ∧ (gCl' 194 [.ref 1, .int v2, .int (gI μ1 61 v2.toNatClampNeg)] μ1 (fun μ3 r => (∃ v4, r = .inl (some (.int v4)) ∧ (P μ3 (.inl (some (.int v4))))))))) ∧ ((v2 = (-1 : Int32)) → (P μ1 (.inl (some (.int (0 : Int32)))))))))) : gWp none 213 (0, [some (.ref 1), some (.int x1), none], [], μ) 0 P := by
  refine gWp_sts gT_213 2 (f' := (2, [some (.ref 1), some (.int x1), none], [.int x1, .ref 1], μ)) (cs := []) rfl trivial ?_
  refine gWp_virt gT_213 (pc := 2) (q := 1) (as := [.ref 1, .int x1]) (rest := []) rfl rfl rfl rfl rfl rfl ⟨by decide, Nat.le_of_ble_eq_true rfl, by decide, Nat.le_of_ble_eq_true rfl⟩ (gWp_imp h (fun μ1 r h => ?_))
  obtain ⟨v2, rfl, h⟩ := h
  refine Or.inl ⟨_, rfl, ?_⟩
  show gWp none 213 (5, [some (.ref 1), some (.int x1), none], [.int v2], μ1) _ P
  refine gWp_sts gT_213 3 (f' := (8, [some (.ref 1), some (.int x1), some (.int v2)], [.int (-1 : Int32), .int v2], μ1)) (cs := []) rfl trivial ?_
  refine gWp_icmp gT_213 (pc := 8) rfl ⟨fun c => ?_, fun c => ?_⟩
  · replace h := h.1 (of_decide_eq_true c)
    obtain ⟨c1, h⟩ := h
    refine gWp_sts gT_213 6 (f' := (23, [some (.ref 1), some (.int x1), some (.int v2)], [.int (gI μ1 61 v2.toNatClampNeg), .int v2, .ref 1], μ1)) (cs := [vp_in v2 51]) rfl c1 ?_
    refine gWp_virt gT_213 (pc := 23) (q := 1) (as := [.ref 1, .int v2, .int (gI μ1 61 v2.toNatClampNeg)]) (rest := []) rfl rfl rfl rfl rfl rfl ⟨by decide, Nat.le_of_ble_eq_true rfl, by decide, Nat.le_of_ble_eq_true rfl⟩ (gWp_imp h (fun μ3 r h => ?_))
    obtain ⟨v4, rfl, h⟩ := h
    refine Or.inl ⟨_, rfl, ?_⟩
    show gWp none 213 (26, [some (.ref 1), some (.int x1), some (.int v2)], [.int v4], μ3) _ P
    exact gWp_end gT_213 rfl (gEnd_int trivial) h
  · replace h := h.2 (Classical.not_not.mp (fun q => c (decide_eq_true q)))
    refine gWp_sts gT_213 2 (f' := (26, [some (.ref 1), some (.int x1), some (.int v2)], [.int (0 : Int32)], μ1)) (cs := []) rfl trivial ?_
    exact gWp_end gT_213 rfl (gEnd_int trivial) h
/-! GlyphmillModel.badnessOf -/
theorem gT_214 : gCode[214]? = some gC_214 := rfl
set_option maxRecDepth 20000 in
theorem vc_214 {μ : gMu} {x1 : Int32} {P : gMu → gRes → Prop} (h : gCl' 209 [.ref 1, .int x1] μ (fun μ1 r => (∃ v2, r = .inl (some (.int v2)) ∧ (((¬ v2 = (-1 : Int32)) → ((vp_in v2 51) ∧ (gCl' 200 [.ref 1, .int v2, .int (gI μ1 61 v2.toNatClampNeg)] μ1 (fun μ3 r => (∃ v4, r = .inl (some (.int v4)) ∧ (P μ3 (.inl (some (.int v4))))))))) ∧ ((v2 = (-1 : Int32)) → (P μ1 (.inl (some (.int (0 : Int32)))))))))) : gWp none 214 (0, [some (.ref 1), some (.int x1), none], [], μ) 0 P := by
  refine gWp_sts gT_214 2 (f' := (2, [some (.ref 1), some (.int x1), none], [.int x1, .ref 1], μ)) (cs := []) rfl trivial ?_
  refine gWp_virt gT_214 (pc := 2) (q := 1) (as := [.ref 1, .int x1]) (rest := []) rfl rfl rfl rfl rfl rfl ⟨by decide, Nat.le_of_ble_eq_true rfl, by decide, Nat.le_of_ble_eq_true rfl⟩ (gWp_imp h (fun μ1 r h => ?_))
  obtain ⟨v2, rfl, h⟩ := h
  refine Or.inl ⟨_, rfl, ?_⟩
  show gWp none 214 (5, [some (.ref 1), some (.int x1), none], [.int v2], μ1) _ P
  refine gWp_sts gT_214 3 (f' := (8, [some (.ref 1), some (.int x1), some (.int v2)], [.int (-1 : Int32), .int v2], μ1)) (cs := []) rfl trivial ?_
  refine gWp_icmp gT_214 (pc := 8) rfl ⟨fun c => ?_, fun c => ?_⟩
  · replace h := h.1 (of_decide_eq_true c)
    obtain ⟨c1, h⟩ := h
    refine gWp_sts gT_214 6 (f' := (23, [some (.ref 1), some (.int x1), some (.int v2)], [.int (gI μ1 61 v2.toNatClampNeg), .int v2, .ref 1], μ1)) (cs := [vp_in v2 51]) rfl c1 ?_
    refine gWp_virt gT_214 (pc := 23) (q := 1) (as := [.ref 1, .int v2, .int (gI μ1 61 v2.toNatClampNeg)]) (rest := []) rfl rfl rfl rfl rfl rfl ⟨by decide, Nat.le_of_ble_eq_true rfl, by decide, Nat.le_of_ble_eq_true rfl⟩ (gWp_imp h (fun μ3 r h => ?_))
    obtain ⟨v4, rfl, h⟩ := h
    refine Or.inl ⟨_, rfl, ?_⟩
    show gWp none 214 (26, [some (.ref 1), some (.int x1), some (.int v2)], [.int v4], μ3) _ P
    exact gWp_end gT_214 rfl (gEnd_int trivial) h
  · replace h := h.2 (Classical.not_not.mp (fun q => c (decide_eq_true q)))
    refine gWp_sts gT_214 2 (f' := (26, [some (.ref 1), some (.int x1), some (.int v2)], [.int (0 : Int32)], μ1)) (cs := []) rfl trivial ?_
    exact gWp_end gT_214 rfl (gEnd_int trivial) h
/-! GlyphmillModel.demerits -/
theorem gT_215 : gCode[215]? = some gC_215 := rfl
set_option maxRecDepth 20000 in
theorem vc_215 {μ : gMu} {P : gMu → gRes → Prop} (h : gCl' 204 [.ref 1, .int (1 : Int32)] μ (fun μ1 r => (∃ v2, r = .inl (some (.int v2)) ∧ (((¬ v2 = 0) → (P μ1 (.inl (some (.long (0 : Int64)))))) ∧ ((v2 = 0) → (gCl' 191 [.ref 1] μ1 (fun μ3 r => (∃ v4, r = .inl (some (.int v4)) ∧ (((¬ v4 = 0) → ((vp_in (0 : Int32) 51) ∧ (P μ3 (.inl (some (.long (gJ μ3 59 ((0 : Int32).toNatClampNeg)))))))) ∧ ((v4 = 0) → (P μ3 (.inl (some (.long (0 : Int64))))))))))))))) : gWp none 215 (0, [some (.ref 1)], [], μ) 0 P := by
  refine gWp_sts gT_215 2 (f' := (2, [some (.ref 1)], [.int (1 : Int32), .ref 1], μ)) (cs := []) rfl trivial ?_
  refine gWp_virt gT_215 (pc := 2) (q := 1) (as := [.ref 1, .int (1 : Int32)]) (rest := []) rfl rfl rfl rfl rfl rfl ⟨by decide, Nat.le_of_ble_eq_true rfl, by decide, Nat.le_of_ble_eq_true rfl⟩ (gWp_imp h (fun μ1 r h => ?_))
  obtain ⟨v2, rfl, h⟩ := h
  refine Or.inl ⟨_, rfl, ?_⟩
  show gWp none 215 (5, [some (.ref 1)], [.int v2], μ1) _ P
  refine gWp_if gT_215 (pc := 5) rfl ⟨fun c => ?_, fun c => ?_⟩
  · replace h := h.1 (of_decide_eq_true c)
    refine gWp_sts gT_215 2 (f' := (25, [some (.ref 1)], [.long (0 : Int64)], μ1)) (cs := []) rfl trivial ?_
    exact gWp_end gT_215 rfl rfl h
  · replace h := h.2 (Classical.not_not.mp (fun q => c (decide_eq_true q)))
    refine gWp_sts gT_215 1 (f' := (9, [some (.ref 1)], [.ref 1], μ1)) (cs := []) rfl trivial ?_
    refine gWp_virt gT_215 (pc := 9) (q := 1) (as := [.ref 1]) (rest := []) rfl rfl rfl rfl rfl rfl ⟨by decide, Nat.le_of_ble_eq_true rfl, by decide, Nat.le_of_ble_eq_true rfl⟩ (gWp_imp h (fun μ3 r h => ?_))
    obtain ⟨v4, rfl, h⟩ := h
    refine Or.inl ⟨_, rfl, ?_⟩
    show gWp none 215 (12, [some (.ref 1)], [.int v4], μ3) _ P
    refine gWp_if gT_215 (pc := 12) rfl ⟨fun c => ?_, fun c => ?_⟩
    · replace h := h.1 (of_decide_eq_true c)
      obtain ⟨c1, h⟩ := h
      refine gWp_sts gT_215 4 (f' := (25, [some (.ref 1)], [.long (gJ μ3 59 ((0 : Int32).toNatClampNeg))], μ3)) (cs := [vp_in (0 : Int32) 51]) rfl c1 ?_
      exact gWp_end gT_215 rfl rfl h
    · replace h := h.2 (Classical.not_not.mp (fun q => c (decide_eq_true q)))
      refine gWp_sts gT_215 2 (f' := (25, [some (.ref 1)], [.long (0 : Int64)], μ3)) (cs := []) rfl trivial ?_
      exact gWp_end gT_215 rfl rfl h
/-! GlyphmillModel.demeritsByTrying -/
theorem gT_216 : gCode[216]? = some gC_216 := rfl
set_option maxRecDepth 20000 in
theorem vc_216 {μ : gMu} {P : gMu → gRes → Prop} (h : gCl' 204 [.ref 1, .int (1 : Int32)] μ (fun μ1 r => (∃ v2, r = .inl (some (.int v2)) ∧ (((¬ v2 = 0) → (((0 < (gI μ1 1 9)) → (P μ1 (.inl (some (.long (0 : Int64)))))) ∧ ((¬ 0 < (gI μ1 1 9)) → (gCl' 191 [.ref 1] μ1 (fun μ3 r => (∃ v4, r = .inl (some (.int v4)) ∧ (((¬ v4 = 0) → ((vp_in (0 : Int32) 51) ∧ (P μ3 (.inl (some (.long (gJ μ3 59 ((0 : Int32).toNatClampNeg)))))))) ∧ ((v4 = 0) → (P μ3 (.inl (some (.long (0 : Int64))))))))))))) ∧ ((v2 = 0) → ((((gI μ1 1 23) ≤ (10 : Int32)) → (((0 < (gI μ1 1 9)) → (P μ1 (.inl (some (.long (0 : Int64)))))) ∧ ((¬ 0 < (gI μ1 1 9)) → (gCl' 191 [.ref 1] μ1 (fun μ5 r => (∃ v6, r = .inl (some (.int v6)) ∧ (((¬ v6 = 0) → ((vp_in (0 : Int32) 51) ∧ (P μ5 (.inl (some (.long (gJ μ5 59 ((0 : Int32).toNatClampNeg)))))))) ∧ ((v6 = 0) → (P μ5 (.inl (some (.long (0 : Int64))))))))))))) ∧ ((¬ (gI μ1 1 23) ≤ (10 : Int32)) → (gCl' 161 [.ref 1, .int (2 : Int32)] μ1 (fun μ7 r => (∃ v8, r = .inl (some (.int v8)) ∧ (((0 < (gI μ7 1 9)) → (P μ7 (.inl (some (.long (0 : Int64)))))) ∧ ((¬ 0 < (gI μ7 1 9)) → (gCl' 191 [.ref 1] μ7 (fun μ9 r => (∃ v10, r = .inl (some (.int v10)) ∧ (((¬ v10 = 0) → ((vp_in (0 : Int32) 51) ∧ (P μ9 (.inl (some (.long (gJ μ9 59 ((0 : Int32).toNatClampNeg)))))))) ∧ ((v10 = 0) → (P μ9 (.inl (some (.long (0 : Int64)))))))))))))))))))))) : gWp none 216 (0, [some (.ref 1)], [], μ) 0 P := by
  refine gWp_sts gT_216 2 (f' := (2, [some (.ref 1)], [.int (1 : Int32), .ref 1], μ)) (cs := []) rfl trivial ?_
  refine gWp_virt gT_216 (pc := 2) (q := 1) (as := [.ref 1, .int (1 : Int32)]) (rest := []) rfl rfl rfl rfl rfl rfl ⟨by decide, Nat.le_of_ble_eq_true rfl, by decide, Nat.le_of_ble_eq_true rfl⟩ (gWp_imp h (fun μ1 r h => ?_))
  obtain ⟨v2, rfl, h⟩ := h
  refine Or.inl ⟨_, rfl, ?_⟩
  show gWp none 216 (5, [some (.ref 1)], [.int v2], μ1) _ P
  refine gWp_if gT_216 (pc := 5) rfl ⟨fun c => ?_, fun c => ?_⟩
  · replace h := h.1 (of_decide_eq_true c)
    refine gWp_sts gT_216 2 (f' := (27, [some (.ref 1)], [.int (gI μ1 1 9)], μ1)) (cs := []) rfl trivial ?_
    refine gWp_if gT_216 (pc := 27) rfl ⟨fun c => ?_, fun c => ?_⟩
    · replace h := h.1 (of_decide_eq_true c)
      refine gWp_sts gT_216 2 (f' := (47, [some (.ref 1)], [.long (0 : Int64)], μ1)) (cs := []) rfl trivial ?_
      exact gWp_end gT_216 rfl rfl h
    · replace h := h.2 (fun q => c (decide_eq_true q))
      refine gWp_sts gT_216 1 (f' := (31, [some (.ref 1)], [.ref 1], μ1)) (cs := []) rfl trivial ?_
      refine gWp_virt gT_216 (pc := 31) (q := 1) (as := [.ref 1]) (rest := []) rfl rfl rfl rfl rfl rfl ⟨by decide, Nat.le_of_ble_eq_true rfl, by decide, Nat.le_of_ble_eq_true rfl⟩ (gWp_imp h (fun μ3 r h => ?_))
      obtain ⟨v4, rfl, h⟩ := h
      refine Or.inl ⟨_, rfl, ?_⟩
      show gWp none 216 (34, [some (.ref 1)], [.int v4], μ3) _ P
      refine gWp_if gT_216 (pc := 34) rfl ⟨fun c => ?_, fun c => ?_⟩
      · replace h := h.1 (of_decide_eq_true c)
        obtain ⟨c1, h⟩ := h
        refine gWp_sts gT_216 4 (f' := (47, [some (.ref 1)], [.long (gJ μ3 59 ((0 : Int32).toNatClampNeg))], μ3)) (cs := [vp_in (0 : Int32) 51]) rfl c1 ?_
        exact gWp_end gT_216 rfl rfl h
      · replace h := h.2 (Classical.not_not.mp (fun q => c (decide_eq_true q)))
        refine gWp_sts gT_216 2 (f' := (47, [some (.ref 1)], [.long (0 : Int64)], μ3)) (cs := []) rfl trivial ?_
        exact gWp_end gT_216 rfl rfl h
  · replace h := h.2 (Classical.not_not.mp (fun q => c (decide_eq_true q)))
    refine gWp_sts gT_216 3 (f' := (14, [some (.ref 1)], [.int (10 : Int32), .int (gI μ1 1 23)], μ1)) (cs := []) rfl trivial ?_
    refine gWp_icmp gT_216 (pc := 14) rfl ⟨fun c => ?_, fun c => ?_⟩
    · replace h := h.1 (of_decide_eq_true c)
      refine gWp_sts gT_216 2 (f' := (27, [some (.ref 1)], [.int (gI μ1 1 9)], μ1)) (cs := []) rfl trivial ?_
      refine gWp_if gT_216 (pc := 27) rfl ⟨fun c => ?_, fun c => ?_⟩
      · replace h := h.1 (of_decide_eq_true c)
        refine gWp_sts gT_216 2 (f' := (47, [some (.ref 1)], [.long (0 : Int64)], μ1)) (cs := []) rfl trivial ?_
        exact gWp_end gT_216 rfl rfl h
      · replace h := h.2 (fun q => c (decide_eq_true q))
        refine gWp_sts gT_216 1 (f' := (31, [some (.ref 1)], [.ref 1], μ1)) (cs := []) rfl trivial ?_
        refine gWp_virt gT_216 (pc := 31) (q := 1) (as := [.ref 1]) (rest := []) rfl rfl rfl rfl rfl rfl ⟨by decide, Nat.le_of_ble_eq_true rfl, by decide, Nat.le_of_ble_eq_true rfl⟩ (gWp_imp h (fun μ5 r h => ?_))
        obtain ⟨v6, rfl, h⟩ := h
        refine Or.inl ⟨_, rfl, ?_⟩
        show gWp none 216 (34, [some (.ref 1)], [.int v6], μ5) _ P
        refine gWp_if gT_216 (pc := 34) rfl ⟨fun c => ?_, fun c => ?_⟩
        · replace h := h.1 (of_decide_eq_true c)
          obtain ⟨c1, h⟩ := h
          refine gWp_sts gT_216 4 (f' := (47, [some (.ref 1)], [.long (gJ μ5 59 ((0 : Int32).toNatClampNeg))], μ5)) (cs := [vp_in (0 : Int32) 51]) rfl c1 ?_
          exact gWp_end gT_216 rfl rfl h
        · replace h := h.2 (Classical.not_not.mp (fun q => c (decide_eq_true q)))
          refine gWp_sts gT_216 2 (f' := (47, [some (.ref 1)], [.long (0 : Int64)], μ5)) (cs := []) rfl trivial ?_
          exact gWp_end gT_216 rfl rfl h
    · replace h := h.2 (fun q => c (decide_eq_true q))
      refine gWp_sts gT_216 2 (f' := (19, [some (.ref 1)], [.int (2 : Int32), .ref 1], μ1)) (cs := []) rfl trivial ?_
      refine gWp_virt gT_216 (pc := 19) (q := 1) (as := [.ref 1, .int (2 : Int32)]) (rest := []) rfl rfl rfl rfl rfl rfl ⟨by decide, Nat.le_of_ble_eq_true rfl, by decide, Nat.le_of_ble_eq_true rfl⟩ (gWp_imp h (fun μ7 r h => ?_))
      obtain ⟨v8, rfl, h⟩ := h
      refine Or.inl ⟨_, rfl, ?_⟩
      show gWp none 216 (22, [some (.ref 1)], [.int v8], μ7) _ P
      refine gWp_sts gT_216 3 (f' := (27, [some (.ref 1)], [.int (gI μ7 1 9)], μ7)) (cs := [(Value.int v8 : Value).category = 1]) rfl rfl ?_
      refine gWp_if gT_216 (pc := 27) rfl ⟨fun c => ?_, fun c => ?_⟩
      · replace h := h.1 (of_decide_eq_true c)
        refine gWp_sts gT_216 2 (f' := (47, [some (.ref 1)], [.long (0 : Int64)], μ7)) (cs := []) rfl trivial ?_
        exact gWp_end gT_216 rfl rfl h
      · replace h := h.2 (fun q => c (decide_eq_true q))
        refine gWp_sts gT_216 1 (f' := (31, [some (.ref 1)], [.ref 1], μ7)) (cs := []) rfl trivial ?_
        refine gWp_virt gT_216 (pc := 31) (q := 1) (as := [.ref 1]) (rest := []) rfl rfl rfl rfl rfl rfl ⟨by decide, Nat.le_of_ble_eq_true rfl, by decide, Nat.le_of_ble_eq_true rfl⟩ (gWp_imp h (fun μ9 r h => ?_))
        obtain ⟨v10, rfl, h⟩ := h
        refine Or.inl ⟨_, rfl, ?_⟩
        show gWp none 216 (34, [some (.ref 1)], [.int v10], μ9) _ P
        refine gWp_if gT_216 (pc := 34) rfl ⟨fun c => ?_, fun c => ?_⟩
        · replace h := h.1 (of_decide_eq_true c)
          obtain ⟨c1, h⟩ := h
          refine gWp_sts gT_216 4 (f' := (47, [some (.ref 1)], [.long (gJ μ9 59 ((0 : Int32).toNatClampNeg))], μ9)) (cs := [vp_in (0 : Int32) 51]) rfl c1 ?_
          exact gWp_end gT_216 rfl rfl h
        · replace h := h.2 (Classical.not_not.mp (fun q => c (decide_eq_true q)))
          refine gWp_sts gT_216 2 (f' := (47, [some (.ref 1)], [.long (0 : Int64)], μ9)) (cs := []) rfl trivial ?_
          exact gWp_end gT_216 rfl rfl h
/-! GlyphmillModel.linesByTrying -/
theorem gT_217 : gCode[217]? = some gC_217 := rfl
set_option maxRecDepth 20000 in
theorem vc_217 {μ : gMu} {P : gMu → gRes → Prop} (h : gCl' 204 [.ref 1, .int (1 : Int32)] μ (fun μ1 r => (∃ v2, r = .inl (some (.int v2)) ∧ (((¬ v2 = 0) → ((((gI μ1 1 9) ≤ 0) → (gCl' 205 [.ref 1] μ1 (fun μ3 r => (∃ v4, r = .inl (some (.int v4)) ∧ (P μ3 (.inl (some (.int v4)))))))) ∧ ((¬ (gI μ1 1 9) ≤ 0) → (P μ1 (.inl (some (.int (0 : Int32)))))))) ∧ ((v2 = 0) → ((((gI μ1 1 23) ≤ (10 : Int32)) → ((((gI μ1 1 9) ≤ 0) → (gCl' 205 [.ref 1] μ1 (fun μ5 r => (∃ v6, r = .inl (some (.int v6)) ∧ (P μ5 (.inl (some (.int v6)))))))) ∧ ((¬ (gI μ1 1 9) ≤ 0) → (P μ1 (.inl (some (.int (0 : Int32)))))))) ∧ ((¬ (gI μ1 1 23) ≤ (10 : Int32)) → (gCl' 161 [.ref 1, .int (2 : Int32)] μ1 (fun μ7 r => (∃ v8, r = .inl (some (.int v8)) ∧ ((((gI μ7 1 9) ≤ 0) → (gCl' 205 [.ref 1] μ7 (fun μ9 r => (∃ v10, r = .inl (some (.int v10)) ∧ (P μ9 (.inl (some (.int v10)))))))) ∧ ((¬ (gI μ7 1 9) ≤ 0) → (P μ7 (.inl (some (.int (0 : Int32))))))))))))))))) : gWp none 217 (0, [some (.ref 1)], [], μ) 0 P := by
  refine gWp_sts gT_217 2 (f' := (2, [some (.ref 1)], [.int (1 : Int32), .ref 1], μ)) (cs := []) rfl trivial ?_
  refine gWp_virt gT_217 (pc := 2) (q := 1) (as := [.ref 1, .int (1 : Int32)]) (rest := []) rfl rfl rfl rfl rfl rfl ⟨by decide, Nat.le_of_ble_eq_true rfl, by decide, Nat.le_of_ble_eq_true rfl⟩ (gWp_imp h (fun μ1 r h => ?_))
  obtain ⟨v2, rfl, h⟩ := h
  refine Or.inl ⟨_, rfl, ?_⟩
  show gWp none 217 (5, [some (.ref 1)], [.int v2], μ1) _ P
  refine gWp_if gT_217 (pc := 5) rfl ⟨fun c => ?_, fun c => ?_⟩
  · replace h := h.1 (of_decide_eq_true c)
    refine gWp_sts gT_217 2 (f' := (27, [some (.ref 1)], [.int (gI μ1 1 9)], μ1)) (cs := []) rfl trivial ?_
    refine gWp_if gT_217 (pc := 27) rfl ⟨fun c => ?_, fun c => ?_⟩
    · replace h := h.1 (of_decide_eq_true c)
      refine gWp_sts gT_217 1 (f' := (35, [some (.ref 1)], [.ref 1], μ1)) (cs := []) rfl trivial ?_
      refine gWp_virt gT_217 (pc := 35) (q := 1) (as := [.ref 1]) (rest := []) rfl rfl rfl rfl rfl rfl ⟨by decide, Nat.le_of_ble_eq_true rfl, by decide, Nat.le_of_ble_eq_true rfl⟩ (gWp_imp h (fun μ3 r h => ?_))
      obtain ⟨v4, rfl, h⟩ := h
      refine Or.inl ⟨_, rfl, ?_⟩
      show gWp none 217 (38, [some (.ref 1)], [.int v4], μ3) _ P
      exact gWp_end gT_217 rfl (gEnd_int trivial) h
    · replace h := h.2 (fun q => c (decide_eq_true q))
      refine gWp_sts gT_217 2 (f' := (38, [some (.ref 1)], [.int (0 : Int32)], μ1)) (cs := []) rfl trivial ?_
      exact gWp_end gT_217 rfl (gEnd_int trivial) h
  · replace h := h.2 (Classical.not_not.mp (fun q => c (decide_eq_true q)))
    refine gWp_sts gT_217 3 (f' := (14, [some (.ref 1)], [.int (10 : Int32), .int (gI μ1 1 23)], μ1)) (cs := []) rfl trivial ?_
    refine gWp_icmp gT_217 (pc := 14) rfl ⟨fun c => ?_, fun c => ?_⟩
    · replace h := h.1 (of_decide_eq_true c)
      refine gWp_sts gT_217 2 (f' := (27, [some (.ref 1)], [.int (gI μ1 1 9)], μ1)) (cs := []) rfl trivial ?_
      refine gWp_if gT_217 (pc := 27) rfl ⟨fun c => ?_, fun c => ?_⟩
      · replace h := h.1 (of_decide_eq_true c)
        refine gWp_sts gT_217 1 (f' := (35, [some (.ref 1)], [.ref 1], μ1)) (cs := []) rfl trivial ?_
        refine gWp_virt gT_217 (pc := 35) (q := 1) (as := [.ref 1]) (rest := []) rfl rfl rfl rfl rfl rfl ⟨by decide, Nat.le_of_ble_eq_true rfl, by decide, Nat.le_of_ble_eq_true rfl⟩ (gWp_imp h (fun μ5 r h => ?_))
        obtain ⟨v6, rfl, h⟩ := h
        refine Or.inl ⟨_, rfl, ?_⟩
        show gWp none 217 (38, [some (.ref 1)], [.int v6], μ5) _ P
        exact gWp_end gT_217 rfl (gEnd_int trivial) h
      · replace h := h.2 (fun q => c (decide_eq_true q))
        refine gWp_sts gT_217 2 (f' := (38, [some (.ref 1)], [.int (0 : Int32)], μ1)) (cs := []) rfl trivial ?_
        exact gWp_end gT_217 rfl (gEnd_int trivial) h
    · replace h := h.2 (fun q => c (decide_eq_true q))
      refine gWp_sts gT_217 2 (f' := (19, [some (.ref 1)], [.int (2 : Int32), .ref 1], μ1)) (cs := []) rfl trivial ?_
      refine gWp_virt gT_217 (pc := 19) (q := 1) (as := [.ref 1, .int (2 : Int32)]) (rest := []) rfl rfl rfl rfl rfl rfl ⟨by decide, Nat.le_of_ble_eq_true rfl, by decide, Nat.le_of_ble_eq_true rfl⟩ (gWp_imp h (fun μ7 r h => ?_))
      obtain ⟨v8, rfl, h⟩ := h
      refine Or.inl ⟨_, rfl, ?_⟩
      show gWp none 217 (22, [some (.ref 1)], [.int v8], μ7) _ P
      refine gWp_sts gT_217 3 (f' := (27, [some (.ref 1)], [.int (gI μ7 1 9)], μ7)) (cs := [(Value.int v8 : Value).category = 1]) rfl rfl ?_
      refine gWp_if gT_217 (pc := 27) rfl ⟨fun c => ?_, fun c => ?_⟩
      · replace h := h.1 (of_decide_eq_true c)
        refine gWp_sts gT_217 1 (f' := (35, [some (.ref 1)], [.ref 1], μ7)) (cs := []) rfl trivial ?_
        refine gWp_virt gT_217 (pc := 35) (q := 1) (as := [.ref 1]) (rest := []) rfl rfl rfl rfl rfl rfl ⟨by decide, Nat.le_of_ble_eq_true rfl, by decide, Nat.le_of_ble_eq_true rfl⟩ (gWp_imp h (fun μ9 r h => ?_))
        obtain ⟨v10, rfl, h⟩ := h
        refine Or.inl ⟨_, rfl, ?_⟩
        show gWp none 217 (38, [some (.ref 1)], [.int v10], μ9) _ P
        exact gWp_end gT_217 rfl (gEnd_int trivial) h
      · replace h := h.2 (fun q => c (decide_eq_true q))
        refine gWp_sts gT_217 2 (f' := (38, [some (.ref 1)], [.int (0 : Int32)], μ7)) (cs := []) rfl trivial ?_
        exact gWp_end gT_217 rfl (gEnd_int trivial) h
/-! GlyphmillModel.laysRow -/
theorem gT_218 : gCode[218]? = some gC_218 := rfl
set_option maxRecDepth 20000 in
theorem vc_218_139 {μ : gMu} {x1 : Int32} {x2 : Int32} {x3 : Int32} {x4 : Int32} {x5 : Int32} {x6 : Int32} {x7 : Int32} {P : gMu → gRes → Prop} (h : ((x7 ≤ x6) → (gWp none 218 (85, [some (.ref 1), some (.int x1), some (.int x2), some (.int x3), some (.int (x5 + (1 : Int32))), some (.int x5), some (.int x6), some (.int x7), none], [], μ) 0 P)) ∧ ((¬ x7 ≤ x6) → ((vp_in x6 50) ∧ ((vp_in x7 50) ∧ ((vp_in x6 50) ∧ ((vp_in x7 50) ∧ (gWp none 218 (139, [some (.ref 1), some (.int x1), some (.int x2), some (.int x3), some (.int x4), some (.int x5), some (.int (x6 + (1 : Int32))), some (.int (x7 + (-1 : Int32))), some (.int (gI μ 63 x6.toNatClampNeg))], [], (gsI (gsI μ 63 x6.toNatClampNeg (gI μ 63 x7.toNatClampNeg)) 63 x7.toNatClampNeg (gI μ 63 x6.toNatClampNeg))) 0 P))))))) : gWp none 218 (139, [some (.ref 1), some (.int x1), some (.int x2), some (.int x3), some (.int x4), some (.int x5), some (.int x6), some (.int x7), none], [], μ) 0 P := by
  refine gWp_sts gT_218 2 (f' := (143, [some (.ref 1), some (.int x1), some (.int x2), some (.int x3), some (.int x4), some (.int x5), some (.int x6), some (.int x7), none], [.int x7, .int x6], μ)) (cs := []) rfl trivial ?_
  refine gWp_icmp gT_218 (pc := 143) rfl ⟨fun c => ?_, fun c => ?_⟩
  · replace h := h.1 (of_decide_eq_true c)
    refine gWp_sts gT_218 5 (f' := (85, [some (.ref 1), some (.int x1), some (.int x2), some (.int x3), some (.int (x5 + (1 : Int32))), some (.int x5), some (.int x6), some (.int x7), none], [], μ)) (cs := []) rfl trivial ?_
    exact h
  · replace h := h.2 (fun q => c (decide_eq_true q))
    obtain ⟨c1, c2, c3, c4, h⟩ := h
    refine gWp_sts gT_218 21 (f' := (139, [some (.ref 1), some (.int x1), some (.int x2), some (.int x3), some (.int x4), some (.int x5), some (.int (x6 + (1 : Int32))), some (.int (x7 + (-1 : Int32))), some (.int (gI μ 63 x6.toNatClampNeg))], [], (gsI (gsI μ 63 x6.toNatClampNeg (gI μ 63 x7.toNatClampNeg)) 63 x7.toNatClampNeg (gI μ 63 x6.toNatClampNeg)))) (cs := [vp_in x6 50, vp_in x7 50, vp_in x6 50, vp_in x7 50]) rfl ⟨c1, c2, c3, c4⟩ ?_
    exact h
set_option maxRecDepth 20000 in
theorem vc_218_98 {μ : gMu} {x1 : Int32} {x2 : Int32} {x3 : Int32} {x4 : Int32} {x5 : Int32} {P : gMu → gRes → Prop} (h : (((gI μ 1 29) ≤ x5) → (gWp none 218 (139, [some (.ref 1), some (.int x1), some (.int x2), some (.int x3), some (.int x4), some (.int x5), some (.int x4), some (.int (x5 - (1 : Int32))), none], [], μ) 0 P)) ∧ ((¬ (gI μ 1 29) ≤ x5) → ((vp_in x5 50) ∧ ((vp_in (gI μ 63 x5.toNatClampNeg) 50) ∧ ((((gI μ 52 ((gI μ 63 x5.toNatClampNeg).toNatClampNeg)) < x3) → (gWp none 218 (139, [some (.ref 1), some (.int x1), some (.int x2), some (.int x3), some (.int x4), some (.int x5), some (.int x4), some (.int (x5 - (1 : Int32))), none], [], μ) 0 P)) ∧ ((¬ (gI μ 52 ((gI μ 63 x5.toNatClampNeg).toNatClampNeg)) < x3) → (gWp none 218 (98, [some (.ref 1), some (.int x1), some (.int x2), some (.int x3), some (.int x4), some (.int (x5 + (1 : Int32))), none, none, none], [], μ) 0 P))))))) : gWp none 218 (98, [some (.ref 1), some (.int x1), some (.int x2), some (.int x3), some (.int x4), some (.int x5), none, none, none], [], μ) 0 P := by
  refine gWp_sts gT_218 3 (f' := (104, [some (.ref 1), some (.int x1), some (.int x2), some (.int x3), some (.int x4), some (.int x5), none, none, none], [.int (gI μ 1 29), .int x5], μ)) (cs := []) rfl trivial ?_
  refine gWp_icmp gT_218 (pc := 104) rfl ⟨fun c => ?_, fun c => ?_⟩
  · replace h := h.1 (of_decide_eq_true c)
    refine gWp_sts gT_218 6 (f' := (139, [some (.ref 1), some (.int x1), some (.int x2), some (.int x3), some (.int x4), some (.int x5), some (.int x4), some (.int (x5 - (1 : Int32))), none], [], μ)) (cs := []) rfl trivial ?_
    exact h
  · replace h := h.2 (fun q => c (decide_eq_true q))
    obtain ⟨c1, c2, h⟩ := h
    refine gWp_sts gT_218 8 (f' := (120, [some (.ref 1), some (.int x1), some (.int x2), some (.int x3), some (.int x4), some (.int x5), none, none, none], [.int x3, .int (gI μ 52 ((gI μ 63 x5.toNatClampNeg).toNatClampNeg))], μ)) (cs := [vp_in x5 50, vp_in (gI μ 63 x5.toNatClampNeg) 50]) rfl ⟨c1, c2⟩ ?_
    refine gWp_icmp gT_218 (pc := 120) rfl ⟨fun c => ?_, fun c => ?_⟩
    · replace h := h.1 (of_decide_eq_true c)
      refine gWp_sts gT_218 6 (f' := (139, [some (.ref 1), some (.int x1), some (.int x2), some (.int x3), some (.int x4), some (.int x5), some (.int x4), some (.int (x5 - (1 : Int32))), none], [], μ)) (cs := []) rfl trivial ?_
      exact h
    · replace h := h.2 (fun q => c (decide_eq_true q))
      refine gWp_sts gT_218 2 (f' := (98, [some (.ref 1), some (.int x1), some (.int x2), some (.int x3), some (.int x4), some (.int (x5 + (1 : Int32))), none, none, none], [], μ)) (cs := []) rfl trivial ?_
      exact h
set_option maxRecDepth 20000 in
theorem vc_218_85 {μ : gMu} {x1 : Int32} {x2 : Int32} {x3 : Int32} {x4 : Int32} {P : gMu → gRes → Prop} (h : (((gI μ 1 29) ≤ x4) → (gWp none 218 (78, [some (.ref 1), some (.int x1), some (.int x2), some (.int (x3 + (-1 : Int32))), some (.int x4), none, none, none, none], [], μ) 0 P)) ∧ ((¬ (gI μ 1 29) ≤ x4) → (gWp none 218 (98, [some (.ref 1), some (.int x1), some (.int x2), some (.int x3), some (.int x4), some (.int x4), none, none, none], [], μ) 0 P))) : gWp none 218 (85, [some (.ref 1), some (.int x1), some (.int x2), some (.int x3), some (.int x4), none, none, none, none], [], μ) 0 P := by
  refine gWp_sts gT_218 3 (f' := (91, [some (.ref 1), some (.int x1), some (.int x2), some (.int x3), some (.int x4), none, none, none, none], [.int (gI μ 1 29), .int x4], μ)) (cs := []) rfl trivial ?_
  refine gWp_icmp gT_218 (pc := 91) rfl ⟨fun c => ?_, fun c => ?_⟩
  · replace h := h.1 (of_decide_eq_true c)
    refine gWp_sts gT_218 2 (f' := (78, [some (.ref 1), some (.int x1), some (.int x2), some (.int (x3 + (-1 : Int32))), some (.int x4), none, none, none, none], [], μ)) (cs := []) rfl trivial ?_
    exact h
  · replace h := h.2 (fun q => c (decide_eq_true q))
    refine gWp_sts gT_218 2 (f' := (98, [some (.ref 1), some (.int x1), some (.int x2), some (.int x3), some (.int x4), some (.int x4), none, none, none], [], μ)) (cs := []) rfl trivial ?_
    exact h
set_option maxRecDepth 20000 in
theorem vc_218_78 {μ : gMu} {x1 : Int32} {x2 : Int32} {x3 : Int32} {P : gMu → gRes → Prop} (h : ((x3 ≤ 0) → (P μ (.inl none))) ∧ ((¬ x3 ≤ 0) → (gWp none 218 (85, [some (.ref 1), some (.int x1), some (.int x2), some (.int x3), some (.int (0 : Int32)), none, none, none, none], [], μ) 0 P))) : gWp none 218 (78, [some (.ref 1), some (.int x1), some (.int x2), some (.int x3), none, none, none, none, none], [], μ) 0 P := by
  refine gWp_sts gT_218 1 (f' := (79, [some (.ref 1), some (.int x1), some (.int x2), some (.int x3), none, none, none, none, none], [.int x3], μ)) (cs := []) rfl trivial ?_
  refine gWp_if gT_218 (pc := 79) rfl ⟨fun c => ?_, fun c => ?_⟩
  · replace h := h.1 (of_decide_eq_true c)
    exact gWp_end gT_218 rfl rfl h
  · replace h := h.2 (fun q => c (decide_eq_true q))
    refine gWp_sts gT_218 2 (f' := (85, [some (.ref 1), some (.int x1), some (.int x2), some (.int x3), some (.int (0 : Int32)), none, none, none, none], [], μ)) (cs := []) rfl trivial ?_
    exact h
set_option maxRecDepth 20000 in
theorem vc_218_14 {μ : gMu} {x1 : Int32} {x2 : Int32} {x3 : Int32} {P : gMu → gRes → Prop} (h : (vp_in x1 51) ∧ (gCl' 192 [.ref 1, .int x1, .int (gI μ 61 x1.toNatClampNeg)] μ (fun μ1 r => (∃ v2, r = .inl (some (.int v2)) ∧ (((v2 ≤ x3) → (gWp none 218 (78, [some (.ref 1), some (.int x1), some (.int x2), some (.int x2), none, none, none, none, none], [], μ1) 0 P)) ∧ ((¬ v2 ≤ x3) → ((vp_in x3 50) ∧ (((¬ (gI μ1 56 x3.toNatClampNeg) = x3) → (gWp none 218 (14, [some (.ref 1), some (.int x1), some (.int x2), some (.int (x3 + (1 : Int32))), none, none, none, none, none], [], μ1) 0 P)) ∧ (((gI μ1 56 x3.toNatClampNeg) = x3) → ((vp_in (gI μ1 1 29) 50) ∧ ((vp_in x3 50) ∧ (gWp none 218 (14, [some (.ref 1), some (.int x1), some (.int (if x2 < (gI μ1 52 x3.toNatClampNeg) then gI μ1 52 x3.toNatClampNeg else x2)), some (.int (x3 + (1 : Int32))), none, none, none, none, none], [], (gsI (gsI μ1 63 ((gI μ1 1 29).toNatClampNeg) x3) 1 29 ((gI μ1 1 29) + (1 : Int32)))) 0 P)))))))))))) : gWp none 218 (14, [some (.ref 1), some (.int x1), some (.int x2), some (.int x3), none, none, none, none, none], [], μ) 0 P := by
  obtain ⟨c1, h⟩ := h
  refine gWp_sts gT_218 7 (f' := (23, [some (.ref 1), some (.int x1), some (.int x2), some (.int x3), none, none, none, none, none], [.int (gI μ 61 x1.toNatClampNeg), .int x1, .ref 1, .int x3], μ)) (cs := [vp_in x1 51]) rfl c1 ?_
  refine gWp_virt gT_218 (pc := 23) (q := 1) (as := [.ref 1, .int x1, .int (gI μ 61 x1.toNatClampNeg)]) (rest := [.int x3]) rfl rfl rfl rfl rfl rfl ⟨by decide, Nat.le_of_ble_eq_true rfl, by decide, Nat.le_of_ble_eq_true rfl⟩ (gWp_imp h (fun μ1 r h => ?_))
  obtain ⟨v2, rfl, h⟩ := h
  refine Or.inl ⟨_, rfl, ?_⟩
  show gWp none 218 (26, [some (.ref 1), some (.int x1), some (.int x2), some (.int x3), none, none, none, none, none], [.int v2, .int x3], μ1) _ P
  refine gWp_icmp gT_218 (pc := 26) rfl ⟨fun c => ?_, fun c => ?_⟩
  · replace h := h.1 (of_decide_eq_true c)
    refine gWp_sts gT_218 2 (f' := (78, [some (.ref 1), some (.int x1), some (.int x2), some (.int x2), none, none, none, none, none], [], μ1)) (cs := []) rfl trivial ?_
    exact h
  · replace h := h.2 (fun q => c (decide_eq_true q))
    obtain ⟨c1, h⟩ := h
    refine gWp_sts gT_218 5 (f' := (36, [some (.ref 1), some (.int x1), some (.int x2), some (.int x3), none, none, none, none, none], [.int x3, .int (gI μ1 56 x3.toNatClampNeg)], μ1)) (cs := [vp_in x3 50]) rfl c1 ?_
    refine gWp_icmp gT_218 (pc := 36) rfl ⟨fun c => ?_, fun c => ?_⟩
    · replace h := h.1 (of_decide_eq_true c)
      refine gWp_sts gT_218 2 (f' := (14, [some (.ref 1), some (.int x1), some (.int x2), some (.int (x3 + (1 : Int32))), none, none, none, none, none], [], μ1)) (cs := []) rfl trivial ?_
      exact h
    · replace h := h.2 (Classical.not_not.mp (fun q => c (decide_eq_true q)))
      obtain ⟨c1, c2, h⟩ := h
      refine gWp_sts gT_218 21 (f' := (14, [some (.ref 1), some (.int x1), some (.int (if x2 < (gI μ1 52 x3.toNatClampNeg) then gI μ1 52 x3.toNatClampNeg else x2)), some (.int (x3 + (1 : Int32))), none, none, none, none, none], [], (gsI (gsI μ1 63 ((gI μ1 1 29).toNatClampNeg) x3) 1 29 ((gI μ1 1 29) + (1 : Int32))))) (cs := [vp_in (gI μ1 1 29) 50, (Value.ref 1 : Value).category = 1, vp_in x3 50, (([] : List Value).map fun v => v.category).sum ≤ 8]) rfl ⟨c1, rfl, c2, (Nat.le_of_ble_eq_true rfl)⟩ ?_
      exact h
set_option maxRecDepth 20000 in
theorem vc_218 {μ : gMu} {x1 : Int32} {P : gMu → gRes → Prop} (h : (vp_in x1 51) ∧ (gWp none 218 (14, [some (.ref 1), some (.int x1), some (.int (0 : Int32)), some (.int (gI μ 58 x1.toNatClampNeg)), none, none, none, none, none], [], (gsI μ 1 29 (0 : Int32))) 0 P)) : gWp none 218 (0, [some (.ref 1), some (.int x1), none, none, none, none, none, none, none], [], μ) 0 P := by
  obtain ⟨c1, h⟩ := h
  refine gWp_sts gT_218 10 (f' := (14, [some (.ref 1), some (.int x1), some (.int (0 : Int32)), some (.int (gI μ 58 x1.toNatClampNeg)), none, none, none, none, none], [], (gsI μ 1 29 (0 : Int32)))) (cs := [vp_in x1 51]) rfl c1 ?_
  exact h
/-! GlyphmillModel.glyphsOf -/
theorem gT_219 : gCode[219]? = some gC_219 := rfl
set_option maxRecDepth 20000 in
theorem vc_219 {μ : gMu} {x1 : Int32} {P : gMu → gRes → Prop} (h : gCl' 209 [.ref 1, .int x1] μ (fun μ1 r => (∃ v2, r = .inl (some (.int v2)) ∧ (((¬ v2 = (-1 : Int32)) → (gCl' 218 [.ref 1, .int v2] μ1 (fun μ3 r => (r = .inl none ∧ (P μ3 (.inl (some (.int (gI μ3 1 29))))))))) ∧ ((v2 = (-1 : Int32)) → (P μ1 (.inl (some (.int (0 : Int32)))))))))) : gWp none 219 (0, [some (.ref 1), some (.int x1), none], [], μ) 0 P := by
  refine gWp_sts gT_219 2 (f' := (2, [some (.ref 1), some (.int x1), none], [.int x1, .ref 1], μ)) (cs := []) rfl trivial ?_
  refine gWp_virt gT_219 (pc := 2) (q := 1) (as := [.ref 1, .int x1]) (rest := []) rfl rfl rfl rfl rfl rfl ⟨by decide, Nat.le_of_ble_eq_true rfl, by decide, Nat.le_of_ble_eq_true rfl⟩ (gWp_imp h (fun μ1 r h => ?_))
  obtain ⟨v2, rfl, h⟩ := h
  refine Or.inl ⟨_, rfl, ?_⟩
  show gWp none 219 (5, [some (.ref 1), some (.int x1), none], [.int v2], μ1) _ P
  refine gWp_sts gT_219 3 (f' := (8, [some (.ref 1), some (.int x1), some (.int v2)], [.int (-1 : Int32), .int v2], μ1)) (cs := []) rfl trivial ?_
  refine gWp_icmp gT_219 (pc := 8) rfl ⟨fun c => ?_, fun c => ?_⟩
  · replace h := h.1 (of_decide_eq_true c)
    refine gWp_sts gT_219 2 (f' := (15, [some (.ref 1), some (.int x1), some (.int v2)], [.int v2, .ref 1], μ1)) (cs := []) rfl trivial ?_
    refine gWp_virt gT_219 (pc := 15) (q := 1) (as := [.ref 1, .int v2]) (rest := []) rfl rfl rfl rfl rfl rfl ⟨by decide, Nat.le_of_ble_eq_true rfl, by decide, Nat.le_of_ble_eq_true rfl⟩ (gWp_imp h (fun μ3 r h => ?_))
    obtain ⟨rfl, h⟩ := h
    refine Or.inl ⟨_, rfl, ?_⟩
    show gWp none 219 (18, [some (.ref 1), some (.int x1), some (.int v2)], [], μ3) _ P
    refine gWp_sts gT_219 2 (f' := (22, [some (.ref 1), some (.int x1), some (.int v2)], [.int (gI μ3 1 29)], μ3)) (cs := []) rfl trivial ?_
    exact gWp_end gT_219 rfl (gEnd_int trivial) h
  · replace h := h.2 (Classical.not_not.mp (fun q => c (decide_eq_true q)))
    refine gWp_sts gT_219 1 (f' := (12, [some (.ref 1), some (.int x1), some (.int v2)], [.int (0 : Int32)], μ1)) (cs := []) rfl trivial ?_
    exact gWp_end gT_219 rfl (gEnd_int trivial) h
/-! GlyphmillModel.glyphAt -/
theorem gT_220 : gCode[220]? = some gC_220 := rfl
set_option maxRecDepth 20000 in
theorem vc_220 {μ : gMu} {x1 : Int32} {x2 : Int32} {P : gMu → gRes → Prop} (h : gCl' 209 [.ref 1, .int x1] μ (fun μ1 r => (∃ v2, r = .inl (some (.int v2)) ∧ (((¬ v2 = (-1 : Int32)) → (gCl' 218 [.ref 1, .int v2] μ1 (fun μ3 r => (r = .inl none ∧ (gCl' 153 [.int x2, .int (0 : Int32), .int ((gI μ3 1 29) - (1 : Int32))] μ3 (fun μ4 r => (∃ v5, r = .inl (some (.int v5)) ∧ (((v5 = 0) → ((((2 : Int32) ≤ 0) → ((vp_in x2 50) ∧ ((vp_in (gI μ4 63 x2.toNatClampNeg) 50) ∧ (P (gsI μ4 1 9 (2 : Int32)) (.inl (some (.int (gI μ4 49 ((gI μ4 63 x2.toNatClampNeg).toNatClampNeg))))))))) ∧ ((¬ (2 : Int32) ≤ 0) → (P (gsI μ4 1 9 (2 : Int32)) (.inl (some (.int (0 : Int32)))))))) ∧ ((¬ v5 = 0) → ((((0 : Int32) ≤ 0) → ((vp_in x2 50) ∧ ((vp_in (gI μ4 63 x2.toNatClampNeg) 50) ∧ (P (gsI μ4 1 9 (0 : Int32)) (.inl (some (.int (gI μ4 49 ((gI μ4 63 x2.toNatClampNeg).toNatClampNeg))))))))) ∧ ((¬ (0 : Int32) ≤ 0) → (P (gsI μ4 1 9 (0 : Int32)) (.inl (some (.int (0 : Int32)))))))))))))))) ∧ ((v2 = (-1 : Int32)) → (P μ1 (.inl (some (.int (0 : Int32)))))))))) : gWp none 220 (0, [some (.ref 1), some (.int x1), some (.int x2), none], [], μ) 0 P := by
  refine gWp_sts gT_220 2 (f' := (2, [some (.ref 1), some (.int x1), some (.int x2), none], [.int x1, .ref 1], μ)) (cs := []) rfl trivial ?_
  refine gWp_virt gT_220 (pc := 2) (q := 1) (as := [.ref 1, .int x1]) (rest := []) rfl rfl rfl rfl rfl rfl ⟨by decide, Nat.le_of_ble_eq_true rfl, by decide, Nat.le_of_ble_eq_true rfl⟩ (gWp_imp h (fun μ1 r h => ?_))
  obtain ⟨v2, rfl, h⟩ := h
  refine Or.inl ⟨_, rfl, ?_⟩
  show gWp none 220 (5, [some (.ref 1), some (.int x1), some (.int x2), none], [.int v2], μ1) _ P
  refine gWp_sts gT_220 3 (f' := (8, [some (.ref 1), some (.int x1), some (.int x2), some (.int v2)], [.int (-1 : Int32), .int v2], μ1)) (cs := []) rfl trivial ?_
  refine gWp_icmp gT_220 (pc := 8) rfl ⟨fun c => ?_, fun c => ?_⟩
  · replace h := h.1 (of_decide_eq_true c)
    refine gWp_sts gT_220 2 (f' := (15, [some (.ref 1), some (.int x1), some (.int x2), some (.int v2)], [.int v2, .ref 1], μ1)) (cs := []) rfl trivial ?_
    refine gWp_virt gT_220 (pc := 15) (q := 1) (as := [.ref 1, .int v2]) (rest := []) rfl rfl rfl rfl rfl rfl ⟨by decide, Nat.le_of_ble_eq_true rfl, by decide, Nat.le_of_ble_eq_true rfl⟩ (gWp_imp h (fun μ3 r h => ?_))
    obtain ⟨rfl, h⟩ := h
    refine Or.inl ⟨_, rfl, ?_⟩
    show gWp none 220 (18, [some (.ref 1), some (.int x1), some (.int x2), some (.int v2)], [], μ3) _ P
    refine gWp_sts gT_220 7 (f' := (27, [some (.ref 1), some (.int x1), some (.int x2), some (.int v2)], [.int ((gI μ3 1 29) - (1 : Int32)), .int (0 : Int32), .int x2, .ref 1], μ3)) (cs := []) rfl trivial ?_
    refine gWp_stat gT_220 (pc := 27) (c01 := 0) (as := [.int x2, .int (0 : Int32), .int ((gI μ3 1 29) - (1 : Int32))]) (rest := [.ref 1]) rfl (Or.inl rfl) rfl rfl rfl ⟨by decide, Nat.le_of_ble_eq_true rfl, by decide, Nat.le_of_ble_eq_true rfl⟩ (gWp_imp h (fun μ4 r h => ?_))
    obtain ⟨v5, rfl, h⟩ := h
    refine Or.inl ⟨_, rfl, ?_⟩
    show gWp none 220 (30, [some (.ref 1), some (.int x1), some (.int x2), some (.int v2)], [.int v5, .ref 1], μ4) _ P
    refine gWp_if gT_220 (pc := 30) rfl ⟨fun c => ?_, fun c => ?_⟩
    · replace h := h.1 (of_decide_eq_true c)
      refine gWp_sts gT_220 4 (f' := (45, [some (.ref 1), some (.int x1), some (.int x2), some (.int v2)], [.int (2 : Int32)], (gsI μ4 1 9 (2 : Int32)))) (cs := []) rfl trivial ?_
      refine gWp_if gT_220 (pc := 45) rfl ⟨fun c => ?_, fun c => ?_⟩
      · replace h := h.1 (of_decide_eq_true c)
        obtain ⟨c1, c2, h⟩ := h
        refine gWp_sts gT_220 7 (f' := (63, [some (.ref 1), some (.int x1), some (.int x2), some (.int v2)], [.int (gI μ4 49 ((gI μ4 63 x2.toNatClampNeg).toNatClampNeg))], (gsI μ4 1 9 (2 : Int32)))) (cs := [vp_in x2 50, vp_in (gI μ4 63 x2.toNatClampNeg) 50]) rfl ⟨c1, c2⟩ ?_
        exact gWp_end gT_220 rfl (gEnd_int trivial) h
      · replace h := h.2 (fun q => c (decide_eq_true q))
        refine gWp_sts gT_220 2 (f' := (63, [some (.ref 1), some (.int x1), some (.int x2), some (.int v2)], [.int (0 : Int32)], (gsI μ4 1 9 (2 : Int32)))) (cs := []) rfl trivial ?_
        exact gWp_end gT_220 rfl (gEnd_int trivial) h
    · replace h := h.2 (fun q => c (decide_eq_true q))
      refine gWp_sts gT_220 5 (f' := (45, [some (.ref 1), some (.int x1), some (.int x2), some (.int v2)], [.int (0 : Int32)], (gsI μ4 1 9 (0 : Int32)))) (cs := []) rfl trivial ?_
      refine gWp_if gT_220 (pc := 45) rfl ⟨fun c => ?_, fun c => ?_⟩
      · replace h := h.1 (of_decide_eq_true c)
        obtain ⟨c1, c2, h⟩ := h
        refine gWp_sts gT_220 7 (f' := (63, [some (.ref 1), some (.int x1), some (.int x2), some (.int v2)], [.int (gI μ4 49 ((gI μ4 63 x2.toNatClampNeg).toNatClampNeg))], (gsI μ4 1 9 (0 : Int32)))) (cs := [vp_in x2 50, vp_in (gI μ4 63 x2.toNatClampNeg) 50]) rfl ⟨c1, c2⟩ ?_
        exact gWp_end gT_220 rfl (gEnd_int trivial) h
      · replace h := h.2 (fun q => c (decide_eq_true q))
        refine gWp_sts gT_220 2 (f' := (63, [some (.ref 1), some (.int x1), some (.int x2), some (.int v2)], [.int (0 : Int32)], (gsI μ4 1 9 (0 : Int32)))) (cs := []) rfl trivial ?_
        exact gWp_end gT_220 rfl (gEnd_int trivial) h
  · replace h := h.2 (Classical.not_not.mp (fun q => c (decide_eq_true q)))
    refine gWp_sts gT_220 1 (f' := (12, [some (.ref 1), some (.int x1), some (.int x2), some (.int v2)], [.int (0 : Int32)], μ1)) (cs := []) rfl trivial ?_
    exact gWp_end gT_220 rfl (gEnd_int trivial) h
/-! GlyphmillModel.rank -/
theorem gT_221 : gCode[221]? = some gC_221 := rfl
set_option maxRecDepth 20000 in
theorem vc_221_43 {μ : gMu} {x1 : Int32} {x2 : Int32} {x3 : Int32} {x4 : Int32} {P : gMu → gRes → Prop} (h : (((gI μ 1 29) ≤ x4) → (P (gsI μ 1 9 (4 : Int32)) (.inl (some (.int (-1 : Int32)))))) ∧ ((¬ (gI μ 1 29) ≤ x4) → ((vp_in x4 50) ∧ ((vp_in x3 50) ∧ (((¬ (gI μ 63 x4.toNatClampNeg) = (gI μ 56 x3.toNatClampNeg)) → (gWp none 221 (43, [some (.ref 1), some (.int x1), some (.int x2), some (.int x3), some (.int (x4 + (1 : Int32)))], [], μ) 0 P)) ∧ (((gI μ 63 x4.toNatClampNeg) = (gI μ 56 x3.toNatClampNeg)) → (P μ (.inl (some (.int x4)))))))))) : gWp none 221 (43, [some (.ref 1), some (.int x1), some (.int x2), some (.int x3), some (.int x4)], [], μ) 0 P := by
  refine gWp_sts gT_221 3 (f' := (49, [some (.ref 1), some (.int x1), some (.int x2), some (.int x3), some (.int x4)], [.int (gI μ 1 29), .int x4], μ)) (cs := []) rfl trivial ?_
  refine gWp_icmp gT_221 (pc := 49) rfl ⟨fun c => ?_, fun c => ?_⟩
  · replace h := h.1 (of_decide_eq_true c)
    refine gWp_sts gT_221 4 (f' := (83, [some (.ref 1), some (.int x1), some (.int x2), some (.int x3), some (.int x4)], [.int (-1 : Int32)], (gsI μ 1 9 (4 : Int32)))) (cs := []) rfl trivial ?_
    exact gWp_end gT_221 rfl (gEnd_int trivial) h
  · replace h := h.2 (fun q => c (decide_eq_true q))
    obtain ⟨c1, c2, h⟩ := h
    refine gWp_sts gT_221 8 (f' := (65, [some (.ref 1), some (.int x1), some (.int x2), some (.int x3), some (.int x4)], [.int (gI μ 56 x3.toNatClampNeg), .int (gI μ 63 x4.toNatClampNeg)], μ)) (cs := [vp_in x4 50, vp_in x3 50]) rfl ⟨c1, c2⟩ ?_
    refine gWp_icmp gT_221 (pc := 65) rfl ⟨fun c => ?_, fun c => ?_⟩
    · replace h := h.1 (of_decide_eq_true c)
      refine gWp_sts gT_221 2 (f' := (43, [some (.ref 1), some (.int x1), some (.int x2), some (.int x3), some (.int (x4 + (1 : Int32)))], [], μ)) (cs := []) rfl trivial ?_
      exact h
    · replace h := h.2 (Classical.not_not.mp (fun q => c (decide_eq_true q)))
      refine gWp_sts gT_221 1 (f' := (70, [some (.ref 1), some (.int x1), some (.int x2), some (.int x3), some (.int x4)], [.int x4], μ)) (cs := []) rfl trivial ?_
      exact gWp_end gT_221 rfl (gEnd_int trivial) h
set_option maxRecDepth 20000 in
theorem vc_221_15 {μ : gMu} {x1 : Int32} {x2 : Int32} {x3 : Int32} {P : gMu → gRes → Prop} (h : (vp_in x3 50) ∧ ((((gI μ 49 x3.toNatClampNeg) = x1) → (gCl' 208 [.ref 1, .int x2] μ (fun μ1 r => (∃ v2, r = .inl (some (.int v2)) ∧ (gCl' 218 [.ref 1, .int v2] μ1 (fun μ3 r => (r = .inl none ∧ (gWp none 221 (43, [some (.ref 1), some (.int x1), some (.int x2), some (.int x3), some (.int (0 : Int32))], [], μ3) 0 P)))))))) ∧ ((¬ (gI μ 49 x3.toNatClampNeg) = x1) → (gWp none 221 (15, [some (.ref 1), some (.int x1), some (.int x2), some (.int (x3 + (1 : Int32))), none], [], μ) 0 P)))) : gWp none 221 (15, [some (.ref 1), some (.int x1), some (.int x2), some (.int x3), none], [], μ) 0 P := by
  obtain ⟨c1, h⟩ := h
  refine gWp_sts gT_221 5 (f' := (22, [some (.ref 1), some (.int x1), some (.int x2), some (.int x3), none], [.int x1, .int (gI μ 49 x3.toNatClampNeg)], μ)) (cs := [vp_in x3 50]) rfl c1 ?_
  refine gWp_icmp gT_221 (pc := 22) rfl ⟨fun c => ?_, fun c => ?_⟩
  · replace h := h.1 (of_decide_eq_true c)
    refine gWp_sts gT_221 3 (f' := (34, [some (.ref 1), some (.int x1), some (.int x2), some (.int x3), none], [.int x2, .ref 1, .ref 1], μ)) (cs := []) rfl trivial ?_
    refine gWp_virt gT_221 (pc := 34) (q := 1) (as := [.ref 1, .int x2]) (rest := [.ref 1]) rfl rfl rfl rfl rfl rfl ⟨by decide, Nat.le_of_ble_eq_true rfl, by decide, Nat.le_of_ble_eq_true rfl⟩ (gWp_imp h (fun μ1 r h => ?_))
    obtain ⟨v2, rfl, h⟩ := h
    refine Or.inl ⟨_, rfl, ?_⟩
    show gWp none 221 (37, [some (.ref 1), some (.int x1), some (.int x2), some (.int x3), none], [.int v2, .ref 1], μ1) _ P
    refine gWp_virt gT_221 (pc := 37) (q := 1) (as := [.ref 1, .int v2]) (rest := []) rfl rfl rfl rfl rfl rfl ⟨by decide, Nat.le_of_ble_eq_true rfl, by decide, Nat.le_of_ble_eq_true rfl⟩ (gWp_imp h (fun μ3 r h => ?_))
    obtain ⟨rfl, h⟩ := h
    refine Or.inl ⟨_, rfl, ?_⟩
    show gWp none 221 (40, [some (.ref 1), some (.int x1), some (.int x2), some (.int x3), none], [], μ3) _ P
    refine gWp_sts gT_221 2 (f' := (43, [some (.ref 1), some (.int x1), some (.int x2), some (.int x3), some (.int (0 : Int32))], [], μ3)) (cs := []) rfl trivial ?_
    exact h
  · replace h := h.2 (fun q => c (decide_eq_true q))
    refine gWp_sts gT_221 2 (f' := (15, [some (.ref 1), some (.int x1), some (.int x2), some (.int (x3 + (1 : Int32))), none], [], μ)) (cs := []) rfl trivial ?_
    exact h
set_option maxRecDepth 20000 in
theorem vc_221 {μ : gMu} {x1 : Int32} {P : gMu → gRes → Prop} (h : gCl' 211 [.ref 1, .int x1] μ (fun μ1 r => (∃ v2, r = .inl (some (.int v2)) ∧ (((¬ v2 = (-1 : Int32)) → (gWp none 221 (15, [some (.ref 1), some (.int x1), some (.int v2), some (.int (0 : Int32)), none], [], μ1) 0 P)) ∧ ((v2 = (-1 : Int32)) → (P μ1 (.inl (some (.int (-1 : Int32)))))))))) : gWp none 221 (0, [some (.ref 1), some (.int x1), none, none, none], [], μ) 0 P := by
  refine gWp_sts gT_221 2 (f' := (2, [some (.ref 1), some (.int x1), none, none, none], [.int x1, .ref 1], μ)) (cs := []) rfl trivial ?_
  refine gWp_virt gT_221 (pc := 2) (q := 1) (as := [.ref 1, .int x1]) (rest := []) rfl rfl rfl rfl rfl rfl ⟨by decide, Nat.le_of_ble_eq_true rfl, by decide, Nat.le_of_ble_eq_true rfl⟩ (gWp_imp h (fun μ1 r h => ?_))
  obtain ⟨v2, rfl, h⟩ := h
  refine Or.inl ⟨_, rfl, ?_⟩
  show gWp none 221 (5, [some (.ref 1), some (.int x1), none, none, none], [.int v2], μ1) _ P
  refine gWp_sts gT_221 3 (f' := (8, [some (.ref 1), some (.int x1), some (.int v2), none, none], [.int (-1 : Int32), .int v2], μ1)) (cs := []) rfl trivial ?_
  refine gWp_icmp gT_221 (pc := 8) rfl ⟨fun c => ?_, fun c => ?_⟩
  · replace h := h.1 (of_decide_eq_true c)
    refine gWp_sts gT_221 2 (f' := (15, [some (.ref 1), some (.int x1), some (.int v2), some (.int (0 : Int32)), none], [], μ1)) (cs := []) rfl trivial ?_
    exact h
  · replace h := h.2 (Classical.not_not.mp (fun q => c (decide_eq_true q)))
    refine gWp_sts gT_221 1 (f' := (12, [some (.ref 1), some (.int x1), some (.int v2), none, none], [.int (-1 : Int32)], μ1)) (cs := []) rfl trivial ?_
    exact gWp_end gT_221 rfl (gEnd_int trivial) h
/-! GlyphmillModel.rankOf -/
theorem gT_222 : gCode[222]? = some gC_222 := rfl
set_option maxRecDepth 20000 in
theorem vc_222 {μ : gMu} {x1 : Int32} {P : gMu → gRes → Prop} (h : gCl' 221 [.ref 1, .int x1] μ (fun μ1 r => (∃ v2, r = .inl (some (.int v2)) ∧ (((¬ v2 = (-1 : Int32)) → (P μ1 (.inl (some (.int v2))))) ∧ ((v2 = (-1 : Int32)) → (P μ1 (.inl (some (.int (0 : Int32)))))))))) : gWp none 222 (0, [some (.ref 1), some (.int x1), none], [], μ) 0 P := by
  refine gWp_sts gT_222 2 (f' := (2, [some (.ref 1), some (.int x1), none], [.int x1, .ref 1], μ)) (cs := []) rfl trivial ?_
  refine gWp_virt gT_222 (pc := 2) (q := 1) (as := [.ref 1, .int x1]) (rest := []) rfl rfl rfl rfl rfl rfl ⟨by decide, Nat.le_of_ble_eq_true rfl, by decide, Nat.le_of_ble_eq_true rfl⟩ (gWp_imp h (fun μ1 r h => ?_))
  obtain ⟨v2, rfl, h⟩ := h
  refine Or.inl ⟨_, rfl, ?_⟩
  show gWp none 222 (5, [some (.ref 1), some (.int x1), none], [.int v2], μ1) _ P
  refine gWp_sts gT_222 3 (f' := (8, [some (.ref 1), some (.int x1), some (.int v2)], [.int (-1 : Int32), .int v2], μ1)) (cs := []) rfl trivial ?_
  refine gWp_icmp gT_222 (pc := 8) rfl ⟨fun c => ?_, fun c => ?_⟩
  · replace h := h.1 (of_decide_eq_true c)
    refine gWp_sts gT_222 1 (f' := (16, [some (.ref 1), some (.int x1), some (.int v2)], [.int v2], μ1)) (cs := []) rfl trivial ?_
    exact gWp_end gT_222 rfl (gEnd_int trivial) h
  · replace h := h.2 (Classical.not_not.mp (fun q => c (decide_eq_true q)))
    refine gWp_sts gT_222 2 (f' := (16, [some (.ref 1), some (.int x1), some (.int v2)], [.int (0 : Int32)], μ1)) (cs := []) rfl trivial ?_
    exact gWp_end gT_222 rfl (gEnd_int trivial) h
/-! GlyphmillModel.rankByCounting -/
theorem gT_223 : gCode[223]? = some gC_223 := rfl
set_option maxRecDepth 20000 in
theorem vc_223 {μ : gMu} {x1 : Int32} {P : gMu → gRes → Prop} (h : gCl' 222 [.ref 1, .int x1] μ (fun μ1 r => (∃ v2, r = .inl (some (.int v2)) ∧ (P μ1 (.inl (some (.int v2))))))) : gWp none 223 (0, [some (.ref 1), some (.int x1)], [], μ) 0 P := by
  refine gWp_sts gT_223 2 (f' := (2, [some (.ref 1), some (.int x1)], [.int x1, .ref 1], μ)) (cs := []) rfl trivial ?_
  refine gWp_virt gT_223 (pc := 2) (q := 1) (as := [.ref 1, .int x1]) (rest := []) rfl rfl rfl rfl rfl rfl ⟨by decide, Nat.le_of_ble_eq_true rfl, by decide, Nat.le_of_ble_eq_true rfl⟩ (gWp_imp h (fun μ1 r h => ?_))
  obtain ⟨v2, rfl, h⟩ := h
  refine Or.inl ⟨_, rfl, ?_⟩
  show gWp none 223 (5, [some (.ref 1), some (.int x1)], [.int v2], μ1) _ P
  exact gWp_end gT_223 rfl (gEnd_int trivial) h
/-! GlyphmillModel.isJustified -/
theorem gT_224 : gCode[224]? = some gC_224 := rfl
set_option maxRecDepth 20000 in
theorem vc_224 {μ : gMu} {x1 : Int32} {P : gMu → gRes → Prop} (h : (vp_in x1 51) ∧ (gCl' 195 [.ref 1, .int x1, .int (gI μ 61 x1.toNatClampNeg)] μ (fun μ1 r => (∃ v2, r = .inl (some (.int v2)) ∧ (((v2 ≤ 0) → (P μ1 (.inl (some (.int (0 : Int32)))))) ∧ ((¬ v2 ≤ 0) → ((vp_in x1 51) ∧ (gCl' 194 [.ref 1, .int x1, .int (gI μ1 61 x1.toNatClampNeg)] μ1 (fun μ3 r => (∃ v4, r = .inl (some (.int v4)) ∧ ((((gI μ3 1 3) < v4) → (P μ3 (.inl (some (.int (1 : Int32)))))) ∧ ((¬ (gI μ3 1 3) < v4) → ((vp_in x1 51) ∧ ((((gI μ3 1 23) ≤ (gI μ3 61 x1.toNatClampNeg)) → (P μ3 (.inl (some (.int (0 : Int32)))))) ∧ ((¬ (gI μ3 1 23) ≤ (gI μ3 61 x1.toNatClampNeg)) → (P μ3 (.inl (some (.int (1 : Int32)))))))))))))))))))) : gWp none 224 (0, [some (.ref 1), some (.int x1), none], [], μ) 0 P := by
  obtain ⟨c1, h⟩ := h
  refine gWp_sts gT_224 6 (f' := (8, [some (.ref 1), some (.int x1), none], [.int (gI μ 61 x1.toNatClampNeg), .int x1, .ref 1], μ)) (cs := [vp_in x1 51]) rfl c1 ?_
  refine gWp_virt gT_224 (pc := 8) (q := 1) (as := [.ref 1, .int x1, .int (gI μ 61 x1.toNatClampNeg)]) (rest := []) rfl rfl rfl rfl rfl rfl ⟨by decide, Nat.le_of_ble_eq_true rfl, by decide, Nat.le_of_ble_eq_true rfl⟩ (gWp_imp h (fun μ1 r h => ?_))
  obtain ⟨v2, rfl, h⟩ := h
  refine Or.inl ⟨_, rfl, ?_⟩
  show gWp none 224 (11, [some (.ref 1), some (.int x1), none], [.int v2], μ1) _ P
  refine gWp_sts gT_224 2 (f' := (13, [some (.ref 1), some (.int x1), some (.int v2)], [.int v2], μ1)) (cs := []) rfl trivial ?_
  refine gWp_if gT_224 (pc := 13) rfl ⟨fun c => ?_, fun c => ?_⟩
  · replace h := h.1 (of_decide_eq_true c)
    refine gWp_sts gT_224 1 (f' := (52, [some (.ref 1), some (.int x1), some (.int v2)], [.int (0 : Int32)], μ1)) (cs := []) rfl trivial ?_
    exact gWp_end gT_224 rfl (gEnd_int (show narrow .boolean (.int (0 : Int32)) = .int (0 : Int32) by decide)) h
  · replace h := h.2 (fun q => c (decide_eq_true q))
    obtain ⟨c1, h⟩ := h
    refine gWp_sts gT_224 6 (f' := (24, [some (.ref 1), some (.int x1), some (.int v2)], [.int (gI μ1 61 x1.toNatClampNeg), .int x1, .ref 1], μ1)) (cs := [vp_in x1 51]) rfl c1 ?_
    refine gWp_virt gT_224 (pc := 24) (q := 1) (as := [.ref 1, .int x1, .int (gI μ1 61 x1.toNatClampNeg)]) (rest := []) rfl rfl rfl rfl rfl rfl ⟨by decide, Nat.le_of_ble_eq_true rfl, by decide, Nat.le_of_ble_eq_true rfl⟩ (gWp_imp h (fun μ3 r h => ?_))
    obtain ⟨v4, rfl, h⟩ := h
    refine Or.inl ⟨_, rfl, ?_⟩
    show gWp none 224 (27, [some (.ref 1), some (.int x1), some (.int v2)], [.int v4], μ3) _ P
    refine gWp_sts gT_224 2 (f' := (31, [some (.ref 1), some (.int x1), some (.int v2)], [.int (gI μ3 1 3), .int v4], μ3)) (cs := []) rfl trivial ?_
    refine gWp_icmp gT_224 (pc := 31) rfl ⟨fun c => ?_, fun c => ?_⟩
    · replace h := h.1 (of_decide_eq_true c)
      refine gWp_sts gT_224 2 (f' := (52, [some (.ref 1), some (.int x1), some (.int v2)], [.int (1 : Int32)], μ3)) (cs := []) rfl trivial ?_
      exact gWp_end gT_224 rfl (gEnd_int (show narrow .boolean (.int (1 : Int32)) = .int (1 : Int32) by decide)) h
    · replace h := h.2 (fun q => c (decide_eq_true q))
      obtain ⟨c1, h⟩ := h
      refine gWp_sts gT_224 6 (f' := (44, [some (.ref 1), some (.int x1), some (.int v2)], [.int (gI μ3 1 23), .int (gI μ3 61 x1.toNatClampNeg)], μ3)) (cs := [vp_in x1 51]) rfl c1 ?_
      refine gWp_icmp gT_224 (pc := 44) rfl ⟨fun c => ?_, fun c => ?_⟩
      · replace h := h.1 (of_decide_eq_true c)
        refine gWp_sts gT_224 1 (f' := (52, [some (.ref 1), some (.int x1), some (.int v2)], [.int (0 : Int32)], μ3)) (cs := []) rfl trivial ?_
        exact gWp_end gT_224 rfl (gEnd_int (show narrow .boolean (.int (0 : Int32)) = .int (0 : Int32) by decide)) h
      · replace h := h.2 (fun q => c (decide_eq_true q))
        refine gWp_sts gT_224 2 (f' := (52, [some (.ref 1), some (.int x1), some (.int v2)], [.int (1 : Int32)], μ3)) (cs := []) rfl trivial ?_
        exact gWp_end gT_224 rfl (gEnd_int (show narrow .boolean (.int (1 : Int32)) = .int (1 : Int32) by decide)) h
/-! GlyphmillModel.stands -/
theorem gT_225 : gCode[225]? = some gC_225 := rfl
set_option maxRecDepth 20000 in
theorem vc_225_74 {μ : gMu} {x1 : Int32} {x2 : Int32} {x3 : Int32} {x4 : Int32} {x5 : Int32} {x6 : Int32} {x7 : Int32} {P : gMu → gRes → Prop} (h : ((x2 ≤ x7) → ((¬ x5 = 0) ∧ ((¬ x5 = 0) ∧ (((((if 0 ≤ x4 then x4 else 0 - x4) - (if 0 ≤ x4 then x4 else 0 - x4) / x5 * x5) ≤ x6) → (((0 ≤ x4) → (P μ (.inl (some (.int (x3 + (((if 0 ≤ x4 then x4 else 0 - x4) / x5) + (0 : Int32)))))))) ∧ ((¬ 0 ≤ x4) → (P μ (.inl (some (.int (x3 - (((if 0 ≤ x4 then x4 else 0 - x4) / x5) + (0 : Int32)))))))))) ∧ ((¬ ((if 0 ≤ x4 then x4 else 0 - x4) - (if 0 ≤ x4 then x4 else 0 - x4) / x5 * x5) ≤ x6) → (((0 ≤ x4) → (P μ (.inl (some (.int (x3 + (((if 0 ≤ x4 then x4 else 0 - x4) / x5) + (1 : Int32)))))))) ∧ ((¬ 0 ≤ x4) → (P μ (.inl (some (.int (x3 - (((if 0 ≤ x4 then x4 else 0 - x4) / x5) + (1 : Int32)))))))))))))) ∧ ((¬ x2 ≤ x7) → ((vp_in x7 50) ∧ ((vp_in (gI μ 63 x7.toNatClampNeg) 50) ∧ (((¬ (gI μ 50 ((gI μ 63 x7.toNatClampNeg).toNatClampNeg)) = (32 : Int32)) → (gWp none 225 (74, [some (.ref 1), some (.int x1), some (.int x2), some (.int x3), some (.int x4), some (.int x5), some (.int (x6 + (0 : Int32))), some (.int (x7 + (1 : Int32)))], [], μ) 0 P)) ∧ (((gI μ 50 ((gI μ 63 x7.toNatClampNeg).toNatClampNeg)) = (32 : Int32)) → (gWp none 225 (74, [some (.ref 1), some (.int x1), some (.int x2), some (.int x3), some (.int x4), some (.int x5), some (.int (x6 + (1 : Int32))), some (.int (x7 + (1 : Int32)))], [], μ) 0 P))))))) : gWp none 225 (74, [some (.ref 1), some (.int x1), some (.int x2), some (.int x3), some (.int x4), some (.int x5), some (.int x6), some (.int x7)], [], μ) 0 P := by
  refine gWp_sts gT_225 2 (f' := (77, [some (.ref 1), some (.int x1), some (.int x2), some (.int x3), some (.int x4), some (.int x5), some (.int x6), some (.int x7)], [.int x2, .int x7], μ)) (cs := []) rfl trivial ?_
  refine gWp_icmp gT_225 (pc := 77) rfl ⟨fun c => ?_, fun c => ?_⟩
  · replace h := h.1 (of_decide_eq_true c)
    obtain ⟨c1, c2, h⟩ := h
    refine gWp_sts gT_225 9 (f' := (131, [some (.ref 1), some (.int x1), some (.int x2), some (.int x3), some (.int x4), some (.int x5), some (.int x6), some (.int x7)], [.int ((if 0 ≤ x4 then x4 else 0 - x4) - (if 0 ≤ x4 then x4 else 0 - x4) / x5 * x5), .int x6, .int ((if 0 ≤ x4 then x4 else 0 - x4) / x5)], μ)) (cs := [(([] : List Value).map fun v => v.category).sum ≤ 8, ¬ x5 = 0, (([.int x6, .int ((if 0 ≤ x4 then x4 else 0 - x4) / x5)] : List Value).map fun v => v.category).sum ≤ 8, ¬ x5 = 0]) rfl ⟨(Nat.le_of_ble_eq_true rfl), c1, (Nat.le_of_ble_eq_true rfl), c2⟩ ?_
    refine gWp_icmp gT_225 (pc := 131) rfl ⟨fun c => ?_, fun c => ?_⟩
    · replace h := h.1 (of_decide_eq_true c)
      refine gWp_sts gT_225 4 (f' := (144, [some (.ref 1), some (.int x1), some (.int x2), some (.int x3), some (.int x4), some (.int x5), some (.int x6), some (.int (((if 0 ≤ x4 then x4 else 0 - x4) / x5) + (0 : Int32)))], [.int x4], μ)) (cs := []) rfl trivial ?_
      refine gWp_if gT_225 (pc := 144) rfl ⟨fun c => ?_, fun c => ?_⟩
      · replace h := h.1 (of_decide_eq_true c)
        refine gWp_sts gT_225 3 (f' := (158, [some (.ref 1), some (.int x1), some (.int x2), some (.int x3), some (.int x4), some (.int x5), some (.int x6), some (.int (((if 0 ≤ x4 then x4 else 0 - x4) / x5) + (0 : Int32)))], [.int (x3 + (((if 0 ≤ x4 then x4 else 0 - x4) / x5) + (0 : Int32)))], μ)) (cs := []) rfl trivial ?_
        exact gWp_end gT_225 rfl (gEnd_int trivial) h
      · replace h := h.2 (fun q => c (decide_eq_true q))
        refine gWp_sts gT_225 4 (f' := (158, [some (.ref 1), some (.int x1), some (.int x2), some (.int x3), some (.int x4), some (.int x5), some (.int x6), some (.int (((if 0 ≤ x4 then x4 else 0 - x4) / x5) + (0 : Int32)))], [.int (x3 - (((if 0 ≤ x4 then x4 else 0 - x4) / x5) + (0 : Int32)))], μ)) (cs := []) rfl trivial ?_
        exact gWp_end gT_225 rfl (gEnd_int trivial) h
    · replace h := h.2 (fun q => c (decide_eq_true q))
      refine gWp_sts gT_225 5 (f' := (144, [some (.ref 1), some (.int x1), some (.int x2), some (.int x3), some (.int x4), some (.int x5), some (.int x6), some (.int (((if 0 ≤ x4 then x4 else 0 - x4) / x5) + (1 : Int32)))], [.int x4], μ)) (cs := []) rfl trivial ?_
      refine gWp_if gT_225 (pc := 144) rfl ⟨fun c => ?_, fun c => ?_⟩
      · replace h := h.1 (of_decide_eq_true c)
        refine gWp_sts gT_225 3 (f' := (158, [some (.ref 1), some (.int x1), some (.int x2), some (.int x3), some (.int x4), some (.int x5), some (.int x6), some (.int (((if 0 ≤ x4 then x4 else 0 - x4) / x5) + (1 : Int32)))], [.int (x3 + (((if 0 ≤ x4 then x4 else 0 - x4) / x5) + (1 : Int32)))], μ)) (cs := []) rfl trivial ?_
        exact gWp_end gT_225 rfl (gEnd_int trivial) h
      · replace h := h.2 (fun q => c (decide_eq_true q))
        refine gWp_sts gT_225 4 (f' := (158, [some (.ref 1), some (.int x1), some (.int x2), some (.int x3), some (.int x4), some (.int x5), some (.int x6), some (.int (((if 0 ≤ x4 then x4 else 0 - x4) / x5) + (1 : Int32)))], [.int (x3 - (((if 0 ≤ x4 then x4 else 0 - x4) / x5) + (1 : Int32)))], μ)) (cs := []) rfl trivial ?_
        exact gWp_end gT_225 rfl (gEnd_int trivial) h
  · replace h := h.2 (fun q => c (decide_eq_true q))
    obtain ⟨c1, c2, h⟩ := h
    refine gWp_sts gT_225 9 (f' := (96, [some (.ref 1), some (.int x1), some (.int x2), some (.int x3), some (.int x4), some (.int x5), some (.int x6), some (.int x7)], [.int (32 : Int32), .int (gI μ 50 ((gI μ 63 x7.toNatClampNeg).toNatClampNeg)), .int x6], μ)) (cs := [vp_in x7 50, vp_in (gI μ 63 x7.toNatClampNeg) 50]) rfl ⟨c1, c2⟩ ?_
    refine gWp_icmp gT_225 (pc := 96) rfl ⟨fun c => ?_, fun c => ?_⟩
    · replace h := h.1 (of_decide_eq_true c)
      refine gWp_sts gT_225 5 (f' := (74, [some (.ref 1), some (.int x1), some (.int x2), some (.int x3), some (.int x4), some (.int x5), some (.int (x6 + (0 : Int32))), some (.int (x7 + (1 : Int32)))], [], μ)) (cs := []) rfl trivial ?_
      exact h
    · replace h := h.2 (Classical.not_not.mp (fun q => c (decide_eq_true q)))
      refine gWp_sts gT_225 6 (f' := (74, [some (.ref 1), some (.int x1), some (.int x2), some (.int x3), some (.int x4), some (.int x5), some (.int (x6 + (1 : Int32))), some (.int (x7 + (1 : Int32)))], [], μ)) (cs := []) rfl trivial ?_
      exact h
set_option maxRecDepth 20000 in
theorem vc_225 {μ : gMu} {x1 : Int32} {x2 : Int32} {P : gMu → gRes → Prop} (h : (vp_in x2 50) ∧ (gCl' 193 [.ref 1, .int (gI μ 63 x2.toNatClampNeg)] μ (fun μ1 r => (∃ v2, r = .inl (some (.int v2)) ∧ ((vp_in x2 50) ∧ ((vp_in (gI μ1 63 x2.toNatClampNeg) 50) ∧ (((¬ (gI μ1 50 ((gI μ1 63 x2.toNatClampNeg).toNatClampNeg)) = (32 : Int32)) → (P μ1 (.inl (some (.int v2))))) ∧ (((gI μ1 50 ((gI μ1 63 x2.toNatClampNeg).toNatClampNeg)) = (32 : Int32)) → (gCl' 224 [.ref 1, .int x1] μ1 (fun μ3 r => (∃ v4, r = .inl (some (.int v4)) ∧ (((¬ v4 = 0) → ((vp_in x1 51) ∧ (gCl' 194 [.ref 1, .int x1, .int (gI μ3 61 x1.toNatClampNeg)] μ3 (fun μ5 r => (∃ v6, r = .inl (some (.int v6)) ∧ ((vp_in x1 51) ∧ (gCl' 195 [.ref 1, .int x1, .int (gI μ5 61 x1.toNatClampNeg)] μ5 (fun μ7 r => (∃ v8, r = .inl (some (.int v8)) ∧ (gWp none 225 (74, [some (.ref 1), some (.int x1), some (.int x2), some (.int v2), some (.int ((gI μ3 1 3) - v6)), some (.int v8), some (.int (0 : Int32)), some (.int (0 : Int32))], [], μ7) 0 P)))))))))) ∧ ((v4 = 0) → (P μ3 (.inl (some (.int v2))))))))))))))))) : gWp none 225 (0, [some (.ref 1), some (.int x1), some (.int x2), none, none, none, none, none], [], μ) 0 P := by
  obtain ⟨c1, h⟩ := h
  refine gWp_sts gT_225 5 (f' := (7, [some (.ref 1), some (.int x1), some (.int x2), none, none, none, none, none], [.int (gI μ 63 x2.toNatClampNeg), .ref 1], μ)) (cs := [vp_in x2 50]) rfl c1 ?_
  refine gWp_virt gT_225 (pc := 7) (q := 1) (as := [.ref 1, .int (gI μ 63 x2.toNatClampNeg)]) (rest := []) rfl rfl rfl rfl rfl rfl ⟨by decide, Nat.le_of_ble_eq_true rfl, by decide, Nat.le_of_ble_eq_true rfl⟩ (gWp_imp h (fun μ1 r h => ?_))
  obtain ⟨v2, rfl, h⟩ := h
  refine Or.inl ⟨_, rfl, ?_⟩
  show gWp none 225 (10, [some (.ref 1), some (.int x1), some (.int x2), none, none, none, none, none], [.int v2], μ1) _ P
  obtain ⟨c1, c2, h⟩ := h
  refine gWp_sts gT_225 9 (f' := (24, [some (.ref 1), some (.int x1), some (.int x2), some (.int v2), none, none, none, none], [.int (32 : Int32), .int (gI μ1 50 ((gI μ1 63 x2.toNatClampNeg).toNatClampNeg))], μ1)) (cs := [vp_in x2 50, vp_in (gI μ1 63 x2.toNatClampNeg) 50]) rfl ⟨c1, c2⟩ ?_
  refine gWp_icmp gT_225 (pc := 24) rfl ⟨fun c => ?_, fun c => ?_⟩
  · replace h := h.1 (of_decide_eq_true c)
    refine gWp_sts gT_225 1 (f' := (36, [some (.ref 1), some (.int x1), some (.int x2), some (.int v2), none, none, none, none], [.int v2], μ1)) (cs := []) rfl trivial ?_
    exact gWp_end gT_225 rfl (gEnd_int trivial) h
  · replace h := h.2 (Classical.not_not.mp (fun q => c (decide_eq_true q)))
    refine gWp_sts gT_225 2 (f' := (29, [some (.ref 1), some (.int x1), some (.int x2), some (.int v2), none, none, none, none], [.int x1, .ref 1], μ1)) (cs := []) rfl trivial ?_
    refine gWp_virt gT_225 (pc := 29) (q := 1) (as := [.ref 1, .int x1]) (rest := []) rfl rfl rfl rfl rfl rfl ⟨by decide, Nat.le_of_ble_eq_true rfl, by decide, Nat.le_of_ble_eq_true rfl⟩ (gWp_imp h (fun μ3 r h => ?_))
    obtain ⟨v4, rfl, h⟩ := h
    refine Or.inl ⟨_, rfl, ?_⟩
    show gWp none 225 (32, [some (.ref 1), some (.int x1), some (.int x2), some (.int v2), none, none, none, none], [.int v4], μ3) _ P
    refine gWp_if gT_225 (pc := 32) rfl ⟨fun c => ?_, fun c => ?_⟩
    · replace h := h.1 (of_decide_eq_true c)
      obtain ⟨c1, h⟩ := h
      refine gWp_sts gT_225 8 (f' := (49, [some (.ref 1), some (.int x1), some (.int x2), some (.int v2), none, none, none, none], [.int (gI μ3 61 x1.toNatClampNeg), .int x1, .ref 1, .int (gI μ3 1 3)], μ3)) (cs := [vp_in x1 51]) rfl c1 ?_
      refine gWp_virt gT_225 (pc := 49) (q := 1) (as := [.ref 1, .int x1, .int (gI μ3 61 x1.toNatClampNeg)]) (rest := [.int (gI μ3 1 3)]) rfl rfl rfl rfl rfl rfl ⟨by decide, Nat.le_of_ble_eq_true rfl, by decide, Nat.le_of_ble_eq_true rfl⟩ (gWp_imp h (fun μ5 r h => ?_))
      obtain ⟨v6, rfl, h⟩ := h
      refine Or.inl ⟨_, rfl, ?_⟩
      show gWp none 225 (52, [some (.ref 1), some (.int x1), some (.int x2), some (.int v2), none, none, none, none], [.int v6, .int (gI μ3 1 3)], μ5) _ P
      obtain ⟨c1, h⟩ := h
      refine gWp_sts gT_225 8 (f' := (63, [some (.ref 1), some (.int x1), some (.int x2), some (.int v2), some (.int ((gI μ3 1 3) - v6)), none, none, none], [.int (gI μ5 61 x1.toNatClampNeg), .int x1, .ref 1], μ5)) (cs := [vp_in x1 51]) rfl c1 ?_
      refine gWp_virt gT_225 (pc := 63) (q := 1) (as := [.ref 1, .int x1, .int (gI μ5 61 x1.toNatClampNeg)]) (rest := []) rfl rfl rfl rfl rfl rfl ⟨by decide, Nat.le_of_ble_eq_true rfl, by decide, Nat.le_of_ble_eq_true rfl⟩ (gWp_imp h (fun μ7 r h => ?_))
      obtain ⟨v8, rfl, h⟩ := h
      refine Or.inl ⟨_, rfl, ?_⟩
      show gWp none 225 (66, [some (.ref 1), some (.int x1), some (.int x2), some (.int v2), some (.int ((gI μ3 1 3) - v6)), none, none, none], [.int v8], μ7) _ P
      refine gWp_sts gT_225 5 (f' := (74, [some (.ref 1), some (.int x1), some (.int x2), some (.int v2), some (.int ((gI μ3 1 3) - v6)), some (.int v8), some (.int (0 : Int32)), some (.int (0 : Int32))], [], μ7)) (cs := []) rfl trivial ?_
      exact h
    · replace h := h.2 (Classical.not_not.mp (fun q => c (decide_eq_true q)))
      refine gWp_sts gT_225 1 (f' := (36, [some (.ref 1), some (.int x1), some (.int x2), some (.int v2), none, none, none, none], [.int v2], μ3)) (cs := []) rfl trivial ?_
      exact gWp_end gT_225 rfl (gEnd_int trivial) h
/-! GlyphmillModel.placeOf -/
theorem gT_226 : gCode[226]? = some gC_226 := rfl
set_option maxRecDepth 20000 in
theorem vc_226_63 {μ : gMu} {x1 : Int32} {x2 : Int32} {x3 : Int32} {x4 : Int32} {x5 : Int32} {P : gMu → gRes → Prop} (h : ((x2 ≤ x5) → (P μ (.inl (some (.int x4))))) ∧ ((¬ x2 ≤ x5) → (gCl' 225 [.ref 1, .int x3, .int x5] μ (fun μ1 r => (∃ v2, r = .inl (some (.int v2)) ∧ (gWp none 226 (63, [some (.ref 1), some (.int x1), some (.int x2), some (.int x3), some (.int (x4 + v2)), some (.int (x5 + (1 : Int32)))], [], μ1) 0 P)))))) : gWp none 226 (63, [some (.ref 1), some (.int x1), some (.int x2), some (.int x3), some (.int x4), some (.int x5)], [], μ) 0 P := by
  refine gWp_sts gT_226 2 (f' := (66, [some (.ref 1), some (.int x1), some (.int x2), some (.int x3), some (.int x4), some (.int x5)], [.int x2, .int x5], μ)) (cs := []) rfl trivial ?_
  refine gWp_icmp gT_226 (pc := 66) rfl ⟨fun c => ?_, fun c => ?_⟩
  · replace h := h.1 (of_decide_eq_true c)
    refine gWp_sts gT_226 1 (f' := (89, [some (.ref 1), some (.int x1), some (.int x2), some (.int x3), some (.int x4), some (.int x5)], [.int x4], μ)) (cs := []) rfl trivial ?_
    exact gWp_end gT_226 rfl (gEnd_int trivial) h
  · replace h := h.2 (fun q => c (decide_eq_true q))
    refine gWp_sts gT_226 4 (f' := (75, [some (.ref 1), some (.int x1), some (.int x2), some (.int x3), some (.int x4), some (.int x5)], [.int x5, .int x3, .ref 1, .int x4], μ)) (cs := []) rfl trivial ?_
    refine gWp_virt gT_226 (pc := 75) (q := 1) (as := [.ref 1, .int x3, .int x5]) (rest := [.int x4]) rfl rfl rfl rfl rfl rfl ⟨by decide, Nat.le_of_ble_eq_true rfl, by decide, Nat.le_of_ble_eq_true rfl⟩ (gWp_imp h (fun μ1 r h => ?_))
    obtain ⟨v2, rfl, h⟩ := h
    refine Or.inl ⟨_, rfl, ?_⟩
    show gWp none 226 (78, [some (.ref 1), some (.int x1), some (.int x2), some (.int x3), some (.int x4), some (.int x5)], [.int v2, .int x4], μ1) _ P
    refine gWp_sts gT_226 4 (f' := (63, [some (.ref 1), some (.int x1), some (.int x2), some (.int x3), some (.int (x4 + v2)), some (.int (x5 + (1 : Int32)))], [], μ1)) (cs := []) rfl trivial ?_
    exact h
set_option maxRecDepth 20000 in
theorem vc_226 {μ : gMu} {x1 : Int32} {P : gMu → gRes → Prop} (h : gCl' 221 [.ref 1, .int x1] μ (fun μ1 r => (∃ v2, r = .inl (some (.int v2)) ∧ (((¬ v2 = (-1 : Int32)) → (gCl' 211 [.ref 1, .int x1] μ1 (fun μ3 r => (∃ v4, r = .inl (some (.int v4)) ∧ (gCl' 208 [.ref 1, .int v4] μ3 (fun μ5 r => (∃ v6, r = .inl (some (.int v6)) ∧ (gCl' 224 [.ref 1, .int v6] μ5 (fun μ7 r => (∃ v8, r = .inl (some (.int v8)) ∧ (((¬ v8 = 0) → (gWp none 226 (63, [some (.ref 1), some (.int x1), some (.int v2), some (.int v6), some (.int (0 : Int32)), some (.int (0 : Int32))], [], μ7) 0 P)) ∧ ((v8 = 0) → (((¬ (gI μ7 1 4) = 0) → ((vp_in v6 51) ∧ (gCl' 194 [.ref 1, .int v6, .int (gI μ7 61 v6.toNatClampNeg)] μ7 (fun μ9 r => (∃ v10, r = .inl (some (.int v10)) ∧ (gWp none 226 (63, [some (.ref 1), some (.int x1), some (.int v2), some (.int v6), some (.int ((gI μ7 1 3) - v10)), some (.int (0 : Int32))], [], μ9) 0 P)))))) ∧ (((gI μ7 1 4) = 0) → (gWp none 226 (63, [some (.ref 1), some (.int x1), some (.int v2), some (.int v6), some (.int (0 : Int32)), some (.int (0 : Int32))], [], μ7) 0 P))))))))))))))) ∧ ((v2 = (-1 : Int32)) → (P μ1 (.inl (some (.int (0 : Int32)))))))))) : gWp none 226 (0, [some (.ref 1), some (.int x1), none, none, none, none], [], μ) 0 P := by
  refine gWp_sts gT_226 2 (f' := (2, [some (.ref 1), some (.int x1), none, none, none, none], [.int x1, .ref 1], μ)) (cs := []) rfl trivial ?_
  refine gWp_virt gT_226 (pc := 2) (q := 1) (as := [.ref 1, .int x1]) (rest := []) rfl rfl rfl rfl rfl rfl ⟨by decide, Nat.le_of_ble_eq_true rfl, by decide, Nat.le_of_ble_eq_true rfl⟩ (gWp_imp h (fun μ1 r h => ?_))
  obtain ⟨v2, rfl, h⟩ := h
  refine Or.inl ⟨_, rfl, ?_⟩
  show gWp none 226 (5, [some (.ref 1), some (.int x1), none, none, none, none], [.int v2], μ1) _ P
  refine gWp_sts gT_226 3 (f' := (8, [some (.ref 1), some (.int x1), some (.int v2), none, none, none], [.int (-1 : Int32), .int v2], μ1)) (cs := []) rfl trivial ?_
  refine gWp_icmp gT_226 (pc := 8) rfl ⟨fun c => ?_, fun c => ?_⟩
  · replace h := h.1 (of_decide_eq_true c)
    refine gWp_sts gT_226 3 (f' := (16, [some (.ref 1), some (.int x1), some (.int v2), none, none, none], [.int x1, .ref 1, .ref 1], μ1)) (cs := []) rfl trivial ?_
    refine gWp_virt gT_226 (pc := 16) (q := 1) (as := [.ref 1, .int x1]) (rest := [.ref 1]) rfl rfl rfl rfl rfl rfl ⟨by decide, Nat.le_of_ble_eq_true rfl, by decide, Nat.le_of_ble_eq_true rfl⟩ (gWp_imp h (fun μ3 r h => ?_))
    obtain ⟨v4, rfl, h⟩ := h
    refine Or.inl ⟨_, rfl, ?_⟩
    show gWp none 226 (19, [some (.ref 1), some (.int x1), some (.int v2), none, none, none], [.int v4, .ref 1], μ3) _ P
    refine gWp_virt gT_226 (pc := 19) (q := 1) (as := [.ref 1, .int v4]) (rest := []) rfl rfl rfl rfl rfl rfl ⟨by decide, Nat.le_of_ble_eq_true rfl, by decide, Nat.le_of_ble_eq_true rfl⟩ (gWp_imp h (fun μ5 r h => ?_))
    obtain ⟨v6, rfl, h⟩ := h
    refine Or.inl ⟨_, rfl, ?_⟩
    show gWp none 226 (22, [some (.ref 1), some (.int x1), some (.int v2), none, none, none], [.int v6], μ5) _ P
    refine gWp_sts gT_226 3 (f' := (25, [some (.ref 1), some (.int x1), some (.int v2), some (.int v6), none, none], [.int v6, .ref 1], μ5)) (cs := []) rfl trivial ?_
    refine gWp_virt gT_226 (pc := 25) (q := 1) (as := [.ref 1, .int v6]) (rest := []) rfl rfl rfl rfl rfl rfl ⟨by decide, Nat.le_of_ble_eq_true rfl, by decide, Nat.le_of_ble_eq_true rfl⟩ (gWp_imp h (fun μ7 r h => ?_))
    obtain ⟨v8, rfl, h⟩ := h
    refine Or.inl ⟨_, rfl, ?_⟩
    show gWp none 226 (28, [some (.ref 1), some (.int x1), some (.int v2), some (.int v6), none, none], [.int v8], μ7) _ P
    refine gWp_if gT_226 (pc := 28) rfl ⟨fun c => ?_, fun c => ?_⟩
    · replace h := h.1 (of_decide_eq_true c)
      refine gWp_sts gT_226 5 (f' := (63, [some (.ref 1), some (.int x1), some (.int v2), some (.int v6), some (.int (0 : Int32)), some (.int (0 : Int32))], [], μ7)) (cs := []) rfl trivial ?_
      exact h
    · replace h := h.2 (Classical.not_not.mp (fun q => c (decide_eq_true q)))
      refine gWp_sts gT_226 2 (f' := (35, [some (.ref 1), some (.int x1), some (.int v2), some (.int v6), none, none], [.int (gI μ7 1 4)], μ7)) (cs := []) rfl trivial ?_
      refine gWp_if gT_226 (pc := 35) rfl ⟨fun c => ?_, fun c => ?_⟩
      · replace h := h.1 (of_decide_eq_true c)
        obtain ⟨c1, h⟩ := h
        refine gWp_sts gT_226 8 (f' := (54, [some (.ref 1), some (.int x1), some (.int v2), some (.int v6), none, none], [.int (gI μ7 61 v6.toNatClampNeg), .int v6, .ref 1, .int (gI μ7 1 3)], μ7)) (cs := [vp_in v6 51]) rfl c1 ?_
        refine gWp_virt gT_226 (pc := 54) (q := 1) (as := [.ref 1, .int v6, .int (gI μ7 61 v6.toNatClampNeg)]) (rest := [.int (gI μ7 1 3)]) rfl rfl rfl rfl rfl rfl ⟨by decide, Nat.le_of_ble_eq_true rfl, by decide, Nat.le_of_ble_eq_true rfl⟩ (gWp_imp h (fun μ9 r h => ?_))
        obtain ⟨v10, rfl, h⟩ := h
        refine Or.inl ⟨_, rfl, ?_⟩
        show gWp none 226 (57, [some (.ref 1), some (.int x1), some (.int v2), some (.int v6), none, none], [.int v10, .int (gI μ7 1 3)], μ9) _ P
        refine gWp_sts gT_226 4 (f' := (63, [some (.ref 1), some (.int x1), some (.int v2), some (.int v6), some (.int ((gI μ7 1 3) - v10)), some (.int (0 : Int32))], [], μ9)) (cs := []) rfl trivial ?_
        exact h
      · replace h := h.2 (Classical.not_not.mp (fun q => c (decide_eq_true q)))
        refine gWp_sts gT_226 5 (f' := (63, [some (.ref 1), some (.int x1), some (.int v2), some (.int v6), some (.int (0 : Int32)), some (.int (0 : Int32))], [], μ7)) (cs := []) rfl trivial ?_
        exact h
  · replace h := h.2 (Classical.not_not.mp (fun q => c (decide_eq_true q)))
    refine gWp_sts gT_226 1 (f' := (12, [some (.ref 1), some (.int x1), some (.int v2), none, none, none], [.int (0 : Int32)], μ1)) (cs := []) rfl trivial ?_
    exact gWp_end gT_226 rfl (gEnd_int trivial) h
/-! GlyphmillModel.justifiedWidth -/
theorem gT_227 : gCode[227]? = some gC_227 := rfl
set_option maxRecDepth 20000 in
theorem vc_227 {μ : gMu} {x1 : Int32} {P : gMu → gRes → Prop} (h : gCl' 221 [.ref 1, .int x1] μ (fun μ1 r => (∃ v2, r = .inl (some (.int v2)) ∧ (((¬ v2 = (-1 : Int32)) → (gCl' 211 [.ref 1, .int x1] μ1 (fun μ3 r => (∃ v4, r = .inl (some (.int v4)) ∧ (gCl' 208 [.ref 1, .int v4] μ3 (fun μ5 r => (∃ v6, r = .inl (some (.int v6)) ∧ (gCl' 225 [.ref 1, .int v6, .int v2] μ5 (fun μ7 r => (∃ v8, r = .inl (some (.int v8)) ∧ (P μ7 (.inl (some (.int v8)))))))))))))) ∧ ((v2 = (-1 : Int32)) → (P μ1 (.inl (some (.int (0 : Int32)))))))))) : gWp none 227 (0, [some (.ref 1), some (.int x1), none], [], μ) 0 P := by
  refine gWp_sts gT_227 2 (f' := (2, [some (.ref 1), some (.int x1), none], [.int x1, .ref 1], μ)) (cs := []) rfl trivial ?_
  refine gWp_virt gT_227 (pc := 2) (q := 1) (as := [.ref 1, .int x1]) (rest := []) rfl rfl rfl rfl rfl rfl ⟨by decide, Nat.le_of_ble_eq_true rfl, by decide, Nat.le_of_ble_eq_true rfl⟩ (gWp_imp h (fun μ1 r h => ?_))
  obtain ⟨v2, rfl, h⟩ := h
  refine Or.inl ⟨_, rfl, ?_⟩
  show gWp none 227 (5, [some (.ref 1), some (.int x1), none], [.int v2], μ1) _ P
  refine gWp_sts gT_227 3 (f' := (8, [some (.ref 1), some (.int x1), some (.int v2)], [.int (-1 : Int32), .int v2], μ1)) (cs := []) rfl trivial ?_
  refine gWp_icmp gT_227 (pc := 8) rfl ⟨fun c => ?_, fun c => ?_⟩
  · replace h := h.1 (of_decide_eq_true c)
    refine gWp_sts gT_227 4 (f' := (19, [some (.ref 1), some (.int x1), some (.int v2)], [.int x1, .ref 1, .ref 1, .ref 1], μ1)) (cs := []) rfl trivial ?_
    refine gWp_virt gT_227 (pc := 19) (q := 1) (as := [.ref 1, .int x1]) (rest := [.ref 1, .ref 1]) rfl rfl rfl rfl rfl rfl ⟨by decide, Nat.le_of_ble_eq_true rfl, by decide, Nat.le_of_ble_eq_true rfl⟩ (gWp_imp h (fun μ3 r h => ?_))
    obtain ⟨v4, rfl, h⟩ := h
    refine Or.inl ⟨_, rfl, ?_⟩
    show gWp none 227 (22, [some (.ref 1), some (.int x1), some (.int v2)], [.int v4, .ref 1, .ref 1], μ3) _ P
    refine gWp_virt gT_227 (pc := 22) (q := 1) (as := [.ref 1, .int v4]) (rest := [.ref 1]) rfl rfl rfl rfl rfl rfl ⟨by decide, Nat.le_of_ble_eq_true rfl, by decide, Nat.le_of_ble_eq_true rfl⟩ (gWp_imp h (fun μ5 r h => ?_))
    obtain ⟨v6, rfl, h⟩ := h
    refine Or.inl ⟨_, rfl, ?_⟩
    show gWp none 227 (25, [some (.ref 1), some (.int x1), some (.int v2)], [.int v6, .ref 1], μ5) _ P
    refine gWp_sts gT_227 1 (f' := (26, [some (.ref 1), some (.int x1), some (.int v2)], [.int v2, .int v6, .ref 1], μ5)) (cs := []) rfl trivial ?_
    refine gWp_virt gT_227 (pc := 26) (q := 1) (as := [.ref 1, .int v6, .int v2]) (rest := []) rfl rfl rfl rfl rfl rfl ⟨by decide, Nat.le_of_ble_eq_true rfl, by decide, Nat.le_of_ble_eq_true rfl⟩ (gWp_imp h (fun μ7 r h => ?_))
    obtain ⟨v8, rfl, h⟩ := h
    refine Or.inl ⟨_, rfl, ?_⟩
    show gWp none 227 (29, [some (.ref 1), some (.int x1), some (.int v2)], [.int v8], μ7) _ P
    exact gWp_end gT_227 rfl (gEnd_int trivial) h
  · replace h := h.2 (Classical.not_not.mp (fun q => c (decide_eq_true q)))
    refine gWp_sts gT_227 2 (f' := (29, [some (.ref 1), some (.int x1), some (.int v2)], [.int (0 : Int32)], μ1)) (cs := []) rfl trivial ?_
    exact gWp_end gT_227 rfl (gEnd_int trivial) h
/-! GlyphmillModel.hyphenShare -/
theorem gT_228 : gCode[228]? = some gC_228 := rfl
set_option maxRecDepth 20000 in
theorem vc_228_29 {μ : gMu} {x1 : Int32} {x2 : Int32} {P : gMu → gRes → Prop} (h : (((gI μ 1 23) ≤ x2) → (gCl' 205 [.ref 1] μ (fun μ1 r => (∃ v2, r = .inl (some (.int v2)) ∧ ((vf_n32 (FP.fdiv (FP.i2f x1) (FP.i2f v2))) ∧ (P μ1 (.inl (some (.float (FP.fdiv (FP.i2f x1) (FP.i2f v2))))))))))) ∧ ((¬ (gI μ 1 23) ≤ x2) → ((vp_in x2 51) ∧ (gCl' 201 [.ref 1, .int (gI μ 61 x2.toNatClampNeg)] μ (fun μ3 r => (∃ v4, r = .inl (some (.int v4)) ∧ (((v4 = 0) → ((vp_in x2 51) ∧ (gWp none 228 (29, [some (.ref 1), some (.int (x1 + (0 : Int32))), some (.int (gI μ3 61 x2.toNatClampNeg))], [], μ3) 0 P))) ∧ ((¬ v4 = 0) → ((vp_in x2 51) ∧ (gWp none 228 (29, [some (.ref 1), some (.int (x1 + (1 : Int32))), some (.int (gI μ3 61 x2.toNatClampNeg))], [], μ3) 0 P)))))))))) : gWp none 228 (29, [some (.ref 1), some (.int x1), some (.int x2)], [], μ) 0 P := by
  refine gWp_sts gT_228 3 (f' := (34, [some (.ref 1), some (.int x1), some (.int x2)], [.int (gI μ 1 23), .int x2], μ)) (cs := []) rfl trivial ?_
  refine gWp_icmp gT_228 (pc := 34) rfl ⟨fun c => ?_, fun c => ?_⟩
  · replace h := h.1 (of_decide_eq_true c)
    refine gWp_sts gT_228 3 (f' := (71, [some (.ref 1), some (.int x1), some (.int x2)], [.ref 1, .float (FP.i2f x1)], μ)) (cs := []) rfl trivial ?_
    refine gWp_virt gT_228 (pc := 71) (q := 1) (as := [.ref 1]) (rest := [.float (FP.i2f x1)]) rfl rfl rfl rfl rfl rfl ⟨by decide, Nat.le_of_ble_eq_true rfl, by decide, Nat.le_of_ble_eq_true rfl⟩ (gWp_imp h (fun μ1 r h => ?_))
    obtain ⟨v2, rfl, h⟩ := h
    refine Or.inl ⟨_, rfl, ?_⟩
    show gWp none 228 (74, [some (.ref 1), some (.int x1), some (.int x2)], [.int v2, .float (FP.i2f x1)], μ1) _ P
    obtain ⟨c1, h⟩ := h
    refine gWp_sts gT_228 2 (f' := (76, [some (.ref 1), some (.int x1), some (.int x2)], [.float (FP.fdiv (FP.i2f x1) (FP.i2f v2))], μ1)) (cs := [vf_n32 (FP.fdiv (FP.i2f x1) (FP.i2f v2))]) rfl c1 ?_
    exact gWp_end gT_228 rfl rfl h
  · replace h := h.2 (fun q => c (decide_eq_true q))
    obtain ⟨c1, h⟩ := h
    refine gWp_sts gT_228 6 (f' := (45, [some (.ref 1), some (.int x1), some (.int x2)], [.int (gI μ 61 x2.toNatClampNeg), .ref 1, .int x1], μ)) (cs := [vp_in x2 51]) rfl c1 ?_
    refine gWp_virt gT_228 (pc := 45) (q := 1) (as := [.ref 1, .int (gI μ 61 x2.toNatClampNeg)]) (rest := [.int x1]) rfl rfl rfl rfl rfl rfl ⟨by decide, Nat.le_of_ble_eq_true rfl, by decide, Nat.le_of_ble_eq_true rfl⟩ (gWp_imp h (fun μ3 r h => ?_))
    obtain ⟨v4, rfl, h⟩ := h
    refine Or.inl ⟨_, rfl, ?_⟩
    show gWp none 228 (48, [some (.ref 1), some (.int x1), some (.int x2)], [.int v4, .int x1], μ3) _ P
    refine gWp_if gT_228 (pc := 48) rfl ⟨fun c => ?_, fun c => ?_⟩
    · replace h := h.1 (of_decide_eq_true c)
      obtain ⟨c1, h⟩ := h
      refine gWp_sts gT_228 9 (f' := (29, [some (.ref 1), some (.int (x1 + (0 : Int32))), some (.int (gI μ3 61 x2.toNatClampNeg))], [], μ3)) (cs := [vp_in x2 51]) rfl c1 ?_
      exact h
    · replace h := h.2 (fun q => c (decide_eq_true q))
      obtain ⟨c1, h⟩ := h
      refine gWp_sts gT_228 10 (f' := (29, [some (.ref 1), some (.int (x1 + (1 : Int32))), some (.int (gI μ3 61 x2.toNatClampNeg))], [], μ3)) (cs := [vp_in x2 51]) rfl c1 ?_
      exact h
set_option maxRecDepth 20000 in
theorem vc_228 {μ : gMu} {P : gMu → gRes → Prop} (h : gCl' 204 [.ref 1, .int (1 : Int32)] μ (fun μ1 r => (∃ v2, r = .inl (some (.int v2)) ∧ (((v2 = 0) → (gCl' 191 [.ref 1] μ1 (fun μ3 r => (∃ v4, r = .inl (some (.int v4)) ∧ (((¬ v4 = 0) → (gWp none 228 (29, [some (.ref 1), some (.int (0 : Int32)), some (.int (0 : Int32))], [], μ3) 0 P)) ∧ ((v4 = 0) → (gCl' 161 [.ref 1, .int (2 : Int32)] μ3 (fun μ5 r => (∃ v6, r = .inl (some (.int v6)) ∧ (P μ5 (.inl (some (.float FP.fconst0))))))))))))) ∧ ((¬ v2 = 0) → (P μ1 (.inl (some (.float FP.fconst0))))))))) : gWp none 228 (0, [some (.ref 1), none, none], [], μ) 0 P := by
  refine gWp_sts gT_228 2 (f' := (2, [some (.ref 1), none, none], [.int (1 : Int32), .ref 1], μ)) (cs := []) rfl trivial ?_
  refine gWp_virt gT_228 (pc := 2) (q := 1) (as := [.ref 1, .int (1 : Int32)]) (rest := []) rfl rfl rfl rfl rfl rfl ⟨by decide, Nat.le_of_ble_eq_true rfl, by decide, Nat.le_of_ble_eq_true rfl⟩ (gWp_imp h (fun μ1 r h => ?_))
  obtain ⟨v2, rfl, h⟩ := h
  refine Or.inl ⟨_, rfl, ?_⟩
  show gWp none 228 (5, [some (.ref 1), none, none], [.int v2], μ1) _ P
  refine gWp_if gT_228 (pc := 5) rfl ⟨fun c => ?_, fun c => ?_⟩
  · replace h := h.1 (of_decide_eq_true c)
    refine gWp_sts gT_228 1 (f' := (11, [some (.ref 1), none, none], [.ref 1], μ1)) (cs := []) rfl trivial ?_
    refine gWp_virt gT_228 (pc := 11) (q := 1) (as := [.ref 1]) (rest := []) rfl rfl rfl rfl rfl rfl ⟨by decide, Nat.le_of_ble_eq_true rfl, by decide, Nat.le_of_ble_eq_true rfl⟩ (gWp_imp h (fun μ3 r h => ?_))
    obtain ⟨v4, rfl, h⟩ := h
    refine Or.inl ⟨_, rfl, ?_⟩
    show gWp none 228 (14, [some (.ref 1), none, none], [.int v4], μ3) _ P
    refine gWp_if gT_228 (pc := 14) rfl ⟨fun c => ?_, fun c => ?_⟩
    · replace h := h.1 (of_decide_eq_true c)
      refine gWp_sts gT_228 4 (f' := (29, [some (.ref 1), some (.int (0 : Int32)), some (.int (0 : Int32))], [], μ3)) (cs := []) rfl trivial ?_
      exact h
    · replace h := h.2 (Classical.not_not.mp (fun q => c (decide_eq_true q)))
      refine gWp_sts gT_228 2 (f' := (19, [some (.ref 1), none, none], [.int (2 : Int32), .ref 1], μ3)) (cs := []) rfl trivial ?_
      refine gWp_virt gT_228 (pc := 19) (q := 1) (as := [.ref 1, .int (2 : Int32)]) (rest := []) rfl rfl rfl rfl rfl rfl ⟨by decide, Nat.le_of_ble_eq_true rfl, by decide, Nat.le_of_ble_eq_true rfl⟩ (gWp_imp h (fun μ5 r h => ?_))
      obtain ⟨v6, rfl, h⟩ := h
      refine Or.inl ⟨_, rfl, ?_⟩
      show gWp none 228 (22, [some (.ref 1), none, none], [.int v6], μ5) _ P
      refine gWp_sts gT_228 2 (f' := (24, [some (.ref 1), none, none], [.float FP.fconst0], μ5)) (cs := [(Value.int v6 : Value).category = 1]) rfl rfl ?_
      exact gWp_end gT_228 rfl rfl h
  · replace h := h.2 (fun q => c (decide_eq_true q))
    refine gWp_sts gT_228 1 (f' := (9, [some (.ref 1), none, none], [.float FP.fconst0], μ1)) (cs := []) rfl trivial ?_
    exact gWp_end gT_228 rfl rfl h
/-! GlyphmillModel.meanBadness -/
theorem gT_229 : gCode[229]? = some gC_229 := rfl
set_option maxRecDepth 20000 in
theorem vc_229_29 {μ : gMu} {x1 : Int64} {x3 : Int32} {P : gMu → gRes → Prop} (h : (((gI μ 1 23) ≤ x3) → (gCl' 205 [.ref 1] μ (fun μ1 r => (∃ v2, r = .inl (some (.int v2)) ∧ ((vf_n64 (FP.ddiv (FP.l2d x1) (FP.i2d v2))) ∧ (P μ1 (.inl (some (.double (FP.ddiv (FP.l2d x1) (FP.i2d v2))))))))))) ∧ ((¬ (gI μ 1 23) ≤ x3) → ((vp_in x3 51) ∧ (gCl' 200 [.ref 1, .int x3, .int (gI μ 61 x3.toNatClampNeg)] μ (fun μ3 r => (∃ v4, r = .inl (some (.int v4)) ∧ ((vp_in x3 51) ∧ (gWp none 229 (29, [some (.ref 1), some (.long (x1 + v4.toInt64)), none, some (.int (gI μ3 61 x3.toNatClampNeg))], [], μ3) 0 P)))))))) : gWp none 229 (29, [some (.ref 1), some (.long x1), none, some (.int x3)], [], μ) 0 P := by
  refine gWp_sts gT_229 3 (f' := (34, [some (.ref 1), some (.long x1), none, some (.int x3)], [.int (gI μ 1 23), .int x3], μ)) (cs := []) rfl trivial ?_
  refine gWp_icmp gT_229 (pc := 34) rfl ⟨fun c => ?_, fun c => ?_⟩
  · replace h := h.1 (of_decide_eq_true c)
    refine gWp_sts gT_229 3 (f' := (65, [some (.ref 1), some (.long x1), none, some (.int x3)], [.ref 1, .double (FP.l2d x1)], μ)) (cs := []) rfl trivial ?_
    refine gWp_virt gT_229 (pc := 65) (q := 1) (as := [.ref 1]) (rest := [.double (FP.l2d x1)]) rfl rfl rfl rfl rfl rfl ⟨by decide, Nat.le_of_ble_eq_true rfl, by decide, Nat.le_of_ble_eq_true rfl⟩ (gWp_imp h (fun μ1 r h => ?_))
    obtain ⟨v2, rfl, h⟩ := h
    refine Or.inl ⟨_, rfl, ?_⟩
    show gWp none 229 (68, [some (.ref 1), some (.long x1), none, some (.int x3)], [.int v2, .double (FP.l2d x1)], μ1) _ P
    obtain ⟨c1, h⟩ := h
    refine gWp_sts gT_229 2 (f' := (70, [some (.ref 1), some (.long x1), none, some (.int x3)], [.double (FP.ddiv (FP.l2d x1) (FP.i2d v2))], μ1)) (cs := [vf_n64 (FP.ddiv (FP.l2d x1) (FP.i2d v2))]) rfl c1 ?_
    exact gWp_end gT_229 rfl rfl h
  · replace h := h.2 (fun q => c (decide_eq_true q))
    obtain ⟨c1, h⟩ := h
    refine gWp_sts gT_229 7 (f' := (46, [some (.ref 1), some (.long x1), none, some (.int x3)], [.int (gI μ 61 x3.toNatClampNeg), .int x3, .ref 1, .long x1], μ)) (cs := [vp_in x3 51]) rfl c1 ?_
    refine gWp_virt gT_229 (pc := 46) (q := 1) (as := [.ref 1, .int x3, .int (gI μ 61 x3.toNatClampNeg)]) (rest := [.long x1]) rfl rfl rfl rfl rfl rfl ⟨by decide, Nat.le_of_ble_eq_true rfl, by decide, Nat.le_of_ble_eq_true rfl⟩ (gWp_imp h (fun μ3 r h => ?_))
    obtain ⟨v4, rfl, h⟩ := h
    refine Or.inl ⟨_, rfl, ?_⟩
    show gWp none 229 (49, [some (.ref 1), some (.long x1), none, some (.int x3)], [.int v4, .long x1], μ3) _ P
    obtain ⟨c1, h⟩ := h
    refine gWp_sts gT_229 9 (f' := (29, [some (.ref 1), some (.long (x1 + v4.toInt64)), none, some (.int (gI μ3 61 x3.toNatClampNeg))], [], μ3)) (cs := [vp_in x3 51]) rfl c1 ?_
    exact h
set_option maxRecDepth 20000 in
theorem vc_229 {μ : gMu} {P : gMu → gRes → Prop} (h : gCl' 204 [.ref 1, .int (1 : Int32)] μ (fun μ1 r => (∃ v2, r = .inl (some (.int v2)) ∧ (((v2 = 0) → (gCl' 191 [.ref 1] μ1 (fun μ3 r => (∃ v4, r = .inl (some (.int v4)) ∧ (((¬ v4 = 0) → (gWp none 229 (29, [some (.ref 1), some (.long (0 : Int64)), none, some (.int (0 : Int32))], [], μ3) 0 P)) ∧ ((v4 = 0) → (gCl' 161 [.ref 1, .int (2 : Int32)] μ3 (fun μ5 r => (∃ v6, r = .inl (some (.int v6)) ∧ (P μ5 (.inl (some (.double FP.dconst0))))))))))))) ∧ ((¬ v2 = 0) → (P μ1 (.inl (some (.double FP.dconst0))))))))) : gWp none 229 (0, [some (.ref 1), none, none, none], [], μ) 0 P := by
  refine gWp_sts gT_229 2 (f' := (2, [some (.ref 1), none, none, none], [.int (1 : Int32), .ref 1], μ)) (cs := []) rfl trivial ?_
  refine gWp_virt gT_229 (pc := 2) (q := 1) (as := [.ref 1, .int (1 : Int32)]) (rest := []) rfl rfl rfl rfl rfl rfl ⟨by decide, Nat.le_of_ble_eq_true rfl, by decide, Nat.le_of_ble_eq_true rfl⟩ (gWp_imp h (fun μ1 r h => ?_))
  obtain ⟨v2, rfl, h⟩ := h
  refine Or.inl ⟨_, rfl, ?_⟩
  show gWp none 229 (5, [some (.ref 1), none, none, none], [.int v2], μ1) _ P
  refine gWp_if gT_229 (pc := 5) rfl ⟨fun c => ?_, fun c => ?_⟩
  · replace h := h.1 (of_decide_eq_true c)
    refine gWp_sts gT_229 1 (f' := (11, [some (.ref 1), none, none, none], [.ref 1], μ1)) (cs := []) rfl trivial ?_
    refine gWp_virt gT_229 (pc := 11) (q := 1) (as := [.ref 1]) (rest := []) rfl rfl rfl rfl rfl rfl ⟨by decide, Nat.le_of_ble_eq_true rfl, by decide, Nat.le_of_ble_eq_true rfl⟩ (gWp_imp h (fun μ3 r h => ?_))
    obtain ⟨v4, rfl, h⟩ := h
    refine Or.inl ⟨_, rfl, ?_⟩
    show gWp none 229 (14, [some (.ref 1), none, none, none], [.int v4], μ3) _ P
    refine gWp_if gT_229 (pc := 14) rfl ⟨fun c => ?_, fun c => ?_⟩
    · replace h := h.1 (of_decide_eq_true c)
      refine gWp_sts gT_229 4 (f' := (29, [some (.ref 1), some (.long (0 : Int64)), none, some (.int (0 : Int32))], [], μ3)) (cs := []) rfl trivial ?_
      exact h
    · replace h := h.2 (Classical.not_not.mp (fun q => c (decide_eq_true q)))
      refine gWp_sts gT_229 2 (f' := (19, [some (.ref 1), none, none, none], [.int (2 : Int32), .ref 1], μ3)) (cs := []) rfl trivial ?_
      refine gWp_virt gT_229 (pc := 19) (q := 1) (as := [.ref 1, .int (2 : Int32)]) (rest := []) rfl rfl rfl rfl rfl rfl ⟨by decide, Nat.le_of_ble_eq_true rfl, by decide, Nat.le_of_ble_eq_true rfl⟩ (gWp_imp h (fun μ5 r h => ?_))
      obtain ⟨v6, rfl, h⟩ := h
      refine Or.inl ⟨_, rfl, ?_⟩
      show gWp none 229 (22, [some (.ref 1), none, none, none], [.int v6], μ5) _ P
      refine gWp_sts gT_229 2 (f' := (24, [some (.ref 1), none, none, none], [.double FP.dconst0], μ5)) (cs := [(Value.int v6 : Value).category = 1]) rfl rfl ?_
      exact gWp_end gT_229 rfl rfl h
  · replace h := h.2 (fun q => c (decide_eq_true q))
    refine gWp_sts gT_229 1 (f' := (9, [some (.ref 1), none, none, none], [.double FP.dconst0], μ1)) (cs := []) rfl trivial ?_
    exact gWp_end gT_229 rfl rfl h
