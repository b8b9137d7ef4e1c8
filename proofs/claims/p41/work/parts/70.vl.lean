/-! WHAT THE LAW'S METHODS OWE; written by wip/p41/lawgen.py -/
theorem gT_152 : gCode[152]? = some gC_152 := rfl
set_option maxRecDepth 20000 in
theorem vc_152 {μ : gMu} {x0 : Int32} {x1 : Int32} {P : gMu → gRes → Prop} (h : (¬ x1 = 0) ∧ (((0 ≤ (x0 - x0 / x1 * x1)) → (P μ (.inl (some (.int (x0 - x0 / x1 * x1)))))) ∧ ((¬ 0 ≤ (x0 - x0 / x1 * x1)) → (P μ (.inl (some (.int ((x0 - x0 / x1 * x1) + x1)))))))) : gWp none 152 (0, [some (.int x0), some (.int x1), none], [], μ) 0 P := by
  obtain ⟨c1, h⟩ := h
  refine gWp_sts gT_152 5 (f' := (5, [some (.int x0), some (.int x1), some (.int (x0 - x0 / x1 * x1))], [.int (x0 - x0 / x1 * x1)], μ)) (cs := [¬ x1 = 0]) rfl c1 ?_
  refine gWp_if gT_152 (pc := 5) rfl ⟨fun c => ?_, fun c => ?_⟩
  · replace h := h.1 (of_decide_eq_true c)
    refine gWp_sts gT_152 1 (f' := (15, [some (.int x0), some (.int x1), some (.int (x0 - x0 / x1 * x1))], [.int (x0 - x0 / x1 * x1)], μ)) (cs := []) rfl trivial ?_
    exact gWp_end gT_152 rfl (gEnd_int trivial) h
  · replace h := h.2 (fun q => c (decide_eq_true q))
    refine gWp_sts gT_152 4 (f' := (15, [some (.int x0), some (.int x1), some (.int (x0 - x0 / x1 * x1))], [.int ((x0 - x0 / x1 * x1) + x1)], μ)) (cs := []) rfl trivial ?_
    exact gWp_end gT_152 rfl (gEnd_int trivial) h
/-! stands -/
theorem gT_153 : gCode[153]? = some gC_153 := rfl
set_option maxRecDepth 20000 in
theorem vc_153 {μ : gMu} {x1 : Int32} {x2 : Int32} {P : gMu → gRes → Prop} (h : ((¬ x2 = 0) → (((¬ x2 = (1 : Int32)) → (((¬ x2 = (2 : Int32)) → (((¬ x2 = (3 : Int32)) → (gCl' 145 [.ref 0, .int x1] μ (fun μ1 r => (∃ v2, r = .inl (some (.int v2)) ∧ (P μ1 (.inl (some (.int v2))))) ∨ (r = .inr 2 ∧ (P (gBm μ1) (.inl (some (.int (-1001 : Int32)))))) ∨ (r = .inr 3 ∧ (P (gBm μ1) (.inl (some (.int (-1002 : Int32)))))) ∨ (r = .inr 1 ∧ (P (gBm μ1) (.inl (some (.int (-1003 : Int32)))))) ∨ (r = .inr 4 ∧ (P (gBm μ1) (.inl (some (.int (-1004 : Int32))))))))) ∧ ((x2 = (3 : Int32)) → (gCl' 143 [.ref 0, .int x1] μ (fun μ3 r => (∃ v4, r = .inl (some (.int v4)) ∧ (P μ3 (.inl (some (.int v4))))) ∨ (r = .inr 2 ∧ (P (gBm μ3) (.inl (some (.int (-1001 : Int32)))))) ∨ (r = .inr 3 ∧ (P (gBm μ3) (.inl (some (.int (-1002 : Int32)))))) ∨ (r = .inr 1 ∧ (P (gBm μ3) (.inl (some (.int (-1003 : Int32)))))) ∨ (r = .inr 4 ∧ (P (gBm μ3) (.inl (some (.int (-1004 : Int32))))))))))) ∧ ((x2 = (2 : Int32)) → (gCl' 141 [.ref 0, .int x1] μ (fun μ5 r => (∃ v6, r = .inl (some (.int v6)) ∧ (P μ5 (.inl (some (.int v6))))) ∨ (r = .inr 2 ∧ (P (gBm μ5) (.inl (some (.int (-1001 : Int32)))))) ∨ (r = .inr 3 ∧ (P (gBm μ5) (.inl (some (.int (-1002 : Int32)))))) ∨ (r = .inr 1 ∧ (P (gBm μ5) (.inl (some (.int (-1003 : Int32)))))) ∨ (r = .inr 4 ∧ (P (gBm μ5) (.inl (some (.int (-1004 : Int32))))))))))) ∧ ((x2 = (1 : Int32)) → (gCl' 138 [.ref 0, .int x1] μ (fun μ7 r => (∃ v8, r = .inl (some (.int v8)) ∧ (P μ7 (.inl (some (.int v8))))) ∨ (r = .inr 2 ∧ (P (gBm μ7) (.inl (some (.int (-1001 : Int32)))))) ∨ (r = .inr 3 ∧ (P (gBm μ7) (.inl (some (.int (-1002 : Int32)))))) ∨ (r = .inr 1 ∧ (P (gBm μ7) (.inl (some (.int (-1003 : Int32)))))) ∨ (r = .inr 4 ∧ (P (gBm μ7) (.inl (some (.int (-1004 : Int32))))))))))) ∧ ((x2 = 0) → (gCl' 117 [.ref 0, .int x1] μ (fun μ9 r => (∃ v10, r = .inl (some (.int v10)) ∧ (P μ9 (.inl (some (.int v10))))) ∨ (r = .inr 2 ∧ (P (gBm μ9) (.inl (some (.int (-1001 : Int32)))))) ∨ (r = .inr 3 ∧ (P (gBm μ9) (.inl (some (.int (-1002 : Int32)))))) ∨ (r = .inr 1 ∧ (P (gBm μ9) (.inl (some (.int (-1003 : Int32)))))) ∨ (r = .inr 4 ∧ (P (gBm μ9) (.inl (some (.int (-1004 : Int32)))))))))) : gWp none 153 (0, [some (.ref 0), some (.int x1), some (.int x2), none], [], μ) 0 P := by
  refine gWp_sts gT_153 1 (f' := (1, [some (.ref 0), some (.int x1), some (.int x2), none], [.int x2], μ)) (cs := []) rfl trivial ?_
  refine gWp_if gT_153 (pc := 1) rfl ⟨fun c => ?_, fun c => ?_⟩
  · replace h := h.1 (of_decide_eq_true c)
    refine gWp_sts gT_153 2 (f' := (14, [some (.ref 0), some (.int x1), some (.int x2), none], [.int (1 : Int32), .int x2], μ)) (cs := []) rfl trivial ?_
    refine gWp_icmp gT_153 (pc := 14) rfl ⟨fun c => ?_, fun c => ?_⟩
    · replace h := h.1 (of_decide_eq_true c)
      refine gWp_sts gT_153 2 (f' := (27, [some (.ref 0), some (.int x1), some (.int x2), none], [.int (2 : Int32), .int x2], μ)) (cs := []) rfl trivial ?_
      refine gWp_icmp gT_153 (pc := 27) rfl ⟨fun c => ?_, fun c => ?_⟩
      · replace h := h.1 (of_decide_eq_true c)
        refine gWp_sts gT_153 2 (f' := (40, [some (.ref 0), some (.int x1), some (.int x2), none], [.int (3 : Int32), .int x2], μ)) (cs := []) rfl trivial ?_
        refine gWp_icmp gT_153 (pc := 40) rfl ⟨fun c => ?_, fun c => ?_⟩
        · replace h := h.1 (of_decide_eq_true c)
          refine gWp_sts gT_153 2 (f' := (53, [some (.ref 0), some (.int x1), some (.int x2), none], [.int x1, .ref 0], μ)) (cs := []) rfl trivial ?_
          refine gWp_virt gT_153 (pc := 53) (q := 0) (as := [.ref 0, .int x1]) (rest := []) rfl rfl rfl rfl rfl rfl ⟨by decide, Nat.le_of_ble_eq_true rfl, by decide, Nat.le_of_ble_eq_true rfl⟩ (gWp_imp h (fun μ1 r h => ?_))
          rcases h with h | h | h | h | h
          · obtain ⟨v2, rfl, h⟩ := h
            refine Or.inl ⟨_, rfl, ?_⟩
            show gWp none 153 (56, [some (.ref 0), some (.int x1), some (.int x2), none], [.int v2], μ1) _ P
            exact gWp_end gT_153 rfl (gEnd_int trivial) h
          · obtain ⟨rfl, h⟩ := h
            refine Or.inr (Or.inr ⟨2, 0, _, _, _, rfl, rfl, rfl, rfl, Or.inl ⟨_, rfl, rfl⟩, ?_⟩)
            refine gWp_sts gT_153 1 (f' := (61, [some (.ref 0), some (.int x1), some (.int x2), none], [.int (-1001 : Int32)], (gBm μ1))) (cs := []) rfl trivial ?_
            exact gWp_end gT_153 rfl (gEnd_int trivial) h
          · obtain ⟨rfl, h⟩ := h
            refine Or.inr (Or.inr ⟨3, 1, _, _, _, rfl, rfl, rfl, rfl, Or.inl ⟨_, rfl, rfl⟩, ?_⟩)
            refine gWp_sts gT_153 1 (f' := (66, [some (.ref 0), some (.int x1), some (.int x2), none], [.int (-1002 : Int32)], (gBm μ1))) (cs := []) rfl trivial ?_
            exact gWp_end gT_153 rfl (gEnd_int trivial) h
          · obtain ⟨rfl, h⟩ := h
            refine Or.inr (Or.inr ⟨1, 2, _, _, _, rfl, rfl, rfl, rfl, Or.inl ⟨_, rfl, rfl⟩, ?_⟩)
            refine gWp_sts gT_153 1 (f' := (71, [some (.ref 0), some (.int x1), some (.int x2), none], [.int (-1003 : Int32)], (gBm μ1))) (cs := []) rfl trivial ?_
            exact gWp_end gT_153 rfl (gEnd_int trivial) h
          · obtain ⟨rfl, h⟩ := h
            refine Or.inr (Or.inr ⟨4, 3, _, _, _, rfl, rfl, rfl, rfl, Or.inl ⟨_, rfl, rfl⟩, ?_⟩)
            refine gWp_sts gT_153 1 (f' := (76, [some (.ref 0), some (.int x1), some (.int x2), none], [.int (-1004 : Int32)], (gBm μ1))) (cs := []) rfl trivial ?_
            exact gWp_end gT_153 rfl (gEnd_int trivial) h
        · replace h := h.2 (Classical.not_not.mp (fun q => c (decide_eq_true q)))
          refine gWp_sts gT_153 2 (f' := (45, [some (.ref 0), some (.int x1), some (.int x2), none], [.int x1, .ref 0], μ)) (cs := []) rfl trivial ?_
          refine gWp_virt gT_153 (pc := 45) (q := 0) (as := [.ref 0, .int x1]) (rest := []) rfl rfl rfl rfl rfl rfl ⟨by decide, Nat.le_of_ble_eq_true rfl, by decide, Nat.le_of_ble_eq_true rfl⟩ (gWp_imp h (fun μ3 r h => ?_))
          rcases h with h | h | h | h | h
          · obtain ⟨v4, rfl, h⟩ := h
            refine Or.inl ⟨_, rfl, ?_⟩
            show gWp none 153 (48, [some (.ref 0), some (.int x1), some (.int x2), none], [.int v4], μ3) _ P
            refine gWp_sts gT_153 1 (f' := (56, [some (.ref 0), some (.int x1), some (.int x2), none], [.int v4], μ3)) (cs := []) rfl trivial ?_
            exact gWp_end gT_153 rfl (gEnd_int trivial) h
          · obtain ⟨rfl, h⟩ := h
            refine Or.inr (Or.inr ⟨2, 0, _, _, _, rfl, rfl, rfl, rfl, Or.inl ⟨_, rfl, rfl⟩, ?_⟩)
            refine gWp_sts gT_153 1 (f' := (61, [some (.ref 0), some (.int x1), some (.int x2), none], [.int (-1001 : Int32)], (gBm μ3))) (cs := []) rfl trivial ?_
            exact gWp_end gT_153 rfl (gEnd_int trivial) h
          · obtain ⟨rfl, h⟩ := h
            refine Or.inr (Or.inr ⟨3, 1, _, _, _, rfl, rfl, rfl, rfl, Or.inl ⟨_, rfl, rfl⟩, ?_⟩)
            refine gWp_sts gT_153 1 (f' := (66, [some (.ref 0), some (.int x1), some (.int x2), none], [.int (-1002 : Int32)], (gBm μ3))) (cs := []) rfl trivial ?_
            exact gWp_end gT_153 rfl (gEnd_int trivial) h
          · obtain ⟨rfl, h⟩ := h
            refine Or.inr (Or.inr ⟨1, 2, _, _, _, rfl, rfl, rfl, rfl, Or.inl ⟨_, rfl, rfl⟩, ?_⟩)
            refine gWp_sts gT_153 1 (f' := (71, [some (.ref 0), some (.int x1), some (.int x2), none], [.int (-1003 : Int32)], (gBm μ3))) (cs := []) rfl trivial ?_
            exact gWp_end gT_153 rfl (gEnd_int trivial) h
          · obtain ⟨rfl, h⟩ := h
            refine Or.inr (Or.inr ⟨4, 3, _, _, _, rfl, rfl, rfl, rfl, Or.inl ⟨_, rfl, rfl⟩, ?_⟩)
            refine gWp_sts gT_153 1 (f' := (76, [some (.ref 0), some (.int x1), some (.int x2), none], [.int (-1004 : Int32)], (gBm μ3))) (cs := []) rfl trivial ?_
            exact gWp_end gT_153 rfl (gEnd_int trivial) h
      · replace h := h.2 (Classical.not_not.mp (fun q => c (decide_eq_true q)))
        refine gWp_sts gT_153 2 (f' := (32, [some (.ref 0), some (.int x1), some (.int x2), none], [.int x1, .ref 0], μ)) (cs := []) rfl trivial ?_
        refine gWp_virt gT_153 (pc := 32) (q := 0) (as := [.ref 0, .int x1]) (rest := []) rfl rfl rfl rfl rfl rfl ⟨by decide, Nat.le_of_ble_eq_true rfl, by decide, Nat.le_of_ble_eq_true rfl⟩ (gWp_imp h (fun μ5 r h => ?_))
        rcases h with h | h | h | h | h
        · obtain ⟨v6, rfl, h⟩ := h
          refine Or.inl ⟨_, rfl, ?_⟩
          show gWp none 153 (35, [some (.ref 0), some (.int x1), some (.int x2), none], [.int v6], μ5) _ P
          refine gWp_sts gT_153 1 (f' := (56, [some (.ref 0), some (.int x1), some (.int x2), none], [.int v6], μ5)) (cs := []) rfl trivial ?_
          exact gWp_end gT_153 rfl (gEnd_int trivial) h
        · obtain ⟨rfl, h⟩ := h
          refine Or.inr (Or.inr ⟨2, 0, _, _, _, rfl, rfl, rfl, rfl, Or.inl ⟨_, rfl, rfl⟩, ?_⟩)
          refine gWp_sts gT_153 1 (f' := (61, [some (.ref 0), some (.int x1), some (.int x2), none], [.int (-1001 : Int32)], (gBm μ5))) (cs := []) rfl trivial ?_
          exact gWp_end gT_153 rfl (gEnd_int trivial) h
        · obtain ⟨rfl, h⟩ := h
          refine Or.inr (Or.inr ⟨3, 1, _, _, _, rfl, rfl, rfl, rfl, Or.inl ⟨_, rfl, rfl⟩, ?_⟩)
          refine gWp_sts gT_153 1 (f' := (66, [some (.ref 0), some (.int x1), some (.int x2), none], [.int (-1002 : Int32)], (gBm μ5))) (cs := []) rfl trivial ?_
          exact gWp_end gT_153 rfl (gEnd_int trivial) h
        · obtain ⟨rfl, h⟩ := h
          refine Or.inr (Or.inr ⟨1, 2, _, _, _, rfl, rfl, rfl, rfl, Or.inl ⟨_, rfl, rfl⟩, ?_⟩)
          refine gWp_sts gT_153 1 (f' := (71, [some (.ref 0), some (.int x1), some (.int x2), none], [.int (-1003 : Int32)], (gBm μ5))) (cs := []) rfl trivial ?_
          exact gWp_end gT_153 rfl (gEnd_int trivial) h
        · obtain ⟨rfl, h⟩ := h
          refine Or.inr (Or.inr ⟨4, 3, _, _, _, rfl, rfl, rfl, rfl, Or.inl ⟨_, rfl, rfl⟩, ?_⟩)
          refine gWp_sts gT_153 1 (f' := (76, [some (.ref 0), some (.int x1), some (.int x2), none], [.int (-1004 : Int32)], (gBm μ5))) (cs := []) rfl trivial ?_
          exact gWp_end gT_153 rfl (gEnd_int trivial) h
    · replace h := h.2 (Classical.not_not.mp (fun q => c (decide_eq_true q)))
      refine gWp_sts gT_153 2 (f' := (19, [some (.ref 0), some (.int x1), some (.int x2), none], [.int x1, .ref 0], μ)) (cs := []) rfl trivial ?_
      refine gWp_virt gT_153 (pc := 19) (q := 0) (as := [.ref 0, .int x1]) (rest := []) rfl rfl rfl rfl rfl rfl ⟨by decide, Nat.le_of_ble_eq_true rfl, by decide, Nat.le_of_ble_eq_true rfl⟩ (gWp_imp h (fun μ7 r h => ?_))
      rcases h with h | h | h | h | h
      · obtain ⟨v8, rfl, h⟩ := h
        refine Or.inl ⟨_, rfl, ?_⟩
        show gWp none 153 (22, [some (.ref 0), some (.int x1), some (.int x2), none], [.int v8], μ7) _ P
        refine gWp_sts gT_153 1 (f' := (56, [some (.ref 0), some (.int x1), some (.int x2), none], [.int v8], μ7)) (cs := []) rfl trivial ?_
        exact gWp_end gT_153 rfl (gEnd_int trivial) h
      · obtain ⟨rfl, h⟩ := h
        refine Or.inr (Or.inr ⟨2, 0, _, _, _, rfl, rfl, rfl, rfl, Or.inl ⟨_, rfl, rfl⟩, ?_⟩)
        refine gWp_sts gT_153 1 (f' := (61, [some (.ref 0), some (.int x1), some (.int x2), none], [.int (-1001 : Int32)], (gBm μ7))) (cs := []) rfl trivial ?_
        exact gWp_end gT_153 rfl (gEnd_int trivial) h
      · obtain ⟨rfl, h⟩ := h
        refine Or.inr (Or.inr ⟨3, 1, _, _, _, rfl, rfl, rfl, rfl, Or.inl ⟨_, rfl, rfl⟩, ?_⟩)
        refine gWp_sts gT_153 1 (f' := (66, [some (.ref 0), some (.int x1), some (.int x2), none], [.int (-1002 : Int32)], (gBm μ7))) (cs := []) rfl trivial ?_
        exact gWp_end gT_153 rfl (gEnd_int trivial) h
      · obtain ⟨rfl, h⟩ := h
        refine Or.inr (Or.inr ⟨1, 2, _, _, _, rfl, rfl, rfl, rfl, Or.inl ⟨_, rfl, rfl⟩, ?_⟩)
        refine gWp_sts gT_153 1 (f' := (71, [some (.ref 0), some (.int x1), some (.int x2), none], [.int (-1003 : Int32)], (gBm μ7))) (cs := []) rfl trivial ?_
        exact gWp_end gT_153 rfl (gEnd_int trivial) h
      · obtain ⟨rfl, h⟩ := h
        refine Or.inr (Or.inr ⟨4, 3, _, _, _, rfl, rfl, rfl, rfl, Or.inl ⟨_, rfl, rfl⟩, ?_⟩)
        refine gWp_sts gT_153 1 (f' := (76, [some (.ref 0), some (.int x1), some (.int x2), none], [.int (-1004 : Int32)], (gBm μ7))) (cs := []) rfl trivial ?_
        exact gWp_end gT_153 rfl (gEnd_int trivial) h
  · replace h := h.2 (Classical.not_not.mp (fun q => c (decide_eq_true q)))
    refine gWp_sts gT_153 2 (f' := (6, [some (.ref 0), some (.int x1), some (.int x2), none], [.int x1, .ref 0], μ)) (cs := []) rfl trivial ?_
    refine gWp_virt gT_153 (pc := 6) (q := 0) (as := [.ref 0, .int x1]) (rest := []) rfl rfl rfl rfl rfl rfl ⟨by decide, Nat.le_of_ble_eq_true rfl, by decide, Nat.le_of_ble_eq_true rfl⟩ (gWp_imp h (fun μ9 r h => ?_))
    rcases h with h | h | h | h | h
    · obtain ⟨v10, rfl, h⟩ := h
      refine Or.inl ⟨_, rfl, ?_⟩
      show gWp none 153 (9, [some (.ref 0), some (.int x1), some (.int x2), none], [.int v10], μ9) _ P
      refine gWp_sts gT_153 1 (f' := (56, [some (.ref 0), some (.int x1), some (.int x2), none], [.int v10], μ9)) (cs := []) rfl trivial ?_
      exact gWp_end gT_153 rfl (gEnd_int trivial) h
    · obtain ⟨rfl, h⟩ := h
      refine Or.inr (Or.inr ⟨2, 0, _, _, _, rfl, rfl, rfl, rfl, Or.inl ⟨_, rfl, rfl⟩, ?_⟩)
      refine gWp_sts gT_153 1 (f' := (61, [some (.ref 0), some (.int x1), some (.int x2), none], [.int (-1001 : Int32)], (gBm μ9))) (cs := []) rfl trivial ?_
      exact gWp_end gT_153 rfl (gEnd_int trivial) h
    · obtain ⟨rfl, h⟩ := h
      refine Or.inr (Or.inr ⟨3, 1, _, _, _, rfl, rfl, rfl, rfl, Or.inl ⟨_, rfl, rfl⟩, ?_⟩)
      refine gWp_sts gT_153 1 (f' := (66, [some (.ref 0), some (.int x1), some (.int x2), none], [.int (-1002 : Int32)], (gBm μ9))) (cs := []) rfl trivial ?_
      exact gWp_end gT_153 rfl (gEnd_int trivial) h
    · obtain ⟨rfl, h⟩ := h
      refine Or.inr (Or.inr ⟨1, 2, _, _, _, rfl, rfl, rfl, rfl, Or.inl ⟨_, rfl, rfl⟩, ?_⟩)
      refine gWp_sts gT_153 1 (f' := (71, [some (.ref 0), some (.int x1), some (.int x2), none], [.int (-1003 : Int32)], (gBm μ9))) (cs := []) rfl trivial ?_
      exact gWp_end gT_153 rfl (gEnd_int trivial) h
    · obtain ⟨rfl, h⟩ := h
      refine Or.inr (Or.inr ⟨4, 3, _, _, _, rfl, rfl, rfl, rfl, Or.inl ⟨_, rfl, rfl⟩, ?_⟩)
      refine gWp_sts gT_153 1 (f' := (76, [some (.ref 0), some (.int x1), some (.int x2), none], [.int (-1004 : Int32)], (gBm μ9))) (cs := []) rfl trivial ?_
      exact gWp_end gT_153 rfl (gEnd_int trivial) h
/-! adds -/
theorem gT_154 : gCode[154]? = some gC_154 := rfl
set_option maxRecDepth 20000 in
theorem vc_154 {μ : gMu} {x1 : Int32} {P : gMu → gRes → Prop} (h : gCl' 74 [.ref 0, .int x1] μ (fun μ1 r => (∃ v2, r = .inl (some (.int v2)) ∧ (P μ1 (.inl (some (.int v2))))) ∨ (r = .inr 0 ∧ (P (gBm μ1) (.inl (some (.int (-1001 : Int32)))))) ∨ (r = .inr 1 ∧ (P (gBm μ1) (.inl (some (.int (-1002 : Int32)))))))) : gWp none 154 (0, [some (.ref 0), some (.int x1), none], [], μ) 0 P := by
  refine gWp_sts gT_154 2 (f' := (2, [some (.ref 0), some (.int x1), none], [.int x1, .ref 0], μ)) (cs := []) rfl trivial ?_
  refine gWp_virt gT_154 (pc := 2) (q := 0) (as := [.ref 0, .int x1]) (rest := []) rfl rfl rfl rfl rfl rfl ⟨by decide, Nat.le_of_ble_eq_true rfl, by decide, Nat.le_of_ble_eq_true rfl⟩ (gWp_imp h (fun μ1 r h => ?_))
  rcases h with h | h | h
  · obtain ⟨v2, rfl, h⟩ := h
    refine Or.inl ⟨_, rfl, ?_⟩
    show gWp none 154 (5, [some (.ref 0), some (.int x1), none], [.int v2], μ1) _ P
    exact gWp_end gT_154 rfl (gEnd_int trivial) h
  · obtain ⟨rfl, h⟩ := h
    refine Or.inr (Or.inr ⟨0, 0, _, _, _, rfl, rfl, rfl, rfl, Or.inl ⟨_, rfl, rfl⟩, ?_⟩)
    refine gWp_sts gT_154 1 (f' := (10, [some (.ref 0), some (.int x1), none], [.int (-1001 : Int32)], (gBm μ1))) (cs := []) rfl trivial ?_
    exact gWp_end gT_154 rfl (gEnd_int trivial) h
  · obtain ⟨rfl, h⟩ := h
    refine Or.inr (Or.inr ⟨1, 1, _, _, _, rfl, rfl, rfl, rfl, Or.inl ⟨_, rfl, rfl⟩, ?_⟩)
    refine gWp_sts gT_154 1 (f' := (15, [some (.ref 0), some (.int x1), none], [.int (-1002 : Int32)], (gBm μ1))) (cs := []) rfl trivial ?_
    exact gWp_end gT_154 rfl (gEnd_int trivial) h
/-! removes -/
theorem gT_155 : gCode[155]? = some gC_155 := rfl
set_option maxRecDepth 20000 in
theorem vc_155 {μ : gMu} {P : gMu → gRes → Prop} (h : gCl' 77 [.ref 0] μ (fun μ1 r => (∃ v2, r = .inl (some (.int v2)) ∧ (P μ1 (.inl (some (.int v2))))) ∨ (r = .inr 4 ∧ (P (gBm μ1) (.inl (some (.int (-1001 : Int32)))))))) : gWp none 155 (0, [some (.ref 0), none], [], μ) 0 P := by
  refine gWp_sts gT_155 1 (f' := (1, [some (.ref 0), none], [.ref 0], μ)) (cs := []) rfl trivial ?_
  refine gWp_virt gT_155 (pc := 1) (q := 0) (as := [.ref 0]) (rest := []) rfl rfl rfl rfl rfl rfl ⟨by decide, Nat.le_of_ble_eq_true rfl, by decide, Nat.le_of_ble_eq_true rfl⟩ (gWp_imp h (fun μ1 r h => ?_))
  rcases h with h | h
  · obtain ⟨v2, rfl, h⟩ := h
    refine Or.inl ⟨_, rfl, ?_⟩
    show gWp none 155 (4, [some (.ref 0), none], [.int v2], μ1) _ P
    exact gWp_end gT_155 rfl (gEnd_int trivial) h
  · obtain ⟨rfl, h⟩ := h
    refine Or.inr (Or.inr ⟨4, 0, _, _, _, rfl, rfl, rfl, rfl, Or.inl ⟨_, rfl, rfl⟩, ?_⟩)
    refine gWp_sts gT_155 1 (f' := (9, [some (.ref 0), none], [.int (-1001 : Int32)], (gBm μ1))) (cs := []) rfl trivial ?_
    exact gWp_end gT_155 rfl (gEnd_int trivial) h
/-! widths -/
theorem gT_156 : gCode[156]? = some gC_156 := rfl
set_option maxRecDepth 20000 in
theorem vc_156 {μ : gMu} {x1 : Int32} {x2 : Int32} {P : gMu → gRes → Prop} (h : gCl' 80 [.ref 0, .int x1, .int x2] μ (fun μ1 r => (∃ v2, r = .inl (some (.int v2)) ∧ (P μ1 (.inl (some (.int v2))))) ∨ (r = .inr 0 ∧ (P (gBm μ1) (.inl (some (.int (-1001 : Int32)))))))) : gWp none 156 (0, [some (.ref 0), some (.int x1), some (.int x2), none], [], μ) 0 P := by
  refine gWp_sts gT_156 3 (f' := (3, [some (.ref 0), some (.int x1), some (.int x2), none], [.int x2, .int x1, .ref 0], μ)) (cs := []) rfl trivial ?_
  refine gWp_virt gT_156 (pc := 3) (q := 0) (as := [.ref 0, .int x1, .int x2]) (rest := []) rfl rfl rfl rfl rfl rfl ⟨by decide, Nat.le_of_ble_eq_true rfl, by decide, Nat.le_of_ble_eq_true rfl⟩ (gWp_imp h (fun μ1 r h => ?_))
  rcases h with h | h
  · obtain ⟨v2, rfl, h⟩ := h
    refine Or.inl ⟨_, rfl, ?_⟩
    show gWp none 156 (6, [some (.ref 0), some (.int x1), some (.int x2), none], [.int v2], μ1) _ P
    exact gWp_end gT_156 rfl (gEnd_int trivial) h
  · obtain ⟨rfl, h⟩ := h
    refine Or.inr (Or.inr ⟨0, 0, _, _, _, rfl, rfl, rfl, rfl, Or.inl ⟨_, rfl, rfl⟩, ?_⟩)
    refine gWp_sts gT_156 1 (f' := (11, [some (.ref 0), some (.int x1), some (.int x2), none], [.int (-1001 : Int32)], (gBm μ1))) (cs := []) rfl trivial ?_
    exact gWp_end gT_156 rfl (gEnd_int trivial) h
/-! sets -/
theorem gT_157 : gCode[157]? = some gC_157 := rfl
set_option maxRecDepth 20000 in
theorem vc_157 {μ : gMu} {x1 : Int32} {P : gMu → gRes → Prop} (h : gCl' 82 [.ref 0, .int x1] μ (fun μ1 r => (∃ v2, r = .inl (some (.int v2)) ∧ (P μ1 (.inl (some (.int v2))))) ∨ (r = .inr 0 ∧ (P (gBm μ1) (.inl (some (.int (-1001 : Int32)))))))) : gWp none 157 (0, [some (.ref 0), some (.int x1), none], [], μ) 0 P := by
  refine gWp_sts gT_157 2 (f' := (2, [some (.ref 0), some (.int x1), none], [.int x1, .ref 0], μ)) (cs := []) rfl trivial ?_
  refine gWp_virt gT_157 (pc := 2) (q := 0) (as := [.ref 0, .int x1]) (rest := []) rfl rfl rfl rfl rfl rfl ⟨by decide, Nat.le_of_ble_eq_true rfl, by decide, Nat.le_of_ble_eq_true rfl⟩ (gWp_imp h (fun μ1 r h => ?_))
  rcases h with h | h
  · obtain ⟨v2, rfl, h⟩ := h
    refine Or.inl ⟨_, rfl, ?_⟩
    show gWp none 157 (5, [some (.ref 0), some (.int x1), none], [.int v2], μ1) _ P
    exact gWp_end gT_157 rfl (gEnd_int trivial) h
  · obtain ⟨rfl, h⟩ := h
    refine Or.inr (Or.inr ⟨0, 0, _, _, _, rfl, rfl, rfl, rfl, Or.inl ⟨_, rfl, rfl⟩, ?_⟩)
    refine gWp_sts gT_157 1 (f' := (10, [some (.ref 0), some (.int x1), none], [.int (-1001 : Int32)], (gBm μ1))) (cs := []) rfl trivial ?_
    exact gWp_end gT_157 rfl (gEnd_int trivial) h
/-! rules -/
theorem gT_158 : gCode[158]? = some gC_158 := rfl
set_option maxRecDepth 20000 in
theorem vc_158 {μ : gMu} {x1 : Int32} {x2 : Int32} {x3 : Int32} {P : gMu → gRes → Prop} (h : gCl' 86 [.ref 0, .int x1, .int x2, .int x3] μ (fun μ1 r => (∃ v2, r = .inl (some (.int v2)) ∧ (P μ1 (.inl (some (.int v2))))) ∨ (r = .inr 0 ∧ (P (gBm μ1) (.inl (some (.int (-1001 : Int32)))))) ∨ (r = .inr 1 ∧ (P (gBm μ1) (.inl (some (.int (-1002 : Int32)))))))) : gWp none 158 (0, [some (.ref 0), some (.int x1), some (.int x2), some (.int x3), none], [], μ) 0 P := by
  refine gWp_sts gT_158 4 (f' := (4, [some (.ref 0), some (.int x1), some (.int x2), some (.int x3), none], [.int x3, .int x2, .int x1, .ref 0], μ)) (cs := []) rfl trivial ?_
  refine gWp_virt gT_158 (pc := 4) (q := 0) (as := [.ref 0, .int x1, .int x2, .int x3]) (rest := []) rfl rfl rfl rfl rfl rfl ⟨by decide, Nat.le_of_ble_eq_true rfl, by decide, Nat.le_of_ble_eq_true rfl⟩ (gWp_imp h (fun μ1 r h => ?_))
  rcases h with h | h | h
  · obtain ⟨v2, rfl, h⟩ := h
    refine Or.inl ⟨_, rfl, ?_⟩
    show gWp none 158 (7, [some (.ref 0), some (.int x1), some (.int x2), some (.int x3), none], [.int v2], μ1) _ P
    exact gWp_end gT_158 rfl (gEnd_int trivial) h
  · obtain ⟨rfl, h⟩ := h
    refine Or.inr (Or.inr ⟨0, 0, _, _, _, rfl, rfl, rfl, rfl, Or.inr ⟨_, rfl, rfl⟩, ?_⟩)
    refine gWp_sts gT_158 1 (f' := (13, [some (.ref 0), some (.int x1), some (.int x2), some (.int x3), none], [.int (-1001 : Int32)], (gBm μ1))) (cs := []) rfl trivial ?_
    exact gWp_end gT_158 rfl (gEnd_int trivial) h
  · obtain ⟨rfl, h⟩ := h
    refine Or.inr (Or.inr ⟨1, 1, _, _, _, rfl, rfl, rfl, rfl, Or.inr ⟨_, rfl, rfl⟩, ?_⟩)
    refine gWp_sts gT_158 1 (f' := (19, [some (.ref 0), some (.int x1), some (.int x2), some (.int x3), none], [.int (-1002 : Int32)], (gBm μ1))) (cs := []) rfl trivial ?_
    exact gWp_end gT_158 rfl (gEnd_int trivial) h
/-! glyph -/
theorem gT_159 : gCode[159]? = some gC_159 := rfl
set_option maxRecDepth 20000 in
theorem vc_159 {μ : gMu} {x1 : Int32} {x2 : Int32} {P : gMu → gRes → Prop} (h : ((¬ x2 = 0) → (((¬ x2 = (1 : Int32)) → (((¬ x2 = (2 : Int32)) → (((¬ x2 = (3 : Int32)) → (gCl' 92 [.ref 0, .int x1] μ (fun μ1 r => (∃ v2, r = .inl (some (.int v2)) ∧ (P μ1 (.inl (some (.int v2))))) ∨ (r = .inr 2 ∧ (P (gBm μ1) (.inl (some (.int (-1001 : Int32)))))) ∨ (r = .inr 3 ∧ (P (gBm μ1) (.inl (some (.int (-1002 : Int32))))))))) ∧ ((x2 = (3 : Int32)) → (gCl' 98 [.ref 0, .int x1] μ (fun μ3 r => (∃ v4, r = .inl (some (.int v4)) ∧ (P μ3 (.inl (some (.int v4))))) ∨ (r = .inr 2 ∧ (P (gBm μ3) (.inl (some (.int (-1001 : Int32)))))) ∨ (r = .inr 3 ∧ (P (gBm μ3) (.inl (some (.int (-1002 : Int32))))))))))) ∧ ((x2 = (2 : Int32)) → (gCl' 94 [.ref 0, .int x1] μ (fun μ5 r => (∃ v6, r = .inl (some (.int v6)) ∧ (P μ5 (.inl (some (.int v6))))) ∨ (r = .inr 2 ∧ (P (gBm μ5) (.inl (some (.int (-1001 : Int32)))))) ∨ (r = .inr 3 ∧ (P (gBm μ5) (.inl (some (.int (-1002 : Int32))))))))))) ∧ ((x2 = (1 : Int32)) → (gCl' 103 [.ref 0, .int x1] μ (fun μ7 r => (∃ v8, r = .inl (some (.int v8)) ∧ (P μ7 (.inl (some (.int v8))))) ∨ (r = .inr 2 ∧ (P (gBm μ7) (.inl (some (.int (-1001 : Int32)))))) ∨ (r = .inr 3 ∧ (P (gBm μ7) (.inl (some (.int (-1002 : Int32))))))))))) ∧ ((x2 = 0) → (gCl' 101 [.ref 0, .int x1] μ (fun μ9 r => (∃ v10, r = .inl (some (.int v10)) ∧ (P μ9 (.inl (some (.int v10))))) ∨ (r = .inr 2 ∧ (P (gBm μ9) (.inl (some (.int (-1001 : Int32)))))) ∨ (r = .inr 3 ∧ (P (gBm μ9) (.inl (some (.int (-1002 : Int32)))))))))) : gWp none 159 (0, [some (.ref 0), some (.int x1), some (.int x2), none], [], μ) 0 P := by
  refine gWp_sts gT_159 1 (f' := (1, [some (.ref 0), some (.int x1), some (.int x2), none], [.int x2], μ)) (cs := []) rfl trivial ?_
  refine gWp_if gT_159 (pc := 1) rfl ⟨fun c => ?_, fun c => ?_⟩
  · replace h := h.1 (of_decide_eq_true c)
    refine gWp_sts gT_159 2 (f' := (14, [some (.ref 0), some (.int x1), some (.int x2), none], [.int (1 : Int32), .int x2], μ)) (cs := []) rfl trivial ?_
    refine gWp_icmp gT_159 (pc := 14) rfl ⟨fun c => ?_, fun c => ?_⟩
    · replace h := h.1 (of_decide_eq_true c)
      refine gWp_sts gT_159 2 (f' := (27, [some (.ref 0), some (.int x1), some (.int x2), none], [.int (2 : Int32), .int x2], μ)) (cs := []) rfl trivial ?_
      refine gWp_icmp gT_159 (pc := 27) rfl ⟨fun c => ?_, fun c => ?_⟩
      · replace h := h.1 (of_decide_eq_true c)
        refine gWp_sts gT_159 2 (f' := (40, [some (.ref 0), some (.int x1), some (.int x2), none], [.int (3 : Int32), .int x2], μ)) (cs := []) rfl trivial ?_
        refine gWp_icmp gT_159 (pc := 40) rfl ⟨fun c => ?_, fun c => ?_⟩
        · replace h := h.1 (of_decide_eq_true c)
          refine gWp_sts gT_159 2 (f' := (53, [some (.ref 0), some (.int x1), some (.int x2), none], [.int x1, .ref 0], μ)) (cs := []) rfl trivial ?_
          refine gWp_virt gT_159 (pc := 53) (q := 0) (as := [.ref 0, .int x1]) (rest := []) rfl rfl rfl rfl rfl rfl ⟨by decide, Nat.le_of_ble_eq_true rfl, by decide, Nat.le_of_ble_eq_true rfl⟩ (gWp_imp h (fun μ1 r h => ?_))
          rcases h with h | h | h
          · obtain ⟨v2, rfl, h⟩ := h
            refine Or.inl ⟨_, rfl, ?_⟩
            show gWp none 159 (56, [some (.ref 0), some (.int x1), some (.int x2), none], [.int v2], μ1) _ P
            exact gWp_end gT_159 rfl (gEnd_int trivial) h
          · obtain ⟨rfl, h⟩ := h
            refine Or.inr (Or.inr ⟨2, 0, _, _, _, rfl, rfl, rfl, rfl, Or.inl ⟨_, rfl, rfl⟩, ?_⟩)
            refine gWp_sts gT_159 1 (f' := (61, [some (.ref 0), some (.int x1), some (.int x2), none], [.int (-1001 : Int32)], (gBm μ1))) (cs := []) rfl trivial ?_
            exact gWp_end gT_159 rfl (gEnd_int trivial) h
          · obtain ⟨rfl, h⟩ := h
            refine Or.inr (Or.inr ⟨3, 1, _, _, _, rfl, rfl, rfl, rfl, Or.inl ⟨_, rfl, rfl⟩, ?_⟩)
            refine gWp_sts gT_159 1 (f' := (66, [some (.ref 0), some (.int x1), some (.int x2), none], [.int (-1002 : Int32)], (gBm μ1))) (cs := []) rfl trivial ?_
            exact gWp_end gT_159 rfl (gEnd_int trivial) h
        · replace h := h.2 (Classical.not_not.mp (fun q => c (decide_eq_true q)))
          refine gWp_sts gT_159 2 (f' := (45, [some (.ref 0), some (.int x1), some (.int x2), none], [.int x1, .ref 0], μ)) (cs := []) rfl trivial ?_
          refine gWp_virt gT_159 (pc := 45) (q := 0) (as := [.ref 0, .int x1]) (rest := []) rfl rfl rfl rfl rfl rfl ⟨by decide, Nat.le_of_ble_eq_true rfl, by decide, Nat.le_of_ble_eq_true rfl⟩ (gWp_imp h (fun μ3 r h => ?_))
          rcases h with h | h | h
          · obtain ⟨v4, rfl, h⟩ := h
            refine Or.inl ⟨_, rfl, ?_⟩
            show gWp none 159 (48, [some (.ref 0), some (.int x1), some (.int x2), none], [.int v4], μ3) _ P
            refine gWp_sts gT_159 1 (f' := (56, [some (.ref 0), some (.int x1), some (.int x2), none], [.int v4], μ3)) (cs := []) rfl trivial ?_
            exact gWp_end gT_159 rfl (gEnd_int trivial) h
          · obtain ⟨rfl, h⟩ := h
            refine Or.inr (Or.inr ⟨2, 0, _, _, _, rfl, rfl, rfl, rfl, Or.inl ⟨_, rfl, rfl⟩, ?_⟩)
            refine gWp_sts gT_159 1 (f' := (61, [some (.ref 0), some (.int x1), some (.int x2), none], [.int (-1001 : Int32)], (gBm μ3))) (cs := []) rfl trivial ?_
            exact gWp_end gT_159 rfl (gEnd_int trivial) h
          · obtain ⟨rfl, h⟩ := h
            refine Or.inr (Or.inr ⟨3, 1, _, _, _, rfl, rfl, rfl, rfl, Or.inl ⟨_, rfl, rfl⟩, ?_⟩)
            refine gWp_sts gT_159 1 (f' := (66, [some (.ref 0), some (.int x1), some (.int x2), none], [.int (-1002 : Int32)], (gBm μ3))) (cs := []) rfl trivial ?_
            exact gWp_end gT_159 rfl (gEnd_int trivial) h
      · replace h := h.2 (Classical.not_not.mp (fun q => c (decide_eq_true q)))
        refine gWp_sts gT_159 2 (f' := (32, [some (.ref 0), some (.int x1), some (.int x2), none], [.int x1, .ref 0], μ)) (cs := []) rfl trivial ?_
        refine gWp_virt gT_159 (pc := 32) (q := 0) (as := [.ref 0, .int x1]) (rest := []) rfl rfl rfl rfl rfl rfl ⟨by decide, Nat.le_of_ble_eq_true rfl, by decide, Nat.le_of_ble_eq_true rfl⟩ (gWp_imp h (fun μ5 r h => ?_))
        rcases h with h | h | h
        · obtain ⟨v6, rfl, h⟩ := h
          refine Or.inl ⟨_, rfl, ?_⟩
          show gWp none 159 (35, [some (.ref 0), some (.int x1), some (.int x2), none], [.int v6], μ5) _ P
          refine gWp_sts gT_159 1 (f' := (56, [some (.ref 0), some (.int x1), some (.int x2), none], [.int v6], μ5)) (cs := []) rfl trivial ?_
          exact gWp_end gT_159 rfl (gEnd_int trivial) h
        · obtain ⟨rfl, h⟩ := h
          refine Or.inr (Or.inr ⟨2, 0, _, _, _, rfl, rfl, rfl, rfl, Or.inl ⟨_, rfl, rfl⟩, ?_⟩)
          refine gWp_sts gT_159 1 (f' := (61, [some (.ref 0), some (.int x1), some (.int x2), none], [.int (-1001 : Int32)], (gBm μ5))) (cs := []) rfl trivial ?_
          exact gWp_end gT_159 rfl (gEnd_int trivial) h
        · obtain ⟨rfl, h⟩ := h
          refine Or.inr (Or.inr ⟨3, 1, _, _, _, rfl, rfl, rfl, rfl, Or.inl ⟨_, rfl, rfl⟩, ?_⟩)
          refine gWp_sts gT_159 1 (f' := (66, [some (.ref 0), some (.int x1), some (.int x2), none], [.int (-1002 : Int32)], (gBm μ5))) (cs := []) rfl trivial ?_
          exact gWp_end gT_159 rfl (gEnd_int trivial) h
    · replace h := h.2 (Classical.not_not.mp (fun q => c (decide_eq_true q)))
      refine gWp_sts gT_159 2 (f' := (19, [some (.ref 0), some (.int x1), some (.int x2), none], [.int x1, .ref 0], μ)) (cs := []) rfl trivial ?_
      refine gWp_virt gT_159 (pc := 19) (q := 0) (as := [.ref 0, .int x1]) (rest := []) rfl rfl rfl rfl rfl rfl ⟨by decide, Nat.le_of_ble_eq_true rfl, by decide, Nat.le_of_ble_eq_true rfl⟩ (gWp_imp h (fun μ7 r h => ?_))
      rcases h with h | h | h
      · obtain ⟨v8, rfl, h⟩ := h
        refine Or.inl ⟨_, rfl, ?_⟩
        show gWp none 159 (22, [some (.ref 0), some (.int x1), some (.int x2), none], [.int v8], μ7) _ P
        refine gWp_sts gT_159 1 (f' := (56, [some (.ref 0), some (.int x1), some (.int x2), none], [.int v8], μ7)) (cs := []) rfl trivial ?_
        exact gWp_end gT_159 rfl (gEnd_int trivial) h
      · obtain ⟨rfl, h⟩ := h
        refine Or.inr (Or.inr ⟨2, 0, _, _, _, rfl, rfl, rfl, rfl, Or.inl ⟨_, rfl, rfl⟩, ?_⟩)
        refine gWp_sts gT_159 1 (f' := (61, [some (.ref 0), some (.int x1), some (.int x2), none], [.int (-1001 : Int32)], (gBm μ7))) (cs := []) rfl trivial ?_
        exact gWp_end gT_159 rfl (gEnd_int trivial) h
      · obtain ⟨rfl, h⟩ := h
        refine Or.inr (Or.inr ⟨3, 1, _, _, _, rfl, rfl, rfl, rfl, Or.inl ⟨_, rfl, rfl⟩, ?_⟩)
        refine gWp_sts gT_159 1 (f' := (66, [some (.ref 0), some (.int x1), some (.int x2), none], [.int (-1002 : Int32)], (gBm μ7))) (cs := []) rfl trivial ?_
        exact gWp_end gT_159 rfl (gEnd_int trivial) h
  · replace h := h.2 (Classical.not_not.mp (fun q => c (decide_eq_true q)))
    refine gWp_sts gT_159 2 (f' := (6, [some (.ref 0), some (.int x1), some (.int x2), none], [.int x1, .ref 0], μ)) (cs := []) rfl trivial ?_
    refine gWp_virt gT_159 (pc := 6) (q := 0) (as := [.ref 0, .int x1]) (rest := []) rfl rfl rfl rfl rfl rfl ⟨by decide, Nat.le_of_ble_eq_true rfl, by decide, Nat.le_of_ble_eq_true rfl⟩ (gWp_imp h (fun μ9 r h => ?_))
    rcases h with h | h | h
    · obtain ⟨v10, rfl, h⟩ := h
      refine Or.inl ⟨_, rfl, ?_⟩
      show gWp none 159 (9, [some (.ref 0), some (.int x1), some (.int x2), none], [.int v10], μ9) _ P
      refine gWp_sts gT_159 1 (f' := (56, [some (.ref 0), some (.int x1), some (.int x2), none], [.int v10], μ9)) (cs := []) rfl trivial ?_
      exact gWp_end gT_159 rfl (gEnd_int trivial) h
    · obtain ⟨rfl, h⟩ := h
      refine Or.inr (Or.inr ⟨2, 0, _, _, _, rfl, rfl, rfl, rfl, Or.inl ⟨_, rfl, rfl⟩, ?_⟩)
      refine gWp_sts gT_159 1 (f' := (61, [some (.ref 0), some (.int x1), some (.int x2), none], [.int (-1001 : Int32)], (gBm μ9))) (cs := []) rfl trivial ?_
      exact gWp_end gT_159 rfl (gEnd_int trivial) h
    · obtain ⟨rfl, h⟩ := h
      refine Or.inr (Or.inr ⟨3, 1, _, _, _, rfl, rfl, rfl, rfl, Or.inl ⟨_, rfl, rfl⟩, ?_⟩)
      refine gWp_sts gT_159 1 (f' := (66, [some (.ref 0), some (.int x1), some (.int x2), none], [.int (-1002 : Int32)], (gBm μ9))) (cs := []) rfl trivial ?_
      exact gWp_end gT_159 rfl (gEnd_int trivial) h
/-! demerits -/
theorem gT_160 : gCode[160]? = some gC_160 := rfl
set_option maxRecDepth 20000 in
theorem vc_160 {μ : gMu} {x1 : Int32} {P : gMu → gRes → Prop} (h : ((x1 = 0) → (gCl' 123 [.ref 0] μ (fun μ1 r => (∃ v2, r = .inl (some (.long v2)) ∧ (P μ1 (.inl (some (.long v2))))) ∨ (r = .inr 1 ∧ (P (gBm μ1) (.inl (some (.long (-1001 : Int64)))))) ∨ (r = .inr 3 ∧ (P (gBm μ1) (.inl (some (.long (-1002 : Int64))))))))) ∧ ((¬ x1 = 0) → (gCl' 129 [.ref 0] μ (fun μ3 r => (∃ v4, r = .inl (some (.long v4)) ∧ (P μ3 (.inl (some (.long v4))))) ∨ (r = .inr 1 ∧ (P (gBm μ3) (.inl (some (.long (-1001 : Int64)))))) ∨ (r = .inr 3 ∧ (P (gBm μ3) (.inl (some (.long (-1002 : Int64)))))))))) : gWp none 160 (0, [some (.ref 0), some (.int x1), none], [], μ) 0 P := by
  refine gWp_sts gT_160 1 (f' := (1, [some (.ref 0), some (.int x1), none], [.int x1], μ)) (cs := []) rfl trivial ?_
  refine gWp_if gT_160 (pc := 1) rfl ⟨fun c => ?_, fun c => ?_⟩
  · replace h := h.1 (of_decide_eq_true c)
    refine gWp_sts gT_160 1 (f' := (12, [some (.ref 0), some (.int x1), none], [.ref 0], μ)) (cs := []) rfl trivial ?_
    refine gWp_virt gT_160 (pc := 12) (q := 0) (as := [.ref 0]) (rest := []) rfl rfl rfl rfl rfl rfl ⟨by decide, Nat.le_of_ble_eq_true rfl, by decide, Nat.le_of_ble_eq_true rfl⟩ (gWp_imp h (fun μ1 r h => ?_))
    rcases h with h | h | h
    · obtain ⟨v2, rfl, h⟩ := h
      refine Or.inl ⟨_, rfl, ?_⟩
      show gWp none 160 (15, [some (.ref 0), some (.int x1), none], [.long v2], μ1) _ P
      exact gWp_end gT_160 rfl rfl h
    · obtain ⟨rfl, h⟩ := h
      refine Or.inr (Or.inr ⟨1, 0, _, _, _, rfl, rfl, rfl, rfl, Or.inl ⟨_, rfl, rfl⟩, ?_⟩)
      refine gWp_sts gT_160 1 (f' := (20, [some (.ref 0), some (.int x1), none], [.long (-1001 : Int64)], (gBm μ1))) (cs := []) rfl trivial ?_
      exact gWp_end gT_160 rfl rfl h
    · obtain ⟨rfl, h⟩ := h
      refine Or.inr (Or.inr ⟨3, 1, _, _, _, rfl, rfl, rfl, rfl, Or.inl ⟨_, rfl, rfl⟩, ?_⟩)
      refine gWp_sts gT_160 1 (f' := (25, [some (.ref 0), some (.int x1), none], [.long (-1002 : Int64)], (gBm μ1))) (cs := []) rfl trivial ?_
      exact gWp_end gT_160 rfl rfl h
  · replace h := h.2 (fun q => c (decide_eq_true q))
    refine gWp_sts gT_160 1 (f' := (5, [some (.ref 0), some (.int x1), none], [.ref 0], μ)) (cs := []) rfl trivial ?_
    refine gWp_virt gT_160 (pc := 5) (q := 0) (as := [.ref 0]) (rest := []) rfl rfl rfl rfl rfl rfl ⟨by decide, Nat.le_of_ble_eq_true rfl, by decide, Nat.le_of_ble_eq_true rfl⟩ (gWp_imp h (fun μ3 r h => ?_))
    rcases h with h | h | h
    · obtain ⟨v4, rfl, h⟩ := h
      refine Or.inl ⟨_, rfl, ?_⟩
      show gWp none 160 (8, [some (.ref 0), some (.int x1), none], [.long v4], μ3) _ P
      refine gWp_sts gT_160 1 (f' := (15, [some (.ref 0), some (.int x1), none], [.long v4], μ3)) (cs := []) rfl trivial ?_
      exact gWp_end gT_160 rfl rfl h
    · obtain ⟨rfl, h⟩ := h
      refine Or.inr (Or.inr ⟨1, 0, _, _, _, rfl, rfl, rfl, rfl, Or.inl ⟨_, rfl, rfl⟩, ?_⟩)
      refine gWp_sts gT_160 1 (f' := (20, [some (.ref 0), some (.int x1), none], [.long (-1001 : Int64)], (gBm μ3))) (cs := []) rfl trivial ?_
      exact gWp_end gT_160 rfl rfl h
    · obtain ⟨rfl, h⟩ := h
      refine Or.inr (Or.inr ⟨3, 1, _, _, _, rfl, rfl, rfl, rfl, Or.inl ⟨_, rfl, rfl⟩, ?_⟩)
      refine gWp_sts gT_160 1 (f' := (25, [some (.ref 0), some (.int x1), none], [.long (-1002 : Int64)], (gBm μ3))) (cs := []) rfl trivial ?_
      exact gWp_end gT_160 rfl rfl h
/-! lines -/
theorem gT_161 : gCode[161]? = some gC_161 := rfl
set_option maxRecDepth 20000 in
theorem vc_161 {μ : gMu} {x1 : Int32} {P : gMu → gRes → Prop} (h : ((¬ x1 = 0) → (((¬ x1 = (1 : Int32)) → (gCl' 131 [.ref 0] μ (fun μ1 r => (∃ v2, r = .inl (some (.int v2)) ∧ (P μ1 (.inl (some (.int v2))))) ∨ (r = .inr 1 ∧ (P (gBm μ1) (.inl (some (.int (-1001 : Int32)))))) ∨ (r = .inr 3 ∧ (P (gBm μ1) (.inl (some (.int (-1002 : Int32))))))))) ∧ ((x1 = (1 : Int32)) → (gCl' 111 [.ref 0] μ (fun μ3 r => (∃ v4, r = .inl (some (.int v4)) ∧ (P μ3 (.inl (some (.int v4))))) ∨ (r = .inr 1 ∧ (P (gBm μ3) (.inl (some (.int (-1001 : Int32)))))) ∨ (r = .inr 3 ∧ (P (gBm μ3) (.inl (some (.int (-1002 : Int32))))))))))) ∧ ((x1 = 0) → (gCl' 108 [.ref 0] μ (fun μ5 r => (∃ v6, r = .inl (some (.int v6)) ∧ (P μ5 (.inl (some (.int v6))))) ∨ (r = .inr 1 ∧ (P (gBm μ5) (.inl (some (.int (-1001 : Int32)))))) ∨ (r = .inr 3 ∧ (P (gBm μ5) (.inl (some (.int (-1002 : Int32)))))))))) : gWp none 161 (0, [some (.ref 0), some (.int x1), none], [], μ) 0 P := by
  refine gWp_sts gT_161 1 (f' := (1, [some (.ref 0), some (.int x1), none], [.int x1], μ)) (cs := []) rfl trivial ?_
  refine gWp_if gT_161 (pc := 1) rfl ⟨fun c => ?_, fun c => ?_⟩
  · replace h := h.1 (of_decide_eq_true c)
    refine gWp_sts gT_161 2 (f' := (13, [some (.ref 0), some (.int x1), none], [.int (1 : Int32), .int x1], μ)) (cs := []) rfl trivial ?_
    refine gWp_icmp gT_161 (pc := 13) rfl ⟨fun c => ?_, fun c => ?_⟩
    · replace h := h.1 (of_decide_eq_true c)
      refine gWp_sts gT_161 1 (f' := (24, [some (.ref 0), some (.int x1), none], [.ref 0], μ)) (cs := []) rfl trivial ?_
      refine gWp_virt gT_161 (pc := 24) (q := 0) (as := [.ref 0]) (rest := []) rfl rfl rfl rfl rfl rfl ⟨by decide, Nat.le_of_ble_eq_true rfl, by decide, Nat.le_of_ble_eq_true rfl⟩ (gWp_imp h (fun μ1 r h => ?_))
      rcases h with h | h | h
      · obtain ⟨v2, rfl, h⟩ := h
        refine Or.inl ⟨_, rfl, ?_⟩
        show gWp none 161 (27, [some (.ref 0), some (.int x1), none], [.int v2], μ1) _ P
        exact gWp_end gT_161 rfl (gEnd_int trivial) h
      · obtain ⟨rfl, h⟩ := h
        refine Or.inr (Or.inr ⟨1, 0, _, _, _, rfl, rfl, rfl, rfl, Or.inl ⟨_, rfl, rfl⟩, ?_⟩)
        refine gWp_sts gT_161 1 (f' := (32, [some (.ref 0), some (.int x1), none], [.int (-1001 : Int32)], (gBm μ1))) (cs := []) rfl trivial ?_
        exact gWp_end gT_161 rfl (gEnd_int trivial) h
      · obtain ⟨rfl, h⟩ := h
        refine Or.inr (Or.inr ⟨3, 1, _, _, _, rfl, rfl, rfl, rfl, Or.inl ⟨_, rfl, rfl⟩, ?_⟩)
        refine gWp_sts gT_161 1 (f' := (37, [some (.ref 0), some (.int x1), none], [.int (-1002 : Int32)], (gBm μ1))) (cs := []) rfl trivial ?_
        exact gWp_end gT_161 rfl (gEnd_int trivial) h
    · replace h := h.2 (Classical.not_not.mp (fun q => c (decide_eq_true q)))
      refine gWp_sts gT_161 1 (f' := (17, [some (.ref 0), some (.int x1), none], [.ref 0], μ)) (cs := []) rfl trivial ?_
      refine gWp_virt gT_161 (pc := 17) (q := 0) (as := [.ref 0]) (rest := []) rfl rfl rfl rfl rfl rfl ⟨by decide, Nat.le_of_ble_eq_true rfl, by decide, Nat.le_of_ble_eq_true rfl⟩ (gWp_imp h (fun μ3 r h => ?_))
      rcases h with h | h | h
      · obtain ⟨v4, rfl, h⟩ := h
        refine Or.inl ⟨_, rfl, ?_⟩
        show gWp none 161 (20, [some (.ref 0), some (.int x1), none], [.int v4], μ3) _ P
        refine gWp_sts gT_161 1 (f' := (27, [some (.ref 0), some (.int x1), none], [.int v4], μ3)) (cs := []) rfl trivial ?_
        exact gWp_end gT_161 rfl (gEnd_int trivial) h
      · obtain ⟨rfl, h⟩ := h
        refine Or.inr (Or.inr ⟨1, 0, _, _, _, rfl, rfl, rfl, rfl, Or.inl ⟨_, rfl, rfl⟩, ?_⟩)
        refine gWp_sts gT_161 1 (f' := (32, [some (.ref 0), some (.int x1), none], [.int (-1001 : Int32)], (gBm μ3))) (cs := []) rfl trivial ?_
        exact gWp_end gT_161 rfl (gEnd_int trivial) h
      · obtain ⟨rfl, h⟩ := h
        refine Or.inr (Or.inr ⟨3, 1, _, _, _, rfl, rfl, rfl, rfl, Or.inl ⟨_, rfl, rfl⟩, ?_⟩)
        refine gWp_sts gT_161 1 (f' := (37, [some (.ref 0), some (.int x1), none], [.int (-1002 : Int32)], (gBm μ3))) (cs := []) rfl trivial ?_
        exact gWp_end gT_161 rfl (gEnd_int trivial) h
  · replace h := h.2 (Classical.not_not.mp (fun q => c (decide_eq_true q)))
    refine gWp_sts gT_161 1 (f' := (5, [some (.ref 0), some (.int x1), none], [.ref 0], μ)) (cs := []) rfl trivial ?_
    refine gWp_virt gT_161 (pc := 5) (q := 0) (as := [.ref 0]) (rest := []) rfl rfl rfl rfl rfl rfl ⟨by decide, Nat.le_of_ble_eq_true rfl, by decide, Nat.le_of_ble_eq_true rfl⟩ (gWp_imp h (fun μ5 r h => ?_))
    rcases h with h | h | h
    · obtain ⟨v6, rfl, h⟩ := h
      refine Or.inl ⟨_, rfl, ?_⟩
      show gWp none 161 (8, [some (.ref 0), some (.int x1), none], [.int v6], μ5) _ P
      refine gWp_sts gT_161 1 (f' := (27, [some (.ref 0), some (.int x1), none], [.int v6], μ5)) (cs := []) rfl trivial ?_
      exact gWp_end gT_161 rfl (gEnd_int trivial) h
    · obtain ⟨rfl, h⟩ := h
      refine Or.inr (Or.inr ⟨1, 0, _, _, _, rfl, rfl, rfl, rfl, Or.inl ⟨_, rfl, rfl⟩, ?_⟩)
      refine gWp_sts gT_161 1 (f' := (32, [some (.ref 0), some (.int x1), none], [.int (-1001 : Int32)], (gBm μ5))) (cs := []) rfl trivial ?_
      exact gWp_end gT_161 rfl (gEnd_int trivial) h
    · obtain ⟨rfl, h⟩ := h
      refine Or.inr (Or.inr ⟨3, 1, _, _, _, rfl, rfl, rfl, rfl, Or.inl ⟨_, rfl, rfl⟩, ?_⟩)
      refine gWp_sts gT_161 1 (f' := (37, [some (.ref 0), some (.int x1), none], [.int (-1002 : Int32)], (gBm μ5))) (cs := []) rfl trivial ?_
      exact gWp_end gT_161 rfl (gEnd_int trivial) h
/-! sum -/
theorem gT_162 : gCode[162]? = some gC_162 := rfl
set_option maxRecDepth 20000 in
theorem vc_162_100 {cnt : Nat} {μ : gMu} {x1 : Int64} {x3 : Int32} {P : gMu → gRes → Prop} (hcnt : cnt + 8 ≤ 380) (h : gCl' 2 [.ref 0] μ (fun μ1 r => (∃ v2, r = .inl (some (.int v2)) ∧ (((v2 ≤ x3) → (P μ1 (.inl (some (.long x1))))) ∧ ((¬ v2 ≤ x3) → (gCl' 89 [.ref 0, .int x3] μ1 (fun μ3 r => (∃ v4, r = .inl (some (.int v4)) ∧ ((¬ (5 : Int32) = 0) ∧ (gCl' 159 [.ref 0, .int x3, .int (x3 - x3 / (5 : Int32) * (5 : Int32))] μ3 (fun μ5 r => (∃ v6, r = .inl (some (.int v6)) ∧ ((¬ (5 : Int32) = 0) ∧ (gCl' 153 [.ref 0, .int x3, .int (x3 - x3 / (5 : Int32) * (5 : Int32))] μ5 (fun μ7 r => (∃ v8, r = .inl (some (.int v8)) ∧ (gWp none 162 (100, [some (.ref 0), some (.long ((((31 : Int64) * (((31 : Int64) * x1) + v4.toInt64)) + v6.toInt64) + ((3 : Int64) * v8.toInt64))), none, some (.int (x3 + (1 : Int32)))], [], μ7) (((cnt + 1) + 2) + 5) P)) ∨ (∃ y, r = .inr y ∧ P μ7 (.inr y)))))) ∨ (∃ y, r = .inr y ∧ P μ5 (.inr y)))))) ∨ (∃ y, r = .inr y ∧ P μ3 (.inr y))))))))) : gWp none 162 (100, [some (.ref 0), some (.long x1), none, some (.int x3)], [], μ) cnt P := by
  refine gWp_sts gT_162 2 (f' := (102, [some (.ref 0), some (.long x1), none, some (.int x3)], [.ref 0, .int x3], μ)) (cs := []) rfl trivial ?_
  refine gWp_virt gT_162 (pc := 102) (q := 0) (as := [.ref 0]) (rest := [.int x3]) rfl rfl rfl rfl rfl rfl ⟨by have := hcnt; show cnt + 0 ≤ 380; omega, Nat.le_of_ble_eq_true rfl, by decide, Nat.le_of_ble_eq_true rfl⟩ (gWp_imp h (fun μ1 r h => ?_))
  obtain ⟨v2, rfl, h⟩ := h
  refine Or.inl ⟨_, rfl, ?_⟩
  show gWp none 162 (105, [some (.ref 0), some (.long x1), none, some (.int x3)], [.int v2, .int x3], μ1) _ P
  refine gWp_icmp gT_162 (pc := 105) rfl ⟨fun c => ?_, fun c => ?_⟩
  · replace h := h.1 (of_decide_eq_true c)
    refine gWp_sts gT_162 1 (f' := (158, [some (.ref 0), some (.long x1), none, some (.int x3)], [.long x1], μ1)) (cs := []) rfl trivial ?_
    exact gWp_end gT_162 rfl rfl h
  · replace h := h.2 (fun q => c (decide_eq_true q))
    refine gWp_sts gT_162 5 (f' := (115, [some (.ref 0), some (.long x1), none, some (.int x3)], [.int x3, .ref 0, .long ((31 : Int64) * x1)], μ1)) (cs := []) rfl trivial ?_
    refine gWp_virt gT_162 (pc := 115) (q := 0) (as := [.ref 0, .int x3]) (rest := [.long ((31 : Int64) * x1)]) rfl rfl rfl rfl rfl rfl ⟨by have := hcnt; show cnt + 1 ≤ 380; omega, Nat.le_of_ble_eq_true rfl, by decide, Nat.le_of_ble_eq_true rfl⟩ (gWp_imp h (fun μ3 r h => ?_))
    rcases h with h | h
    · obtain ⟨v4, rfl, h⟩ := h
      refine Or.inl ⟨_, rfl, ?_⟩
      show gWp none 162 (118, [some (.ref 0), some (.long x1), none, some (.int x3)], [.int v4, .long ((31 : Int64) * x1)], μ3) _ P
      obtain ⟨c1, h⟩ := h
      refine gWp_sts gT_162 11 (f' := (131, [some (.ref 0), some (.long (((31 : Int64) * x1) + v4.toInt64)), none, some (.int x3)], [.int (x3 - x3 / (5 : Int32) * (5 : Int32)), .int x3, .ref 0, .long ((31 : Int64) * (((31 : Int64) * x1) + v4.toInt64))], μ3)) (cs := [¬ (5 : Int32) = 0]) rfl c1 ?_
      refine gWp_stat gT_162 (pc := 131) (c01 := 0) (as := [.ref 0, .int x3, .int (x3 - x3 / (5 : Int32) * (5 : Int32))]) (rest := [.long ((31 : Int64) * (((31 : Int64) * x1) + v4.toInt64))]) rfl (Or.inl rfl) rfl rfl rfl ⟨by have := hcnt; show (cnt + 1) + 2 ≤ 380; omega, Nat.le_of_ble_eq_true rfl, by decide, Nat.le_of_ble_eq_true rfl⟩ (gWp_imp h (fun μ5 r h => ?_))
      rcases h with h | h
      · obtain ⟨v6, rfl, h⟩ := h
        refine Or.inl ⟨_, rfl, ?_⟩
        show gWp none 162 (134, [some (.ref 0), some (.long (((31 : Int64) * x1) + v4.toInt64)), none, some (.int x3)], [.int v6, .long ((31 : Int64) * (((31 : Int64) * x1) + v4.toInt64))], μ5) _ P
        obtain ⟨c1, h⟩ := h
        refine gWp_sts gT_162 8 (f' := (144, [some (.ref 0), some (.long (((31 : Int64) * x1) + v4.toInt64)), none, some (.int x3)], [.int (x3 - x3 / (5 : Int32) * (5 : Int32)), .int x3, .ref 0, .long (3 : Int64), .long (((31 : Int64) * (((31 : Int64) * x1) + v4.toInt64)) + v6.toInt64)], μ5)) (cs := [¬ (5 : Int32) = 0]) rfl c1 ?_
        refine gWp_stat gT_162 (pc := 144) (c01 := 0) (as := [.ref 0, .int x3, .int (x3 - x3 / (5 : Int32) * (5 : Int32))]) (rest := [.long (3 : Int64), .long (((31 : Int64) * (((31 : Int64) * x1) + v4.toInt64)) + v6.toInt64)]) rfl (Or.inl rfl) rfl rfl rfl ⟨by have := hcnt; show ((cnt + 1) + 2) + 5 ≤ 380; omega, Nat.le_of_ble_eq_true rfl, by decide, Nat.le_of_ble_eq_true rfl⟩ (gWp_imp h (fun μ7 r h => ?_))
        rcases h with h | h
        · obtain ⟨v8, rfl, h⟩ := h
          refine Or.inl ⟨_, rfl, ?_⟩
          show gWp none 162 (147, [some (.ref 0), some (.long (((31 : Int64) * x1) + v4.toInt64)), none, some (.int x3)], [.int v8, .long (3 : Int64), .long (((31 : Int64) * (((31 : Int64) * x1) + v4.toInt64)) + v6.toInt64)], μ7) _ P
          refine gWp_sts gT_162 6 (f' := (100, [some (.ref 0), some (.long ((((31 : Int64) * (((31 : Int64) * x1) + v4.toInt64)) + v6.toInt64) + ((3 : Int64) * v8.toInt64))), none, some (.int (x3 + (1 : Int32)))], [], μ7)) (cs := []) rfl trivial ?_
          exact h
        · obtain ⟨y, rfl, h⟩ := h
          exact Or.inr (Or.inl ⟨y, rfl, rfl, h⟩)
      · obtain ⟨y, rfl, h⟩ := h
        exact Or.inr (Or.inl ⟨y, rfl, rfl, h⟩)
    · obtain ⟨y, rfl, h⟩ := h
      exact Or.inr (Or.inl ⟨y, rfl, rfl, h⟩)
set_option maxRecDepth 20000 in
theorem vc_162 {μ : gMu} {P : gMu → gRes → Prop} (h : gCl' 2 [.ref 0] μ (fun μ1 r => (∃ v2, r = .inl (some (.int v2)) ∧ (gCl' 5 [.ref 0] μ1 (fun μ3 r => (∃ v4, r = .inl (some (.int v4)) ∧ (gCl' 63 [.ref 0] μ3 (fun μ5 r => (∃ v6, r = .inl (some (.int v6)) ∧ (gCl' 64 [.ref 0] μ5 (fun μ7 r => (∃ v8, r = .inl (some (.int v8)) ∧ (gCl' 66 [.ref 0] μ7 (fun μ9 r => (∃ v10, r = .inl (some (.int v10)) ∧ (gCl' 68 [.ref 0] μ9 (fun μ11 r => (∃ v12, r = .inl (some (.int v12)) ∧ (gCl' 69 [.ref 0] μ11 (fun μ13 r => (∃ v14, r = .inl (some (.int v14)) ∧ (gCl' 161 [.ref 0, .int (0 : Int32)] μ13 (fun μ15 r => (∃ v16, r = .inl (some (.int v16)) ∧ (gCl' 161 [.ref 0, .int (1 : Int32)] μ15 (fun μ17 r => (∃ v18, r = .inl (some (.int v18)) ∧ (gCl' 160 [.ref 0, .int (0 : Int32)] μ17 (fun μ19 r => (∃ v20, r = .inl (some (.long v20)) ∧ (gWp none 162 (100, [some (.ref 0), some (.long (((((((((v2.toInt64 + ((31 : Int64) * v4.toInt64)) + ((961 : Int64) * v6.toInt64)) + ((7 : Int64) * v8.toInt64)) + ((11 : Int64) * v10.toInt64)) + ((13 : Int64) * v12.toInt64)) + ((17 : Int64) * v14.toInt64)) + ((19 : Int64) * v16.toInt64)) + ((23 : Int64) * v18.toInt64)) + ((29 : Int64) * v20))), none, some (.int (0 : Int32))], [], μ19) 6 P)) ∨ (∃ y, r = .inr y ∧ P μ19 (.inr y))))) ∨ (∃ y, r = .inr y ∧ P μ17 (.inr y))))) ∨ (∃ y, r = .inr y ∧ P μ15 (.inr y))))))))))))))))))))))))) : gWp none 162 (0, [some (.ref 0), none, none, none], [], μ) 0 P := by
  refine gWp_sts gT_162 1 (f' := (1, [some (.ref 0), none, none, none], [.ref 0], μ)) (cs := []) rfl trivial ?_
  refine gWp_virt gT_162 (pc := 1) (q := 0) (as := [.ref 0]) (rest := []) rfl rfl rfl rfl rfl rfl ⟨by decide, Nat.le_of_ble_eq_true rfl, by decide, Nat.le_of_ble_eq_true rfl⟩ (gWp_imp h (fun μ1 r h => ?_))
  obtain ⟨v2, rfl, h⟩ := h
  refine Or.inl ⟨_, rfl, ?_⟩
  show gWp none 162 (4, [some (.ref 0), none, none, none], [.int v2], μ1) _ P
  refine gWp_sts gT_162 3 (f' := (9, [some (.ref 0), none, none, none], [.ref 0, .long (31 : Int64), .long v2.toInt64], μ1)) (cs := []) rfl trivial ?_
  refine gWp_virt gT_162 (pc := 9) (q := 0) (as := [.ref 0]) (rest := [.long (31 : Int64), .long v2.toInt64]) rfl rfl rfl rfl rfl rfl ⟨by decide, Nat.le_of_ble_eq_true rfl, by decide, Nat.le_of_ble_eq_true rfl⟩ (gWp_imp h (fun μ3 r h => ?_))
  obtain ⟨v4, rfl, h⟩ := h
  refine Or.inl ⟨_, rfl, ?_⟩
  show gWp none 162 (12, [some (.ref 0), none, none, none], [.int v4, .long (31 : Int64), .long v2.toInt64], μ3) _ P
  refine gWp_sts gT_162 5 (f' := (19, [some (.ref 0), none, none, none], [.ref 0, .long (961 : Int64), .long (v2.toInt64 + ((31 : Int64) * v4.toInt64))], μ3)) (cs := []) rfl trivial ?_
  refine gWp_virt gT_162 (pc := 19) (q := 0) (as := [.ref 0]) (rest := [.long (961 : Int64), .long (v2.toInt64 + ((31 : Int64) * v4.toInt64))]) rfl rfl rfl rfl rfl rfl ⟨by decide, Nat.le_of_ble_eq_true rfl, by decide, Nat.le_of_ble_eq_true rfl⟩ (gWp_imp h (fun μ5 r h => ?_))
  obtain ⟨v6, rfl, h⟩ := h
  refine Or.inl ⟨_, rfl, ?_⟩
  show gWp none 162 (22, [some (.ref 0), none, none, none], [.int v6, .long (961 : Int64), .long (v2.toInt64 + ((31 : Int64) * v4.toInt64))], μ5) _ P
  refine gWp_sts gT_162 5 (f' := (29, [some (.ref 0), none, none, none], [.ref 0, .long (7 : Int64), .long ((v2.toInt64 + ((31 : Int64) * v4.toInt64)) + ((961 : Int64) * v6.toInt64))], μ5)) (cs := []) rfl trivial ?_
  refine gWp_virt gT_162 (pc := 29) (q := 0) (as := [.ref 0]) (rest := [.long (7 : Int64), .long ((v2.toInt64 + ((31 : Int64) * v4.toInt64)) + ((961 : Int64) * v6.toInt64))]) rfl rfl rfl rfl rfl rfl ⟨by decide, Nat.le_of_ble_eq_true rfl, by decide, Nat.le_of_ble_eq_true rfl⟩ (gWp_imp h (fun μ7 r h => ?_))
  obtain ⟨v8, rfl, h⟩ := h
  refine Or.inl ⟨_, rfl, ?_⟩
  show gWp none 162 (32, [some (.ref 0), none, none, none], [.int v8, .long (7 : Int64), .long ((v2.toInt64 + ((31 : Int64) * v4.toInt64)) + ((961 : Int64) * v6.toInt64))], μ7) _ P
  refine gWp_sts gT_162 5 (f' := (39, [some (.ref 0), none, none, none], [.ref 0, .long (11 : Int64), .long (((v2.toInt64 + ((31 : Int64) * v4.toInt64)) + ((961 : Int64) * v6.toInt64)) + ((7 : Int64) * v8.toInt64))], μ7)) (cs := []) rfl trivial ?_
  refine gWp_virt gT_162 (pc := 39) (q := 0) (as := [.ref 0]) (rest := [.long (11 : Int64), .long (((v2.toInt64 + ((31 : Int64) * v4.toInt64)) + ((961 : Int64) * v6.toInt64)) + ((7 : Int64) * v8.toInt64))]) rfl rfl rfl rfl rfl rfl ⟨by decide, Nat.le_of_ble_eq_true rfl, by decide, Nat.le_of_ble_eq_true rfl⟩ (gWp_imp h (fun μ9 r h => ?_))
  obtain ⟨v10, rfl, h⟩ := h
  refine Or.inl ⟨_, rfl, ?_⟩
  show gWp none 162 (42, [some (.ref 0), none, none, none], [.int v10, .long (11 : Int64), .long (((v2.toInt64 + ((31 : Int64) * v4.toInt64)) + ((961 : Int64) * v6.toInt64)) + ((7 : Int64) * v8.toInt64))], μ9) _ P
  refine gWp_sts gT_162 5 (f' := (49, [some (.ref 0), none, none, none], [.ref 0, .long (13 : Int64), .long ((((v2.toInt64 + ((31 : Int64) * v4.toInt64)) + ((961 : Int64) * v6.toInt64)) + ((7 : Int64) * v8.toInt64)) + ((11 : Int64) * v10.toInt64))], μ9)) (cs := []) rfl trivial ?_
  refine gWp_virt gT_162 (pc := 49) (q := 0) (as := [.ref 0]) (rest := [.long (13 : Int64), .long ((((v2.toInt64 + ((31 : Int64) * v4.toInt64)) + ((961 : Int64) * v6.toInt64)) + ((7 : Int64) * v8.toInt64)) + ((11 : Int64) * v10.toInt64))]) rfl rfl rfl rfl rfl rfl ⟨by decide, Nat.le_of_ble_eq_true rfl, by decide, Nat.le_of_ble_eq_true rfl⟩ (gWp_imp h (fun μ11 r h => ?_))
  obtain ⟨v12, rfl, h⟩ := h
  refine Or.inl ⟨_, rfl, ?_⟩
  show gWp none 162 (52, [some (.ref 0), none, none, none], [.int v12, .long (13 : Int64), .long ((((v2.toInt64 + ((31 : Int64) * v4.toInt64)) + ((961 : Int64) * v6.toInt64)) + ((7 : Int64) * v8.toInt64)) + ((11 : Int64) * v10.toInt64))], μ11) _ P
  refine gWp_sts gT_162 5 (f' := (59, [some (.ref 0), none, none, none], [.ref 0, .long (17 : Int64), .long (((((v2.toInt64 + ((31 : Int64) * v4.toInt64)) + ((961 : Int64) * v6.toInt64)) + ((7 : Int64) * v8.toInt64)) + ((11 : Int64) * v10.toInt64)) + ((13 : Int64) * v12.toInt64))], μ11)) (cs := []) rfl trivial ?_
  refine gWp_virt gT_162 (pc := 59) (q := 0) (as := [.ref 0]) (rest := [.long (17 : Int64), .long (((((v2.toInt64 + ((31 : Int64) * v4.toInt64)) + ((961 : Int64) * v6.toInt64)) + ((7 : Int64) * v8.toInt64)) + ((11 : Int64) * v10.toInt64)) + ((13 : Int64) * v12.toInt64))]) rfl rfl rfl rfl rfl rfl ⟨by decide, Nat.le_of_ble_eq_true rfl, by decide, Nat.le_of_ble_eq_true rfl⟩ (gWp_imp h (fun μ13 r h => ?_))
  obtain ⟨v14, rfl, h⟩ := h
  refine Or.inl ⟨_, rfl, ?_⟩
  show gWp none 162 (62, [some (.ref 0), none, none, none], [.int v14, .long (17 : Int64), .long (((((v2.toInt64 + ((31 : Int64) * v4.toInt64)) + ((961 : Int64) * v6.toInt64)) + ((7 : Int64) * v8.toInt64)) + ((11 : Int64) * v10.toInt64)) + ((13 : Int64) * v12.toInt64))], μ13) _ P
  refine gWp_sts gT_162 6 (f' := (70, [some (.ref 0), none, none, none], [.int (0 : Int32), .ref 0, .long (19 : Int64), .long ((((((v2.toInt64 + ((31 : Int64) * v4.toInt64)) + ((961 : Int64) * v6.toInt64)) + ((7 : Int64) * v8.toInt64)) + ((11 : Int64) * v10.toInt64)) + ((13 : Int64) * v12.toInt64)) + ((17 : Int64) * v14.toInt64))], μ13)) (cs := []) rfl trivial ?_
  refine gWp_stat gT_162 (pc := 70) (c01 := 0) (as := [.ref 0, .int (0 : Int32)]) (rest := [.long (19 : Int64), .long ((((((v2.toInt64 + ((31 : Int64) * v4.toInt64)) + ((961 : Int64) * v6.toInt64)) + ((7 : Int64) * v8.toInt64)) + ((11 : Int64) * v10.toInt64)) + ((13 : Int64) * v12.toInt64)) + ((17 : Int64) * v14.toInt64))]) rfl (Or.inl rfl) rfl rfl rfl ⟨by decide, Nat.le_of_ble_eq_true rfl, by decide, Nat.le_of_ble_eq_true rfl⟩ (gWp_imp h (fun μ15 r h => ?_))
  rcases h with h | h
  · obtain ⟨v16, rfl, h⟩ := h
    refine Or.inl ⟨_, rfl, ?_⟩
    show gWp none 162 (73, [some (.ref 0), none, none, none], [.int v16, .long (19 : Int64), .long ((((((v2.toInt64 + ((31 : Int64) * v4.toInt64)) + ((961 : Int64) * v6.toInt64)) + ((7 : Int64) * v8.toInt64)) + ((11 : Int64) * v10.toInt64)) + ((13 : Int64) * v12.toInt64)) + ((17 : Int64) * v14.toInt64))], μ15) _ P
    refine gWp_sts gT_162 6 (f' := (81, [some (.ref 0), none, none, none], [.int (1 : Int32), .ref 0, .long (23 : Int64), .long (((((((v2.toInt64 + ((31 : Int64) * v4.toInt64)) + ((961 : Int64) * v6.toInt64)) + ((7 : Int64) * v8.toInt64)) + ((11 : Int64) * v10.toInt64)) + ((13 : Int64) * v12.toInt64)) + ((17 : Int64) * v14.toInt64)) + ((19 : Int64) * v16.toInt64))], μ15)) (cs := []) rfl trivial ?_
    refine gWp_stat gT_162 (pc := 81) (c01 := 0) (as := [.ref 0, .int (1 : Int32)]) (rest := [.long (23 : Int64), .long (((((((v2.toInt64 + ((31 : Int64) * v4.toInt64)) + ((961 : Int64) * v6.toInt64)) + ((7 : Int64) * v8.toInt64)) + ((11 : Int64) * v10.toInt64)) + ((13 : Int64) * v12.toInt64)) + ((17 : Int64) * v14.toInt64)) + ((19 : Int64) * v16.toInt64))]) rfl (Or.inl rfl) rfl rfl rfl ⟨by decide, Nat.le_of_ble_eq_true rfl, by decide, Nat.le_of_ble_eq_true rfl⟩ (gWp_imp h (fun μ17 r h => ?_))
    rcases h with h | h
    · obtain ⟨v18, rfl, h⟩ := h
      refine Or.inl ⟨_, rfl, ?_⟩
      show gWp none 162 (84, [some (.ref 0), none, none, none], [.int v18, .long (23 : Int64), .long (((((((v2.toInt64 + ((31 : Int64) * v4.toInt64)) + ((961 : Int64) * v6.toInt64)) + ((7 : Int64) * v8.toInt64)) + ((11 : Int64) * v10.toInt64)) + ((13 : Int64) * v12.toInt64)) + ((17 : Int64) * v14.toInt64)) + ((19 : Int64) * v16.toInt64))], μ17) _ P
      refine gWp_sts gT_162 6 (f' := (92, [some (.ref 0), none, none, none], [.int (0 : Int32), .ref 0, .long (29 : Int64), .long ((((((((v2.toInt64 + ((31 : Int64) * v4.toInt64)) + ((961 : Int64) * v6.toInt64)) + ((7 : Int64) * v8.toInt64)) + ((11 : Int64) * v10.toInt64)) + ((13 : Int64) * v12.toInt64)) + ((17 : Int64) * v14.toInt64)) + ((19 : Int64) * v16.toInt64)) + ((23 : Int64) * v18.toInt64))], μ17)) (cs := []) rfl trivial ?_
      refine gWp_stat gT_162 (pc := 92) (c01 := 0) (as := [.ref 0, .int (0 : Int32)]) (rest := [.long (29 : Int64), .long ((((((((v2.toInt64 + ((31 : Int64) * v4.toInt64)) + ((961 : Int64) * v6.toInt64)) + ((7 : Int64) * v8.toInt64)) + ((11 : Int64) * v10.toInt64)) + ((13 : Int64) * v12.toInt64)) + ((17 : Int64) * v14.toInt64)) + ((19 : Int64) * v16.toInt64)) + ((23 : Int64) * v18.toInt64))]) rfl (Or.inl rfl) rfl rfl rfl ⟨by decide, Nat.le_of_ble_eq_true rfl, by decide, Nat.le_of_ble_eq_true rfl⟩ (gWp_imp h (fun μ19 r h => ?_))
      rcases h with h | h
      · obtain ⟨v20, rfl, h⟩ := h
        refine Or.inl ⟨_, rfl, ?_⟩
        show gWp none 162 (95, [some (.ref 0), none, none, none], [.long v20, .long (29 : Int64), .long ((((((((v2.toInt64 + ((31 : Int64) * v4.toInt64)) + ((961 : Int64) * v6.toInt64)) + ((7 : Int64) * v8.toInt64)) + ((11 : Int64) * v10.toInt64)) + ((13 : Int64) * v12.toInt64)) + ((17 : Int64) * v14.toInt64)) + ((19 : Int64) * v16.toInt64)) + ((23 : Int64) * v18.toInt64))], μ19) _ P
        refine gWp_sts gT_162 5 (f' := (100, [some (.ref 0), some (.long (((((((((v2.toInt64 + ((31 : Int64) * v4.toInt64)) + ((961 : Int64) * v6.toInt64)) + ((7 : Int64) * v8.toInt64)) + ((11 : Int64) * v10.toInt64)) + ((13 : Int64) * v12.toInt64)) + ((17 : Int64) * v14.toInt64)) + ((19 : Int64) * v16.toInt64)) + ((23 : Int64) * v18.toInt64)) + ((29 : Int64) * v20))), none, some (.int (0 : Int32))], [], μ19)) (cs := []) rfl trivial ?_
        exact h
      · obtain ⟨y, rfl, h⟩ := h
        exact Or.inr (Or.inl ⟨y, rfl, rfl, h⟩)
    · obtain ⟨y, rfl, h⟩ := h
      exact Or.inr (Or.inl ⟨y, rfl, rfl, h⟩)
  · obtain ⟨y, rfl, h⟩ := h
    exact Or.inr (Or.inl ⟨y, rfl, rfl, h⟩)
/-! isSound -/
theorem gT_165 : gCode[165]? = some gC_165 := rfl
set_option maxRecDepth 20000 in
theorem vc_165_384 {cnt : Nat} {μ : gMu} {x1 : Int32} {x2 : Int32} {x3 : Int32} {x4 : Int32} {P : gMu → gRes → Prop} (hcnt : cnt + 14 ≤ 780) (h : gCl' 2 [.ref 0] μ (fun μ1 r => (∃ v2, r = .inl (some (.int v2)) ∧ (((v2 ≤ x4) → (P μ1 (.inl (some (.int (1 : Int32)))))) ∧ ((¬ v2 ≤ x4) → (gCl' 153 [.ref 0, .int x4, .int (1 : Int32)] μ1 (fun μ3 r => (∃ v4, r = .inl (some (.int v4)) ∧ (gCl' 153 [.ref 0, .int x4, .int (2 : Int32)] μ3 (fun μ5 r => (∃ v6, r = .inl (some (.int v6)) ∧ (((¬ v4 = v6) → False) ∧ (gCl' 159 [.ref 0, .int x4, .int (0 : Int32)] μ5 (fun μ7 r => (∃ v8, r = .inl (some (.int v8)) ∧ (((¬ v8 = (-1002 : Int32)) → False) ∧ (gCl' 159 [.ref 0, .int x4, .int (0 : Int32)] μ7 (fun μ9 r => (∃ v10, r = .inl (some (.int v10)) ∧ (((¬ v10 = (-1002 : Int32)) → False) ∧ (gWp none 165 (384, [some (.ref 0), some (.int x1), some (.int x2), some (.int x3), some (.int (x4 + (1 : Int32))), none, none, none, none, none], [], μ9) ((((cnt + 5) + 5) + 2) + 2) P))) ∨ (∃ y, r = .inr y ∧ P μ9 (.inr y)))))) ∨ (∃ y, r = .inr y ∧ P μ7 (.inr y)))))) ∨ (∃ y, r = .inr y ∧ P μ5 (.inr y))))) ∨ (∃ y, r = .inr y ∧ P μ3 (.inr y))))))))) : gWp none 165 (384, [some (.ref 0), some (.int x1), some (.int x2), some (.int x3), some (.int x4), none, none, none, none, none], [], μ) cnt P := by
  refine gWp_sts gT_165 2 (f' := (387, [some (.ref 0), some (.int x1), some (.int x2), some (.int x3), some (.int x4), none, none, none, none, none], [.ref 0, .int x4], μ)) (cs := []) rfl trivial ?_
  refine gWp_virt gT_165 (pc := 387) (q := 0) (as := [.ref 0]) (rest := [.int x4]) rfl rfl rfl rfl rfl rfl ⟨by have := hcnt; show cnt + 0 ≤ 780; omega, Nat.le_of_ble_eq_true rfl, by decide, Nat.le_of_ble_eq_true rfl⟩ (gWp_imp h (fun μ1 r h => ?_))
  obtain ⟨v2, rfl, h⟩ := h
  refine Or.inl ⟨_, rfl, ?_⟩
  show gWp none 165 (390, [some (.ref 0), some (.int x1), some (.int x2), some (.int x3), some (.int x4), none, none, none, none, none], [.int v2, .int x4], μ1) _ P
  refine gWp_icmp gT_165 (pc := 390) rfl ⟨fun c => ?_, fun c => ?_⟩
  · replace h := h.1 (of_decide_eq_true c)
    refine gWp_sts gT_165 1 (f' := (484, [some (.ref 0), some (.int x1), some (.int x2), some (.int x3), some (.int x4), none, none, none, none, none], [.int (1 : Int32)], μ1)) (cs := []) rfl trivial ?_
    exact gWp_end gT_165 rfl (gEnd_int (show narrow .boolean (.int (1 : Int32)) = .int (1 : Int32) by decide)) h
  · replace h := h.2 (fun q => c (decide_eq_true q))
    refine gWp_sts gT_165 3 (f' := (397, [some (.ref 0), some (.int x1), some (.int x2), some (.int x3), some (.int x4), none, none, none, none, none], [.int (1 : Int32), .int x4, .ref 0], μ1)) (cs := []) rfl trivial ?_
    refine gWp_stat gT_165 (pc := 397) (c01 := 0) (as := [.ref 0, .int x4, .int (1 : Int32)]) (rest := []) rfl (Or.inl rfl) rfl rfl rfl ⟨by have := hcnt; show cnt + 5 ≤ 780; omega, Nat.le_of_ble_eq_true rfl, by decide, Nat.le_of_ble_eq_true rfl⟩ (gWp_imp h (fun μ3 r h => ?_))
    rcases h with h | h
    · obtain ⟨v4, rfl, h⟩ := h
      refine Or.inl ⟨_, rfl, ?_⟩
      show gWp none 165 (400, [some (.ref 0), some (.int x1), some (.int x2), some (.int x3), some (.int x4), none, none, none, none, none], [.int v4], μ3) _ P
      refine gWp_sts gT_165 3 (f' := (404, [some (.ref 0), some (.int x1), some (.int x2), some (.int x3), some (.int x4), none, none, none, none, none], [.int (2 : Int32), .int x4, .ref 0, .int v4], μ3)) (cs := []) rfl trivial ?_
      refine gWp_stat gT_165 (pc := 404) (c01 := 0) (as := [.ref 0, .int x4, .int (2 : Int32)]) (rest := [.int v4]) rfl (Or.inl rfl) rfl rfl rfl ⟨by have := hcnt; show (cnt + 5) + 5 ≤ 780; omega, Nat.le_of_ble_eq_true rfl, by decide, Nat.le_of_ble_eq_true rfl⟩ (gWp_imp h (fun μ5 r h => ?_))
      rcases h with h | h
      · obtain ⟨v6, rfl, h⟩ := h
        refine Or.inl ⟨_, rfl, ?_⟩
        show gWp none 165 (407, [some (.ref 0), some (.int x1), some (.int x2), some (.int x3), some (.int x4), none, none, none, none, none], [.int v6, .int v4], μ5) _ P
        refine gWp_icmp gT_165 (pc := 407) rfl ⟨fun c => ?_, fun c => ?_⟩
        · exact (h.1 (of_decide_eq_true c)).elim
        · replace h := h.2
          refine gWp_sts gT_165 3 (f' := (414, [some (.ref 0), some (.int x1), some (.int x2), some (.int x3), some (.int x4), none, none, none, none, none], [.int (0 : Int32), .int x4, .ref 0], μ5)) (cs := []) rfl trivial ?_
          refine gWp_stat gT_165 (pc := 414) (c01 := 0) (as := [.ref 0, .int x4, .int (0 : Int32)]) (rest := []) rfl (Or.inl rfl) rfl rfl rfl ⟨by have := hcnt; show ((cnt + 5) + 5) + 2 ≤ 780; omega, Nat.le_of_ble_eq_true rfl, by decide, Nat.le_of_ble_eq_true rfl⟩ (gWp_imp h (fun μ7 r h => ?_))
          rcases h with h | h
          · obtain ⟨v8, rfl, h⟩ := h
            refine Or.inl ⟨_, rfl, ?_⟩
            show gWp none 165 (417, [some (.ref 0), some (.int x1), some (.int x2), some (.int x3), some (.int x4), none, none, none, none, none], [.int v8], μ7) _ P
            refine gWp_sts gT_165 1 (f' := (420, [some (.ref 0), some (.int x1), some (.int x2), some (.int x3), some (.int x4), none, none, none, none, none], [.int (-1002 : Int32), .int v8], μ7)) (cs := []) rfl trivial ?_
            refine gWp_icmp gT_165 (pc := 420) rfl ⟨fun c => ?_, fun c => ?_⟩
            · replace h := h.2
              refine gWp_sts gT_165 3 (f' := (449, [some (.ref 0), some (.int x1), some (.int x2), some (.int x3), some (.int x4), none, none, none, none, none], [.int (0 : Int32), .int x4, .ref 0], μ7)) (cs := []) rfl trivial ?_
              refine gWp_stat gT_165 (pc := 449) (c01 := 0) (as := [.ref 0, .int x4, .int (0 : Int32)]) (rest := []) rfl (Or.inl rfl) rfl rfl rfl ⟨by have := hcnt; show (((cnt + 5) + 5) + 2) + 2 ≤ 780; omega, Nat.le_of_ble_eq_true rfl, by decide, Nat.le_of_ble_eq_true rfl⟩ (gWp_imp h (fun μ9 r h => ?_))
              rcases h with h | h
              · obtain ⟨v10, rfl, h⟩ := h
                refine Or.inl ⟨_, rfl, ?_⟩
                show gWp none 165 (452, [some (.ref 0), some (.int x1), some (.int x2), some (.int x3), some (.int x4), none, none, none, none, none], [.int v10], μ9) _ P
                refine gWp_sts gT_165 1 (f' := (455, [some (.ref 0), some (.int x1), some (.int x2), some (.int x3), some (.int x4), none, none, none, none, none], [.int (-1002 : Int32), .int v10], μ9)) (cs := []) rfl trivial ?_
                refine gWp_icmp gT_165 (pc := 455) rfl ⟨fun c => ?_, fun c => ?_⟩
                · replace h := h.2
                  refine gWp_sts gT_165 2 (f' := (384, [some (.ref 0), some (.int x1), some (.int x2), some (.int x3), some (.int (x4 + (1 : Int32))), none, none, none, none, none], [], μ9)) (cs := []) rfl trivial ?_
                  exact h
                · exact (h.1 (fun q => c (decide_eq_true q))).elim
              · obtain ⟨y, rfl, h⟩ := h
                exact Or.inr (Or.inl ⟨y, rfl, rfl, h⟩)
            · exact (h.1 (fun q => c (decide_eq_true q))).elim
          · obtain ⟨y, rfl, h⟩ := h
            exact Or.inr (Or.inl ⟨y, rfl, rfl, h⟩)
      · obtain ⟨y, rfl, h⟩ := h
        exact Or.inr (Or.inl ⟨y, rfl, rfl, h⟩)
    · obtain ⟨y, rfl, h⟩ := h
      exact Or.inr (Or.inl ⟨y, rfl, rfl, h⟩)
set_option maxRecDepth 20000 in
theorem vc_165 {μ : gMu} {x1 : Int32} {P : gMu → gRes → Prop} (h : gCl' 161 [.ref 0, .int (0 : Int32)] μ (fun μ1 r => (∃ v2, r = .inl (some (.int v2)) ∧ (((¬ 0 ≤ v2) → False) ∧ (gCl' 68 [.ref 0] μ1 (fun μ3 r => (∃ v4, r = .inl (some (.int v4)) ∧ (((¬ v4 = (-1 : Int32)) → False) ∧ (gCl' 69 [.ref 0] μ3 (fun μ5 r => (∃ v6, r = .inl (some (.int v6)) ∧ (((¬ v6 = 0) → False) ∧ (gCl' 161 [.ref 0, .int (1 : Int32)] μ5 (fun μ7 r => (∃ v8, r = .inl (some (.int v8)) ∧ (gCl' 66 [.ref 0] μ7 (fun μ9 r => (∃ v10, r = .inl (some (.int v10)) ∧ ((((v10 + (1 : Int32)) < v8) → False) ∧ (gCl' 66 [.ref 0] μ9 (fun μ11 r => (∃ v12, r = .inl (some (.int v12)) ∧ (((¬ v2 ≤ (v12 + (1 : Int32))) → False) ∧ (gCl' 66 [.ref 0] μ11 (fun μ13 r => (∃ v14, r = .inl (some (.int v14)) ∧ (((¬ v14 ≤ (9 : Int32)) → False) ∧ (gCl' 160 [.ref 0, .int (1 : Int32)] μ13 (fun μ15 r => (∃ v16, r = .inl (some (.long v16)) ∧ (gCl' 160 [.ref 0, .int (0 : Int32)] μ15 (fun μ17 r => (∃ v18, r = .inl (some (.long v18)) ∧ (((¬ (lg_cmp v16 v18) = 0) → False) ∧ (gCl' 161 [.ref 0, .int (2 : Int32)] μ17 (fun μ19 r => (∃ v20, r = .inl (some (.int v20)) ∧ (((¬ v20 = v2) → False) ∧ (((¬ v2 ≤ (0 : Int32)) → False) ∧ (gWp none 165 (384, [some (.ref 0), some (.int x1), some (.int v2), some (.int (0 : Int32)), some (.int (0 : Int32)), none, none, none, none, none], [], μ19) 10 P)))) ∨ (∃ y, r = .inr y ∧ P μ19 (.inr y)))))) ∨ (∃ y, r = .inr y ∧ P μ17 (.inr y))))) ∨ (∃ y, r = .inr y ∧ P μ15 (.inr y))))))))))))))))) ∨ (∃ y, r = .inr y ∧ P μ7 (.inr y)))))))))))))) ∨ (∃ y, r = .inr y ∧ P μ1 (.inr y)))) : gWp none 165 (0, [some (.ref 0), some (.int x1), none, none, none, none, none, none, none, none], [], μ) 0 P := by
  refine gWp_sts gT_165 2 (f' := (2, [some (.ref 0), some (.int x1), none, none, none, none, none, none, none, none], [.int (0 : Int32), .ref 0], μ)) (cs := []) rfl trivial ?_
  refine gWp_stat gT_165 (pc := 2) (c01 := 0) (as := [.ref 0, .int (0 : Int32)]) (rest := []) rfl (Or.inl rfl) rfl rfl rfl ⟨by decide, Nat.le_of_ble_eq_true rfl, by decide, Nat.le_of_ble_eq_true rfl⟩ (gWp_imp h (fun μ1 r h => ?_))
  rcases h with h | h
  · obtain ⟨v2, rfl, h⟩ := h
    refine Or.inl ⟨_, rfl, ?_⟩
    show gWp none 165 (5, [some (.ref 0), some (.int x1), none, none, none, none, none, none, none, none], [.int v2], μ1) _ P
    refine gWp_sts gT_165 2 (f' := (7, [some (.ref 0), some (.int x1), some (.int v2), none, none, none, none, none, none, none], [.int v2], μ1)) (cs := []) rfl trivial ?_
    refine gWp_if gT_165 (pc := 7) rfl ⟨fun c => ?_, fun c => ?_⟩
    · replace h := h.2
      refine gWp_sts gT_165 1 (f' := (65, [some (.ref 0), some (.int x1), some (.int v2), none, none, none, none, none, none, none], [.ref 0], μ1)) (cs := []) rfl trivial ?_
      refine gWp_virt gT_165 (pc := 65) (q := 0) (as := [.ref 0]) (rest := []) rfl rfl rfl rfl rfl rfl ⟨by decide, Nat.le_of_ble_eq_true rfl, by decide, Nat.le_of_ble_eq_true rfl⟩ (gWp_imp h (fun μ3 r h => ?_))
      obtain ⟨v4, rfl, h⟩ := h
      refine Or.inl ⟨_, rfl, ?_⟩
      show gWp none 165 (68, [some (.ref 0), some (.int x1), some (.int v2), none, none, none, none, none, none, none], [.int v4], μ3) _ P
      refine gWp_sts gT_165 1 (f' := (69, [some (.ref 0), some (.int x1), some (.int v2), none, none, none, none, none, none, none], [.int (-1 : Int32), .int v4], μ3)) (cs := []) rfl trivial ?_
      refine gWp_icmp gT_165 (pc := 69) rfl ⟨fun c => ?_, fun c => ?_⟩
      · exact (h.1 (of_decide_eq_true c)).elim
      · replace h := h.2
        refine gWp_sts gT_165 1 (f' := (73, [some (.ref 0), some (.int x1), some (.int v2), none, none, none, none, none, none, none], [.ref 0], μ3)) (cs := []) rfl trivial ?_
        refine gWp_virt gT_165 (pc := 73) (q := 0) (as := [.ref 0]) (rest := []) rfl rfl rfl rfl rfl rfl ⟨by decide, Nat.le_of_ble_eq_true rfl, by decide, Nat.le_of_ble_eq_true rfl⟩ (gWp_imp h (fun μ5 r h => ?_))
        obtain ⟨v6, rfl, h⟩ := h
        refine Or.inl ⟨_, rfl, ?_⟩
        show gWp none 165 (76, [some (.ref 0), some (.int x1), some (.int v2), none, none, none, none, none, none, none], [.int v6], μ5) _ P
        refine gWp_if gT_165 (pc := 76) rfl ⟨fun c => ?_, fun c => ?_⟩
        · exact (h.1 (of_decide_eq_true c)).elim
        · replace h := h.2
          refine gWp_sts gT_165 2 (f' := (81, [some (.ref 0), some (.int x1), some (.int v2), none, none, none, none, none, none, none], [.int (1 : Int32), .ref 0], μ5)) (cs := []) rfl trivial ?_
          refine gWp_stat gT_165 (pc := 81) (c01 := 0) (as := [.ref 0, .int (1 : Int32)]) (rest := []) rfl (Or.inl rfl) rfl rfl rfl ⟨by decide, Nat.le_of_ble_eq_true rfl, by decide, Nat.le_of_ble_eq_true rfl⟩ (gWp_imp h (fun μ7 r h => ?_))
          rcases h with h | h
          · obtain ⟨v8, rfl, h⟩ := h
            refine Or.inl ⟨_, rfl, ?_⟩
            show gWp none 165 (84, [some (.ref 0), some (.int x1), some (.int v2), none, none, none, none, none, none, none], [.int v8], μ7) _ P
            refine gWp_sts gT_165 1 (f' := (85, [some (.ref 0), some (.int x1), some (.int v2), none, none, none, none, none, none, none], [.ref 0, .int v8], μ7)) (cs := []) rfl trivial ?_
            refine gWp_virt gT_165 (pc := 85) (q := 0) (as := [.ref 0]) (rest := [.int v8]) rfl rfl rfl rfl rfl rfl ⟨by decide, Nat.le_of_ble_eq_true rfl, by decide, Nat.le_of_ble_eq_true rfl⟩ (gWp_imp h (fun μ9 r h => ?_))
            obtain ⟨v10, rfl, h⟩ := h
            refine Or.inl ⟨_, rfl, ?_⟩
            show gWp none 165 (88, [some (.ref 0), some (.int x1), some (.int v2), none, none, none, none, none, none, none], [.int v10, .int v8], μ9) _ P
            refine gWp_sts gT_165 2 (f' := (90, [some (.ref 0), some (.int x1), some (.int v2), none, none, none, none, none, none, none], [.int (v10 + (1 : Int32)), .int v8], μ9)) (cs := []) rfl trivial ?_
            refine gWp_icmp gT_165 (pc := 90) rfl ⟨fun c => ?_, fun c => ?_⟩
            · exact (h.1 (of_decide_eq_true c)).elim
            · replace h := h.2
              refine gWp_sts gT_165 2 (f' := (95, [some (.ref 0), some (.int x1), some (.int v2), none, none, none, none, none, none, none], [.ref 0, .int v2], μ9)) (cs := []) rfl trivial ?_
              refine gWp_virt gT_165 (pc := 95) (q := 0) (as := [.ref 0]) (rest := [.int v2]) rfl rfl rfl rfl rfl rfl ⟨by decide, Nat.le_of_ble_eq_true rfl, by decide, Nat.le_of_ble_eq_true rfl⟩ (gWp_imp h (fun μ11 r h => ?_))
              obtain ⟨v12, rfl, h⟩ := h
              refine Or.inl ⟨_, rfl, ?_⟩
              show gWp none 165 (98, [some (.ref 0), some (.int x1), some (.int v2), none, none, none, none, none, none, none], [.int v12, .int v2], μ11) _ P
              refine gWp_sts gT_165 2 (f' := (100, [some (.ref 0), some (.int x1), some (.int v2), none, none, none, none, none, none, none], [.int (v12 + (1 : Int32)), .int v2], μ11)) (cs := []) rfl trivial ?_
              refine gWp_icmp gT_165 (pc := 100) rfl ⟨fun c => ?_, fun c => ?_⟩
              · replace h := h.2
                refine gWp_sts gT_165 1 (f' := (106, [some (.ref 0), some (.int x1), some (.int v2), none, none, none, none, none, none, none], [.ref 0], μ11)) (cs := []) rfl trivial ?_
                refine gWp_virt gT_165 (pc := 106) (q := 0) (as := [.ref 0]) (rest := []) rfl rfl rfl rfl rfl rfl ⟨by decide, Nat.le_of_ble_eq_true rfl, by decide, Nat.le_of_ble_eq_true rfl⟩ (gWp_imp h (fun μ13 r h => ?_))
                obtain ⟨v14, rfl, h⟩ := h
                refine Or.inl ⟨_, rfl, ?_⟩
                show gWp none 165 (109, [some (.ref 0), some (.int x1), some (.int v2), none, none, none, none, none, none, none], [.int v14], μ13) _ P
                refine gWp_sts gT_165 1 (f' := (111, [some (.ref 0), some (.int x1), some (.int v2), none, none, none, none, none, none, none], [.int (9 : Int32), .int v14], μ13)) (cs := []) rfl trivial ?_
                refine gWp_icmp gT_165 (pc := 111) rfl ⟨fun c => ?_, fun c => ?_⟩
                · replace h := h.2
                  refine gWp_sts gT_165 4 (f' := (122, [some (.ref 0), some (.int x1), some (.int v2), some (.int (0 : Int32)), none, none, none, none, none, none], [.int (1 : Int32), .ref 0], μ13)) (cs := []) rfl trivial ?_
                  refine gWp_stat gT_165 (pc := 122) (c01 := 0) (as := [.ref 0, .int (1 : Int32)]) (rest := []) rfl (Or.inl rfl) rfl rfl rfl ⟨by decide, Nat.le_of_ble_eq_true rfl, by decide, Nat.le_of_ble_eq_true rfl⟩ (gWp_imp h (fun μ15 r h => ?_))
                  rcases h with h | h
                  · obtain ⟨v16, rfl, h⟩ := h
                    refine Or.inl ⟨_, rfl, ?_⟩
                    show gWp none 165 (125, [some (.ref 0), some (.int x1), some (.int v2), some (.int (0 : Int32)), none, none, none, none, none, none], [.long v16], μ15) _ P
                    refine gWp_sts gT_165 1 (f' := (126, [some (.ref 0), some (.int x1), some (.int v2), some (.int (0 : Int32)), none, none, none, none, none, none], [.int (0 : Int32), .long v16], μ15)) (cs := []) rfl trivial ?_
                    refine gWp_if gT_165 (pc := 126) rfl ⟨fun c => ?_, fun c => ?_⟩
                    · refine gWp_sts gT_165 2 (f' := (137, [some (.ref 0), some (.int x1), some (.int v2), some (.int (0 : Int32)), none, none, none, none, none, none], [.int (0 : Int32), .ref 0, .long v16], μ15)) (cs := []) rfl trivial ?_
                      refine gWp_stat gT_165 (pc := 137) (c01 := 0) (as := [.ref 0, .int (0 : Int32)]) (rest := [.long v16]) rfl (Or.inl rfl) rfl rfl rfl ⟨by decide, Nat.le_of_ble_eq_true rfl, by decide, Nat.le_of_ble_eq_true rfl⟩ (gWp_imp h (fun μ17 r h => ?_))
                      rcases h with h | h
                      · obtain ⟨v18, rfl, h⟩ := h
                        refine Or.inl ⟨_, rfl, ?_⟩
                        show gWp none 165 (140, [some (.ref 0), some (.int x1), some (.int v2), some (.int (0 : Int32)), none, none, none, none, none, none], [.long v18, .long v16], μ17) _ P
                        refine gWp_sts gT_165 1 (f' := (141, [some (.ref 0), some (.int x1), some (.int v2), some (.int (0 : Int32)), none, none, none, none, none, none], [.int (lg_cmp v16 v18)], μ17)) (cs := []) rfl trivial ?_
                        refine gWp_if gT_165 (pc := 141) rfl ⟨fun c => ?_, fun c => ?_⟩
                        · exact (h.1 (of_decide_eq_true c)).elim
                        · replace h := h.2
                          refine gWp_sts gT_165 2 (f' := (146, [some (.ref 0), some (.int x1), some (.int v2), some (.int (0 : Int32)), none, none, none, none, none, none], [.int (2 : Int32), .ref 0], μ17)) (cs := []) rfl trivial ?_
                          refine gWp_stat gT_165 (pc := 146) (c01 := 0) (as := [.ref 0, .int (2 : Int32)]) (rest := []) rfl (Or.inl rfl) rfl rfl rfl ⟨by decide, Nat.le_of_ble_eq_true rfl, by decide, Nat.le_of_ble_eq_true rfl⟩ (gWp_imp h (fun μ19 r h => ?_))
                          rcases h with h | h
                          · obtain ⟨v20, rfl, h⟩ := h
                            refine Or.inl ⟨_, rfl, ?_⟩
                            show gWp none 165 (149, [some (.ref 0), some (.int x1), some (.int v2), some (.int (0 : Int32)), none, none, none, none, none, none], [.int v20], μ19) _ P
                            refine gWp_sts gT_165 1 (f' := (150, [some (.ref 0), some (.int x1), some (.int v2), some (.int (0 : Int32)), none, none, none, none, none, none], [.int (0 : Int32), .int v20], μ19)) (cs := []) rfl trivial ?_
                            refine gWp_if gT_165 (pc := 150) rfl ⟨fun c => ?_, fun c => ?_⟩
                            · refine gWp_sts gT_165 1 (f' := (160, [some (.ref 0), some (.int x1), some (.int v2), some (.int (0 : Int32)), none, none, none, none, none, none], [.int v2, .int v20], μ19)) (cs := []) rfl trivial ?_
                              refine gWp_icmp gT_165 (pc := 160) rfl ⟨fun c => ?_, fun c => ?_⟩
                              · replace h := h.2
                                refine gWp_sts gT_165 4 (f' := (171, [some (.ref 0), some (.int x1), some (.int v2), some (.int (0 : Int32)), some (.int (0 : Int32)), none, none, none, none, none], [.int v2, .int (0 : Int32)], μ19)) (cs := []) rfl trivial ?_
                                refine gWp_icmp gT_165 (pc := 171) rfl ⟨fun c => ?_, fun c => ?_⟩
                                · replace h := h.2
                                  refine gWp_sts gT_165 2 (f' := (384, [some (.ref 0), some (.int x1), some (.int v2), some (.int (0 : Int32)), some (.int (0 : Int32)), none, none, none, none, none], [], μ19)) (cs := []) rfl trivial ?_
                                  exact h
                                · exact (h.1 (fun q => c (decide_eq_true q))).elim
                              · exact (h.1 (fun q => c (decide_eq_true q))).elim
                            · exact absurd c (by decide)
                          · obtain ⟨y, rfl, h⟩ := h
                            exact Or.inr (Or.inl ⟨y, rfl, rfl, h⟩)
                      · obtain ⟨y, rfl, h⟩ := h
                        exact Or.inr (Or.inl ⟨y, rfl, rfl, h⟩)
                    · exact absurd c (by decide)
                  · obtain ⟨y, rfl, h⟩ := h
                    exact Or.inr (Or.inl ⟨y, rfl, rfl, h⟩)
                · exact (h.1 (fun q => c (decide_eq_true q))).elim
              · exact (h.1 (fun q => c (decide_eq_true q))).elim
          · obtain ⟨y, rfl, h⟩ := h
            exact Or.inr (Or.inl ⟨y, rfl, rfl, h⟩)
    · exact (h.1 (fun q => c (decide_eq_true q))).elim
  · obtain ⟨y, rfl, h⟩ := h
    exact Or.inr (Or.inl ⟨y, rfl, rfl, h⟩)
/-! law -/
theorem gT_166 : gCode[166]? = some gC_166 := rfl
set_option maxRecDepth 20000 in
theorem vc_166_379 {SL : Nat} {xs : Nat → Int32} {cnt : Nat} {μ : gMu} {x2 : Int32} {x3 : Int32} {x4 : Int32} {x5 : Int32} {P : gMu → gRes → Prop} (hcnt : cnt + 1640 ≤ 7000) (h : gCl' 165 [.ref 0, .int x2] μ (fun μ1 r => (∃ v2, r = .inl (some (.int v2)) ∧ (((v2 = 0) → False) ∧ (gCl' 162 [.ref 0] μ1 (fun μ3 r => (∃ v4, r = .inl (some (.long v4)) ∧ (gCl' 2 [.ref 0] μ3 (fun μ5 r => (∃ v6, r = .inl (some (.int v6)) ∧ (gCl' 154 [.ref 0, .int (33 : Int32)] μ5 (fun μ7 r => (∃ v8, r = .inl (some (.int v8)) ∧ (((¬ v8 = (-1001 : Int32)) → False) ∧ (gCl' 154 [.ref 0, .int (93 : Int32)] μ7 (fun μ9 r => (∃ v10, r = .inl (some (.int v10)) ∧ (((¬ v10 = (-1001 : Int32)) → False) ∧ (gCl' 5 [.ref 0] μ9 (fun μ11 r => (∃ v12, r = .inl (some (.int v12)) ∧ (((v12 = 0) → False) ∧ (((v6 = (50 : Int32)) → False) ∧ (gCl' 156 [.ref 0, .int (91 : Int32), .int (4 : Int32)] μ11 (fun μ13 r => (∃ v14, r = .inl (some (.int v14)) ∧ (((¬ v14 = (-1001 : Int32)) → False) ∧ (gCl' 156 [.ref 0, .int (97 : Int32), .int (0 : Int32)] μ13 (fun μ15 r => (∃ v16, r = .inl (some (.int v16)) ∧ (((¬ v16 = (-1001 : Int32)) → False) ∧ (gCl' 156 [.ref 0, .int (97 : Int32), .int (21 : Int32)] μ15 (fun μ17 r => (∃ v18, r = .inl (some (.int v18)) ∧ (((¬ v18 = (-1001 : Int32)) → False) ∧ (gCl' 157 [.ref 0, .int (9 : Int32)] μ17 (fun μ19 r => (∃ v20, r = .inl (some (.int v20)) ∧ (((¬ v20 = (-1001 : Int32)) → False) ∧ (gCl' 157 [.ref 0, .int (201 : Int32)] μ19 (fun μ21 r => (∃ v22, r = .inl (some (.int v22)) ∧ (((¬ v22 = (-1001 : Int32)) → False) ∧ (gCl' 158 [.ref 0, .int (49 : Int32), .int (97 : Int32), .int (4 : Int32)] μ21 (fun μ23 r => (∃ v24, r = .inl (some (.int v24)) ∧ (((¬ v24 = (-1001 : Int32)) → False) ∧ (gCl' 158 [.ref 0, .int (97 : Int32), .int (49 : Int32), .int (4 : Int32)] μ23 (fun μ25 r => (∃ v26, r = .inl (some (.int v26)) ∧ (((¬ v26 = (-1001 : Int32)) → False) ∧ (gCl' 158 [.ref 0, .int (97 : Int32), .int (97 : Int32), .int (41 : Int32)] μ25 (fun μ27 r => (∃ v28, r = .inl (some (.int v28)) ∧ (((¬ v28 = (-1001 : Int32)) → False) ∧ (gCl' 158 [.ref 0, .int ((200 : Int32) + x3), .int (97 : Int32), .int (4 : Int32)] μ27 (fun μ29 r => (∃ v30, r = .inl (some (.int v30)) ∧ (((¬ v30 = (-1001 : Int32)) → False) ∧ (((v6 = 0) → False) ∧ (gCl' 159 [.ref 0, .int v6, .int (0 : Int32)] μ29 (fun μ31 r => (∃ v32, r = .inl (some (.int v32)) ∧ (((¬ v32 = (-1001 : Int32)) → False) ∧ (gCl' 159 [.ref 0, .int (-1 : Int32), .int (3 : Int32)] μ31 (fun μ33 r => (∃ v34, r = .inl (some (.int v34)) ∧ (((¬ v34 = (-1001 : Int32)) → False) ∧ (gCl' 153 [.ref 0, .int v6, .int (0 : Int32)] μ33 (fun μ35 r => (∃ v36, r = .inl (some (.int v36)) ∧ (((¬ v36 = (-1001 : Int32)) → False) ∧ (gCl' 162 [.ref 0] μ35 (fun μ37 r => (∃ v38, r = .inl (some (.long v38)) ∧ (((¬ (lg_cmp v38 v4) = 0) → (P μ37 (.inl (some (.int (0 : Int32)))))) ∧ (((lg_cmp v38 v4) = 0) → (P μ37 (.inl (some (.int (1 : Int32)))))))) ∨ (∃ y, r = .inr y ∧ P μ37 (.inr y)))))) ∨ (∃ y, r = .inr y ∧ P μ35 (.inr y)))))) ∨ (∃ y, r = .inr y ∧ P μ33 (.inr y)))))) ∨ (∃ y, r = .inr y ∧ P μ31 (.inr y))))))) ∨ (∃ y, r = .inr y ∧ P μ29 (.inr y)))))) ∨ (∃ y, r = .inr y ∧ P μ27 (.inr y)))))) ∨ (∃ y, r = .inr y ∧ P μ25 (.inr y)))))) ∨ (∃ y, r = .inr y ∧ P μ23 (.inr y)))))) ∨ (∃ y, r = .inr y ∧ P μ21 (.inr y)))))) ∨ (∃ y, r = .inr y ∧ P μ19 (.inr y)))))) ∨ (∃ y, r = .inr y ∧ P μ17 (.inr y)))))) ∨ (∃ y, r = .inr y ∧ P μ15 (.inr y)))))) ∨ (∃ y, r = .inr y ∧ P μ13 (.inr y))))))))))) ∨ (∃ y, r = .inr y ∧ P μ9 (.inr y)))))) ∨ (∃ y, r = .inr y ∧ P μ7 (.inr y)))))))) ∨ (∃ y, r = .inr y ∧ P μ3 (.inr y)))))) ∨ (∃ y, r = .inr y ∧ P μ1 (.inr y)))) : gWp (some (SL, xs)) 166 (379, [some (.ref 1000), some (.ref 0), some (.int x2), some (.int x3), some (.int x4), some (.int x5), none, none, none, none, none, none, none], [], μ) cnt P := by
  refine gWp_sts gT_166 2 (f' := (381, [some (.ref 1000), some (.ref 0), some (.int x2), some (.int x3), some (.int x4), some (.int x5), none, none, none, none, none, none, none], [.int x2, .ref 0], μ)) (cs := []) rfl trivial ?_
  refine gWp_stat gT_166 (pc := 381) (c01 := 0) (as := [.ref 0, .int x2]) (rest := []) rfl (Or.inl rfl) rfl rfl rfl ⟨by have := hcnt; show cnt + 780 ≤ 7000; omega, Nat.le_of_ble_eq_true rfl, by decide, Nat.le_of_ble_eq_true rfl⟩ (gWp_imp h (fun μ1 r h => ?_))
  rcases h with h | h
  · obtain ⟨v2, rfl, h⟩ := h
    refine Or.inl ⟨_, rfl, ?_⟩
    show gWp (some (SL, xs)) 166 (384, [some (.ref 1000), some (.ref 0), some (.int x2), some (.int x3), some (.int x4), some (.int x5), none, none, none, none, none, none, none], [.int v2], μ1) _ P
    refine gWp_if gT_166 (pc := 384) rfl ⟨fun c => ?_, fun c => ?_⟩
    · replace h := h.2
      refine gWp_sts gT_166 1 (f' := (390, [some (.ref 1000), some (.ref 0), some (.int x2), some (.int x3), some (.int x4), some (.int x5), none, none, none, none, none, none, none], [.ref 0], μ1)) (cs := []) rfl trivial ?_
      refine gWp_stat gT_166 (pc := 390) (c01 := 0) (as := [.ref 0]) (rest := []) rfl (Or.inl rfl) rfl rfl rfl ⟨by have := hcnt; show (cnt + 780) + 380 ≤ 7000; omega, Nat.le_of_ble_eq_true rfl, by decide, Nat.le_of_ble_eq_true rfl⟩ (gWp_imp h (fun μ3 r h => ?_))
      rcases h with h | h
      · obtain ⟨v4, rfl, h⟩ := h
        refine Or.inl ⟨_, rfl, ?_⟩
        show gWp (some (SL, xs)) 166 (393, [some (.ref 1000), some (.ref 0), some (.int x2), some (.int x3), some (.int x4), some (.int x5), none, none, none, none, none, none, none], [.long v4], μ3) _ P
        refine gWp_sts gT_166 2 (f' := (396, [some (.ref 1000), some (.ref 0), some (.int x2), some (.int x3), some (.int x4), some (.long v4), none, none, none, none, none, none, none], [.ref 0], μ3)) (cs := []) rfl trivial ?_
        refine gWp_virt gT_166 (pc := 396) (q := 0) (as := [.ref 0]) (rest := []) rfl rfl rfl rfl rfl rfl ⟨by have := hcnt; show ((cnt + 780) + 380) + 0 ≤ 7000; omega, Nat.le_of_ble_eq_true rfl, by decide, Nat.le_of_ble_eq_true rfl⟩ (gWp_imp h (fun μ5 r h => ?_))
        obtain ⟨v6, rfl, h⟩ := h
        refine Or.inl ⟨_, rfl, ?_⟩
        show gWp (some (SL, xs)) 166 (399, [some (.ref 1000), some (.ref 0), some (.int x2), some (.int x3), some (.int x4), some (.long v4), none, none, none, none, none, none, none], [.int v6], μ5) _ P
        refine gWp_sts gT_166 3 (f' := (404, [some (.ref 1000), some (.ref 0), some (.int x2), some (.int x3), some (.int x4), some (.long v4), none, some (.int v6), none, none, none, none, none], [.int (33 : Int32), .ref 0], μ5)) (cs := []) rfl trivial ?_
        refine gWp_stat gT_166 (pc := 404) (c01 := 0) (as := [.ref 0, .int (33 : Int32)]) (rest := []) rfl (Or.inl rfl) rfl rfl rfl ⟨by have := hcnt; show (((cnt + 780) + 380) + 0) + 1 ≤ 7000; omega, Nat.le_of_ble_eq_true rfl, by decide, Nat.le_of_ble_eq_true rfl⟩ (gWp_imp h (fun μ7 r h => ?_))
        rcases h with h | h
        · obtain ⟨v8, rfl, h⟩ := h
          refine Or.inl ⟨_, rfl, ?_⟩
          show gWp (some (SL, xs)) 166 (407, [some (.ref 1000), some (.ref 0), some (.int x2), some (.int x3), some (.int x4), some (.long v4), none, some (.int v6), none, none, none, none, none], [.int v8], μ7) _ P
          refine gWp_sts gT_166 1 (f' := (410, [some (.ref 1000), some (.ref 0), some (.int x2), some (.int x3), some (.int x4), some (.long v4), none, some (.int v6), none, none, none, none, none], [.int (-1001 : Int32), .int v8], μ7)) (cs := []) rfl trivial ?_
          refine gWp_icmp gT_166 (pc := 410) rfl ⟨fun c => ?_, fun c => ?_⟩
          · exact (h.1 (of_decide_eq_true c)).elim
          · replace h := h.2
            refine gWp_sts gT_166 2 (f' := (416, [some (.ref 1000), some (.ref 0), some (.int x2), some (.int x3), some (.int x4), some (.long v4), none, some (.int v6), none, none, none, none, none], [.int (93 : Int32), .ref 0], μ7)) (cs := []) rfl trivial ?_
            refine gWp_stat gT_166 (pc := 416) (c01 := 0) (as := [.ref 0, .int (93 : Int32)]) (rest := []) rfl (Or.inl rfl) rfl rfl rfl ⟨by have := hcnt; show ((((cnt + 780) + 380) + 0) + 1) + 1 ≤ 7000; omega, Nat.le_of_ble_eq_true rfl, by decide, Nat.le_of_ble_eq_true rfl⟩ (gWp_imp h (fun μ9 r h => ?_))
            rcases h with h | h
            · obtain ⟨v10, rfl, h⟩ := h
              refine Or.inl ⟨_, rfl, ?_⟩
              show gWp (some (SL, xs)) 166 (419, [some (.ref 1000), some (.ref 0), some (.int x2), some (.int x3), some (.int x4), some (.long v4), none, some (.int v6), none, none, none, none, none], [.int v10], μ9) _ P
              refine gWp_sts gT_166 1 (f' := (422, [some (.ref 1000), some (.ref 0), some (.int x2), some (.int x3), some (.int x4), some (.long v4), none, some (.int v6), none, none, none, none, none], [.int (-1001 : Int32), .int v10], μ9)) (cs := []) rfl trivial ?_
              refine gWp_icmp gT_166 (pc := 422) rfl ⟨fun c => ?_, fun c => ?_⟩
              · exact (h.1 (of_decide_eq_true c)).elim
              · replace h := h.2
                refine gWp_sts gT_166 1 (f' := (426, [some (.ref 1000), some (.ref 0), some (.int x2), some (.int x3), some (.int x4), some (.long v4), none, some (.int v6), none, none, none, none, none], [.ref 0], μ9)) (cs := []) rfl trivial ?_
                refine gWp_virt gT_166 (pc := 426) (q := 0) (as := [.ref 0]) (rest := []) rfl rfl rfl rfl rfl rfl ⟨by have := hcnt; show (((((cnt + 780) + 380) + 0) + 1) + 1) + 0 ≤ 7000; omega, Nat.le_of_ble_eq_true rfl, by decide, Nat.le_of_ble_eq_true rfl⟩ (gWp_imp h (fun μ11 r h => ?_))
                obtain ⟨v12, rfl, h⟩ := h
                refine Or.inl ⟨_, rfl, ?_⟩
                show gWp (some (SL, xs)) 166 (429, [some (.ref 1000), some (.ref 0), some (.int x2), some (.int x3), some (.int x4), some (.long v4), none, some (.int v6), none, none, none, none, none], [.int v12], μ11) _ P
                refine gWp_if gT_166 (pc := 429) rfl ⟨fun c => ?_, fun c => ?_⟩
                · replace h := h.2
                  refine gWp_sts gT_166 2 (f' := (448, [some (.ref 1000), some (.ref 0), some (.int x2), some (.int x3), some (.int x4), some (.long v4), none, some (.int v6), none, none, none, none, none], [.int (50 : Int32), .int v6], μ11)) (cs := []) rfl trivial ?_
                  refine gWp_icmp gT_166 (pc := 448) rfl ⟨fun c => ?_, fun c => ?_⟩
                  · replace h := h.2
                    refine gWp_sts gT_166 3 (f' := (467, [some (.ref 1000), some (.ref 0), some (.int x2), some (.int x3), some (.int x4), some (.long v4), none, some (.int v6), none, none, none, none, none], [.int (4 : Int32), .int (91 : Int32), .ref 0], μ11)) (cs := []) rfl trivial ?_
                    refine gWp_stat gT_166 (pc := 467) (c01 := 0) (as := [.ref 0, .int (91 : Int32), .int (4 : Int32)]) (rest := []) rfl (Or.inl rfl) rfl rfl rfl ⟨by have := hcnt; show ((((((cnt + 780) + 380) + 0) + 1) + 1) + 0) + 1 ≤ 7000; omega, Nat.le_of_ble_eq_true rfl, by decide, Nat.le_of_ble_eq_true rfl⟩ (gWp_imp h (fun μ13 r h => ?_))
                    rcases h with h | h
                    · obtain ⟨v14, rfl, h⟩ := h
                      refine Or.inl ⟨_, rfl, ?_⟩
                      show gWp (some (SL, xs)) 166 (470, [some (.ref 1000), some (.ref 0), some (.int x2), some (.int x3), some (.int x4), some (.long v4), none, some (.int v6), none, none, none, none, none], [.int v14], μ13) _ P
                      refine gWp_sts gT_166 1 (f' := (473, [some (.ref 1000), some (.ref 0), some (.int x2), some (.int x3), some (.int x4), some (.long v4), none, some (.int v6), none, none, none, none, none], [.int (-1001 : Int32), .int v14], μ13)) (cs := []) rfl trivial ?_
                      refine gWp_icmp gT_166 (pc := 473) rfl ⟨fun c => ?_, fun c => ?_⟩
                      · exact (h.1 (of_decide_eq_true c)).elim
                      · replace h := h.2
                        refine gWp_sts gT_166 3 (f' := (480, [some (.ref 1000), some (.ref 0), some (.int x2), some (.int x3), some (.int x4), some (.long v4), none, some (.int v6), none, none, none, none, none], [.int (0 : Int32), .int (97 : Int32), .ref 0], μ13)) (cs := []) rfl trivial ?_
                        refine gWp_stat gT_166 (pc := 480) (c01 := 0) (as := [.ref 0, .int (97 : Int32), .int (0 : Int32)]) (rest := []) rfl (Or.inl rfl) rfl rfl rfl ⟨by have := hcnt; show (((((((cnt + 780) + 380) + 0) + 1) + 1) + 0) + 1) + 1 ≤ 7000; omega, Nat.le_of_ble_eq_true rfl, by decide, Nat.le_of_ble_eq_true rfl⟩ (gWp_imp h (fun μ15 r h => ?_))
                        rcases h with h | h
                        · obtain ⟨v16, rfl, h⟩ := h
                          refine Or.inl ⟨_, rfl, ?_⟩
                          show gWp (some (SL, xs)) 166 (483, [some (.ref 1000), some (.ref 0), some (.int x2), some (.int x3), some (.int x4), some (.long v4), none, some (.int v6), none, none, none, none, none], [.int v16], μ15) _ P
                          refine gWp_sts gT_166 1 (f' := (486, [some (.ref 1000), some (.ref 0), some (.int x2), some (.int x3), some (.int x4), some (.long v4), none, some (.int v6), none, none, none, none, none], [.int (-1001 : Int32), .int v16], μ15)) (cs := []) rfl trivial ?_
                          refine gWp_icmp gT_166 (pc := 486) rfl ⟨fun c => ?_, fun c => ?_⟩
                          · exact (h.1 (of_decide_eq_true c)).elim
                          · replace h := h.2
                            refine gWp_sts gT_166 3 (f' := (494, [some (.ref 1000), some (.ref 0), some (.int x2), some (.int x3), some (.int x4), some (.long v4), none, some (.int v6), none, none, none, none, none], [.int (21 : Int32), .int (97 : Int32), .ref 0], μ15)) (cs := []) rfl trivial ?_
                            refine gWp_stat gT_166 (pc := 494) (c01 := 0) (as := [.ref 0, .int (97 : Int32), .int (21 : Int32)]) (rest := []) rfl (Or.inl rfl) rfl rfl rfl ⟨by have := hcnt; show ((((((((cnt + 780) + 380) + 0) + 1) + 1) + 0) + 1) + 1) + 1 ≤ 7000; omega, Nat.le_of_ble_eq_true rfl, by decide, Nat.le_of_ble_eq_true rfl⟩ (gWp_imp h (fun μ17 r h => ?_))
                            rcases h with h | h
                            · obtain ⟨v18, rfl, h⟩ := h
                              refine Or.inl ⟨_, rfl, ?_⟩
                              show gWp (some (SL, xs)) 166 (497, [some (.ref 1000), some (.ref 0), some (.int x2), some (.int x3), some (.int x4), some (.long v4), none, some (.int v6), none, none, none, none, none], [.int v18], μ17) _ P
                              refine gWp_sts gT_166 1 (f' := (500, [some (.ref 1000), some (.ref 0), some (.int x2), some (.int x3), some (.int x4), some (.long v4), none, some (.int v6), none, none, none, none, none], [.int (-1001 : Int32), .int v18], μ17)) (cs := []) rfl trivial ?_
                              refine gWp_icmp gT_166 (pc := 500) rfl ⟨fun c => ?_, fun c => ?_⟩
                              · exact (h.1 (of_decide_eq_true c)).elim
                              · replace h := h.2
                                refine gWp_sts gT_166 2 (f' := (506, [some (.ref 1000), some (.ref 0), some (.int x2), some (.int x3), some (.int x4), some (.long v4), none, some (.int v6), none, none, none, none, none], [.int (9 : Int32), .ref 0], μ17)) (cs := []) rfl trivial ?_
                                refine gWp_stat gT_166 (pc := 506) (c01 := 0) (as := [.ref 0, .int (9 : Int32)]) (rest := []) rfl (Or.inl rfl) rfl rfl rfl ⟨by have := hcnt; show (((((((((cnt + 780) + 380) + 0) + 1) + 1) + 0) + 1) + 1) + 1) + 1 ≤ 7000; omega, Nat.le_of_ble_eq_true rfl, by decide, Nat.le_of_ble_eq_true rfl⟩ (gWp_imp h (fun μ19 r h => ?_))
                                rcases h with h | h
                                · obtain ⟨v20, rfl, h⟩ := h
                                  refine Or.inl ⟨_, rfl, ?_⟩
                                  show gWp (some (SL, xs)) 166 (509, [some (.ref 1000), some (.ref 0), some (.int x2), some (.int x3), some (.int x4), some (.long v4), none, some (.int v6), none, none, none, none, none], [.int v20], μ19) _ P
                                  refine gWp_sts gT_166 1 (f' := (512, [some (.ref 1000), some (.ref 0), some (.int x2), some (.int x3), some (.int x4), some (.long v4), none, some (.int v6), none, none, none, none, none], [.int (-1001 : Int32), .int v20], μ19)) (cs := []) rfl trivial ?_
                                  refine gWp_icmp gT_166 (pc := 512) rfl ⟨fun c => ?_, fun c => ?_⟩
                                  · exact (h.1 (of_decide_eq_true c)).elim
                                  · replace h := h.2
                                    refine gWp_sts gT_166 2 (f' := (519, [some (.ref 1000), some (.ref 0), some (.int x2), some (.int x3), some (.int x4), some (.long v4), none, some (.int v6), none, none, none, none, none], [.int (201 : Int32), .ref 0], μ19)) (cs := []) rfl trivial ?_
                                    refine gWp_stat gT_166 (pc := 519) (c01 := 0) (as := [.ref 0, .int (201 : Int32)]) (rest := []) rfl (Or.inl rfl) rfl rfl rfl ⟨by have := hcnt; show ((((((((((cnt + 780) + 380) + 0) + 1) + 1) + 0) + 1) + 1) + 1) + 1) + 1 ≤ 7000; omega, Nat.le_of_ble_eq_true rfl, by decide, Nat.le_of_ble_eq_true rfl⟩ (gWp_imp h (fun μ21 r h => ?_))
                                    rcases h with h | h
                                    · obtain ⟨v22, rfl, h⟩ := h
                                      refine Or.inl ⟨_, rfl, ?_⟩
                                      show gWp (some (SL, xs)) 166 (522, [some (.ref 1000), some (.ref 0), some (.int x2), some (.int x3), some (.int x4), some (.long v4), none, some (.int v6), none, none, none, none, none], [.int v22], μ21) _ P
                                      refine gWp_sts gT_166 1 (f' := (525, [some (.ref 1000), some (.ref 0), some (.int x2), some (.int x3), some (.int x4), some (.long v4), none, some (.int v6), none, none, none, none, none], [.int (-1001 : Int32), .int v22], μ21)) (cs := []) rfl trivial ?_
                                      refine gWp_icmp gT_166 (pc := 525) rfl ⟨fun c => ?_, fun c => ?_⟩
                                      · exact (h.1 (of_decide_eq_true c)).elim
                                      · replace h := h.2
                                        refine gWp_sts gT_166 4 (f' := (534, [some (.ref 1000), some (.ref 0), some (.int x2), some (.int x3), some (.int x4), some (.long v4), none, some (.int v6), none, none, none, none, none], [.int (4 : Int32), .int (97 : Int32), .int (49 : Int32), .ref 0], μ21)) (cs := []) rfl trivial ?_
                                        refine gWp_stat gT_166 (pc := 534) (c01 := 0) (as := [.ref 0, .int (49 : Int32), .int (97 : Int32), .int (4 : Int32)]) (rest := []) rfl (Or.inl rfl) rfl rfl rfl ⟨by have := hcnt; show (((((((((((cnt + 780) + 380) + 0) + 1) + 1) + 0) + 1) + 1) + 1) + 1) + 1) + 1 ≤ 7000; omega, Nat.le_of_ble_eq_true rfl, by decide, Nat.le_of_ble_eq_true rfl⟩ (gWp_imp h (fun μ23 r h => ?_))
                                        rcases h with h | h
                                        · obtain ⟨v24, rfl, h⟩ := h
                                          refine Or.inl ⟨_, rfl, ?_⟩
                                          show gWp (some (SL, xs)) 166 (537, [some (.ref 1000), some (.ref 0), some (.int x2), some (.int x3), some (.int x4), some (.long v4), none, some (.int v6), none, none, none, none, none], [.int v24], μ23) _ P
                                          refine gWp_sts gT_166 1 (f' := (540, [some (.ref 1000), some (.ref 0), some (.int x2), some (.int x3), some (.int x4), some (.long v4), none, some (.int v6), none, none, none, none, none], [.int (-1001 : Int32), .int v24], μ23)) (cs := []) rfl trivial ?_
                                          refine gWp_icmp gT_166 (pc := 540) rfl ⟨fun c => ?_, fun c => ?_⟩
                                          · exact (h.1 (of_decide_eq_true c)).elim
                                          · replace h := h.2
                                            refine gWp_sts gT_166 4 (f' := (549, [some (.ref 1000), some (.ref 0), some (.int x2), some (.int x3), some (.int x4), some (.long v4), none, some (.int v6), none, none, none, none, none], [.int (4 : Int32), .int (49 : Int32), .int (97 : Int32), .ref 0], μ23)) (cs := []) rfl trivial ?_
                                            refine gWp_stat gT_166 (pc := 549) (c01 := 0) (as := [.ref 0, .int (97 : Int32), .int (49 : Int32), .int (4 : Int32)]) (rest := []) rfl (Or.inl rfl) rfl rfl rfl ⟨by have := hcnt; show ((((((((((((cnt + 780) + 380) + 0) + 1) + 1) + 0) + 1) + 1) + 1) + 1) + 1) + 1) + 1 ≤ 7000; omega, Nat.le_of_ble_eq_true rfl, by decide, Nat.le_of_ble_eq_true rfl⟩ (gWp_imp h (fun μ25 r h => ?_))
                                            rcases h with h | h
                                            · obtain ⟨v26, rfl, h⟩ := h
                                              refine Or.inl ⟨_, rfl, ?_⟩
                                              show gWp (some (SL, xs)) 166 (552, [some (.ref 1000), some (.ref 0), some (.int x2), some (.int x3), some (.int x4), some (.long v4), none, some (.int v6), none, none, none, none, none], [.int v26], μ25) _ P
                                              refine gWp_sts gT_166 1 (f' := (555, [some (.ref 1000), some (.ref 0), some (.int x2), some (.int x3), some (.int x4), some (.long v4), none, some (.int v6), none, none, none, none, none], [.int (-1001 : Int32), .int v26], μ25)) (cs := []) rfl trivial ?_
                                              refine gWp_icmp gT_166 (pc := 555) rfl ⟨fun c => ?_, fun c => ?_⟩
                                              · exact (h.1 (of_decide_eq_true c)).elim
                                              · replace h := h.2
                                                refine gWp_sts gT_166 4 (f' := (565, [some (.ref 1000), some (.ref 0), some (.int x2), some (.int x3), some (.int x4), some (.long v4), none, some (.int v6), none, none, none, none, none], [.int (41 : Int32), .int (97 : Int32), .int (97 : Int32), .ref 0], μ25)) (cs := []) rfl trivial ?_
                                                refine gWp_stat gT_166 (pc := 565) (c01 := 0) (as := [.ref 0, .int (97 : Int32), .int (97 : Int32), .int (41 : Int32)]) (rest := []) rfl (Or.inl rfl) rfl rfl rfl ⟨by have := hcnt; show (((((((((((((cnt + 780) + 380) + 0) + 1) + 1) + 0) + 1) + 1) + 1) + 1) + 1) + 1) + 1) + 1 ≤ 7000; omega, Nat.le_of_ble_eq_true rfl, by decide, Nat.le_of_ble_eq_true rfl⟩ (gWp_imp h (fun μ27 r h => ?_))
                                                rcases h with h | h
                                                · obtain ⟨v28, rfl, h⟩ := h
                                                  refine Or.inl ⟨_, rfl, ?_⟩
                                                  show gWp (some (SL, xs)) 166 (568, [some (.ref 1000), some (.ref 0), some (.int x2), some (.int x3), some (.int x4), some (.long v4), none, some (.int v6), none, none, none, none, none], [.int v28], μ27) _ P
                                                  refine gWp_sts gT_166 1 (f' := (571, [some (.ref 1000), some (.ref 0), some (.int x2), some (.int x3), some (.int x4), some (.long v4), none, some (.int v6), none, none, none, none, none], [.int (-1001 : Int32), .int v28], μ27)) (cs := []) rfl trivial ?_
                                                  refine gWp_icmp gT_166 (pc := 571) rfl ⟨fun c => ?_, fun c => ?_⟩
                                                  · exact (h.1 (of_decide_eq_true c)).elim
                                                  · replace h := h.2
                                                    refine gWp_sts gT_166 6 (f' := (583, [some (.ref 1000), some (.ref 0), some (.int x2), some (.int x3), some (.int x4), some (.long v4), none, some (.int v6), none, none, none, none, none], [.int (4 : Int32), .int (97 : Int32), .int ((200 : Int32) + x3), .ref 0], μ27)) (cs := []) rfl trivial ?_
                                                    refine gWp_stat gT_166 (pc := 583) (c01 := 0) (as := [.ref 0, .int ((200 : Int32) + x3), .int (97 : Int32), .int (4 : Int32)]) (rest := []) rfl (Or.inl rfl) rfl rfl rfl ⟨by have := hcnt; show ((((((((((((((cnt + 780) + 380) + 0) + 1) + 1) + 0) + 1) + 1) + 1) + 1) + 1) + 1) + 1) + 1) + 1 ≤ 7000; omega, Nat.le_of_ble_eq_true rfl, by decide, Nat.le_of_ble_eq_true rfl⟩ (gWp_imp h (fun μ29 r h => ?_))
                                                    rcases h with h | h
                                                    · obtain ⟨v30, rfl, h⟩ := h
                                                      refine Or.inl ⟨_, rfl, ?_⟩
                                                      show gWp (some (SL, xs)) 166 (586, [some (.ref 1000), some (.ref 0), some (.int x2), some (.int x3), some (.int x4), some (.long v4), none, some (.int v6), none, none, none, none, none], [.int v30], μ29) _ P
                                                      refine gWp_sts gT_166 1 (f' := (589, [some (.ref 1000), some (.ref 0), some (.int x2), some (.int x3), some (.int x4), some (.long v4), none, some (.int v6), none, none, none, none, none], [.int (-1001 : Int32), .int v30], μ29)) (cs := []) rfl trivial ?_
                                                      refine gWp_icmp gT_166 (pc := 589) rfl ⟨fun c => ?_, fun c => ?_⟩
                                                      · exact (h.1 (of_decide_eq_true c)).elim
                                                      · replace h := h.2
                                                        refine gWp_sts gT_166 1 (f' := (594, [some (.ref 1000), some (.ref 0), some (.int x2), some (.int x3), some (.int x4), some (.long v4), none, some (.int v6), none, none, none, none, none], [.int v6], μ29)) (cs := []) rfl trivial ?_
                                                        refine gWp_if gT_166 (pc := 594) rfl ⟨fun c => ?_, fun c => ?_⟩
                                                        · replace h := h.2
                                                          refine gWp_sts gT_166 3 (f' := (613, [some (.ref 1000), some (.ref 0), some (.int x2), some (.int x3), some (.int x4), some (.long v4), none, some (.int v6), none, none, none, none, none], [.int (0 : Int32), .int v6, .ref 0], μ29)) (cs := []) rfl trivial ?_
                                                          refine gWp_stat gT_166 (pc := 613) (c01 := 0) (as := [.ref 0, .int v6, .int (0 : Int32)]) (rest := []) rfl (Or.inl rfl) rfl rfl rfl ⟨by have := hcnt; show (((((((((((((((cnt + 780) + 380) + 0) + 1) + 1) + 0) + 1) + 1) + 1) + 1) + 1) + 1) + 1) + 1) + 1) + 2 ≤ 7000; omega, Nat.le_of_ble_eq_true rfl, by decide, Nat.le_of_ble_eq_true rfl⟩ (gWp_imp h (fun μ31 r h => ?_))
                                                          rcases h with h | h
                                                          · obtain ⟨v32, rfl, h⟩ := h
                                                            refine Or.inl ⟨_, rfl, ?_⟩
                                                            show gWp (some (SL, xs)) 166 (616, [some (.ref 1000), some (.ref 0), some (.int x2), some (.int x3), some (.int x4), some (.long v4), none, some (.int v6), none, none, none, none, none], [.int v32], μ31) _ P
                                                            refine gWp_sts gT_166 1 (f' := (619, [some (.ref 1000), some (.ref 0), some (.int x2), some (.int x3), some (.int x4), some (.long v4), none, some (.int v6), none, none, none, none, none], [.int (-1001 : Int32), .int v32], μ31)) (cs := []) rfl trivial ?_
                                                            refine gWp_icmp gT_166 (pc := 619) rfl ⟨fun c => ?_, fun c => ?_⟩
                                                            · exact (h.1 (of_decide_eq_true c)).elim
                                                            · replace h := h.2
                                                              refine gWp_sts gT_166 3 (f' := (625, [some (.ref 1000), some (.ref 0), some (.int x2), some (.int x3), some (.int x4), some (.long v4), none, some (.int v6), none, none, none, none, none], [.int (3 : Int32), .int (-1 : Int32), .ref 0], μ31)) (cs := []) rfl trivial ?_
                                                              refine gWp_stat gT_166 (pc := 625) (c01 := 0) (as := [.ref 0, .int (-1 : Int32), .int (3 : Int32)]) (rest := []) rfl (Or.inl rfl) rfl rfl rfl ⟨by have := hcnt; show ((((((((((((((((cnt + 780) + 380) + 0) + 1) + 1) + 0) + 1) + 1) + 1) + 1) + 1) + 1) + 1) + 1) + 1) + 2) + 2 ≤ 7000; omega, Nat.le_of_ble_eq_true rfl, by decide, Nat.le_of_ble_eq_true rfl⟩ (gWp_imp h (fun μ33 r h => ?_))
                                                              rcases h with h | h
                                                              · obtain ⟨v34, rfl, h⟩ := h
                                                                refine Or.inl ⟨_, rfl, ?_⟩
                                                                show gWp (some (SL, xs)) 166 (628, [some (.ref 1000), some (.ref 0), some (.int x2), some (.int x3), some (.int x4), some (.long v4), none, some (.int v6), none, none, none, none, none], [.int v34], μ33) _ P
                                                                refine gWp_sts gT_166 1 (f' := (631, [some (.ref 1000), some (.ref 0), some (.int x2), some (.int x3), some (.int x4), some (.long v4), none, some (.int v6), none, none, none, none, none], [.int (-1001 : Int32), .int v34], μ33)) (cs := []) rfl trivial ?_
                                                                refine gWp_icmp gT_166 (pc := 631) rfl ⟨fun c => ?_, fun c => ?_⟩
                                                                · exact (h.1 (of_decide_eq_true c)).elim
                                                                · replace h := h.2
                                                                  refine gWp_sts gT_166 3 (f' := (638, [some (.ref 1000), some (.ref 0), some (.int x2), some (.int x3), some (.int x4), some (.long v4), none, some (.int v6), none, none, none, none, none], [.int (0 : Int32), .int v6, .ref 0], μ33)) (cs := []) rfl trivial ?_
                                                                  refine gWp_stat gT_166 (pc := 638) (c01 := 0) (as := [.ref 0, .int v6, .int (0 : Int32)]) (rest := []) rfl (Or.inl rfl) rfl rfl rfl ⟨by have := hcnt; show (((((((((((((((((cnt + 780) + 380) + 0) + 1) + 1) + 0) + 1) + 1) + 1) + 1) + 1) + 1) + 1) + 1) + 1) + 2) + 2) + 5 ≤ 7000; omega, Nat.le_of_ble_eq_true rfl, by decide, Nat.le_of_ble_eq_true rfl⟩ (gWp_imp h (fun μ35 r h => ?_))
                                                                  rcases h with h | h
                                                                  · obtain ⟨v36, rfl, h⟩ := h
                                                                    refine Or.inl ⟨_, rfl, ?_⟩
                                                                    show gWp (some (SL, xs)) 166 (641, [some (.ref 1000), some (.ref 0), some (.int x2), some (.int x3), some (.int x4), some (.long v4), none, some (.int v6), none, none, none, none, none], [.int v36], μ35) _ P
                                                                    refine gWp_sts gT_166 1 (f' := (644, [some (.ref 1000), some (.ref 0), some (.int x2), some (.int x3), some (.int x4), some (.long v4), none, some (.int v6), none, none, none, none, none], [.int (-1001 : Int32), .int v36], μ35)) (cs := []) rfl trivial ?_
                                                                    refine gWp_icmp gT_166 (pc := 644) rfl ⟨fun c => ?_, fun c => ?_⟩
                                                                    · exact (h.1 (of_decide_eq_true c)).elim
                                                                    · replace h := h.2
                                                                      refine gWp_sts gT_166 1 (f' := (648, [some (.ref 1000), some (.ref 0), some (.int x2), some (.int x3), some (.int x4), some (.long v4), none, some (.int v6), none, none, none, none, none], [.ref 0], μ35)) (cs := []) rfl trivial ?_
                                                                      refine gWp_stat gT_166 (pc := 648) (c01 := 0) (as := [.ref 0]) (rest := []) rfl (Or.inl rfl) rfl rfl rfl ⟨by have := hcnt; show ((((((((((((((((((cnt + 780) + 380) + 0) + 1) + 1) + 0) + 1) + 1) + 1) + 1) + 1) + 1) + 1) + 1) + 1) + 2) + 2) + 5) + 380 ≤ 7000; omega, Nat.le_of_ble_eq_true rfl, by decide, Nat.le_of_ble_eq_true rfl⟩ (gWp_imp h (fun μ37 r h => ?_))
                                                                      rcases h with h | h
                                                                      · obtain ⟨v38, rfl, h⟩ := h
                                                                        refine Or.inl ⟨_, rfl, ?_⟩
                                                                        show gWp (some (SL, xs)) 166 (651, [some (.ref 1000), some (.ref 0), some (.int x2), some (.int x3), some (.int x4), some (.long v4), none, some (.int v6), none, none, none, none, none], [.long v38], μ37) _ P
                                                                        refine gWp_sts gT_166 2 (f' := (654, [some (.ref 1000), some (.ref 0), some (.int x2), some (.int x3), some (.int x4), some (.long v4), none, some (.int v6), none, none, none, none, none], [.int (lg_cmp v38 v4)], μ37)) (cs := []) rfl trivial ?_
                                                                        refine gWp_if gT_166 (pc := 654) rfl ⟨fun c => ?_, fun c => ?_⟩
                                                                        · replace h := h.1 (of_decide_eq_true c)
                                                                          refine gWp_sts gT_166 1 (f' := (662, [some (.ref 1000), some (.ref 0), some (.int x2), some (.int x3), some (.int x4), some (.long v4), none, some (.int v6), none, none, none, none, none], [.int (0 : Int32)], μ37)) (cs := []) rfl trivial ?_
                                                                          exact gWp_end gT_166 rfl (gEnd_int (show narrow .boolean (.int (0 : Int32)) = .int (0 : Int32) by decide)) h
                                                                        · replace h := h.2 (Classical.not_not.mp (fun q => c (decide_eq_true q)))
                                                                          refine gWp_sts gT_166 2 (f' := (662, [some (.ref 1000), some (.ref 0), some (.int x2), some (.int x3), some (.int x4), some (.long v4), none, some (.int v6), none, none, none, none, none], [.int (1 : Int32)], μ37)) (cs := []) rfl trivial ?_
                                                                          exact gWp_end gT_166 rfl (gEnd_int (show narrow .boolean (.int (1 : Int32)) = .int (1 : Int32) by decide)) h
                                                                      · obtain ⟨y, rfl, h⟩ := h
                                                                        exact Or.inr (Or.inl ⟨y, rfl, rfl, h⟩)
                                                                  · obtain ⟨y, rfl, h⟩ := h
                                                                    exact Or.inr (Or.inl ⟨y, rfl, rfl, h⟩)
                                                              · obtain ⟨y, rfl, h⟩ := h
                                                                exact Or.inr (Or.inl ⟨y, rfl, rfl, h⟩)
                                                          · obtain ⟨y, rfl, h⟩ := h
                                                            exact Or.inr (Or.inl ⟨y, rfl, rfl, h⟩)
                                                        · exact (h.1 (Classical.not_not.mp (fun q => c (decide_eq_true q)))).elim
                                                    · obtain ⟨y, rfl, h⟩ := h
                                                      exact Or.inr (Or.inl ⟨y, rfl, rfl, h⟩)
                                                · obtain ⟨y, rfl, h⟩ := h
                                                  exact Or.inr (Or.inl ⟨y, rfl, rfl, h⟩)
                                            · obtain ⟨y, rfl, h⟩ := h
                                              exact Or.inr (Or.inl ⟨y, rfl, rfl, h⟩)
                                        · obtain ⟨y, rfl, h⟩ := h
                                          exact Or.inr (Or.inl ⟨y, rfl, rfl, h⟩)
                                    · obtain ⟨y, rfl, h⟩ := h
                                      exact Or.inr (Or.inl ⟨y, rfl, rfl, h⟩)
                                · obtain ⟨y, rfl, h⟩ := h
                                  exact Or.inr (Or.inl ⟨y, rfl, rfl, h⟩)
                            · obtain ⟨y, rfl, h⟩ := h
                              exact Or.inr (Or.inl ⟨y, rfl, rfl, h⟩)
                        · obtain ⟨y, rfl, h⟩ := h
                          exact Or.inr (Or.inl ⟨y, rfl, rfl, h⟩)
                    · obtain ⟨y, rfl, h⟩ := h
                      exact Or.inr (Or.inl ⟨y, rfl, rfl, h⟩)
                  · exact (h.1 (Classical.not_not.mp (fun q => c (decide_eq_true q)))).elim
                · exact (h.1 (Classical.not_not.mp (fun q => c (decide_eq_true q)))).elim
            · obtain ⟨y, rfl, h⟩ := h
              exact Or.inr (Or.inl ⟨y, rfl, rfl, h⟩)
        · obtain ⟨y, rfl, h⟩ := h
          exact Or.inr (Or.inl ⟨y, rfl, rfl, h⟩)
      · obtain ⟨y, rfl, h⟩ := h
        exact Or.inr (Or.inl ⟨y, rfl, rfl, h⟩)
    · exact (h.1 (Classical.not_not.mp (fun q => c (decide_eq_true q)))).elim
  · obtain ⟨y, rfl, h⟩ := h
    exact Or.inr (Or.inl ⟨y, rfl, rfl, h⟩)
set_option maxRecDepth 20000 in
theorem vc_166_88 {SL : Nat} {xs : Nat → Int32} {cnt : Nat} {μ : gMu} {x2 : Int32} {x3 : Int32} {x4 : Int32} {x5 : Int32} {x6 : Int32} {x7 : Int32} {x8 : Int32} {x9 : Int64} {P : gMu → gRes → Prop} (hcnt : cnt + 781 ≤ 7000) (h : (¬ (24 : Int32) = 0) ∧ ((((x6 - x6 / (24 : Int32) * (24 : Int32)) = 0) → False) ∧ ((¬ (24 : Int32) = 0) ∧ ((((x6 - x6 / (24 : Int32) * (24 : Int32)) = (1 : Int32)) → False) ∧ ((¬ (24 : Int32) = 0) ∧ ((((x6 - x6 / (24 : Int32) * (24 : Int32)) = (2 : Int32)) → False) ∧ ((¬ (24 : Int32) = 0) ∧ ((((x6 - x6 / (24 : Int32) * (24 : Int32)) = (3 : Int32)) → False) ∧ ((¬ (24 : Int32) = 0) ∧ ((((x6 - x6 / (24 : Int32) * (24 : Int32)) = (4 : Int32)) → False) ∧ ((¬ (24 : Int32) = 0) ∧ ((vp_in (x7 - x7 / (24 : Int32) * (24 : Int32)) 24) ∧ (gCl' 154 [.ref 0, .int (gSg.getD (x7 - x7 / (24 : Int32) * (24 : Int32)).toNatClampNeg 0)] μ (fun μ1 r => (∃ v2, r = .inl (some (.int v2)) ∧ (((¬ (-1000 : Int32) ≤ v2) → False) ∧ ((¬ (17 : Int32) = 0) ∧ (((¬ (x5 - x5 / (17 : Int32) * (17 : Int32)) = (16 : Int32)) → (gWp (some (SL, xs)) 166 (28, [some (.ref 1000), some (.ref 0), some (.int x2), some (.int x3), some (.int x4), some (.int (x5 + (1 : Int32))), some (.int x6), some (.int x7), some (.int x8), some (.long x9), none, some (.int v2), some (.ref 1002)], [], μ1) (cnt + 1) P)) ∧ (((x5 - x5 / (17 : Int32) * (17 : Int32)) = (16 : Int32)) → (gCl' 165 [.ref 0, .int x2] μ1 (fun μ3 r => (∃ v4, r = .inl (some (.int v4)) ∧ (((v4 = 0) → False) ∧ (gWp (some (SL, xs)) 166 (28, [some (.ref 1000), some (.ref 0), some (.int x2), some (.int x3), some (.int x4), some (.int (x5 + (1 : Int32))), some (.int x6), some (.int x7), some (.int x8), some (.long x9), none, some (.int v2), some (.ref 1002)], [], μ3) ((cnt + 1) + 780) P))) ∨ (∃ y, r = .inr y ∧ P μ3 (.inr y))))))))) ∨ (∃ y, r = .inr y ∧ P μ1 (.inr y)))))))))))))))) : gWp (some (SL, xs)) 166 (88, [some (.ref 1000), some (.ref 0), some (.int x2), some (.int x3), some (.int x4), some (.int x5), some (.int x6), some (.int x7), some (.int x8), some (.long x9), none, none, none], [], μ) cnt P := by
  obtain ⟨c1, h⟩ := h
  refine gWp_sts gT_166 5 (f' := (96, [some (.ref 1000), some (.ref 0), some (.int x2), some (.int x3), some (.int x4), some (.int x5), some (.int x6), some (.int x7), some (.int x8), some (.long x9), none, some (.int (0 : Int32)), none], [.int (x6 - x6 / (24 : Int32) * (24 : Int32))], μ)) (cs := [¬ (24 : Int32) = 0]) rfl c1 ?_
  refine gWp_if gT_166 (pc := 96) rfl ⟨fun c => ?_, fun c => ?_⟩
  · replace h := h.2
    obtain ⟨c1, h⟩ := h
    refine gWp_sts gT_166 4 (f' := (114, [some (.ref 1000), some (.ref 0), some (.int x2), some (.int x3), some (.int x4), some (.int x5), some (.int x6), some (.int x7), some (.int x8), some (.long x9), none, some (.int (0 : Int32)), none], [.int (1 : Int32), .int (x6 - x6 / (24 : Int32) * (24 : Int32))], μ)) (cs := [¬ (24 : Int32) = 0]) rfl c1 ?_
    refine gWp_icmp gT_166 (pc := 114) rfl ⟨fun c => ?_, fun c => ?_⟩
    · replace h := h.2
      obtain ⟨c1, h⟩ := h
      refine gWp_sts gT_166 4 (f' := (152, [some (.ref 1000), some (.ref 0), some (.int x2), some (.int x3), some (.int x4), some (.int x5), some (.int x6), some (.int x7), some (.int x8), some (.long x9), none, some (.int (0 : Int32)), none], [.int (2 : Int32), .int (x6 - x6 / (24 : Int32) * (24 : Int32))], μ)) (cs := [¬ (24 : Int32) = 0]) rfl c1 ?_
      refine gWp_icmp gT_166 (pc := 152) rfl ⟨fun c => ?_, fun c => ?_⟩
      · replace h := h.2
        obtain ⟨c1, h⟩ := h
        refine gWp_sts gT_166 4 (f' := (188, [some (.ref 1000), some (.ref 0), some (.int x2), some (.int x3), some (.int x4), some (.int x5), some (.int x6), some (.int x7), some (.int x8), some (.long x9), none, some (.int (0 : Int32)), none], [.int (3 : Int32), .int (x6 - x6 / (24 : Int32) * (24 : Int32))], μ)) (cs := [¬ (24 : Int32) = 0]) rfl c1 ?_
        refine gWp_icmp gT_166 (pc := 188) rfl ⟨fun c => ?_, fun c => ?_⟩
        · replace h := h.2
          obtain ⟨c1, h⟩ := h
          refine gWp_sts gT_166 4 (f' := (229, [some (.ref 1000), some (.ref 0), some (.int x2), some (.int x3), some (.int x4), some (.int x5), some (.int x6), some (.int x7), some (.int x8), some (.long x9), none, some (.int (0 : Int32)), none], [.int (4 : Int32), .int (x6 - x6 / (24 : Int32) * (24 : Int32))], μ)) (cs := [¬ (24 : Int32) = 0]) rfl c1 ?_
          refine gWp_icmp gT_166 (pc := 229) rfl ⟨fun c => ?_, fun c => ?_⟩
          · replace h := h.2
            obtain ⟨c1, c2, h⟩ := h
            refine gWp_sts gT_166 9 (f' := (325, [some (.ref 1000), some (.ref 0), some (.int x2), some (.int x3), some (.int x4), some (.int x5), some (.int x6), some (.int x7), some (.int x8), some (.long x9), none, some (.int (0 : Int32)), some (.ref 1002)], [.int (gSg.getD (x7 - x7 / (24 : Int32) * (24 : Int32)).toNatClampNeg 0), .ref 0], μ)) (cs := [(([.int x7, .ref 1002, .ref 0] : List Value).map fun v => v.category).sum ≤ 8, ¬ (24 : Int32) = 0, (([.ref 0] : List Value).map fun v => v.category).sum ≤ 8, vp_in (x7 - x7 / (24 : Int32) * (24 : Int32)) 24]) rfl ⟨(Nat.le_of_ble_eq_true rfl), c1, (Nat.le_of_ble_eq_true rfl), c2⟩ ?_
            refine gWp_stat gT_166 (pc := 325) (c01 := 0) (as := [.ref 0, .int (gSg.getD (x7 - x7 / (24 : Int32) * (24 : Int32)).toNatClampNeg 0)]) (rest := []) rfl (Or.inl rfl) rfl rfl rfl ⟨by have := hcnt; show cnt + 1 ≤ 7000; omega, Nat.le_of_ble_eq_true rfl, by decide, Nat.le_of_ble_eq_true rfl⟩ (gWp_imp h (fun μ1 r h => ?_))
            rcases h with h | h
            · obtain ⟨v2, rfl, h⟩ := h
              refine Or.inl ⟨_, rfl, ?_⟩
              show gWp (some (SL, xs)) 166 (328, [some (.ref 1000), some (.ref 0), some (.int x2), some (.int x3), some (.int x4), some (.int x5), some (.int x6), some (.int x7), some (.int x8), some (.long x9), none, some (.int (0 : Int32)), some (.ref 1002)], [.int v2], μ1) _ P
              refine gWp_sts gT_166 3 (f' := (335, [some (.ref 1000), some (.ref 0), some (.int x2), some (.int x3), some (.int x4), some (.int x5), some (.int x6), some (.int x7), some (.int x8), some (.long x9), none, some (.int v2), some (.ref 1002)], [.int (-1000 : Int32), .int v2], μ1)) (cs := []) rfl trivial ?_
              refine gWp_icmp gT_166 (pc := 335) rfl ⟨fun c => ?_, fun c => ?_⟩
              · replace h := h.2
                obtain ⟨c1, h⟩ := h
                refine gWp_sts gT_166 4 (f' := (360, [some (.ref 1000), some (.ref 0), some (.int x2), some (.int x3), some (.int x4), some (.int x5), some (.int x6), some (.int x7), some (.int x8), some (.long x9), none, some (.int v2), some (.ref 1002)], [.int (16 : Int32), .int (x5 - x5 / (17 : Int32) * (17 : Int32))], μ1)) (cs := [¬ (17 : Int32) = 0]) rfl c1 ?_
                refine gWp_icmp gT_166 (pc := 360) rfl ⟨fun c => ?_, fun c => ?_⟩
                · replace h := h.1 (of_decide_eq_true c)
                  refine gWp_sts gT_166 2 (f' := (28, [some (.ref 1000), some (.ref 0), some (.int x2), some (.int x3), some (.int x4), some (.int (x5 + (1 : Int32))), some (.int x6), some (.int x7), some (.int x8), some (.long x9), none, some (.int v2), some (.ref 1002)], [], μ1)) (cs := []) rfl trivial ?_
                  exact h
                · replace h := h.2 (Classical.not_not.mp (fun q => c (decide_eq_true q)))
                  refine gWp_sts gT_166 2 (f' := (365, [some (.ref 1000), some (.ref 0), some (.int x2), some (.int x3), some (.int x4), some (.int x5), some (.int x6), some (.int x7), some (.int x8), some (.long x9), none, some (.int v2), some (.ref 1002)], [.int x2, .ref 0], μ1)) (cs := []) rfl trivial ?_
                  refine gWp_stat gT_166 (pc := 365) (c01 := 0) (as := [.ref 0, .int x2]) (rest := []) rfl (Or.inl rfl) rfl rfl rfl ⟨by have := hcnt; show (cnt + 1) + 780 ≤ 7000; omega, Nat.le_of_ble_eq_true rfl, by decide, Nat.le_of_ble_eq_true rfl⟩ (gWp_imp h (fun μ3 r h => ?_))
                  rcases h with h | h
                  · obtain ⟨v4, rfl, h⟩ := h
                    refine Or.inl ⟨_, rfl, ?_⟩
                    show gWp (some (SL, xs)) 166 (368, [some (.ref 1000), some (.ref 0), some (.int x2), some (.int x3), some (.int x4), some (.int x5), some (.int x6), some (.int x7), some (.int x8), some (.long x9), none, some (.int v2), some (.ref 1002)], [.int v4], μ3) _ P
                    refine gWp_if gT_166 (pc := 368) rfl ⟨fun c => ?_, fun c => ?_⟩
                    · replace h := h.2
                      refine gWp_sts gT_166 2 (f' := (28, [some (.ref 1000), some (.ref 0), some (.int x2), some (.int x3), some (.int x4), some (.int (x5 + (1 : Int32))), some (.int x6), some (.int x7), some (.int x8), some (.long x9), none, some (.int v2), some (.ref 1002)], [], μ3)) (cs := []) rfl trivial ?_
                      exact h
                    · exact (h.1 (Classical.not_not.mp (fun q => c (decide_eq_true q)))).elim
                  · obtain ⟨y, rfl, h⟩ := h
                    exact Or.inr (Or.inl ⟨y, rfl, rfl, h⟩)
              · exact (h.1 (fun q => c (decide_eq_true q))).elim
            · obtain ⟨y, rfl, h⟩ := h
              exact Or.inr (Or.inl ⟨y, rfl, rfl, h⟩)
          · exact (h.1 (Classical.not_not.mp (fun q => c (decide_eq_true q)))).elim
        · exact (h.1 (Classical.not_not.mp (fun q => c (decide_eq_true q)))).elim
      · exact (h.1 (Classical.not_not.mp (fun q => c (decide_eq_true q)))).elim
    · exact (h.1 (Classical.not_not.mp (fun q => c (decide_eq_true q)))).elim
  · exact (h.1 (Classical.not_not.mp (fun q => c (decide_eq_true q)))).elim
set_option maxRecDepth 20000 in
theorem vc_166_28 {SL : Nat} {xs : Nat → Int32} {cnt : Nat} {μ : gMu} {x2 : Int32} {x3 : Int32} {x4 : Int32} {x5 : Int32} {P : gMu → gRes → Prop} (hcnt : cnt + 380 ≤ 7000) (h : ((x4 ≤ x5) → (gWp (some (SL, xs)) 166 (379, [some (.ref 1000), some (.ref 0), some (.int x2), some (.int x3), some (.int x4), some (.int x5), none, none, none, none, none, none, none], [], μ) cnt P)) ∧ ((¬ x4 ≤ x5) → ((0 ≤ ((1 : Int32) + x5)) ∧ (gCl' 152 [.int (if ((1 : Int32) + x5) < Int32.ofNat SL then xs ((1 : Int32) + x5).toNatClampNeg else 0), .int (100000000 : Int32)] μ (fun μ1 r => (∃ v2, r = .inl (some (.int v2)) ∧ ((¬ (24 : Int32) = 0) ∧ ((¬ (6 : Int32) = 0) ∧ (((¬ (x5 - x5 / (6 : Int32) * (6 : Int32)) = (5 : Int32)) → (gWp (some (SL, xs)) 166 (88, [some (.ref 1000), some (.ref 0), some (.int x2), some (.int x3), some (.int x4), some (.int x5), some (.int v2), some (.int (v2 / (24 : Int32))), some (.int (0 : Int32)), some (.long (0 : Int64)), none, none, none], [], μ1) cnt P)) ∧ (((x5 - x5 / (6 : Int32) * (6 : Int32)) = (5 : Int32)) → (gCl' 162 [.ref 0] μ1 (fun μ3 r => (∃ v4, r = .inl (some (.long v4)) ∧ (gWp (some (SL, xs)) 166 (88, [some (.ref 1000), some (.ref 0), some (.int x2), some (.int x3), some (.int x4), some (.int x5), some (.int v2), some (.int (v2 / (24 : Int32))), some (.int (1 : Int32)), some (.long v4), none, none, none], [], μ3) (cnt + 380) P)) ∨ (∃ y, r = .inr y ∧ P μ3 (.inr y)))))))))))))) : gWp (some (SL, xs)) 166 (28, [some (.ref 1000), some (.ref 0), some (.int x2), some (.int x3), some (.int x4), some (.int x5), none, none, none, none, none, none, none], [], μ) cnt P := by
  refine gWp_sts gT_166 2 (f' := (32, [some (.ref 1000), some (.ref 0), some (.int x2), some (.int x3), some (.int x4), some (.int x5), none, none, none, none, none, none, none], [.int x4, .int x5], μ)) (cs := []) rfl trivial ?_
  refine gWp_icmp gT_166 (pc := 32) rfl ⟨fun c => ?_, fun c => ?_⟩
  · replace h := h.1 (of_decide_eq_true c)
    exact h
  · replace h := h.2 (fun q => c (decide_eq_true q))
    obtain ⟨c1, h⟩ := h
    refine gWp_sts gT_166 6 (f' := (45, [some (.ref 1000), some (.ref 0), some (.int x2), some (.int x3), some (.int x4), some (.int x5), none, none, none, none, none, none, none], [.int (100000000 : Int32), .int (if ((1 : Int32) + x5) < Int32.ofNat SL then xs ((1 : Int32) + x5).toNatClampNeg else 0)], μ)) (cs := [(([] : List Value).map fun v => v.category).sum ≤ 8, 0 ≤ ((1 : Int32) + x5)]) rfl ⟨(Nat.le_of_ble_eq_true rfl), c1⟩ ?_
    refine gWp_stat gT_166 (pc := 45) (c01 := 0) (as := [.int (if ((1 : Int32) + x5) < Int32.ofNat SL then xs ((1 : Int32) + x5).toNatClampNeg else 0), .int (100000000 : Int32)]) (rest := []) rfl (Or.inl rfl) rfl rfl rfl ⟨by have := hcnt; show cnt + 0 ≤ 7000; omega, Nat.le_of_ble_eq_true rfl, by decide, Nat.le_of_ble_eq_true rfl⟩ (gWp_imp h (fun μ1 r h => ?_))
    obtain ⟨v2, rfl, h⟩ := h
    refine Or.inl ⟨_, rfl, ?_⟩
    show gWp (some (SL, xs)) 166 (48, [some (.ref 1000), some (.ref 0), some (.int x2), some (.int x3), some (.int x4), some (.int x5), none, none, none, none, none, none, none], [.int v2], μ1) _ P
    obtain ⟨c1, c2, h⟩ := h
    refine gWp_sts gT_166 9 (f' := (63, [some (.ref 1000), some (.ref 0), some (.int x2), some (.int x3), some (.int x4), some (.int x5), some (.int v2), some (.int (v2 / (24 : Int32))), none, none, none, none, none], [.int (5 : Int32), .int (x5 - x5 / (6 : Int32) * (6 : Int32))], μ1)) (cs := [¬ (24 : Int32) = 0, ¬ (6 : Int32) = 0]) rfl ⟨c1, c2⟩ ?_
    refine gWp_icmp gT_166 (pc := 63) rfl ⟨fun c => ?_, fun c => ?_⟩
    · replace h := h.1 (of_decide_eq_true c)
      refine gWp_sts gT_166 3 (f' := (75, [some (.ref 1000), some (.ref 0), some (.int x2), some (.int x3), some (.int x4), some (.int x5), some (.int v2), some (.int (v2 / (24 : Int32))), some (.int (0 : Int32)), none, none, none, none], [.int (0 : Int32)], μ1)) (cs := []) rfl trivial ?_
      refine gWp_if gT_166 (pc := 75) rfl ⟨fun c => ?_, fun c => ?_⟩
      · refine gWp_sts gT_166 2 (f' := (88, [some (.ref 1000), some (.ref 0), some (.int x2), some (.int x3), some (.int x4), some (.int x5), some (.int v2), some (.int (v2 / (24 : Int32))), some (.int (0 : Int32)), some (.long (0 : Int64)), none, none, none], [], μ1)) (cs := []) rfl trivial ?_
        exact h
      · exact absurd c (by decide)
    · replace h := h.2 (Classical.not_not.mp (fun q => c (decide_eq_true q)))
      refine gWp_sts gT_166 4 (f' := (75, [some (.ref 1000), some (.ref 0), some (.int x2), some (.int x3), some (.int x4), some (.int x5), some (.int v2), some (.int (v2 / (24 : Int32))), some (.int (1 : Int32)), none, none, none, none], [.int (1 : Int32)], μ1)) (cs := []) rfl trivial ?_
      refine gWp_if gT_166 (pc := 75) rfl ⟨fun c => ?_, fun c => ?_⟩
      · exact absurd c (by decide)
      · refine gWp_sts gT_166 1 (f' := (79, [some (.ref 1000), some (.ref 0), some (.int x2), some (.int x3), some (.int x4), some (.int x5), some (.int v2), some (.int (v2 / (24 : Int32))), some (.int (1 : Int32)), none, none, none, none], [.ref 0], μ1)) (cs := []) rfl trivial ?_
        refine gWp_stat gT_166 (pc := 79) (c01 := 0) (as := [.ref 0]) (rest := []) rfl (Or.inl rfl) rfl rfl rfl ⟨by have := hcnt; show cnt + 380 ≤ 7000; omega, Nat.le_of_ble_eq_true rfl, by decide, Nat.le_of_ble_eq_true rfl⟩ (gWp_imp h (fun μ3 r h => ?_))
        rcases h with h | h
        · obtain ⟨v4, rfl, h⟩ := h
          refine Or.inl ⟨_, rfl, ?_⟩
          show gWp (some (SL, xs)) 166 (82, [some (.ref 1000), some (.ref 0), some (.int x2), some (.int x3), some (.int x4), some (.int x5), some (.int v2), some (.int (v2 / (24 : Int32))), some (.int (1 : Int32)), none, none, none, none], [.long v4], μ3) _ P
          refine gWp_sts gT_166 2 (f' := (88, [some (.ref 1000), some (.ref 0), some (.int x2), some (.int x3), some (.int x4), some (.int x5), some (.int v2), some (.int (v2 / (24 : Int32))), some (.int (1 : Int32)), some (.long v4), none, none, none], [], μ3)) (cs := []) rfl trivial ?_
          exact h
        · obtain ⟨y, rfl, h⟩ := h
          exact Or.inr (Or.inl ⟨y, rfl, rfl, h⟩)
set_option maxRecDepth 20000 in
theorem vc_166_8 {SL : Nat} {xs : Nat → Int32} {μ : gMu} {P : gMu → gRes → Prop} (h : (0 ≤ (0 : Int32)) ∧ (gCl' 152 [.int (if (0 : Int32) < Int32.ofNat SL then xs (0 : Int32).toNatClampNeg else 0), .int (52 : Int32)] μ (fun μ1 r => (∃ v2, r = .inl (some (.int v2)) ∧ (gWp (some (SL, xs)) 166 (28, [some (.ref 1000), some (.ref 0), some (.int (60 : Int32)), some (.int (0 : Int32)), some (.int v2), some (.int (0 : Int32)), none, none, none, none, none, none, none], [], μ1) 0 P))))) : gWp (some (SL, xs)) 166 (8, [some (.ref 1000), some (.ref 0), none, none, none, none, none, none, none, none, none, none, none], [], μ) 0 P := by
  obtain ⟨c1, h⟩ := h
  refine gWp_sts gT_166 8 (f' := (20, [some (.ref 1000), some (.ref 0), some (.int (60 : Int32)), some (.int (0 : Int32)), none, none, none, none, none, none, none, none, none], [.int (52 : Int32), .int (if (0 : Int32) < Int32.ofNat SL then xs (0 : Int32).toNatClampNeg else 0)], μ)) (cs := [(([] : List Value).map fun v => v.category).sum ≤ 8, 0 ≤ (0 : Int32)]) rfl ⟨(Nat.le_of_ble_eq_true rfl), c1⟩ ?_
  refine gWp_stat gT_166 (pc := 20) (c01 := 0) (as := [.int (if (0 : Int32) < Int32.ofNat SL then xs (0 : Int32).toNatClampNeg else 0), .int (52 : Int32)]) (rest := []) rfl (Or.inl rfl) rfl rfl rfl ⟨by decide, Nat.le_of_ble_eq_true rfl, by decide, Nat.le_of_ble_eq_true rfl⟩ (gWp_imp h (fun μ1 r h => ?_))
  obtain ⟨v2, rfl, h⟩ := h
  refine Or.inl ⟨_, rfl, ?_⟩
  show gWp (some (SL, xs)) 166 (23, [some (.ref 1000), some (.ref 0), some (.int (60 : Int32)), some (.int (0 : Int32)), none, none, none, none, none, none, none, none, none], [.int v2], μ1) _ P
  refine gWp_sts gT_166 3 (f' := (28, [some (.ref 1000), some (.ref 0), some (.int (60 : Int32)), some (.int (0 : Int32)), some (.int v2), some (.int (0 : Int32)), none, none, none, none, none, none, none], [], μ1)) (cs := []) rfl trivial ?_
  exact h
