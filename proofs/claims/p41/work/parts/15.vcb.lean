/-! WHAT EACH METHOD OWES (methods 60 to 119), from its entry and from each head of a loop; written by wip/p41/vcgen.py -/
/-! Glyphmill$Sequence.take -/
theorem gT_60 : gCode[60]? = some gC_60 := rfl
set_option maxRecDepth 20000 in
theorem vc_60 {μ : gMu} {x1 : Int32} {x2 : Int32} {x3 : Int32} {P : gMu → gRes → Prop} (h : (vp_in x1 50) ∧ ((vp_in (gI μ 9 5) 50) ∧ ((vp_in (gI μ 9 5) 50) ∧ ((vp_in (gI μ 9 5) 50) ∧ (P (gsI (gsI (gsI (gsI (gsI μ 10 x1.toNatClampNeg (gI μ 9 5)) 11 ((gI μ 9 5).toNatClampNeg) x1) 12 ((gI μ 9 5).toNatClampNeg) (vp_nar .char x2)) 13 ((gI μ 9 5).toNatClampNeg) x3) 9 5 ((gI μ 9 5) + (1 : Int32))) (.inl none)))))) : gWp none 60 (0, [some (.ref 9), some (.int x1), some (.int x2), some (.int x3)], [], μ) 0 P := by
  obtain ⟨c1, c2, c3, c4, h⟩ := h
  refine gWp_sts gT_60 30 (f' := (50, [some (.ref 9), some (.int x1), some (.int x2), some (.int x3)], [], (gsI (gsI (gsI (gsI (gsI μ 10 x1.toNatClampNeg (gI μ 9 5)) 11 ((gI μ 9 5).toNatClampNeg) x1) 12 ((gI μ 9 5).toNatClampNeg) (vp_nar .char x2)) 13 ((gI μ 9 5).toNatClampNeg) x3) 9 5 ((gI μ 9 5) + (1 : Int32))))) (cs := [vp_in x1 50, vp_in (gI μ 9 5) 50, vp_in (gI μ 9 5) 50, vp_in (gI μ 9 5) 50, (Value.ref 9 : Value).category = 1]) rfl ⟨c1, c2, c3, c4, rfl⟩ ?_
  exact gWp_end gT_60 rfl rfl h
/-! Glyphmill$Sequence.read -/
theorem gT_61 : gCode[61]? = some gC_61 := rfl
set_option maxRecDepth 20000 in
theorem vc_61_17 {μ : gMu} {x2 : Int32} {x3 : Int32} {x4 : Int32} {P : gMu → gRes → Prop} (h : (((gI μ 2 1) ≤ x4) → (P μ (.inl none))) ∧ ((¬ (gI μ 2 1) ≤ x4) → ((vp_in x4 50) ∧ ((vp_in x4 50) ∧ (gCl' 3 [.int (gI μ 3 x4.toNatClampNeg)] (gsI μ 10 x4.toNatClampNeg (-1 : Int32)) (fun μ1 r => (∃ v2, r = .inl (some (.int v2)) ∧ (((¬ v2 = 0) → (((¬ (gI μ 3 x4.toNatClampNeg) = (125 : Int32)) → ((((5 : Int32) ≤ x3) → (gWp none 61 (17, [some (.ref 9), some (.ref 2), some (.int x2), some (.int x3), some (.int (x4 + (1 : Int32))), some (.int (gI μ 3 x4.toNatClampNeg))], [], μ1) 0 P)) ∧ ((¬ (5 : Int32) ≤ x3) → ((vp_in x3 6) ∧ (((¬ (gI μ 3 x4.toNatClampNeg) = (123 : Int32)) → (gCl' 59 [.int (gI μ1 14 x3.toNatClampNeg), .int (0 : Int32)] μ1 (fun μ3 r => (∃ v4, r = .inl (some (.int v4)) ∧ ((vp_in (x3 + (1 : Int32)) 6) ∧ (gWp none 61 (17, [some (.ref 9), some (.ref 2), some (.int x2), some (.int (x3 + (1 : Int32))), some (.int (x4 + (1 : Int32))), some (.int (gI μ 3 x4.toNatClampNeg))], [], (gsI μ3 14 ((x3 + (1 : Int32)).toNatClampNeg) v4)) 0 P)))))) ∧ (((gI μ 3 x4.toNatClampNeg) = (123 : Int32)) → (gCl' 59 [.int (gI μ1 14 x3.toNatClampNeg), .int (1 : Int32)] μ1 (fun μ5 r => (∃ v6, r = .inl (some (.int v6)) ∧ ((vp_in (x3 + (1 : Int32)) 6) ∧ (gWp none 61 (17, [some (.ref 9), some (.ref 2), some (.int x2), some (.int (x3 + (1 : Int32))), some (.int (x4 + (1 : Int32))), some (.int (gI μ 3 x4.toNatClampNeg))], [], (gsI μ5 14 ((x3 + (1 : Int32)).toNatClampNeg) v6)) 0 P))))))))))) ∧ (((gI μ 3 x4.toNatClampNeg) = (125 : Int32)) → (((x3 ≤ 0) → (gWp none 61 (17, [some (.ref 9), some (.ref 2), some (.int x2), some (.int (0 : Int32)), some (.int (x4 + (1 : Int32))), some (.int (gI μ 3 x4.toNatClampNeg))], [], μ1) 0 P)) ∧ ((¬ x3 ≤ 0) → (gWp none 61 (17, [some (.ref 9), some (.ref 2), some (.int x2), some (.int (x3 - (1 : Int32))), some (.int (x4 + (1 : Int32))), some (.int (gI μ 3 x4.toNatClampNeg))], [], μ1) 0 P)))))) ∧ ((v2 = 0) → ((vp_in x3 6) ∧ (gCl' 60 [.ref 9, .int x4, .int (gI μ 3 x4.toNatClampNeg), .int (gI μ1 14 x3.toNatClampNeg)] μ1 (fun μ7 r => (r = .inl none ∧ (gWp none 61 (17, [some (.ref 9), some (.ref 2), some (.int x2), some (.int x3), some (.int (x4 + (1 : Int32))), some (.int (gI μ 3 x4.toNatClampNeg))], [], μ7) 0 P)))))))))))))) : gWp none 61 (17, [some (.ref 9), some (.ref 2), some (.int x2), some (.int x3), some (.int x4), none], [], μ) 0 P := by
  refine gWp_sts gT_61 3 (f' := (23, [some (.ref 9), some (.ref 2), some (.int x2), some (.int x3), some (.int x4), none], [.int (gI μ 2 1), .int x4], μ)) (cs := []) rfl trivial ?_
  refine gWp_icmp gT_61 (pc := 23) rfl ⟨fun c => ?_, fun c => ?_⟩
  · replace h := h.1 (of_decide_eq_true c)
    exact gWp_end gT_61 rfl rfl h
  · replace h := h.2 (fun q => c (decide_eq_true q))
    obtain ⟨c1, c2, h⟩ := h
    refine gWp_sts gT_61 11 (f' := (45, [some (.ref 9), some (.ref 2), some (.int x2), some (.int x3), some (.int x4), some (.int (gI μ 3 x4.toNatClampNeg))], [.int (gI μ 3 x4.toNatClampNeg)], (gsI μ 10 x4.toNatClampNeg (-1 : Int32)))) (cs := [vp_in x4 50, vp_in x4 50]) rfl ⟨c1, c2⟩ ?_
    refine gWp_stat gT_61 (pc := 45) (c01 := 1) (as := [.int (gI μ 3 x4.toNatClampNeg)]) (rest := []) rfl (Or.inr rfl) rfl rfl rfl ⟨by decide, Nat.le_of_ble_eq_true rfl, by decide, Nat.le_of_ble_eq_true rfl⟩ (gWp_imp h (fun μ1 r h => ?_))
    obtain ⟨v2, rfl, h⟩ := h
    refine Or.inl ⟨_, rfl, ?_⟩
    show gWp none 61 (48, [some (.ref 9), some (.ref 2), some (.int x2), some (.int x3), some (.int x4), some (.int (gI μ 3 x4.toNatClampNeg))], [.int v2], μ1) _ P
    refine gWp_if gT_61 (pc := 48) rfl ⟨fun c => ?_, fun c => ?_⟩
    · replace h := h.1 (of_decide_eq_true c)
      refine gWp_sts gT_61 2 (f' := (72, [some (.ref 9), some (.ref 2), some (.int x2), some (.int x3), some (.int x4), some (.int (gI μ 3 x4.toNatClampNeg))], [.int (125 : Int32), .int (gI μ 3 x4.toNatClampNeg)], μ1)) (cs := []) rfl trivial ?_
      refine gWp_icmp gT_61 (pc := 72) rfl ⟨fun c => ?_, fun c => ?_⟩
      · replace h := h.1 (of_decide_eq_true c)
        refine gWp_sts gT_61 2 (f' := (92, [some (.ref 9), some (.ref 2), some (.int x2), some (.int x3), some (.int x4), some (.int (gI μ 3 x4.toNatClampNeg))], [.int (5 : Int32), .int x3], μ1)) (cs := []) rfl trivial ?_
        refine gWp_icmp gT_61 (pc := 92) rfl ⟨fun c => ?_, fun c => ?_⟩
        · replace h := h.1 (of_decide_eq_true c)
          refine gWp_sts gT_61 2 (f' := (17, [some (.ref 9), some (.ref 2), some (.int x2), some (.int x3), some (.int (x4 + (1 : Int32))), some (.int (gI μ 3 x4.toNatClampNeg))], [], μ1)) (cs := []) rfl trivial ?_
          exact h
        · replace h := h.2 (fun q => c (decide_eq_true q))
          obtain ⟨c1, h⟩ := h
          refine gWp_sts gT_61 11 (f' := (112, [some (.ref 9), some (.ref 2), some (.int x2), some (.int x3), some (.int x4), some (.int (gI μ 3 x4.toNatClampNeg))], [.int (123 : Int32), .int (gI μ 3 x4.toNatClampNeg), .int (gI μ1 14 x3.toNatClampNeg), .int (x3 + (1 : Int32)), .ref 14], μ1)) (cs := [vp_in x3 6]) rfl c1 ?_
          refine gWp_icmp gT_61 (pc := 112) rfl ⟨fun c => ?_, fun c => ?_⟩
          · replace h := h.1 (of_decide_eq_true c)
            refine gWp_sts gT_61 1 (f' := (120, [some (.ref 9), some (.ref 2), some (.int x2), some (.int x3), some (.int x4), some (.int (gI μ 3 x4.toNatClampNeg))], [.int (0 : Int32), .int (gI μ1 14 x3.toNatClampNeg), .int (x3 + (1 : Int32)), .ref 14], μ1)) (cs := []) rfl trivial ?_
            refine gWp_stat gT_61 (pc := 120) (c01 := 0) (as := [.int (gI μ1 14 x3.toNatClampNeg), .int (0 : Int32)]) (rest := [.int (x3 + (1 : Int32)), .ref 14]) rfl (Or.inl rfl) rfl rfl rfl ⟨by decide, Nat.le_of_ble_eq_true rfl, by decide, Nat.le_of_ble_eq_true rfl⟩ (gWp_imp h (fun μ3 r h => ?_))
            obtain ⟨v4, rfl, h⟩ := h
            refine Or.inl ⟨_, rfl, ?_⟩
            show gWp none 61 (123, [some (.ref 9), some (.ref 2), some (.int x2), some (.int x3), some (.int x4), some (.int (gI μ 3 x4.toNatClampNeg))], [.int v4, .int (x3 + (1 : Int32)), .ref 14], μ3) _ P
            obtain ⟨c1, h⟩ := h
            refine gWp_sts gT_61 4 (f' := (17, [some (.ref 9), some (.ref 2), some (.int x2), some (.int (x3 + (1 : Int32))), some (.int (x4 + (1 : Int32))), some (.int (gI μ 3 x4.toNatClampNeg))], [], (gsI μ3 14 ((x3 + (1 : Int32)).toNatClampNeg) v4))) (cs := [vp_in (x3 + (1 : Int32)) 6]) rfl c1 ?_
            exact h
          · replace h := h.2 (Classical.not_not.mp (fun q => c (decide_eq_true q)))
            refine gWp_sts gT_61 2 (f' := (120, [some (.ref 9), some (.ref 2), some (.int x2), some (.int x3), some (.int x4), some (.int (gI μ 3 x4.toNatClampNeg))], [.int (1 : Int32), .int (gI μ1 14 x3.toNatClampNeg), .int (x3 + (1 : Int32)), .ref 14], μ1)) (cs := []) rfl trivial ?_
            refine gWp_stat gT_61 (pc := 120) (c01 := 0) (as := [.int (gI μ1 14 x3.toNatClampNeg), .int (1 : Int32)]) (rest := [.int (x3 + (1 : Int32)), .ref 14]) rfl (Or.inl rfl) rfl rfl rfl ⟨by decide, Nat.le_of_ble_eq_true rfl, by decide, Nat.le_of_ble_eq_true rfl⟩ (gWp_imp h (fun μ5 r h => ?_))
            obtain ⟨v6, rfl, h⟩ := h
            refine Or.inl ⟨_, rfl, ?_⟩
            show gWp none 61 (123, [some (.ref 9), some (.ref 2), some (.int x2), some (.int x3), some (.int x4), some (.int (gI μ 3 x4.toNatClampNeg))], [.int v6, .int (x3 + (1 : Int32)), .ref 14], μ5) _ P
            obtain ⟨c1, h⟩ := h
            refine gWp_sts gT_61 4 (f' := (17, [some (.ref 9), some (.ref 2), some (.int x2), some (.int (x3 + (1 : Int32))), some (.int (x4 + (1 : Int32))), some (.int (gI μ 3 x4.toNatClampNeg))], [], (gsI μ5 14 ((x3 + (1 : Int32)).toNatClampNeg) v6))) (cs := [vp_in (x3 + (1 : Int32)) 6]) rfl c1 ?_
            exact h
      · replace h := h.2 (Classical.not_not.mp (fun q => c (decide_eq_true q)))
        refine gWp_sts gT_61 1 (f' := (76, [some (.ref 9), some (.ref 2), some (.int x2), some (.int x3), some (.int x4), some (.int (gI μ 3 x4.toNatClampNeg))], [.int x3], μ1)) (cs := []) rfl trivial ?_
        refine gWp_if gT_61 (pc := 76) rfl ⟨fun c => ?_, fun c => ?_⟩
        · replace h := h.1 (of_decide_eq_true c)
          refine gWp_sts gT_61 5 (f' := (17, [some (.ref 9), some (.ref 2), some (.int x2), some (.int (0 : Int32)), some (.int (x4 + (1 : Int32))), some (.int (gI μ 3 x4.toNatClampNeg))], [], μ1)) (cs := []) rfl trivial ?_
          exact h
        · replace h := h.2 (fun q => c (decide_eq_true q))
          refine gWp_sts gT_61 8 (f' := (17, [some (.ref 9), some (.ref 2), some (.int x2), some (.int (x3 - (1 : Int32))), some (.int (x4 + (1 : Int32))), some (.int (gI μ 3 x4.toNatClampNeg))], [], μ1)) (cs := []) rfl trivial ?_
          exact h
    · replace h := h.2 (Classical.not_not.mp (fun q => c (decide_eq_true q)))
      obtain ⟨c1, h⟩ := h
      refine gWp_sts gT_61 7 (f' := (62, [some (.ref 9), some (.ref 2), some (.int x2), some (.int x3), some (.int x4), some (.int (gI μ 3 x4.toNatClampNeg))], [.int (gI μ1 14 x3.toNatClampNeg), .int (gI μ 3 x4.toNatClampNeg), .int x4, .ref 9], μ1)) (cs := [vp_in x3 6]) rfl c1 ?_
      refine gWp_virt gT_61 (pc := 62) (q := 9) (as := [.ref 9, .int x4, .int (gI μ 3 x4.toNatClampNeg), .int (gI μ1 14 x3.toNatClampNeg)]) (rest := []) rfl rfl rfl rfl rfl rfl ⟨by decide, Nat.le_of_ble_eq_true rfl, by decide, Nat.le_of_ble_eq_true rfl⟩ (gWp_imp h (fun μ7 r h => ?_))
      obtain ⟨rfl, h⟩ := h
      refine Or.inl ⟨_, rfl, ?_⟩
      show gWp none 61 (65, [some (.ref 9), some (.ref 2), some (.int x2), some (.int x3), some (.int x4), some (.int (gI μ 3 x4.toNatClampNeg))], [], μ7) _ P
      refine gWp_sts gT_61 3 (f' := (17, [some (.ref 9), some (.ref 2), some (.int x2), some (.int x3), some (.int (x4 + (1 : Int32))), some (.int (gI μ 3 x4.toNatClampNeg))], [], μ7)) (cs := []) rfl trivial ?_
      exact h
set_option maxRecDepth 20000 in
theorem vc_61 {μ : gMu} {x2 : Int32} {P : gMu → gRes → Prop} (h : (vp_in (0 : Int32) 6) ∧ (gWp none 61 (17, [some (.ref 9), some (.ref 2), some (.int x2), some (.int (0 : Int32)), some (.int (0 : Int32)), none], [], (gsI (gsI μ 14 ((0 : Int32).toNatClampNeg) x2) 9 5 (0 : Int32))) 0 P)) : gWp none 61 (0, [some (.ref 9), some (.ref 2), some (.int x2), none, none, none], [], μ) 0 P := by
  obtain ⟨c1, h⟩ := h
  refine gWp_sts gT_61 12 (f' := (17, [some (.ref 9), some (.ref 2), some (.int x2), some (.int (0 : Int32)), some (.int (0 : Int32)), none], [], (gsI (gsI μ 14 ((0 : Int32).toNatClampNeg) x2) 9 5 (0 : Int32)))) (cs := [vp_in (0 : Int32) 6]) rfl c1 ?_
  exact h
/-! Glyphmill.refresh -/
theorem gT_62 : gCode[62]? = some gC_62 := rfl
set_option maxRecDepth 20000 in
theorem vc_62 {μ : gMu} {P : gMu → gRes → Prop} (h : ((¬ (gI μ 0 11) = 0) → (gCl' 61 [.ref 9, .ref 2, .int (gI μ 0 10)] μ (fun μ1 r => (r = .inl none ∧ (gCl' 25 [.ref 15, .int (gI μ1 0 10)] μ1 (fun μ2 r => (r = .inl none ∧ (gCl' 58 [.ref 18] μ2 (fun μ3 r => (r = .inl none ∧ (gCl' 12 [.ref 21, .ref 4] μ3 (fun μ4 r => (r = .inl none ∧ (gCl' 46 [.ref 29] μ4 (fun μ5 r => (r = .inl none ∧ (gCl' 44 [.ref 32, .int (gI μ5 0 9)] μ5 (fun μ6 r => (r = .inl none ∧ (gCl' 42 [.ref 32] μ6 (fun μ7 r => (r = .inl none ∧ (gCl' 55 [.ref 38, .int (gI μ7 0 10)] μ7 (fun μ8 r => (r = .inl none ∧ (P (gsI μ8 0 11 (0 : Int32)) (.inl none))))))))))))))))))))))))))) ∧ (((gI μ 0 11) = 0) → (P μ (.inl none)))) : gWp none 62 (0, [some (.ref 0)], [], μ) 0 P := by
  refine gWp_sts gT_62 2 (f' := (4, [some (.ref 0)], [.int (gI μ 0 11)], μ)) (cs := []) rfl trivial ?_
  refine gWp_if gT_62 (pc := 4) rfl ⟨fun c => ?_, fun c => ?_⟩
  · replace h := h.1 (of_decide_eq_true c)
    refine gWp_sts gT_62 6 (f' := (20, [some (.ref 0)], [.int (gI μ 0 10), .ref 2, .ref 9], μ)) (cs := []) rfl trivial ?_
    refine gWp_virt gT_62 (pc := 20) (q := 9) (as := [.ref 9, .ref 2, .int (gI μ 0 10)]) (rest := []) rfl rfl rfl rfl rfl rfl ⟨by decide, Nat.le_of_ble_eq_true rfl, by decide, Nat.le_of_ble_eq_true rfl⟩ (gWp_imp h (fun μ1 r h => ?_))
    obtain ⟨rfl, h⟩ := h
    refine Or.inl ⟨_, rfl, ?_⟩
    show gWp none 62 (23, [some (.ref 0)], [], μ1) _ P
    refine gWp_sts gT_62 4 (f' := (31, [some (.ref 0)], [.int (gI μ1 0 10), .ref 15], μ1)) (cs := []) rfl trivial ?_
    refine gWp_virt gT_62 (pc := 31) (q := 15) (as := [.ref 15, .int (gI μ1 0 10)]) (rest := []) rfl rfl rfl rfl rfl rfl ⟨by decide, Nat.le_of_ble_eq_true rfl, by decide, Nat.le_of_ble_eq_true rfl⟩ (gWp_imp h (fun μ2 r h => ?_))
    obtain ⟨rfl, h⟩ := h
    refine Or.inl ⟨_, rfl, ?_⟩
    show gWp none 62 (34, [some (.ref 0)], [], μ2) _ P
    refine gWp_sts gT_62 2 (f' := (38, [some (.ref 0)], [.ref 18], μ2)) (cs := []) rfl trivial ?_
    refine gWp_virt gT_62 (pc := 38) (q := 18) (as := [.ref 18]) (rest := []) rfl rfl rfl rfl rfl rfl ⟨by decide, Nat.le_of_ble_eq_true rfl, by decide, Nat.le_of_ble_eq_true rfl⟩ (gWp_imp h (fun μ3 r h => ?_))
    obtain ⟨rfl, h⟩ := h
    refine Or.inl ⟨_, rfl, ?_⟩
    show gWp none 62 (41, [some (.ref 0)], [], μ3) _ P
    refine gWp_sts gT_62 4 (f' := (49, [some (.ref 0)], [.ref 4, .ref 21], μ3)) (cs := []) rfl trivial ?_
    refine gWp_virt gT_62 (pc := 49) (q := 21) (as := [.ref 21, .ref 4]) (rest := []) rfl rfl rfl rfl rfl rfl ⟨by decide, Nat.le_of_ble_eq_true rfl, by decide, Nat.le_of_ble_eq_true rfl⟩ (gWp_imp h (fun μ4 r h => ?_))
    obtain ⟨rfl, h⟩ := h
    refine Or.inl ⟨_, rfl, ?_⟩
    show gWp none 62 (52, [some (.ref 0)], [], μ4) _ P
    refine gWp_sts gT_62 2 (f' := (56, [some (.ref 0)], [.ref 29], μ4)) (cs := []) rfl trivial ?_
    refine gWp_virt gT_62 (pc := 56) (q := 29) (as := [.ref 29]) (rest := []) rfl rfl rfl rfl rfl rfl ⟨by decide, Nat.le_of_ble_eq_true rfl, by decide, Nat.le_of_ble_eq_true rfl⟩ (gWp_imp h (fun μ5 r h => ?_))
    obtain ⟨rfl, h⟩ := h
    refine Or.inl ⟨_, rfl, ?_⟩
    show gWp none 62 (59, [some (.ref 0)], [], μ5) _ P
    refine gWp_sts gT_62 4 (f' := (67, [some (.ref 0)], [.int (gI μ5 0 9), .ref 32], μ5)) (cs := []) rfl trivial ?_
    refine gWp_virt gT_62 (pc := 67) (q := 32) (as := [.ref 32, .int (gI μ5 0 9)]) (rest := []) rfl rfl rfl rfl rfl rfl ⟨by decide, Nat.le_of_ble_eq_true rfl, by decide, Nat.le_of_ble_eq_true rfl⟩ (gWp_imp h (fun μ6 r h => ?_))
    obtain ⟨rfl, h⟩ := h
    refine Or.inl ⟨_, rfl, ?_⟩
    show gWp none 62 (70, [some (.ref 0)], [], μ6) _ P
    refine gWp_sts gT_62 2 (f' := (74, [some (.ref 0)], [.ref 32], μ6)) (cs := []) rfl trivial ?_
    refine gWp_virt gT_62 (pc := 74) (q := 32) (as := [.ref 32]) (rest := []) rfl rfl rfl rfl rfl rfl ⟨by decide, Nat.le_of_ble_eq_true rfl, by decide, Nat.le_of_ble_eq_true rfl⟩ (gWp_imp h (fun μ7 r h => ?_))
    obtain ⟨rfl, h⟩ := h
    refine Or.inl ⟨_, rfl, ?_⟩
    show gWp none 62 (77, [some (.ref 0)], [], μ7) _ P
    refine gWp_sts gT_62 4 (f' := (85, [some (.ref 0)], [.int (gI μ7 0 10), .ref 38], μ7)) (cs := []) rfl trivial ?_
    refine gWp_virt gT_62 (pc := 85) (q := 38) (as := [.ref 38, .int (gI μ7 0 10)]) (rest := []) rfl rfl rfl rfl rfl rfl ⟨by decide, Nat.le_of_ble_eq_true rfl, by decide, Nat.le_of_ble_eq_true rfl⟩ (gWp_imp h (fun μ8 r h => ?_))
    obtain ⟨rfl, h⟩ := h
    refine Or.inl ⟨_, rfl, ?_⟩
    show gWp none 62 (88, [some (.ref 0)], [], μ8) _ P
    refine gWp_sts gT_62 3 (f' := (93, [some (.ref 0)], [], (gsI μ8 0 11 (0 : Int32)))) (cs := [(0 : Int32) = 0 ∨ (0 : Int32) = 1]) rfl (Or.inl rfl) ?_
    exact gWp_end gT_62 rfl rfl h
  · replace h := h.2 (Classical.not_not.mp (fun q => c (decide_eq_true q)))
    exact gWp_end gT_62 rfl rfl h
/-! Glyphmill.runs -/
theorem gT_63 : gCode[63]? = some gC_63 := rfl
set_option maxRecDepth 20000 in
theorem vc_63 {μ : gMu} {P : gMu → gRes → Prop} (h : gCl' 62 [.ref 0] μ (fun μ1 r => (r = .inl none ∧ (P μ1 (.inl (some (.int (gI μ1 18 4)))))))) : gWp none 63 (0, [some (.ref 0)], [], μ) 0 P := by
  refine gWp_sts gT_63 1 (f' := (1, [some (.ref 0)], [.ref 0], μ)) (cs := []) rfl trivial ?_
  refine gWp_virt gT_63 (pc := 1) (q := 0) (as := [.ref 0]) (rest := []) rfl rfl rfl rfl rfl rfl ⟨by decide, Nat.le_of_ble_eq_true rfl, by decide, Nat.le_of_ble_eq_true rfl⟩ (gWp_imp h (fun μ1 r h => ?_))
  obtain ⟨rfl, h⟩ := h
  refine Or.inl ⟨_, rfl, ?_⟩
  show gWp none 63 (4, [some (.ref 0)], [], μ1) _ P
  refine gWp_sts gT_63 3 (f' := (11, [some (.ref 0)], [.int (gI μ1 18 4)], μ1)) (cs := []) rfl trivial ?_
  exact gWp_end gT_63 rfl (gEnd_int trivial) h
/-! Glyphmill.glyphs -/
theorem gT_64 : gCode[64]? = some gC_64 := rfl
set_option maxRecDepth 20000 in
theorem vc_64 {μ : gMu} {P : gMu → gRes → Prop} (h : gCl' 62 [.ref 0] μ (fun μ1 r => (r = .inl none ∧ (P μ1 (.inl (some (.int (gI μ1 21 10)))))))) : gWp none 64 (0, [some (.ref 0)], [], μ) 0 P := by
  refine gWp_sts gT_64 1 (f' := (1, [some (.ref 0)], [.ref 0], μ)) (cs := []) rfl trivial ?_
  refine gWp_virt gT_64 (pc := 1) (q := 0) (as := [.ref 0]) (rest := []) rfl rfl rfl rfl rfl rfl ⟨by decide, Nat.le_of_ble_eq_true rfl, by decide, Nat.le_of_ble_eq_true rfl⟩ (gWp_imp h (fun μ1 r h => ?_))
  obtain ⟨rfl, h⟩ := h
  refine Or.inl ⟨_, rfl, ?_⟩
  show gWp none 64 (4, [some (.ref 0)], [], μ1) _ P
  refine gWp_sts gT_64 3 (f' := (11, [some (.ref 0)], [.int (gI μ1 21 10)], μ1)) (cs := []) rfl trivial ?_
  exact gWp_end gT_64 rfl (gEnd_int trivial) h
/-! Glyphmill$Parts.countBreaks -/
theorem gT_65 : gCode[65]? = some gC_65 := rfl
set_option maxRecDepth 20000 in
theorem vc_65 {μ : gMu} {P : gMu → gRes → Prop} (h : (((gI μ 29 3) ≤ 0) → (P μ (.inl (some (.int (0 : Int32)))))) ∧ ((¬ (gI μ 29 3) ≤ 0) → (P μ (.inl (some (.int ((gI μ 29 3) - (1 : Int32)))))))) : gWp none 65 (0, [some (.ref 29)], [], μ) 0 P := by
  refine gWp_sts gT_65 2 (f' := (4, [some (.ref 29)], [.int (gI μ 29 3)], μ)) (cs := []) rfl trivial ?_
  refine gWp_if gT_65 (pc := 4) rfl ⟨fun c => ?_, fun c => ?_⟩
  · replace h := h.1 (of_decide_eq_true c)
    refine gWp_sts gT_65 1 (f' := (17, [some (.ref 29)], [.int (0 : Int32)], μ)) (cs := []) rfl trivial ?_
    exact gWp_end gT_65 rfl (gEnd_int trivial) h
  · replace h := h.2 (fun q => c (decide_eq_true q))
    refine gWp_sts gT_65 5 (f' := (17, [some (.ref 29)], [.int ((gI μ 29 3) - (1 : Int32))], μ)) (cs := []) rfl trivial ?_
    exact gWp_end gT_65 rfl (gEnd_int trivial) h
/-! Glyphmill.breaks -/
theorem gT_66 : gCode[66]? = some gC_66 := rfl
set_option maxRecDepth 20000 in
theorem vc_66 {μ : gMu} {P : gMu → gRes → Prop} (h : gCl' 62 [.ref 0] μ (fun μ1 r => (r = .inl none ∧ (gCl' 65 [.ref 29] μ1 (fun μ2 r => (∃ v3, r = .inl (some (.int v3)) ∧ (P μ2 (.inl (some (.int v3)))))))))) : gWp none 66 (0, [some (.ref 0)], [], μ) 0 P := by
  refine gWp_sts gT_66 1 (f' := (1, [some (.ref 0)], [.ref 0], μ)) (cs := []) rfl trivial ?_
  refine gWp_virt gT_66 (pc := 1) (q := 0) (as := [.ref 0]) (rest := []) rfl rfl rfl rfl rfl rfl ⟨by decide, Nat.le_of_ble_eq_true rfl, by decide, Nat.le_of_ble_eq_true rfl⟩ (gWp_imp h (fun μ1 r h => ?_))
  obtain ⟨rfl, h⟩ := h
  refine Or.inl ⟨_, rfl, ?_⟩
  show gWp none 66 (4, [some (.ref 0)], [], μ1) _ P
  refine gWp_sts gT_66 2 (f' := (8, [some (.ref 0)], [.ref 29], μ1)) (cs := []) rfl trivial ?_
  refine gWp_virt gT_66 (pc := 8) (q := 29) (as := [.ref 29]) (rest := []) rfl rfl rfl rfl rfl rfl ⟨by decide, Nat.le_of_ble_eq_true rfl, by decide, Nat.le_of_ble_eq_true rfl⟩ (gWp_imp h (fun μ2 r h => ?_))
  obtain ⟨v3, rfl, h⟩ := h
  refine Or.inl ⟨_, rfl, ?_⟩
  show gWp none 66 (11, [some (.ref 0)], [.int v3], μ2) _ P
  exact gWp_end gT_66 rfl (gEnd_int trivial) h
/-! Glyphmill.indexOfGlyph -/
theorem gT_67 : gCode[67]? = some gC_67 := rfl
set_option maxRecDepth 20000 in
theorem vc_67 {μ : gMu} {x1 : Int32} {P : gMu → gRes → Prop} (h : (vp_in x1 50) ∧ ((vp_in (gI μ 24 x1.toNatClampNeg) 50) ∧ (P μ (.inl (some (.int (gI μ 11 ((gI μ 24 x1.toNatClampNeg).toNatClampNeg)))))))) : gWp none 67 (0, [some (.ref 0), some (.int x1)], [], μ) 0 P := by
  obtain ⟨c1, c2, h⟩ := h
  refine gWp_sts gT_67 9 (f' := (17, [some (.ref 0), some (.int x1)], [.int (gI μ 11 ((gI μ 24 x1.toNatClampNeg).toNatClampNeg))], μ)) (cs := [vp_in x1 50, vp_in (gI μ 24 x1.toNatClampNeg) 50]) rfl ⟨c1, c2⟩ ?_
  exact gWp_end gT_67 rfl (gEnd_int trivial) h
/-! Glyphmill.tooWide -/
theorem gT_68 : gCode[68]? = some gC_68 := rfl
set_option maxRecDepth 20000 in
theorem vc_68 {μ : gMu} {P : gMu → gRes → Prop} (h : gCl' 62 [.ref 0] μ (fun μ1 r => (r = .inl none ∧ (gCl' 26 [.ref 32] μ1 (fun μ2 r => (∃ v3, r = .inl (some (.int v3)) ∧ (((v3 = 0) → ((vp_in (gI μ2 32 7) 51) ∧ (gCl' 67 [.ref 0, .int (gI μ2 30 ((gI μ2 32 7).toNatClampNeg))] μ2 (fun μ4 r => (∃ v5, r = .inl (some (.int v5)) ∧ (P μ4 (.inl (some (.int v5))))))))) ∧ ((¬ v3 = 0) → (P μ2 (.inl (some (.int (-1 : Int32))))))))))))) : gWp none 68 (0, [some (.ref 0)], [], μ) 0 P := by
  refine gWp_sts gT_68 1 (f' := (1, [some (.ref 0)], [.ref 0], μ)) (cs := []) rfl trivial ?_
  refine gWp_virt gT_68 (pc := 1) (q := 0) (as := [.ref 0]) (rest := []) rfl rfl rfl rfl rfl rfl ⟨by decide, Nat.le_of_ble_eq_true rfl, by decide, Nat.le_of_ble_eq_true rfl⟩ (gWp_imp h (fun μ1 r h => ?_))
  obtain ⟨rfl, h⟩ := h
  refine Or.inl ⟨_, rfl, ?_⟩
  show gWp none 68 (4, [some (.ref 0)], [], μ1) _ P
  refine gWp_sts gT_68 2 (f' := (8, [some (.ref 0)], [.ref 32], μ1)) (cs := []) rfl trivial ?_
  refine gWp_virt gT_68 (pc := 8) (q := 32) (as := [.ref 32]) (rest := []) rfl rfl rfl rfl rfl rfl ⟨by decide, Nat.le_of_ble_eq_true rfl, by decide, Nat.le_of_ble_eq_true rfl⟩ (gWp_imp h (fun μ2 r h => ?_))
  obtain ⟨v3, rfl, h⟩ := h
  refine Or.inl ⟨_, rfl, ?_⟩
  show gWp none 68 (11, [some (.ref 0)], [.int v3], μ2) _ P
  refine gWp_if gT_68 (pc := 11) rfl ⟨fun c => ?_, fun c => ?_⟩
  · replace h := h.1 (of_decide_eq_true c)
    obtain ⟨c1, h⟩ := h
    refine gWp_sts gT_68 8 (f' := (34, [some (.ref 0)], [.int (gI μ2 30 ((gI μ2 32 7).toNatClampNeg)), .ref 0], μ2)) (cs := [vp_in (gI μ2 32 7) 51]) rfl c1 ?_
    refine gWp_virt gT_68 (pc := 34) (q := 0) (as := [.ref 0, .int (gI μ2 30 ((gI μ2 32 7).toNatClampNeg))]) (rest := []) rfl rfl rfl rfl rfl rfl ⟨by decide, Nat.le_of_ble_eq_true rfl, by decide, Nat.le_of_ble_eq_true rfl⟩ (gWp_imp h (fun μ4 r h => ?_))
    obtain ⟨v5, rfl, h⟩ := h
    refine Or.inl ⟨_, rfl, ?_⟩
    show gWp none 68 (37, [some (.ref 0)], [.int v5], μ4) _ P
    exact gWp_end gT_68 rfl (gEnd_int trivial) h
  · replace h := h.2 (fun q => c (decide_eq_true q))
    refine gWp_sts gT_68 2 (f' := (37, [some (.ref 0)], [.int (-1 : Int32)], μ2)) (cs := []) rfl trivial ?_
    exact gWp_end gT_68 rfl (gEnd_int trivial) h
/-! Glyphmill.excess -/
theorem gT_69 : gCode[69]? = some gC_69 := rfl
set_option maxRecDepth 20000 in
theorem vc_69 {μ : gMu} {P : gMu → gRes → Prop} (h : gCl' 62 [.ref 0] μ (fun μ1 r => (r = .inl none ∧ (gCl' 26 [.ref 32] μ1 (fun μ2 r => (∃ v3, r = .inl (some (.int v3)) ∧ (((v3 = 0) → (gCl' 29 [.ref 32, .int (gI μ2 32 7), .int ((gI μ2 32 7) + (1 : Int32))] μ2 (fun μ4 r => (∃ v5, r = .inl (some (.int v5)) ∧ (P μ4 (.inl (some (.int (-v5))))))))) ∧ ((¬ v3 = 0) → (P μ2 (.inl (some (.int (0 : Int32))))))))))))) : gWp none 69 (0, [some (.ref 0)], [], μ) 0 P := by
  refine gWp_sts gT_69 1 (f' := (1, [some (.ref 0)], [.ref 0], μ)) (cs := []) rfl trivial ?_
  refine gWp_virt gT_69 (pc := 1) (q := 0) (as := [.ref 0]) (rest := []) rfl rfl rfl rfl rfl rfl ⟨by decide, Nat.le_of_ble_eq_true rfl, by decide, Nat.le_of_ble_eq_true rfl⟩ (gWp_imp h (fun μ1 r h => ?_))
  obtain ⟨rfl, h⟩ := h
  refine Or.inl ⟨_, rfl, ?_⟩
  show gWp none 69 (4, [some (.ref 0)], [], μ1) _ P
  refine gWp_sts gT_69 2 (f' := (8, [some (.ref 0)], [.ref 32], μ1)) (cs := []) rfl trivial ?_
  refine gWp_virt gT_69 (pc := 8) (q := 32) (as := [.ref 32]) (rest := []) rfl rfl rfl rfl rfl rfl ⟨by decide, Nat.le_of_ble_eq_true rfl, by decide, Nat.le_of_ble_eq_true rfl⟩ (gWp_imp h (fun μ2 r h => ?_))
  obtain ⟨v3, rfl, h⟩ := h
  refine Or.inl ⟨_, rfl, ?_⟩
  show gWp none 69 (11, [some (.ref 0)], [.int v3], μ2) _ P
  refine gWp_if gT_69 (pc := 11) rfl ⟨fun c => ?_, fun c => ?_⟩
  · replace h := h.1 (of_decide_eq_true c)
    refine gWp_sts gT_69 10 (f' := (38, [some (.ref 0)], [.int ((gI μ2 32 7) + (1 : Int32)), .int (gI μ2 32 7), .ref 32], μ2)) (cs := []) rfl trivial ?_
    refine gWp_virt gT_69 (pc := 38) (q := 32) (as := [.ref 32, .int (gI μ2 32 7), .int ((gI μ2 32 7) + (1 : Int32))]) (rest := []) rfl rfl rfl rfl rfl rfl ⟨by decide, Nat.le_of_ble_eq_true rfl, by decide, Nat.le_of_ble_eq_true rfl⟩ (gWp_imp h (fun μ4 r h => ?_))
    obtain ⟨v5, rfl, h⟩ := h
    refine Or.inl ⟨_, rfl, ?_⟩
    show gWp none 69 (41, [some (.ref 0)], [.int v5], μ4) _ P
    refine gWp_sts gT_69 1 (f' := (42, [some (.ref 0)], [.int (-v5)], μ4)) (cs := []) rfl trivial ?_
    exact gWp_end gT_69 rfl (gEnd_int trivial) h
  · replace h := h.2 (fun q => c (decide_eq_true q))
    refine gWp_sts gT_69 2 (f' := (42, [some (.ref 0)], [.int (0 : Int32)], μ2)) (cs := []) rfl trivial ?_
    exact gWp_end gT_69 rfl (gEnd_int trivial) h
/-! Glyphmill.isNeutral -/
theorem gT_70 : gCode[70]? = some gC_70 := rfl
set_option maxRecDepth 20000 in
theorem vc_70 {μ : gMu} {x0 : Int32} {P : gMu → gRes → Prop} (h : ((x0 = (32 : Int32)) → (P μ (.inl (some (.int (1 : Int32)))))) ∧ ((¬ x0 = (32 : Int32)) → (((x0 = (45 : Int32)) → (P μ (.inl (some (.int (1 : Int32)))))) ∧ ((¬ x0 = (45 : Int32)) → (((x0 = (44 : Int32)) → (P μ (.inl (some (.int (1 : Int32)))))) ∧ ((¬ x0 = (44 : Int32)) → (((¬ x0 = (46 : Int32)) → (P μ (.inl (some (.int (0 : Int32)))))) ∧ ((x0 = (46 : Int32)) → (P μ (.inl (some (.int (1 : Int32))))))))))))) : gWp none 70 (0, [some (.int x0)], [], μ) 0 P := by
  refine gWp_sts gT_70 2 (f' := (3, [some (.int x0)], [.int (32 : Int32), .int x0], μ)) (cs := []) rfl trivial ?_
  refine gWp_icmp gT_70 (pc := 3) rfl ⟨fun c => ?_, fun c => ?_⟩
  · replace h := h.1 (of_decide_eq_true c)
    refine gWp_sts gT_70 2 (f' := (29, [some (.int x0)], [.int (1 : Int32)], μ)) (cs := []) rfl trivial ?_
    exact gWp_end gT_70 rfl (gEnd_int (show narrow .boolean (.int (1 : Int32)) = .int (1 : Int32) by decide)) h
  · replace h := h.2 (fun q => c (decide_eq_true q))
    refine gWp_sts gT_70 2 (f' := (9, [some (.int x0)], [.int (45 : Int32), .int x0], μ)) (cs := []) rfl trivial ?_
    refine gWp_icmp gT_70 (pc := 9) rfl ⟨fun c => ?_, fun c => ?_⟩
    · replace h := h.1 (of_decide_eq_true c)
      refine gWp_sts gT_70 2 (f' := (29, [some (.int x0)], [.int (1 : Int32)], μ)) (cs := []) rfl trivial ?_
      exact gWp_end gT_70 rfl (gEnd_int (show narrow .boolean (.int (1 : Int32)) = .int (1 : Int32) by decide)) h
    · replace h := h.2 (fun q => c (decide_eq_true q))
      refine gWp_sts gT_70 2 (f' := (15, [some (.int x0)], [.int (44 : Int32), .int x0], μ)) (cs := []) rfl trivial ?_
      refine gWp_icmp gT_70 (pc := 15) rfl ⟨fun c => ?_, fun c => ?_⟩
      · replace h := h.1 (of_decide_eq_true c)
        refine gWp_sts gT_70 2 (f' := (29, [some (.int x0)], [.int (1 : Int32)], μ)) (cs := []) rfl trivial ?_
        exact gWp_end gT_70 rfl (gEnd_int (show narrow .boolean (.int (1 : Int32)) = .int (1 : Int32) by decide)) h
      · replace h := h.2 (fun q => c (decide_eq_true q))
        refine gWp_sts gT_70 2 (f' := (21, [some (.int x0)], [.int (46 : Int32), .int x0], μ)) (cs := []) rfl trivial ?_
        refine gWp_icmp gT_70 (pc := 21) rfl ⟨fun c => ?_, fun c => ?_⟩
        · replace h := h.1 (of_decide_eq_true c)
          refine gWp_sts gT_70 1 (f' := (29, [some (.int x0)], [.int (0 : Int32)], μ)) (cs := []) rfl trivial ?_
          exact gWp_end gT_70 rfl (gEnd_int (show narrow .boolean (.int (0 : Int32)) = .int (0 : Int32) by decide)) h
        · replace h := h.2 (Classical.not_not.mp (fun q => c (decide_eq_true q)))
          refine gWp_sts gT_70 2 (f' := (29, [some (.int x0)], [.int (1 : Int32)], μ)) (cs := []) rfl trivial ?_
          exact gWp_end gT_70 rfl (gEnd_int (show narrow .boolean (.int (1 : Int32)) = .int (1 : Int32) by decide)) h
/-! Glyphmill.isShown -/
theorem gT_71 : gCode[71]? = some gC_71 := rfl
set_option maxRecDepth 20000 in
theorem vc_71 {μ : gMu} {x0 : Int32} {P : gMu → gRes → Prop} (h : gCl' 22 [.int x0] μ (fun μ1 r => (∃ v2, r = .inl (some (.int v2)) ∧ (((¬ v2 = 0) → (P μ1 (.inl (some (.int (1 : Int32)))))) ∧ ((v2 = 0) → (gCl' 19 [.int x0] μ1 (fun μ3 r => (∃ v4, r = .inl (some (.int v4)) ∧ (((¬ v4 = 0) → (P μ3 (.inl (some (.int (1 : Int32)))))) ∧ ((v4 = 0) → (gCl' 70 [.int x0] μ3 (fun μ5 r => (∃ v6, r = .inl (some (.int v6)) ∧ (((v6 = 0) → (P μ5 (.inl (some (.int (0 : Int32)))))) ∧ ((¬ v6 = 0) → (P μ5 (.inl (some (.int (1 : Int32)))))))))))))))))))) : gWp none 71 (0, [some (.int x0)], [], μ) 0 P := by
  refine gWp_sts gT_71 1 (f' := (1, [some (.int x0)], [.int x0], μ)) (cs := []) rfl trivial ?_
  refine gWp_stat gT_71 (pc := 1) (c01 := 0) (as := [.int x0]) (rest := []) rfl (Or.inl rfl) rfl rfl rfl ⟨by decide, Nat.le_of_ble_eq_true rfl, by decide, Nat.le_of_ble_eq_true rfl⟩ (gWp_imp h (fun μ1 r h => ?_))
  obtain ⟨v2, rfl, h⟩ := h
  refine Or.inl ⟨_, rfl, ?_⟩
  show gWp none 71 (4, [some (.int x0)], [.int v2], μ1) _ P
  refine gWp_if gT_71 (pc := 4) rfl ⟨fun c => ?_, fun c => ?_⟩
  · replace h := h.1 (of_decide_eq_true c)
    refine gWp_sts gT_71 2 (f' := (26, [some (.int x0)], [.int (1 : Int32)], μ1)) (cs := []) rfl trivial ?_
    exact gWp_end gT_71 rfl (gEnd_int (show narrow .boolean (.int (1 : Int32)) = .int (1 : Int32) by decide)) h
  · replace h := h.2 (Classical.not_not.mp (fun q => c (decide_eq_true q)))
    refine gWp_sts gT_71 1 (f' := (8, [some (.int x0)], [.int x0], μ1)) (cs := []) rfl trivial ?_
    refine gWp_stat gT_71 (pc := 8) (c01 := 0) (as := [.int x0]) (rest := []) rfl (Or.inl rfl) rfl rfl rfl ⟨by decide, Nat.le_of_ble_eq_true rfl, by decide, Nat.le_of_ble_eq_true rfl⟩ (gWp_imp h (fun μ3 r h => ?_))
    obtain ⟨v4, rfl, h⟩ := h
    refine Or.inl ⟨_, rfl, ?_⟩
    show gWp none 71 (11, [some (.int x0)], [.int v4], μ3) _ P
    refine gWp_if gT_71 (pc := 11) rfl ⟨fun c => ?_, fun c => ?_⟩
    · replace h := h.1 (of_decide_eq_true c)
      refine gWp_sts gT_71 2 (f' := (26, [some (.int x0)], [.int (1 : Int32)], μ3)) (cs := []) rfl trivial ?_
      exact gWp_end gT_71 rfl (gEnd_int (show narrow .boolean (.int (1 : Int32)) = .int (1 : Int32) by decide)) h
    · replace h := h.2 (Classical.not_not.mp (fun q => c (decide_eq_true q)))
      refine gWp_sts gT_71 1 (f' := (15, [some (.int x0)], [.int x0], μ3)) (cs := []) rfl trivial ?_
      refine gWp_stat gT_71 (pc := 15) (c01 := 0) (as := [.int x0]) (rest := []) rfl (Or.inl rfl) rfl rfl rfl ⟨by decide, Nat.le_of_ble_eq_true rfl, by decide, Nat.le_of_ble_eq_true rfl⟩ (gWp_imp h (fun μ5 r h => ?_))
      obtain ⟨v6, rfl, h⟩ := h
      refine Or.inl ⟨_, rfl, ?_⟩
      show gWp none 71 (18, [some (.int x0)], [.int v6], μ5) _ P
      refine gWp_if gT_71 (pc := 18) rfl ⟨fun c => ?_, fun c => ?_⟩
      · replace h := h.1 (of_decide_eq_true c)
        refine gWp_sts gT_71 1 (f' := (26, [some (.int x0)], [.int (0 : Int32)], μ5)) (cs := []) rfl trivial ?_
        exact gWp_end gT_71 rfl (gEnd_int (show narrow .boolean (.int (0 : Int32)) = .int (0 : Int32) by decide)) h
      · replace h := h.2 (fun q => c (decide_eq_true q))
        refine gWp_sts gT_71 2 (f' := (26, [some (.int x0)], [.int (1 : Int32)], μ5)) (cs := []) rfl trivial ?_
        exact gWp_end gT_71 rfl (gEnd_int (show narrow .boolean (.int (1 : Int32)) = .int (1 : Int32) by decide)) h
/-! Glyphmill$Text.append -/
theorem gT_72 : gCode[72]? = some gC_72 := rfl
set_option maxRecDepth 20000 in
theorem vc_72 {μ : gMu} {x1 : Int32} {P : gMu → gRes → Prop} (h : (((50 : Int32) ≤ (gI μ 2 1)) → (P μ (.inl none))) ∧ ((¬ (50 : Int32) ≤ (gI μ 2 1)) → ((vp_in (gI μ 2 1) 50) ∧ (P (gsI (gsI μ 3 ((gI μ 2 1).toNatClampNeg) (vp_nar .char x1)) 2 1 ((gI μ 2 1) + (1 : Int32))) (.inl none))))) : gWp none 72 (0, [some (.ref 2), some (.int x1)], [], μ) 0 P := by
  refine gWp_sts gT_72 3 (f' := (6, [some (.ref 2), some (.int x1)], [.int (50 : Int32), .int (gI μ 2 1)], μ)) (cs := []) rfl trivial ?_
  refine gWp_icmp gT_72 (pc := 6) rfl ⟨fun c => ?_, fun c => ?_⟩
  · replace h := h.1 (of_decide_eq_true c)
    exact gWp_end gT_72 rfl rfl h
  · replace h := h.2 (fun q => c (decide_eq_true q))
    obtain ⟨c1, h⟩ := h
    refine gWp_sts gT_72 12 (f' := (29, [some (.ref 2), some (.int x1)], [], (gsI (gsI μ 3 ((gI μ 2 1).toNatClampNeg) (vp_nar .char x1)) 2 1 ((gI μ 2 1) + (1 : Int32))))) (cs := [vp_in (gI μ 2 1) 50, (Value.ref 2 : Value).category = 1]) rfl ⟨c1, rfl⟩ ?_
    exact gWp_end gT_72 rfl rfl h
/-! Glyphmill$Text.takes -/
theorem gT_73 : gCode[73]? = some gC_73 := rfl
set_option maxRecDepth 20000 in
theorem vc_73 {μ : gMu} {x1 : Int32} {P : gMu → gRes → Prop} (h : (((gI μ 2 1) < (50 : Int32)) → (gCl' 3 [.int x1] μ (fun μ1 r => (∃ v2, r = .inl (some (.int v2)) ∧ (((¬ v2 = 0) → (((¬ x1 = (125 : Int32)) → (gCl' 4 [.ref 2] μ1 (fun μ3 r => (∃ v4, r = .inl (some (.int v4)) ∧ ((((5 : Int32) ≤ v4) → (P μ3 (.inl (some (.int (0 : Int32)))))) ∧ ((¬ (5 : Int32) ≤ v4) → (P μ3 (.inl (some (.int (1 : Int32))))))))))) ∧ ((x1 = (125 : Int32)) → (gCl' 4 [.ref 2] μ1 (fun μ5 r => (∃ v6, r = .inl (some (.int v6)) ∧ (((v6 ≤ 0) → (P μ5 (.inl (some (.int (0 : Int32)))))) ∧ ((¬ v6 ≤ 0) → (P μ5 (.inl (some (.int (1 : Int32))))))))))))) ∧ ((v2 = 0) → (P μ1 (.inl (some (.int (1 : Int32))))))))))) ∧ ((¬ (gI μ 2 1) < (50 : Int32)) → (P μ (.inl (some (.int (0 : Int32))))))) : gWp none 73 (0, [some (.ref 2), some (.int x1)], [], μ) 0 P := by
  refine gWp_sts gT_73 3 (f' := (6, [some (.ref 2), some (.int x1)], [.int (50 : Int32), .int (gI μ 2 1)], μ)) (cs := []) rfl trivial ?_
  refine gWp_icmp gT_73 (pc := 6) rfl ⟨fun c => ?_, fun c => ?_⟩
  · replace h := h.1 (of_decide_eq_true c)
    refine gWp_sts gT_73 1 (f' := (12, [some (.ref 2), some (.int x1)], [.int x1], μ)) (cs := []) rfl trivial ?_
    refine gWp_stat gT_73 (pc := 12) (c01 := 1) (as := [.int x1]) (rest := []) rfl (Or.inr rfl) rfl rfl rfl ⟨by decide, Nat.le_of_ble_eq_true rfl, by decide, Nat.le_of_ble_eq_true rfl⟩ (gWp_imp h (fun μ1 r h => ?_))
    obtain ⟨v2, rfl, h⟩ := h
    refine Or.inl ⟨_, rfl, ?_⟩
    show gWp none 73 (15, [some (.ref 2), some (.int x1)], [.int v2], μ1) _ P
    refine gWp_if gT_73 (pc := 15) rfl ⟨fun c => ?_, fun c => ?_⟩
    · replace h := h.1 (of_decide_eq_true c)
      refine gWp_sts gT_73 2 (f' := (23, [some (.ref 2), some (.int x1)], [.int (125 : Int32), .int x1], μ1)) (cs := []) rfl trivial ?_
      refine gWp_icmp gT_73 (pc := 23) rfl ⟨fun c => ?_, fun c => ?_⟩
      · replace h := h.1 (of_decide_eq_true c)
        refine gWp_sts gT_73 1 (f' := (42, [some (.ref 2), some (.int x1)], [.ref 2], μ1)) (cs := []) rfl trivial ?_
        refine gWp_virt gT_73 (pc := 42) (q := 2) (as := [.ref 2]) (rest := []) rfl rfl rfl rfl rfl rfl ⟨by decide, Nat.le_of_ble_eq_true rfl, by decide, Nat.le_of_ble_eq_true rfl⟩ (gWp_imp h (fun μ3 r h => ?_))
        obtain ⟨v4, rfl, h⟩ := h
        refine Or.inl ⟨_, rfl, ?_⟩
        show gWp none 73 (45, [some (.ref 2), some (.int x1)], [.int v4], μ3) _ P
        refine gWp_sts gT_73 1 (f' := (46, [some (.ref 2), some (.int x1)], [.int (5 : Int32), .int v4], μ3)) (cs := []) rfl trivial ?_
        refine gWp_icmp gT_73 (pc := 46) rfl ⟨fun c => ?_, fun c => ?_⟩
        · replace h := h.1 (of_decide_eq_true c)
          refine gWp_sts gT_73 1 (f' := (54, [some (.ref 2), some (.int x1)], [.int (0 : Int32)], μ3)) (cs := []) rfl trivial ?_
          exact gWp_end gT_73 rfl (gEnd_int (show narrow .boolean (.int (0 : Int32)) = .int (0 : Int32) by decide)) h
        · replace h := h.2 (fun q => c (decide_eq_true q))
          refine gWp_sts gT_73 2 (f' := (54, [some (.ref 2), some (.int x1)], [.int (1 : Int32)], μ3)) (cs := []) rfl trivial ?_
          exact gWp_end gT_73 rfl (gEnd_int (show narrow .boolean (.int (1 : Int32)) = .int (1 : Int32) by decide)) h
      · replace h := h.2 (Classical.not_not.mp (fun q => c (decide_eq_true q)))
        refine gWp_sts gT_73 1 (f' := (27, [some (.ref 2), some (.int x1)], [.ref 2], μ1)) (cs := []) rfl trivial ?_
        refine gWp_virt gT_73 (pc := 27) (q := 2) (as := [.ref 2]) (rest := []) rfl rfl rfl rfl rfl rfl ⟨by decide, Nat.le_of_ble_eq_true rfl, by decide, Nat.le_of_ble_eq_true rfl⟩ (gWp_imp h (fun μ5 r h => ?_))
        obtain ⟨v6, rfl, h⟩ := h
        refine Or.inl ⟨_, rfl, ?_⟩
        show gWp none 73 (30, [some (.ref 2), some (.int x1)], [.int v6], μ5) _ P
        refine gWp_if gT_73 (pc := 30) rfl ⟨fun c => ?_, fun c => ?_⟩
        · replace h := h.1 (of_decide_eq_true c)
          refine gWp_sts gT_73 2 (f' := (54, [some (.ref 2), some (.int x1)], [.int (0 : Int32)], μ5)) (cs := []) rfl trivial ?_
          exact gWp_end gT_73 rfl (gEnd_int (show narrow .boolean (.int (0 : Int32)) = .int (0 : Int32) by decide)) h
        · replace h := h.2 (fun q => c (decide_eq_true q))
          refine gWp_sts gT_73 2 (f' := (54, [some (.ref 2), some (.int x1)], [.int (1 : Int32)], μ5)) (cs := []) rfl trivial ?_
          exact gWp_end gT_73 rfl (gEnd_int (show narrow .boolean (.int (1 : Int32)) = .int (1 : Int32) by decide)) h
    · replace h := h.2 (Classical.not_not.mp (fun q => c (decide_eq_true q)))
      refine gWp_sts gT_73 1 (f' := (19, [some (.ref 2), some (.int x1)], [.int (1 : Int32)], μ1)) (cs := []) rfl trivial ?_
      exact gWp_end gT_73 rfl (gEnd_int (show narrow .boolean (.int (1 : Int32)) = .int (1 : Int32) by decide)) h
  · replace h := h.2 (fun q => c (decide_eq_true q))
    refine gWp_sts gT_73 1 (f' := (10, [some (.ref 2), some (.int x1)], [.int (0 : Int32)], μ)) (cs := []) rfl trivial ?_
    exact gWp_end gT_73 rfl (gEnd_int (show narrow .boolean (.int (0 : Int32)) = .int (0 : Int32) by decide)) h
/-! Glyphmill.add -/
theorem gT_74 : gCode[74]? = some gC_74 := rfl
set_option maxRecDepth 20000 in
theorem vc_74 {μ : gMu} {x1 : Int32} {P : gMu → gRes → Prop} (h : gCl' 71 [.int x1] μ (fun μ1 r => (∃ v2, r = .inl (some (.int v2)) ∧ (((¬ v2 = 0) → (gCl' 73 [.ref 2, .int x1] μ1 (fun μ3 r => (∃ v4, r = .inl (some (.int v4)) ∧ (((¬ v4 = 0) → (gCl' 72 [.ref 2, .int x1] μ3 (fun μ5 r => (r = .inl none ∧ (P (gsI μ5 0 11 (1 : Int32)) (.inl (some (.int (gI μ5 2 1))))))))) ∧ ((v4 = 0) → (P μ3 (.inr 1)))))))) ∧ ((v2 = 0) → (gCl' 3 [.int x1] μ1 (fun μ6 r => (∃ v7, r = .inl (some (.int v7)) ∧ (((¬ v7 = 0) → (gCl' 73 [.ref 2, .int x1] μ6 (fun μ8 r => (∃ v9, r = .inl (some (.int v9)) ∧ (((¬ v9 = 0) → (gCl' 72 [.ref 2, .int x1] μ8 (fun μ10 r => (r = .inl none ∧ (P (gsI μ10 0 11 (1 : Int32)) (.inl (some (.int (gI μ10 2 1))))))))) ∧ ((v9 = 0) → (P μ8 (.inr 1)))))))) ∧ ((v7 = 0) → (P μ6 (.inr 0)))))))))))) : gWp none 74 (0, [some (.ref 0), some (.int x1)], [], μ) 0 P := by
  refine gWp_sts gT_74 1 (f' := (1, [some (.ref 0), some (.int x1)], [.int x1], μ)) (cs := []) rfl trivial ?_
  refine gWp_stat gT_74 (pc := 1) (c01 := 0) (as := [.int x1]) (rest := []) rfl (Or.inl rfl) rfl rfl rfl ⟨by decide, Nat.le_of_ble_eq_true rfl, by decide, Nat.le_of_ble_eq_true rfl⟩ (gWp_imp h (fun μ1 r h => ?_))
  obtain ⟨v2, rfl, h⟩ := h
  refine Or.inl ⟨_, rfl, ?_⟩
  show gWp none 74 (4, [some (.ref 0), some (.int x1)], [.int v2], μ1) _ P
  refine gWp_if gT_74 (pc := 4) rfl ⟨fun c => ?_, fun c => ?_⟩
  · replace h := h.1 (of_decide_eq_true c)
    refine gWp_sts gT_74 3 (f' := (29, [some (.ref 0), some (.int x1)], [.int x1, .ref 2], μ1)) (cs := []) rfl trivial ?_
    refine gWp_virt gT_74 (pc := 29) (q := 2) (as := [.ref 2, .int x1]) (rest := []) rfl rfl rfl rfl rfl rfl ⟨by decide, Nat.le_of_ble_eq_true rfl, by decide, Nat.le_of_ble_eq_true rfl⟩ (gWp_imp h (fun μ3 r h => ?_))
    obtain ⟨v4, rfl, h⟩ := h
    refine Or.inl ⟨_, rfl, ?_⟩
    show gWp none 74 (32, [some (.ref 0), some (.int x1)], [.int v4], μ3) _ P
    refine gWp_if gT_74 (pc := 32) rfl ⟨fun c => ?_, fun c => ?_⟩
    · replace h := h.1 (of_decide_eq_true c)
      refine gWp_sts gT_74 3 (f' := (50, [some (.ref 0), some (.int x1)], [.int x1, .ref 2], μ3)) (cs := []) rfl trivial ?_
      refine gWp_virt gT_74 (pc := 50) (q := 2) (as := [.ref 2, .int x1]) (rest := []) rfl rfl rfl rfl rfl rfl ⟨by decide, Nat.le_of_ble_eq_true rfl, by decide, Nat.le_of_ble_eq_true rfl⟩ (gWp_imp h (fun μ5 r h => ?_))
      obtain ⟨rfl, h⟩ := h
      refine Or.inl ⟨_, rfl, ?_⟩
      show gWp none 74 (53, [some (.ref 0), some (.int x1)], [], μ5) _ P
      refine gWp_sts gT_74 6 (f' := (65, [some (.ref 0), some (.int x1)], [.int (gI μ5 2 1)], (gsI μ5 0 11 (1 : Int32)))) (cs := [(1 : Int32) = 0 ∨ (1 : Int32) = 1]) rfl (Or.inr rfl) ?_
      exact gWp_end gT_74 rfl (gEnd_int trivial) h
    · replace h := h.2 (Classical.not_not.mp (fun q => c (decide_eq_true q)))
      exact gWp_end gT_74 rfl rfl h
  · replace h := h.2 (Classical.not_not.mp (fun q => c (decide_eq_true q)))
    refine gWp_sts gT_74 1 (f' := (8, [some (.ref 0), some (.int x1)], [.int x1], μ1)) (cs := []) rfl trivial ?_
    refine gWp_stat gT_74 (pc := 8) (c01 := 0) (as := [.int x1]) (rest := []) rfl (Or.inl rfl) rfl rfl rfl ⟨by decide, Nat.le_of_ble_eq_true rfl, by decide, Nat.le_of_ble_eq_true rfl⟩ (gWp_imp h (fun μ6 r h => ?_))
    obtain ⟨v7, rfl, h⟩ := h
    refine Or.inl ⟨_, rfl, ?_⟩
    show gWp none 74 (11, [some (.ref 0), some (.int x1)], [.int v7], μ6) _ P
    refine gWp_if gT_74 (pc := 11) rfl ⟨fun c => ?_, fun c => ?_⟩
    · replace h := h.1 (of_decide_eq_true c)
      refine gWp_sts gT_74 3 (f' := (29, [some (.ref 0), some (.int x1)], [.int x1, .ref 2], μ6)) (cs := []) rfl trivial ?_
      refine gWp_virt gT_74 (pc := 29) (q := 2) (as := [.ref 2, .int x1]) (rest := []) rfl rfl rfl rfl rfl rfl ⟨by decide, Nat.le_of_ble_eq_true rfl, by decide, Nat.le_of_ble_eq_true rfl⟩ (gWp_imp h (fun μ8 r h => ?_))
      obtain ⟨v9, rfl, h⟩ := h
      refine Or.inl ⟨_, rfl, ?_⟩
      show gWp none 74 (32, [some (.ref 0), some (.int x1)], [.int v9], μ8) _ P
      refine gWp_if gT_74 (pc := 32) rfl ⟨fun c => ?_, fun c => ?_⟩
      · replace h := h.1 (of_decide_eq_true c)
        refine gWp_sts gT_74 3 (f' := (50, [some (.ref 0), some (.int x1)], [.int x1, .ref 2], μ8)) (cs := []) rfl trivial ?_
        refine gWp_virt gT_74 (pc := 50) (q := 2) (as := [.ref 2, .int x1]) (rest := []) rfl rfl rfl rfl rfl rfl ⟨by decide, Nat.le_of_ble_eq_true rfl, by decide, Nat.le_of_ble_eq_true rfl⟩ (gWp_imp h (fun μ10 r h => ?_))
        obtain ⟨rfl, h⟩ := h
        refine Or.inl ⟨_, rfl, ?_⟩
        show gWp none 74 (53, [some (.ref 0), some (.int x1)], [], μ10) _ P
        refine gWp_sts gT_74 6 (f' := (65, [some (.ref 0), some (.int x1)], [.int (gI μ10 2 1)], (gsI μ10 0 11 (1 : Int32)))) (cs := [(1 : Int32) = 0 ∨ (1 : Int32) = 1]) rfl (Or.inr rfl) ?_
        exact gWp_end gT_74 rfl (gEnd_int trivial) h
      · replace h := h.2 (Classical.not_not.mp (fun q => c (decide_eq_true q)))
        exact gWp_end gT_74 rfl rfl h
    · replace h := h.2 (Classical.not_not.mp (fun q => c (decide_eq_true q)))
      exact gWp_end gT_74 rfl rfl h
/-! Glyphmill$Text.cutLast -/
theorem gT_76 : gCode[76]? = some gC_76 := rfl
set_option maxRecDepth 20000 in
theorem vc_76 {μ : gMu} {P : gMu → gRes → Prop} (h : (((gI μ 2 1) ≤ 0) → ((vp_in (gI μ 2 1) 50) ∧ ((narrow .char (.int (gI μ 3 ((gI μ 2 1).toNatClampNeg))) = .int (gI μ 3 ((gI μ 2 1).toNatClampNeg))) ∧ P μ (.inl (some (.int (gI μ 3 ((gI μ 2 1).toNatClampNeg)))))))) ∧ ((¬ (gI μ 2 1) ≤ 0) → ((vp_in ((gI μ 2 1) - (1 : Int32)) 50) ∧ ((narrow .char (.int (gI μ 3 (((gI μ 2 1) - (1 : Int32)).toNatClampNeg))) = .int (gI μ 3 (((gI μ 2 1) - (1 : Int32)).toNatClampNeg))) ∧ P (gsI μ 2 1 ((gI μ 2 1) - (1 : Int32))) (.inl (some (.int (gI μ 3 (((gI μ 2 1) - (1 : Int32)).toNatClampNeg))))))))) : gWp none 76 (0, [some (.ref 2)], [], μ) 0 P := by
  refine gWp_sts gT_76 2 (f' := (4, [some (.ref 2)], [.int (gI μ 2 1)], μ)) (cs := []) rfl trivial ?_
  refine gWp_if gT_76 (pc := 4) rfl ⟨fun c => ?_, fun c => ?_⟩
  · replace h := h.1 (of_decide_eq_true c)
    obtain ⟨c1, h⟩ := h
    refine gWp_sts gT_76 5 (f' := (26, [some (.ref 2)], [.int (gI μ 3 ((gI μ 2 1).toNatClampNeg))], μ)) (cs := [vp_in (gI μ 2 1) 50]) rfl c1 ?_
    exact gWp_end gT_76 rfl (gEnd_int h.1) h.2
  · replace h := h.2 (fun q => c (decide_eq_true q))
    obtain ⟨c1, h⟩ := h
    refine gWp_sts gT_76 11 (f' := (26, [some (.ref 2)], [.int (gI μ 3 (((gI μ 2 1) - (1 : Int32)).toNatClampNeg))], (gsI μ 2 1 ((gI μ 2 1) - (1 : Int32))))) (cs := [(Value.ref 2 : Value).category = 1, vp_in ((gI μ 2 1) - (1 : Int32)) 50]) rfl ⟨rfl, c1⟩ ?_
    exact gWp_end gT_76 rfl (gEnd_int h.1) h.2
/-! Glyphmill.removeLast -/
theorem gT_77 : gCode[77]? = some gC_77 := rfl
set_option maxRecDepth 20000 in
theorem vc_77 {μ : gMu} {P : gMu → gRes → Prop} (h : ((¬ (gI μ 2 1) = 0) → (gCl' 76 [.ref 2] (gsI μ 0 11 (1 : Int32)) (fun μ1 r => (∃ v2, r = .inl (some (.int v2)) ∧ ((narrow .char (.int v2) = .int v2) ∧ P μ1 (.inl (some (.int v2)))))))) ∧ (((gI μ 2 1) = 0) → (P μ (.inr 4)))) : gWp none 77 (0, [some (.ref 0)], [], μ) 0 P := by
  refine gWp_sts gT_77 3 (f' := (7, [some (.ref 0)], [.int (gI μ 2 1)], μ)) (cs := []) rfl trivial ?_
  refine gWp_if gT_77 (pc := 7) rfl ⟨fun c => ?_, fun c => ?_⟩
  · replace h := h.1 (of_decide_eq_true c)
    refine gWp_sts gT_77 5 (f' := (29, [some (.ref 0)], [.ref 2], (gsI μ 0 11 (1 : Int32)))) (cs := [(1 : Int32) = 0 ∨ (1 : Int32) = 1]) rfl (Or.inr rfl) ?_
    refine gWp_virt gT_77 (pc := 29) (q := 2) (as := [.ref 2]) (rest := []) rfl rfl rfl rfl rfl rfl ⟨by decide, Nat.le_of_ble_eq_true rfl, by decide, Nat.le_of_ble_eq_true rfl⟩ (gWp_imp h (fun μ1 r h => ?_))
    obtain ⟨v2, rfl, h⟩ := h
    refine Or.inl ⟨_, rfl, ?_⟩
    show gWp none 77 (32, [some (.ref 0)], [.int v2], μ1) _ P
    exact gWp_end gT_77 rfl (gEnd_int h.1) h.2
  · replace h := h.2 (Classical.not_not.mp (fun q => c (decide_eq_true q)))
    exact gWp_end gT_77 rfl rfl h
/-! Glyphmill$Font.changeWidth -/
theorem gT_79 : gCode[79]? = some gC_79 := rfl
set_option maxRecDepth 20000 in
theorem vc_79 {μ : gMu} {x1 : Int32} {x2 : Int32} {P : gMu → gRes → Prop} (h : ((x1 < (128 : Int32)) → ((vp_in x1 128) ∧ ((vp_in x1 128) ∧ (P (gsI μ 5 x1.toNatClampNeg x2) (.inl (some (.int (gI μ 5 x1.toNatClampNeg)))))))) ∧ ((¬ x1 < (128 : Int32)) → (P μ (.inl (some (.int (0 : Int32))))))) : gWp none 79 (0, [some (.ref 4), some (.int x1), some (.int x2), none], [], μ) 0 P := by
  refine gWp_sts gT_79 2 (f' := (4, [some (.ref 4), some (.int x1), some (.int x2), none], [.int (128 : Int32), .int x1], μ)) (cs := []) rfl trivial ?_
  refine gWp_icmp gT_79 (pc := 4) rfl ⟨fun c => ?_, fun c => ?_⟩
  · replace h := h.1 (of_decide_eq_true c)
    obtain ⟨c1, c2, h⟩ := h
    refine gWp_sts gT_79 11 (f' := (24, [some (.ref 4), some (.int x1), some (.int x2), some (.int (gI μ 5 x1.toNatClampNeg))], [.int (gI μ 5 x1.toNatClampNeg)], (gsI μ 5 x1.toNatClampNeg x2))) (cs := [vp_in x1 128, vp_in x1 128]) rfl ⟨c1, c2⟩ ?_
    exact gWp_end gT_79 rfl (gEnd_int trivial) h
  · replace h := h.2 (fun q => c (decide_eq_true q))
    refine gWp_sts gT_79 1 (f' := (8, [some (.ref 4), some (.int x1), some (.int x2), none], [.int (0 : Int32)], μ)) (cs := []) rfl trivial ?_
    exact gWp_end gT_79 rfl (gEnd_int trivial) h
/-! Glyphmill.setWidth -/
theorem gT_80 : gCode[80]? = some gC_80 := rfl
set_option maxRecDepth 20000 in
theorem vc_80 {μ : gMu} {x1 : Int32} {x2 : Int32} {P : gMu → gRes → Prop} (h : gCl' 71 [.int x1] μ (fun μ1 r => (∃ v2, r = .inl (some (.int v2)) ∧ (((v2 = 0) → (P μ1 (.inr 0))) ∧ ((¬ v2 = 0) → (((x2 < (1 : Int32)) → (P μ1 (.inr 0))) ∧ ((¬ x2 < (1 : Int32)) → (((x2 ≤ (20 : Int32)) → (gCl' 79 [.ref 4, .int x1, .int x2] (gsI μ1 0 11 (1 : Int32)) (fun μ3 r => (∃ v4, r = .inl (some (.int v4)) ∧ (P μ3 (.inl (some (.int v4)))))))) ∧ ((¬ x2 ≤ (20 : Int32)) → (P μ1 (.inr 0))))))))))) : gWp none 80 (0, [some (.ref 0), some (.int x1), some (.int x2)], [], μ) 0 P := by
  refine gWp_sts gT_80 1 (f' := (1, [some (.ref 0), some (.int x1), some (.int x2)], [.int x1], μ)) (cs := []) rfl trivial ?_
  refine gWp_stat gT_80 (pc := 1) (c01 := 0) (as := [.int x1]) (rest := []) rfl (Or.inl rfl) rfl rfl rfl ⟨by decide, Nat.le_of_ble_eq_true rfl, by decide, Nat.le_of_ble_eq_true rfl⟩ (gWp_imp h (fun μ1 r h => ?_))
  obtain ⟨v2, rfl, h⟩ := h
  refine Or.inl ⟨_, rfl, ?_⟩
  show gWp none 80 (4, [some (.ref 0), some (.int x1), some (.int x2)], [.int v2], μ1) _ P
  refine gWp_if gT_80 (pc := 4) rfl ⟨fun c => ?_, fun c => ?_⟩
  · replace h := h.1 (of_decide_eq_true c)
    exact gWp_end gT_80 rfl rfl h
  · replace h := h.2 (fun q => c (decide_eq_true q))
    refine gWp_sts gT_80 2 (f' := (9, [some (.ref 0), some (.int x1), some (.int x2)], [.int (1 : Int32), .int x2], μ1)) (cs := []) rfl trivial ?_
    refine gWp_icmp gT_80 (pc := 9) rfl ⟨fun c => ?_, fun c => ?_⟩
    · replace h := h.1 (of_decide_eq_true c)
      exact gWp_end gT_80 rfl rfl h
    · replace h := h.2 (fun q => c (decide_eq_true q))
      refine gWp_sts gT_80 2 (f' := (15, [some (.ref 0), some (.int x1), some (.int x2)], [.int (20 : Int32), .int x2], μ1)) (cs := []) rfl trivial ?_
      refine gWp_icmp gT_80 (pc := 15) rfl ⟨fun c => ?_, fun c => ?_⟩
      · replace h := h.1 (of_decide_eq_true c)
        refine gWp_sts gT_80 7 (f' := (39, [some (.ref 0), some (.int x1), some (.int x2)], [.int x2, .int x1, .ref 4], (gsI μ1 0 11 (1 : Int32)))) (cs := [(1 : Int32) = 0 ∨ (1 : Int32) = 1]) rfl (Or.inr rfl) ?_
        refine gWp_virt gT_80 (pc := 39) (q := 4) (as := [.ref 4, .int x1, .int x2]) (rest := []) rfl rfl rfl rfl rfl rfl ⟨by decide, Nat.le_of_ble_eq_true rfl, by decide, Nat.le_of_ble_eq_true rfl⟩ (gWp_imp h (fun μ3 r h => ?_))
        obtain ⟨v4, rfl, h⟩ := h
        refine Or.inl ⟨_, rfl, ?_⟩
        show gWp none 80 (42, [some (.ref 0), some (.int x1), some (.int x2)], [.int v4], μ3) _ P
        exact gWp_end gT_80 rfl (gEnd_int trivial) h
      · replace h := h.2 (fun q => c (decide_eq_true q))
        exact gWp_end gT_80 rfl rfl h
/-! Glyphmill.setLine -/
theorem gT_82 : gCode[82]? = some gC_82 := rfl
set_option maxRecDepth 20000 in
theorem vc_82 {μ : gMu} {x1 : Int32} {P : gMu → gRes → Prop} (h : ((x1 < (10 : Int32)) → (P μ (.inr 0))) ∧ ((¬ x1 < (10 : Int32)) → (((x1 ≤ (200 : Int32)) → (P (gsI (gsI μ 0 9 x1) 0 11 (1 : Int32)) (.inl (some (.int (gI μ 0 9)))))) ∧ ((¬ x1 ≤ (200 : Int32)) → (P μ (.inr 0)))))) : gWp none 82 (0, [some (.ref 0), some (.int x1), none], [], μ) 0 P := by
  refine gWp_sts gT_82 2 (f' := (3, [some (.ref 0), some (.int x1), none], [.int (10 : Int32), .int x1], μ)) (cs := []) rfl trivial ?_
  refine gWp_icmp gT_82 (pc := 3) rfl ⟨fun c => ?_, fun c => ?_⟩
  · replace h := h.1 (of_decide_eq_true c)
    exact gWp_end gT_82 rfl rfl h
  · replace h := h.2 (fun q => c (decide_eq_true q))
    refine gWp_sts gT_82 2 (f' := (10, [some (.ref 0), some (.int x1), none], [.int (200 : Int32), .int x1], μ)) (cs := []) rfl trivial ?_
    refine gWp_icmp gT_82 (pc := 10) rfl ⟨fun c => ?_, fun c => ?_⟩
    · replace h := h.1 (of_decide_eq_true c)
      refine gWp_sts gT_82 10 (f' := (39, [some (.ref 0), some (.int x1), some (.int (gI μ 0 9))], [.int (gI μ 0 9)], (gsI (gsI μ 0 9 x1) 0 11 (1 : Int32)))) (cs := [(1 : Int32) = 0 ∨ (1 : Int32) = 1]) rfl (Or.inr rfl) ?_
      exact gWp_end gT_82 rfl (gEnd_int trivial) h
    · replace h := h.2 (fun q => c (decide_eq_true q))
      exact gWp_end gT_82 rfl rfl h
/-! Glyphmill$Font.addRule -/
theorem gT_84 : gCode[84]? = some gC_84 := rfl
set_option maxRecDepth 20000 in
theorem vc_84 {μ : gMu} {x1 : Int32} {x2 : Int32} {x3 : Int32} {P : gMu → gRes → Prop} (h : (((gI μ 4 4) < (20 : Int32)) → ((vp_in (gI μ 4 4) 20) ∧ ((vp_in (gI μ 4 4) 20) ∧ ((vp_in (gI μ 4 4) 20) ∧ (P (gsI (gsI (gsI (gsI μ 6 ((gI μ 4 4).toNatClampNeg) x1) 7 ((gI μ 4 4).toNatClampNeg) (vp_nar .char x2)) 8 ((gI μ 4 4).toNatClampNeg) x3) 4 4 ((gI μ 4 4) + (1 : Int32))) (.inl (some (.int (((200 : Int32) + ((gI μ 4 4) + (1 : Int32))) - (1 : Int32)))))))))) ∧ ((¬ (gI μ 4 4) < (20 : Int32)) → (P μ (.inl (some (.int (-1 : Int32))))))) : gWp none 84 (0, [some (.ref 4), some (.int x1), some (.int x2), some (.int x3)], [], μ) 0 P := by
  refine gWp_sts gT_84 3 (f' := (6, [some (.ref 4), some (.int x1), some (.int x2), some (.int x3)], [.int (20 : Int32), .int (gI μ 4 4)], μ)) (cs := []) rfl trivial ?_
  refine gWp_icmp gT_84 (pc := 6) rfl ⟨fun c => ?_, fun c => ?_⟩
  · replace h := h.1 (of_decide_eq_true c)
    obtain ⟨c1, c2, c3, h⟩ := h
    refine gWp_sts gT_84 30 (f' := (61, [some (.ref 4), some (.int x1), some (.int x2), some (.int x3)], [.int (((200 : Int32) + ((gI μ 4 4) + (1 : Int32))) - (1 : Int32))], (gsI (gsI (gsI (gsI μ 6 ((gI μ 4 4).toNatClampNeg) x1) 7 ((gI μ 4 4).toNatClampNeg) (vp_nar .char x2)) 8 ((gI μ 4 4).toNatClampNeg) x3) 4 4 ((gI μ 4 4) + (1 : Int32))))) (cs := [vp_in (gI μ 4 4) 20, vp_in (gI μ 4 4) 20, vp_in (gI μ 4 4) 20, (Value.ref 4 : Value).category = 1]) rfl ⟨c1, c2, c3, rfl⟩ ?_
    exact gWp_end gT_84 rfl (gEnd_int trivial) h
  · replace h := h.2 (fun q => c (decide_eq_true q))
    refine gWp_sts gT_84 1 (f' := (10, [some (.ref 4), some (.int x1), some (.int x2), some (.int x3)], [.int (-1 : Int32)], μ)) (cs := []) rfl trivial ?_
    exact gWp_end gT_84 rfl (gEnd_int trivial) h
/-! Glyphmill$Font.canBegin -/
theorem gT_85 : gCode[85]? = some gC_85 := rfl
set_option maxRecDepth 20000 in
theorem vc_85 {μ : gMu} {x1 : Int32} {P : gMu → gRes → Prop} (h : gCl' 22 [.int x1] μ (fun μ1 r => (∃ v2, r = .inl (some (.int v2)) ∧ (((¬ v2 = 0) → (P μ1 (.inl (some (.int (1 : Int32)))))) ∧ ((v2 = 0) → (gCl' 8 [.ref 4, .int x1] μ1 (fun μ3 r => (∃ v4, r = .inl (some (.int v4)) ∧ (((v4 = 0) → (P μ3 (.inl (some (.int (0 : Int32)))))) ∧ ((¬ v4 = 0) → (P μ3 (.inl (some (.int (1 : Int32))))))))))))))) : gWp none 85 (0, [some (.ref 4), some (.int x1)], [], μ) 0 P := by
  refine gWp_sts gT_85 1 (f' := (1, [some (.ref 4), some (.int x1)], [.int x1], μ)) (cs := []) rfl trivial ?_
  refine gWp_stat gT_85 (pc := 1) (c01 := 1) (as := [.int x1]) (rest := []) rfl (Or.inr rfl) rfl rfl rfl ⟨by decide, Nat.le_of_ble_eq_true rfl, by decide, Nat.le_of_ble_eq_true rfl⟩ (gWp_imp h (fun μ1 r h => ?_))
  obtain ⟨v2, rfl, h⟩ := h
  refine Or.inl ⟨_, rfl, ?_⟩
  show gWp none 85 (4, [some (.ref 4), some (.int x1)], [.int v2], μ1) _ P
  refine gWp_if gT_85 (pc := 4) rfl ⟨fun c => ?_, fun c => ?_⟩
  · replace h := h.1 (of_decide_eq_true c)
    refine gWp_sts gT_85 2 (f' := (20, [some (.ref 4), some (.int x1)], [.int (1 : Int32)], μ1)) (cs := []) rfl trivial ?_
    exact gWp_end gT_85 rfl (gEnd_int (show narrow .boolean (.int (1 : Int32)) = .int (1 : Int32) by decide)) h
  · replace h := h.2 (Classical.not_not.mp (fun q => c (decide_eq_true q)))
    refine gWp_sts gT_85 2 (f' := (9, [some (.ref 4), some (.int x1)], [.int x1, .ref 4], μ1)) (cs := []) rfl trivial ?_
    refine gWp_virt gT_85 (pc := 9) (q := 4) (as := [.ref 4, .int x1]) (rest := []) rfl rfl rfl rfl rfl rfl ⟨by decide, Nat.le_of_ble_eq_true rfl, by decide, Nat.le_of_ble_eq_true rfl⟩ (gWp_imp h (fun μ3 r h => ?_))
    obtain ⟨v4, rfl, h⟩ := h
    refine Or.inl ⟨_, rfl, ?_⟩
    show gWp none 85 (12, [some (.ref 4), some (.int x1)], [.int v4], μ3) _ P
    refine gWp_if gT_85 (pc := 12) rfl ⟨fun c => ?_, fun c => ?_⟩
    · replace h := h.1 (of_decide_eq_true c)
      refine gWp_sts gT_85 1 (f' := (20, [some (.ref 4), some (.int x1)], [.int (0 : Int32)], μ3)) (cs := []) rfl trivial ?_
      exact gWp_end gT_85 rfl (gEnd_int (show narrow .boolean (.int (0 : Int32)) = .int (0 : Int32) by decide)) h
    · replace h := h.2 (fun q => c (decide_eq_true q))
      refine gWp_sts gT_85 2 (f' := (20, [some (.ref 4), some (.int x1)], [.int (1 : Int32)], μ3)) (cs := []) rfl trivial ?_
      exact gWp_end gT_85 rfl (gEnd_int (show narrow .boolean (.int (1 : Int32)) = .int (1 : Int32) by decide)) h
/-! Glyphmill.addLigature -/
theorem gT_86 : gCode[86]? = some gC_86 := rfl
set_option maxRecDepth 20000 in
theorem vc_86 {μ : gMu} {x1 : Int32} {x2 : Int32} {x3 : Int32} {P : gMu → gRes → Prop} (h : gCl' 85 [.ref 4, .int x1] μ (fun μ1 r => (∃ v2, r = .inl (some (.int v2)) ∧ (((v2 = 0) → (P μ1 (.inr 0))) ∧ ((¬ v2 = 0) → (gCl' 22 [.int x2] μ1 (fun μ3 r => (∃ v4, r = .inl (some (.int v4)) ∧ (((v4 = 0) → (P μ3 (.inr 0))) ∧ ((¬ v4 = 0) → (((x3 < (1 : Int32)) → (P μ3 (.inr 0))) ∧ ((¬ x3 < (1 : Int32)) → (((x3 ≤ (40 : Int32)) → ((((20 : Int32) ≤ (gI μ3 4 4)) → (P μ3 (.inr 1))) ∧ ((¬ (20 : Int32) ≤ (gI μ3 4 4)) → (gCl' 6 [.ref 4, .int x1, .int x2] μ3 (fun μ5 r => (∃ v6, r = .inl (some (.int v6)) ∧ (((v6 = (-1 : Int32)) → (gCl' 84 [.ref 4, .int x1, .int x2, .int x3] (gsI μ5 0 11 (1 : Int32)) (fun μ7 r => (∃ v8, r = .inl (some (.int v8)) ∧ (P μ7 (.inl (some (.int v8)))))))) ∧ ((¬ v6 = (-1 : Int32)) → (P μ5 (.inr 1)))))))))) ∧ ((¬ x3 ≤ (40 : Int32)) → (P μ3 (.inr 0)))))))))))))))) : gWp none 86 (0, [some (.ref 0), some (.int x1), some (.int x2), some (.int x3)], [], μ) 0 P := by
  refine gWp_sts gT_86 3 (f' := (5, [some (.ref 0), some (.int x1), some (.int x2), some (.int x3)], [.int x1, .ref 4], μ)) (cs := []) rfl trivial ?_
  refine gWp_virt gT_86 (pc := 5) (q := 4) (as := [.ref 4, .int x1]) (rest := []) rfl rfl rfl rfl rfl rfl ⟨by decide, Nat.le_of_ble_eq_true rfl, by decide, Nat.le_of_ble_eq_true rfl⟩ (gWp_imp h (fun μ1 r h => ?_))
  obtain ⟨v2, rfl, h⟩ := h
  refine Or.inl ⟨_, rfl, ?_⟩
  show gWp none 86 (8, [some (.ref 0), some (.int x1), some (.int x2), some (.int x3)], [.int v2], μ1) _ P
  refine gWp_if gT_86 (pc := 8) rfl ⟨fun c => ?_, fun c => ?_⟩
  · replace h := h.1 (of_decide_eq_true c)
    exact gWp_end gT_86 rfl rfl h
  · replace h := h.2 (fun q => c (decide_eq_true q))
    refine gWp_sts gT_86 1 (f' := (12, [some (.ref 0), some (.int x1), some (.int x2), some (.int x3)], [.int x2], μ1)) (cs := []) rfl trivial ?_
    refine gWp_stat gT_86 (pc := 12) (c01 := 0) (as := [.int x2]) (rest := []) rfl (Or.inl rfl) rfl rfl rfl ⟨by decide, Nat.le_of_ble_eq_true rfl, by decide, Nat.le_of_ble_eq_true rfl⟩ (gWp_imp h (fun μ3 r h => ?_))
    obtain ⟨v4, rfl, h⟩ := h
    refine Or.inl ⟨_, rfl, ?_⟩
    show gWp none 86 (15, [some (.ref 0), some (.int x1), some (.int x2), some (.int x3)], [.int v4], μ3) _ P
    refine gWp_if gT_86 (pc := 15) rfl ⟨fun c => ?_, fun c => ?_⟩
    · replace h := h.1 (of_decide_eq_true c)
      exact gWp_end gT_86 rfl rfl h
    · replace h := h.2 (fun q => c (decide_eq_true q))
      refine gWp_sts gT_86 2 (f' := (20, [some (.ref 0), some (.int x1), some (.int x2), some (.int x3)], [.int (1 : Int32), .int x3], μ3)) (cs := []) rfl trivial ?_
      refine gWp_icmp gT_86 (pc := 20) rfl ⟨fun c => ?_, fun c => ?_⟩
      · replace h := h.1 (of_decide_eq_true c)
        exact gWp_end gT_86 rfl rfl h
      · replace h := h.2 (fun q => c (decide_eq_true q))
        refine gWp_sts gT_86 2 (f' := (26, [some (.ref 0), some (.int x1), some (.int x2), some (.int x3)], [.int (40 : Int32), .int x3], μ3)) (cs := []) rfl trivial ?_
        refine gWp_icmp gT_86 (pc := 26) rfl ⟨fun c => ?_, fun c => ?_⟩
        · replace h := h.1 (of_decide_eq_true c)
          refine gWp_sts gT_86 4 (f' := (48, [some (.ref 0), some (.int x1), some (.int x2), some (.int x3)], [.int (20 : Int32), .int (gI μ3 4 4)], μ3)) (cs := []) rfl trivial ?_
          refine gWp_icmp gT_86 (pc := 48) rfl ⟨fun c => ?_, fun c => ?_⟩
          · replace h := h.1 (of_decide_eq_true c)
            exact gWp_end gT_86 rfl rfl h
          · replace h := h.2 (fun q => c (decide_eq_true q))
            refine gWp_sts gT_86 4 (f' := (57, [some (.ref 0), some (.int x1), some (.int x2), some (.int x3)], [.int x2, .int x1, .ref 4], μ3)) (cs := []) rfl trivial ?_
            refine gWp_virt gT_86 (pc := 57) (q := 4) (as := [.ref 4, .int x1, .int x2]) (rest := []) rfl rfl rfl rfl rfl rfl ⟨by decide, Nat.le_of_ble_eq_true rfl, by decide, Nat.le_of_ble_eq_true rfl⟩ (gWp_imp h (fun μ5 r h => ?_))
            obtain ⟨v6, rfl, h⟩ := h
            refine Or.inl ⟨_, rfl, ?_⟩
            show gWp none 86 (60, [some (.ref 0), some (.int x1), some (.int x2), some (.int x3)], [.int v6], μ5) _ P
            refine gWp_sts gT_86 1 (f' := (61, [some (.ref 0), some (.int x1), some (.int x2), some (.int x3)], [.int (-1 : Int32), .int v6], μ5)) (cs := []) rfl trivial ?_
            refine gWp_icmp gT_86 (pc := 61) rfl ⟨fun c => ?_, fun c => ?_⟩
            · replace h := h.1 (of_decide_eq_true c)
              refine gWp_sts gT_86 8 (f' := (86, [some (.ref 0), some (.int x1), some (.int x2), some (.int x3)], [.int x3, .int x2, .int x1, .ref 4], (gsI μ5 0 11 (1 : Int32)))) (cs := [(1 : Int32) = 0 ∨ (1 : Int32) = 1]) rfl (Or.inr rfl) ?_
              refine gWp_virt gT_86 (pc := 86) (q := 4) (as := [.ref 4, .int x1, .int x2, .int x3]) (rest := []) rfl rfl rfl rfl rfl rfl ⟨by decide, Nat.le_of_ble_eq_true rfl, by decide, Nat.le_of_ble_eq_true rfl⟩ (gWp_imp h (fun μ7 r h => ?_))
              obtain ⟨v8, rfl, h⟩ := h
              refine Or.inl ⟨_, rfl, ?_⟩
              show gWp none 86 (89, [some (.ref 0), some (.int x1), some (.int x2), some (.int x3)], [.int v8], μ7) _ P
              exact gWp_end gT_86 rfl (gEnd_int trivial) h
            · replace h := h.2 (fun q => c (decide_eq_true q))
              exact gWp_end gT_86 rfl rfl h
        · replace h := h.2 (fun q => c (decide_eq_true q))
          exact gWp_end gT_86 rfl rfl h
/-! Glyphmill.needIndex -/
theorem gT_88 : gCode[88]? = some gC_88 := rfl
set_option maxRecDepth 20000 in
theorem vc_88 {μ : gMu} {x1 : Int32} {P : gMu → gRes → Prop} (h : ((x1 < 0) → (P μ (.inr 2))) ∧ ((¬ x1 < 0) → (((x1 < (gI μ 2 1)) → (P μ (.inl none))) ∧ ((¬ x1 < (gI μ 2 1)) → (P μ (.inr 2)))))) : gWp none 88 (0, [some (.ref 0), some (.int x1)], [], μ) 0 P := by
  refine gWp_sts gT_88 1 (f' := (1, [some (.ref 0), some (.int x1)], [.int x1], μ)) (cs := []) rfl trivial ?_
  refine gWp_if gT_88 (pc := 1) rfl ⟨fun c => ?_, fun c => ?_⟩
  · replace h := h.1 (of_decide_eq_true c)
    exact gWp_end gT_88 rfl rfl h
  · replace h := h.2 (fun q => c (decide_eq_true q))
    refine gWp_sts gT_88 4 (f' := (12, [some (.ref 0), some (.int x1)], [.int (gI μ 2 1), .int x1], μ)) (cs := []) rfl trivial ?_
    refine gWp_icmp gT_88 (pc := 12) rfl ⟨fun c => ?_, fun c => ?_⟩
    · replace h := h.1 (of_decide_eq_true c)
      exact gWp_end gT_88 rfl rfl h
    · replace h := h.2 (fun q => c (decide_eq_true q))
      exact gWp_end gT_88 rfl rfl h
/-! Glyphmill.charAt -/
theorem gT_89 : gCode[89]? = some gC_89 := rfl
set_option maxRecDepth 20000 in
theorem vc_89 {μ : gMu} {x1 : Int32} {P : gMu → gRes → Prop} (h : gCl' 88 [.ref 0, .int x1] μ (fun μ1 r => (r = .inl none ∧ ((vp_in x1 50) ∧ ((narrow .char (.int (gI μ1 3 x1.toNatClampNeg)) = .int (gI μ1 3 x1.toNatClampNeg)) ∧ P μ1 (.inl (some (.int (gI μ1 3 x1.toNatClampNeg))))))) ∨ (∃ y, r = .inr y ∧ P μ1 (.inr y)))) : gWp none 89 (0, [some (.ref 0), some (.int x1)], [], μ) 0 P := by
  refine gWp_sts gT_89 2 (f' := (2, [some (.ref 0), some (.int x1)], [.int x1, .ref 0], μ)) (cs := []) rfl trivial ?_
  refine gWp_virt gT_89 (pc := 2) (q := 0) (as := [.ref 0, .int x1]) (rest := []) rfl rfl rfl rfl rfl rfl ⟨by decide, Nat.le_of_ble_eq_true rfl, by decide, Nat.le_of_ble_eq_true rfl⟩ (gWp_imp h (fun μ1 r h => ?_))
  rcases h with h | h
  · obtain ⟨rfl, h⟩ := h
    refine Or.inl ⟨_, rfl, ?_⟩
    show gWp none 89 (5, [some (.ref 0), some (.int x1)], [], μ1) _ P
    obtain ⟨c1, h⟩ := h
    refine gWp_sts gT_89 5 (f' := (14, [some (.ref 0), some (.int x1)], [.int (gI μ1 3 x1.toNatClampNeg)], μ1)) (cs := [vp_in x1 50]) rfl c1 ?_
    exact gWp_end gT_89 rfl (gEnd_int h.1) h.2
  · obtain ⟨y, rfl, h⟩ := h
    exact Or.inr (Or.inl ⟨y, rfl, rfl, h⟩)
/-! Glyphmill.slotOf -/
theorem gT_91 : gCode[91]? = some gC_91 := rfl
set_option maxRecDepth 20000 in
theorem vc_91 {μ : gMu} {x1 : Int32} {P : gMu → gRes → Prop} (h : gCl' 88 [.ref 0, .int x1] μ (fun μ1 r => (r = .inl none ∧ ((vp_in x1 50) ∧ (((¬ (gI μ1 10 x1.toNatClampNeg) = (-1 : Int32)) → (P μ1 (.inl (some (.int (gI μ1 10 x1.toNatClampNeg)))))) ∧ (((gI μ1 10 x1.toNatClampNeg) = (-1 : Int32)) → (P μ1 (.inr 3)))))) ∨ (∃ y, r = .inr y ∧ P μ1 (.inr y)))) : gWp none 91 (0, [some (.ref 0), some (.int x1), none], [], μ) 0 P := by
  refine gWp_sts gT_91 2 (f' := (2, [some (.ref 0), some (.int x1), none], [.int x1, .ref 0], μ)) (cs := []) rfl trivial ?_
  refine gWp_virt gT_91 (pc := 2) (q := 0) (as := [.ref 0, .int x1]) (rest := []) rfl rfl rfl rfl rfl rfl ⟨by decide, Nat.le_of_ble_eq_true rfl, by decide, Nat.le_of_ble_eq_true rfl⟩ (gWp_imp h (fun μ1 r h => ?_))
  rcases h with h | h
  · obtain ⟨rfl, h⟩ := h
    refine Or.inl ⟨_, rfl, ?_⟩
    show gWp none 91 (5, [some (.ref 0), some (.int x1), none], [], μ1) _ P
    obtain ⟨c1, h⟩ := h
    refine gWp_sts gT_91 8 (f' := (17, [some (.ref 0), some (.int x1), some (.int (gI μ1 10 x1.toNatClampNeg))], [.int (-1 : Int32), .int (gI μ1 10 x1.toNatClampNeg)], μ1)) (cs := [vp_in x1 50]) rfl c1 ?_
    refine gWp_icmp gT_91 (pc := 17) rfl ⟨fun c => ?_, fun c => ?_⟩
    · replace h := h.1 (of_decide_eq_true c)
      refine gWp_sts gT_91 1 (f' := (32, [some (.ref 0), some (.int x1), some (.int (gI μ1 10 x1.toNatClampNeg))], [.int (gI μ1 10 x1.toNatClampNeg)], μ1)) (cs := []) rfl trivial ?_
      exact gWp_end gT_91 rfl (gEnd_int trivial) h
    · replace h := h.2 (Classical.not_not.mp (fun q => c (decide_eq_true q)))
      exact gWp_end gT_91 rfl rfl h
  · obtain ⟨y, rfl, h⟩ := h
    exact Or.inr (Or.inl ⟨y, rfl, rfl, h⟩)
/-! Glyphmill.embeddingOf -/
theorem gT_92 : gCode[92]? = some gC_92 := rfl
set_option maxRecDepth 20000 in
theorem vc_92 {μ : gMu} {x1 : Int32} {P : gMu → gRes → Prop} (h : gCl' 62 [.ref 0] μ (fun μ1 r => (r = .inl none ∧ (gCl' 91 [.ref 0, .int x1] μ1 (fun μ2 r => (∃ v3, r = .inl (some (.int v3)) ∧ ((vp_in v3 50) ∧ (P μ2 (.inl (some (.int (gI μ2 13 v3.toNatClampNeg))))))) ∨ (∃ y, r = .inr y ∧ P μ2 (.inr y))))))) : gWp none 92 (0, [some (.ref 0), some (.int x1)], [], μ) 0 P := by
  refine gWp_sts gT_92 1 (f' := (1, [some (.ref 0), some (.int x1)], [.ref 0], μ)) (cs := []) rfl trivial ?_
  refine gWp_virt gT_92 (pc := 1) (q := 0) (as := [.ref 0]) (rest := []) rfl rfl rfl rfl rfl rfl ⟨by decide, Nat.le_of_ble_eq_true rfl, by decide, Nat.le_of_ble_eq_true rfl⟩ (gWp_imp h (fun μ1 r h => ?_))
  obtain ⟨rfl, h⟩ := h
  refine Or.inl ⟨_, rfl, ?_⟩
  show gWp none 92 (4, [some (.ref 0), some (.int x1)], [], μ1) _ P
  refine gWp_sts gT_92 5 (f' := (13, [some (.ref 0), some (.int x1)], [.int x1, .ref 0, .ref 13], μ1)) (cs := []) rfl trivial ?_
  refine gWp_virt gT_92 (pc := 13) (q := 0) (as := [.ref 0, .int x1]) (rest := [.ref 13]) rfl rfl rfl rfl rfl rfl ⟨by decide, Nat.le_of_ble_eq_true rfl, by decide, Nat.le_of_ble_eq_true rfl⟩ (gWp_imp h (fun μ2 r h => ?_))
  rcases h with h | h
  · obtain ⟨v3, rfl, h⟩ := h
    refine Or.inl ⟨_, rfl, ?_⟩
    show gWp none 92 (16, [some (.ref 0), some (.int x1)], [.int v3, .ref 13], μ2) _ P
    obtain ⟨c1, h⟩ := h
    refine gWp_sts gT_92 1 (f' := (17, [some (.ref 0), some (.int x1)], [.int (gI μ2 13 v3.toNatClampNeg)], μ2)) (cs := [vp_in v3 50]) rfl c1 ?_
    exact gWp_end gT_92 rfl (gEnd_int trivial) h
  · obtain ⟨y, rfl, h⟩ := h
    exact Or.inr (Or.inl ⟨y, rfl, rfl, h⟩)
/-! Glyphmill.levelOf -/
theorem gT_94 : gCode[94]? = some gC_94 := rfl
set_option maxRecDepth 20000 in
theorem vc_94 {μ : gMu} {x1 : Int32} {P : gMu → gRes → Prop} (h : gCl' 62 [.ref 0] μ (fun μ1 r => (r = .inl none ∧ (gCl' 91 [.ref 0, .int x1] μ1 (fun μ2 r => (∃ v3, r = .inl (some (.int v3)) ∧ ((vp_in v3 50) ∧ (P μ2 (.inl (some (.int (gI μ2 17 v3.toNatClampNeg))))))) ∨ (∃ y, r = .inr y ∧ P μ2 (.inr y))))))) : gWp none 94 (0, [some (.ref 0), some (.int x1)], [], μ) 0 P := by
  refine gWp_sts gT_94 1 (f' := (1, [some (.ref 0), some (.int x1)], [.ref 0], μ)) (cs := []) rfl trivial ?_
  refine gWp_virt gT_94 (pc := 1) (q := 0) (as := [.ref 0]) (rest := []) rfl rfl rfl rfl rfl rfl ⟨by decide, Nat.le_of_ble_eq_true rfl, by decide, Nat.le_of_ble_eq_true rfl⟩ (gWp_imp h (fun μ1 r h => ?_))
  obtain ⟨rfl, h⟩ := h
  refine Or.inl ⟨_, rfl, ?_⟩
  show gWp none 94 (4, [some (.ref 0), some (.int x1)], [], μ1) _ P
  refine gWp_sts gT_94 5 (f' := (13, [some (.ref 0), some (.int x1)], [.int x1, .ref 0, .ref 17], μ1)) (cs := []) rfl trivial ?_
  refine gWp_virt gT_94 (pc := 13) (q := 0) (as := [.ref 0, .int x1]) (rest := [.ref 17]) rfl rfl rfl rfl rfl rfl ⟨by decide, Nat.le_of_ble_eq_true rfl, by decide, Nat.le_of_ble_eq_true rfl⟩ (gWp_imp h (fun μ2 r h => ?_))
  rcases h with h | h
  · obtain ⟨v3, rfl, h⟩ := h
    refine Or.inl ⟨_, rfl, ?_⟩
    show gWp none 94 (16, [some (.ref 0), some (.int x1)], [.int v3, .ref 17], μ2) _ P
    obtain ⟨c1, h⟩ := h
    refine gWp_sts gT_94 1 (f' := (17, [some (.ref 0), some (.int x1)], [.int (gI μ2 17 v3.toNatClampNeg)], μ2)) (cs := [vp_in v3 50]) rfl c1 ?_
    exact gWp_end gT_94 rfl (gEnd_int trivial) h
  · obtain ⟨y, rfl, h⟩ := h
    exact Or.inr (Or.inl ⟨y, rfl, rfl, h⟩)
/-! Glyphmill.runOf -/
theorem gT_98 : gCode[98]? = some gC_98 := rfl
set_option maxRecDepth 20000 in
theorem vc_98 {μ : gMu} {x1 : Int32} {P : gMu → gRes → Prop} (h : gCl' 62 [.ref 0] μ (fun μ1 r => (r = .inl none ∧ (gCl' 91 [.ref 0, .int x1] μ1 (fun μ2 r => (∃ v3, r = .inl (some (.int v3)) ∧ ((vp_in v3 50) ∧ (P μ2 (.inl (some (.int (gI μ2 20 v3.toNatClampNeg))))))) ∨ (∃ y, r = .inr y ∧ P μ2 (.inr y))))))) : gWp none 98 (0, [some (.ref 0), some (.int x1)], [], μ) 0 P := by
  refine gWp_sts gT_98 1 (f' := (1, [some (.ref 0), some (.int x1)], [.ref 0], μ)) (cs := []) rfl trivial ?_
  refine gWp_virt gT_98 (pc := 1) (q := 0) (as := [.ref 0]) (rest := []) rfl rfl rfl rfl rfl rfl ⟨by decide, Nat.le_of_ble_eq_true rfl, by decide, Nat.le_of_ble_eq_true rfl⟩ (gWp_imp h (fun μ1 r h => ?_))
  obtain ⟨rfl, h⟩ := h
  refine Or.inl ⟨_, rfl, ?_⟩
  show gWp none 98 (4, [some (.ref 0), some (.int x1)], [], μ1) _ P
  refine gWp_sts gT_98 5 (f' := (13, [some (.ref 0), some (.int x1)], [.int x1, .ref 0, .ref 20], μ1)) (cs := []) rfl trivial ?_
  refine gWp_virt gT_98 (pc := 13) (q := 0) (as := [.ref 0, .int x1]) (rest := [.ref 20]) rfl rfl rfl rfl rfl rfl ⟨by decide, Nat.le_of_ble_eq_true rfl, by decide, Nat.le_of_ble_eq_true rfl⟩ (gWp_imp h (fun μ2 r h => ?_))
  rcases h with h | h
  · obtain ⟨v3, rfl, h⟩ := h
    refine Or.inl ⟨_, rfl, ?_⟩
    show gWp none 98 (16, [some (.ref 0), some (.int x1)], [.int v3, .ref 20], μ2) _ P
    obtain ⟨c1, h⟩ := h
    refine gWp_sts gT_98 1 (f' := (17, [some (.ref 0), some (.int x1)], [.int (gI μ2 20 v3.toNatClampNeg)], μ2)) (cs := [vp_in v3 50]) rfl c1 ?_
    exact gWp_end gT_98 rfl (gEnd_int trivial) h
  · obtain ⟨y, rfl, h⟩ := h
    exact Or.inr (Or.inl ⟨y, rfl, rfl, h⟩)
/-! Glyphmill.glyphAround -/
theorem gT_100 : gCode[100]? = some gC_100 := rfl
set_option maxRecDepth 20000 in
theorem vc_100 {μ : gMu} {x1 : Int32} {P : gMu → gRes → Prop} (h : gCl' 91 [.ref 0, .int x1] μ (fun μ1 r => (∃ v2, r = .inl (some (.int v2)) ∧ ((vp_in v2 50) ∧ (P μ1 (.inl (some (.int (gI μ1 22 v2.toNatClampNeg))))))) ∨ (∃ y, r = .inr y ∧ P μ1 (.inr y)))) : gWp none 100 (0, [some (.ref 0), some (.int x1)], [], μ) 0 P := by
  refine gWp_sts gT_100 5 (f' := (9, [some (.ref 0), some (.int x1)], [.int x1, .ref 0, .ref 22], μ)) (cs := []) rfl trivial ?_
  refine gWp_virt gT_100 (pc := 9) (q := 0) (as := [.ref 0, .int x1]) (rest := [.ref 22]) rfl rfl rfl rfl rfl rfl ⟨by decide, Nat.le_of_ble_eq_true rfl, by decide, Nat.le_of_ble_eq_true rfl⟩ (gWp_imp h (fun μ1 r h => ?_))
  rcases h with h | h
  · obtain ⟨v2, rfl, h⟩ := h
    refine Or.inl ⟨_, rfl, ?_⟩
    show gWp none 100 (12, [some (.ref 0), some (.int x1)], [.int v2, .ref 22], μ1) _ P
    obtain ⟨c1, h⟩ := h
    refine gWp_sts gT_100 1 (f' := (13, [some (.ref 0), some (.int x1)], [.int (gI μ1 22 v2.toNatClampNeg)], μ1)) (cs := [vp_in v2 50]) rfl c1 ?_
    exact gWp_end gT_100 rfl (gEnd_int trivial) h
  · obtain ⟨y, rfl, h⟩ := h
    exact Or.inr (Or.inl ⟨y, rfl, rfl, h⟩)
/-! Glyphmill.glyphOf -/
theorem gT_101 : gCode[101]? = some gC_101 := rfl
set_option maxRecDepth 20000 in
theorem vc_101 {μ : gMu} {x1 : Int32} {P : gMu → gRes → Prop} (h : gCl' 62 [.ref 0] μ (fun μ1 r => (r = .inl none ∧ (gCl' 100 [.ref 0, .int x1] μ1 (fun μ2 r => (∃ v3, r = .inl (some (.int v3)) ∧ ((vp_in v3 50) ∧ (P μ2 (.inl (some (.int (gI μ2 23 v3.toNatClampNeg))))))) ∨ (∃ y, r = .inr y ∧ P μ2 (.inr y))))))) : gWp none 101 (0, [some (.ref 0), some (.int x1)], [], μ) 0 P := by
  refine gWp_sts gT_101 1 (f' := (1, [some (.ref 0), some (.int x1)], [.ref 0], μ)) (cs := []) rfl trivial ?_
  refine gWp_virt gT_101 (pc := 1) (q := 0) (as := [.ref 0]) (rest := []) rfl rfl rfl rfl rfl rfl ⟨by decide, Nat.le_of_ble_eq_true rfl, by decide, Nat.le_of_ble_eq_true rfl⟩ (gWp_imp h (fun μ1 r h => ?_))
  obtain ⟨rfl, h⟩ := h
  refine Or.inl ⟨_, rfl, ?_⟩
  show gWp none 101 (4, [some (.ref 0), some (.int x1)], [], μ1) _ P
  refine gWp_sts gT_101 5 (f' := (13, [some (.ref 0), some (.int x1)], [.int x1, .ref 0, .ref 23], μ1)) (cs := []) rfl trivial ?_
  refine gWp_virt gT_101 (pc := 13) (q := 0) (as := [.ref 0, .int x1]) (rest := [.ref 23]) rfl rfl rfl rfl rfl rfl ⟨by decide, Nat.le_of_ble_eq_true rfl, by decide, Nat.le_of_ble_eq_true rfl⟩ (gWp_imp h (fun μ2 r h => ?_))
  rcases h with h | h
  · obtain ⟨v3, rfl, h⟩ := h
    refine Or.inl ⟨_, rfl, ?_⟩
    show gWp none 101 (16, [some (.ref 0), some (.int x1)], [.int v3, .ref 23], μ2) _ P
    obtain ⟨c1, h⟩ := h
    refine gWp_sts gT_101 1 (f' := (17, [some (.ref 0), some (.int x1)], [.int (gI μ2 23 v3.toNatClampNeg)], μ2)) (cs := [vp_in v3 50]) rfl c1 ?_
    exact gWp_end gT_101 rfl (gEnd_int trivial) h
  · obtain ⟨y, rfl, h⟩ := h
    exact Or.inr (Or.inl ⟨y, rfl, rfl, h⟩)
/-! Glyphmill.glyphStart -/
theorem gT_103 : gCode[103]? = some gC_103 := rfl
set_option maxRecDepth 20000 in
theorem vc_103 {μ : gMu} {x1 : Int32} {P : gMu → gRes → Prop} (h : gCl' 62 [.ref 0] μ (fun μ1 r => (r = .inl none ∧ (gCl' 100 [.ref 0, .int x1] μ1 (fun μ2 r => (∃ v3, r = .inl (some (.int v3)) ∧ (gCl' 67 [.ref 0, .int v3] μ2 (fun μ4 r => (∃ v5, r = .inl (some (.int v5)) ∧ (P μ4 (.inl (some (.int v5)))))))) ∨ (∃ y, r = .inr y ∧ P μ2 (.inr y))))))) : gWp none 103 (0, [some (.ref 0), some (.int x1)], [], μ) 0 P := by
  refine gWp_sts gT_103 1 (f' := (1, [some (.ref 0), some (.int x1)], [.ref 0], μ)) (cs := []) rfl trivial ?_
  refine gWp_virt gT_103 (pc := 1) (q := 0) (as := [.ref 0]) (rest := []) rfl rfl rfl rfl rfl rfl ⟨by decide, Nat.le_of_ble_eq_true rfl, by decide, Nat.le_of_ble_eq_true rfl⟩ (gWp_imp h (fun μ1 r h => ?_))
  obtain ⟨rfl, h⟩ := h
  refine Or.inl ⟨_, rfl, ?_⟩
  show gWp none 103 (4, [some (.ref 0), some (.int x1)], [], μ1) _ P
  refine gWp_sts gT_103 3 (f' := (7, [some (.ref 0), some (.int x1)], [.int x1, .ref 0, .ref 0], μ1)) (cs := []) rfl trivial ?_
  refine gWp_virt gT_103 (pc := 7) (q := 0) (as := [.ref 0, .int x1]) (rest := [.ref 0]) rfl rfl rfl rfl rfl rfl ⟨by decide, Nat.le_of_ble_eq_true rfl, by decide, Nat.le_of_ble_eq_true rfl⟩ (gWp_imp h (fun μ2 r h => ?_))
  rcases h with h | h
  · obtain ⟨v3, rfl, h⟩ := h
    refine Or.inl ⟨_, rfl, ?_⟩
    show gWp none 103 (10, [some (.ref 0), some (.int x1)], [.int v3, .ref 0], μ2) _ P
    refine gWp_virt gT_103 (pc := 10) (q := 0) (as := [.ref 0, .int v3]) (rest := []) rfl rfl rfl rfl rfl rfl ⟨by decide, Nat.le_of_ble_eq_true rfl, by decide, Nat.le_of_ble_eq_true rfl⟩ (gWp_imp h (fun μ4 r h => ?_))
    obtain ⟨v5, rfl, h⟩ := h
    refine Or.inl ⟨_, rfl, ?_⟩
    show gWp none 103 (13, [some (.ref 0), some (.int x1)], [.int v5], μ4) _ P
    exact gWp_end gT_103 rfl (gEnd_int trivial) h
  · obtain ⟨y, rfl, h⟩ := h
    exact Or.inr (Or.inl ⟨y, rfl, rfl, h⟩)
/-! Glyphmill.needLines -/
theorem gT_107 : gCode[107]? = some gC_107 := rfl
set_option maxRecDepth 20000 in
theorem vc_107 {μ : gMu} {P : gMu → gRes → Prop} (h : gCl' 26 [.ref 32] μ (fun μ1 r => (∃ v2, r = .inl (some (.int v2)) ∧ (((¬ v2 = 0) → (P μ1 (.inl none))) ∧ ((v2 = 0) → (P μ1 (.inr 1))))))) : gWp none 107 (0, [some (.ref 0)], [], μ) 0 P := by
  refine gWp_sts gT_107 2 (f' := (4, [some (.ref 0)], [.ref 32], μ)) (cs := []) rfl trivial ?_
  refine gWp_virt gT_107 (pc := 4) (q := 32) (as := [.ref 32]) (rest := []) rfl rfl rfl rfl rfl rfl ⟨by decide, Nat.le_of_ble_eq_true rfl, by decide, Nat.le_of_ble_eq_true rfl⟩ (gWp_imp h (fun μ1 r h => ?_))
  obtain ⟨v2, rfl, h⟩ := h
  refine Or.inl ⟨_, rfl, ?_⟩
  show gWp none 107 (7, [some (.ref 0)], [.int v2], μ1) _ P
  refine gWp_if gT_107 (pc := 7) rfl ⟨fun c => ?_, fun c => ?_⟩
  · replace h := h.1 (of_decide_eq_true c)
    exact gWp_end gT_107 rfl rfl h
  · replace h := h.2 (Classical.not_not.mp (fun q => c (decide_eq_true q)))
    exact gWp_end gT_107 rfl rfl h
/-! Glyphmill.lines -/
theorem gT_108 : gCode[108]? = some gC_108 := rfl
set_option maxRecDepth 20000 in
theorem vc_108 {μ : gMu} {P : gMu → gRes → Prop} (h : gCl' 62 [.ref 0] μ (fun μ1 r => (r = .inl none ∧ (gCl' 107 [.ref 0] μ1 (fun μ2 r => (r = .inl none ∧ (P μ2 (.inl (some (.int (gI μ2 32 8)))))) ∨ (∃ y, r = .inr y ∧ P μ2 (.inr y))))))) : gWp none 108 (0, [some (.ref 0)], [], μ) 0 P := by
  refine gWp_sts gT_108 1 (f' := (1, [some (.ref 0)], [.ref 0], μ)) (cs := []) rfl trivial ?_
  refine gWp_virt gT_108 (pc := 1) (q := 0) (as := [.ref 0]) (rest := []) rfl rfl rfl rfl rfl rfl ⟨by decide, Nat.le_of_ble_eq_true rfl, by decide, Nat.le_of_ble_eq_true rfl⟩ (gWp_imp h (fun μ1 r h => ?_))
  obtain ⟨rfl, h⟩ := h
  refine Or.inl ⟨_, rfl, ?_⟩
  show gWp none 108 (4, [some (.ref 0)], [], μ1) _ P
  refine gWp_sts gT_108 1 (f' := (5, [some (.ref 0)], [.ref 0], μ1)) (cs := []) rfl trivial ?_
  refine gWp_virt gT_108 (pc := 5) (q := 0) (as := [.ref 0]) (rest := []) rfl rfl rfl rfl rfl rfl ⟨by decide, Nat.le_of_ble_eq_true rfl, by decide, Nat.le_of_ble_eq_true rfl⟩ (gWp_imp h (fun μ2 r h => ?_))
  rcases h with h | h
  · obtain ⟨rfl, h⟩ := h
    refine Or.inl ⟨_, rfl, ?_⟩
    show gWp none 108 (8, [some (.ref 0)], [], μ2) _ P
    refine gWp_sts gT_108 3 (f' := (15, [some (.ref 0)], [.int (gI μ2 32 8)], μ2)) (cs := []) rfl trivial ?_
    exact gWp_end gT_108 rfl (gEnd_int trivial) h
  · obtain ⟨y, rfl, h⟩ := h
    exact Or.inr (Or.inl ⟨y, rfl, rfl, h⟩)
/-! Glyphmill$Lines.countFirstFit -/
theorem gT_110 : gCode[110]? = some gC_110 := rfl
set_option maxRecDepth 20000 in
theorem vc_110_6 {μ : gMu} {x1 : Int32} {x2 : Int32} {x3 : Int32} {P : gMu → gRes → Prop} (h : (((gI μ 29 3) < x3) → (P μ (.inl (some (.int x1))))) ∧ ((¬ (gI μ 29 3) < x3) → (((¬ (gI μ 29 4) = 0) → (P μ (.inl (some (.int x1))))) ∧ (((gI μ 29 4) = 0) → (((x1 = 0) → (gWp none 110 (6, [some (.ref 32), some (.int (x1 + (1 : Int32))), some (.int (x3 - (1 : Int32))), some (.int (x3 + (1 : Int32)))], [], μ) 0 P)) ∧ ((¬ x1 = 0) → (gCl' 29 [.ref 32, .int x2, .int x3] μ (fun μ1 r => (∃ v2, r = .inl (some (.int v2)) ∧ (((0 ≤ v2) → (gWp none 110 (6, [some (.ref 32), some (.int x1), some (.int x2), some (.int (x3 + (1 : Int32)))], [], μ1) 0 P)) ∧ ((¬ 0 ≤ v2) → (gWp none 110 (6, [some (.ref 32), some (.int (x1 + (1 : Int32))), some (.int (x3 - (1 : Int32))), some (.int (x3 + (1 : Int32)))], [], μ1) 0 P)))))))))))) : gWp none 110 (6, [some (.ref 32), some (.int x1), some (.int x2), some (.int x3)], [], μ) 0 P := by
  refine gWp_sts gT_110 4 (f' := (14, [some (.ref 32), some (.int x1), some (.int x2), some (.int x3)], [.int (gI μ 29 3), .int x3], μ)) (cs := []) rfl trivial ?_
  refine gWp_icmp gT_110 (pc := 14) rfl ⟨fun c => ?_, fun c => ?_⟩
  · replace h := h.1 (of_decide_eq_true c)
    refine gWp_sts gT_110 1 (f' := (54, [some (.ref 32), some (.int x1), some (.int x2), some (.int x3)], [.int x1], μ)) (cs := []) rfl trivial ?_
    exact gWp_end gT_110 rfl (gEnd_int trivial) h
  · replace h := h.2 (fun q => c (decide_eq_true q))
    refine gWp_sts gT_110 3 (f' := (24, [some (.ref 32), some (.int x1), some (.int x2), some (.int x3)], [.int (gI μ 29 4)], μ)) (cs := []) rfl trivial ?_
    refine gWp_if gT_110 (pc := 24) rfl ⟨fun c => ?_, fun c => ?_⟩
    · replace h := h.1 (of_decide_eq_true c)
      refine gWp_sts gT_110 1 (f' := (54, [some (.ref 32), some (.int x1), some (.int x2), some (.int x3)], [.int x1], μ)) (cs := []) rfl trivial ?_
      exact gWp_end gT_110 rfl (gEnd_int trivial) h
    · replace h := h.2 (Classical.not_not.mp (fun q => c (decide_eq_true q)))
      refine gWp_sts gT_110 1 (f' := (28, [some (.ref 32), some (.int x1), some (.int x2), some (.int x3)], [.int x1], μ)) (cs := []) rfl trivial ?_
      refine gWp_if gT_110 (pc := 28) rfl ⟨fun c => ?_, fun c => ?_⟩
      · replace h := h.1 (of_decide_eq_true c)
        refine gWp_sts gT_110 7 (f' := (6, [some (.ref 32), some (.int (x1 + (1 : Int32))), some (.int (x3 - (1 : Int32))), some (.int (x3 + (1 : Int32)))], [], μ)) (cs := []) rfl trivial ?_
        exact h
      · replace h := h.2 (fun q => c (decide_eq_true q))
        refine gWp_sts gT_110 3 (f' := (34, [some (.ref 32), some (.int x1), some (.int x2), some (.int x3)], [.int x3, .int x2, .ref 32], μ)) (cs := []) rfl trivial ?_
        refine gWp_virt gT_110 (pc := 34) (q := 32) (as := [.ref 32, .int x2, .int x3]) (rest := []) rfl rfl rfl rfl rfl rfl ⟨by decide, Nat.le_of_ble_eq_true rfl, by decide, Nat.le_of_ble_eq_true rfl⟩ (gWp_imp h (fun μ1 r h => ?_))
        obtain ⟨v2, rfl, h⟩ := h
        refine Or.inl ⟨_, rfl, ?_⟩
        show gWp none 110 (37, [some (.ref 32), some (.int x1), some (.int x2), some (.int x3)], [.int v2], μ1) _ P
        refine gWp_if gT_110 (pc := 37) rfl ⟨fun c => ?_, fun c => ?_⟩
        · replace h := h.1 (of_decide_eq_true c)
          refine gWp_sts gT_110 2 (f' := (6, [some (.ref 32), some (.int x1), some (.int x2), some (.int (x3 + (1 : Int32)))], [], μ1)) (cs := []) rfl trivial ?_
          exact h
        · replace h := h.2 (fun q => c (decide_eq_true q))
          refine gWp_sts gT_110 7 (f' := (6, [some (.ref 32), some (.int (x1 + (1 : Int32))), some (.int (x3 - (1 : Int32))), some (.int (x3 + (1 : Int32)))], [], μ1)) (cs := []) rfl trivial ?_
          exact h
set_option maxRecDepth 20000 in
theorem vc_110 {μ : gMu} {P : gMu → gRes → Prop} (h : gWp none 110 (6, [some (.ref 32), some (.int (0 : Int32)), some (.int (0 : Int32)), some (.int (1 : Int32))], [], μ) 0 P) : gWp none 110 (0, [some (.ref 32), none, none, none], [], μ) 0 P := by
  refine gWp_sts gT_110 6 (f' := (6, [some (.ref 32), some (.int (0 : Int32)), some (.int (0 : Int32)), some (.int (1 : Int32))], [], μ)) (cs := []) rfl trivial ?_
  exact h
/-! Glyphmill.linesByFirstFit -/
theorem gT_111 : gCode[111]? = some gC_111 := rfl
set_option maxRecDepth 20000 in
theorem vc_111 {μ : gMu} {P : gMu → gRes → Prop} (h : gCl' 62 [.ref 0] μ (fun μ1 r => (r = .inl none ∧ (gCl' 107 [.ref 0] μ1 (fun μ2 r => (r = .inl none ∧ (gCl' 110 [.ref 32] μ2 (fun μ3 r => (∃ v4, r = .inl (some (.int v4)) ∧ (P μ3 (.inl (some (.int v4)))))))) ∨ (∃ y, r = .inr y ∧ P μ2 (.inr y))))))) : gWp none 111 (0, [some (.ref 0)], [], μ) 0 P := by
  refine gWp_sts gT_111 1 (f' := (1, [some (.ref 0)], [.ref 0], μ)) (cs := []) rfl trivial ?_
  refine gWp_virt gT_111 (pc := 1) (q := 0) (as := [.ref 0]) (rest := []) rfl rfl rfl rfl rfl rfl ⟨by decide, Nat.le_of_ble_eq_true rfl, by decide, Nat.le_of_ble_eq_true rfl⟩ (gWp_imp h (fun μ1 r h => ?_))
  obtain ⟨rfl, h⟩ := h
  refine Or.inl ⟨_, rfl, ?_⟩
  show gWp none 111 (4, [some (.ref 0)], [], μ1) _ P
  refine gWp_sts gT_111 1 (f' := (5, [some (.ref 0)], [.ref 0], μ1)) (cs := []) rfl trivial ?_
  refine gWp_virt gT_111 (pc := 5) (q := 0) (as := [.ref 0]) (rest := []) rfl rfl rfl rfl rfl rfl ⟨by decide, Nat.le_of_ble_eq_true rfl, by decide, Nat.le_of_ble_eq_true rfl⟩ (gWp_imp h (fun μ2 r h => ?_))
  rcases h with h | h
  · obtain ⟨rfl, h⟩ := h
    refine Or.inl ⟨_, rfl, ?_⟩
    show gWp none 111 (8, [some (.ref 0)], [], μ2) _ P
    refine gWp_sts gT_111 2 (f' := (12, [some (.ref 0)], [.ref 32], μ2)) (cs := []) rfl trivial ?_
    refine gWp_virt gT_111 (pc := 12) (q := 32) (as := [.ref 32]) (rest := []) rfl rfl rfl rfl rfl rfl ⟨by decide, Nat.le_of_ble_eq_true rfl, by decide, Nat.le_of_ble_eq_true rfl⟩ (gWp_imp h (fun μ3 r h => ?_))
    obtain ⟨v4, rfl, h⟩ := h
    refine Or.inl ⟨_, rfl, ?_⟩
    show gWp none 111 (15, [some (.ref 0)], [.int v4], μ3) _ P
    exact gWp_end gT_111 rfl (gEnd_int trivial) h
  · obtain ⟨y, rfl, h⟩ := h
    exact Or.inr (Or.inl ⟨y, rfl, rfl, h⟩)
/-! Glyphmill.needLine -/
theorem gT_113 : gCode[113]? = some gC_113 := rfl
set_option maxRecDepth 20000 in
theorem vc_113 {μ : gMu} {x1 : Int32} {P : gMu → gRes → Prop} (h : gCl' 107 [.ref 0] μ (fun μ1 r => (r = .inl none ∧ (((x1 < 0) → (P μ1 (.inr 2))) ∧ ((¬ x1 < 0) → (((x1 < (gI μ1 32 8)) → (P μ1 (.inl none))) ∧ ((¬ x1 < (gI μ1 32 8)) → (P μ1 (.inr 2))))))) ∨ (∃ y, r = .inr y ∧ P μ1 (.inr y)))) : gWp none 113 (0, [some (.ref 0), some (.int x1)], [], μ) 0 P := by
  refine gWp_sts gT_113 1 (f' := (1, [some (.ref 0), some (.int x1)], [.ref 0], μ)) (cs := []) rfl trivial ?_
  refine gWp_virt gT_113 (pc := 1) (q := 0) (as := [.ref 0]) (rest := []) rfl rfl rfl rfl rfl rfl ⟨by decide, Nat.le_of_ble_eq_true rfl, by decide, Nat.le_of_ble_eq_true rfl⟩ (gWp_imp h (fun μ1 r h => ?_))
  rcases h with h | h
  · obtain ⟨rfl, h⟩ := h
    refine Or.inl ⟨_, rfl, ?_⟩
    show gWp none 113 (4, [some (.ref 0), some (.int x1)], [], μ1) _ P
    refine gWp_sts gT_113 1 (f' := (5, [some (.ref 0), some (.int x1)], [.int x1], μ1)) (cs := []) rfl trivial ?_
    refine gWp_if gT_113 (pc := 5) rfl ⟨fun c => ?_, fun c => ?_⟩
    · replace h := h.1 (of_decide_eq_true c)
      exact gWp_end gT_113 rfl rfl h
    · replace h := h.2 (fun q => c (decide_eq_true q))
      refine gWp_sts gT_113 4 (f' := (16, [some (.ref 0), some (.int x1)], [.int (gI μ1 32 8), .int x1], μ1)) (cs := []) rfl trivial ?_
      refine gWp_icmp gT_113 (pc := 16) rfl ⟨fun c => ?_, fun c => ?_⟩
      · replace h := h.1 (of_decide_eq_true c)
        exact gWp_end gT_113 rfl rfl h
      · replace h := h.2 (fun q => c (decide_eq_true q))
        exact gWp_end gT_113 rfl rfl h
  · obtain ⟨y, rfl, h⟩ := h
    exact Or.inr (Or.inl ⟨y, rfl, rfl, h⟩)
/-! Glyphmill.firstOf -/
theorem gT_114 : gCode[114]? = some gC_114 := rfl
set_option maxRecDepth 20000 in
theorem vc_114 {μ : gMu} {x1 : Int32} {P : gMu → gRes → Prop} (h : gCl' 62 [.ref 0] μ (fun μ1 r => (r = .inl none ∧ (gCl' 113 [.ref 0, .int x1] μ1 (fun μ2 r => (r = .inl none ∧ (gCl' 51 [.ref 38, .int x1] μ2 (fun μ3 r => (∃ v4, r = .inl (some (.int v4)) ∧ (gCl' 67 [.ref 0, .int v4] μ3 (fun μ5 r => (∃ v6, r = .inl (some (.int v6)) ∧ (P μ5 (.inl (some (.int v6))))))))))) ∨ (∃ y, r = .inr y ∧ P μ2 (.inr y))))))) : gWp none 114 (0, [some (.ref 0), some (.int x1)], [], μ) 0 P := by
  refine gWp_sts gT_114 1 (f' := (1, [some (.ref 0), some (.int x1)], [.ref 0], μ)) (cs := []) rfl trivial ?_
  refine gWp_virt gT_114 (pc := 1) (q := 0) (as := [.ref 0]) (rest := []) rfl rfl rfl rfl rfl rfl ⟨by decide, Nat.le_of_ble_eq_true rfl, by decide, Nat.le_of_ble_eq_true rfl⟩ (gWp_imp h (fun μ1 r h => ?_))
  obtain ⟨rfl, h⟩ := h
  refine Or.inl ⟨_, rfl, ?_⟩
  show gWp none 114 (4, [some (.ref 0), some (.int x1)], [], μ1) _ P
  refine gWp_sts gT_114 2 (f' := (6, [some (.ref 0), some (.int x1)], [.int x1, .ref 0], μ1)) (cs := []) rfl trivial ?_
  refine gWp_virt gT_114 (pc := 6) (q := 0) (as := [.ref 0, .int x1]) (rest := []) rfl rfl rfl rfl rfl rfl ⟨by decide, Nat.le_of_ble_eq_true rfl, by decide, Nat.le_of_ble_eq_true rfl⟩ (gWp_imp h (fun μ2 r h => ?_))
  rcases h with h | h
  · obtain ⟨rfl, h⟩ := h
    refine Or.inl ⟨_, rfl, ?_⟩
    show gWp none 114 (9, [some (.ref 0), some (.int x1)], [], μ2) _ P
    refine gWp_sts gT_114 4 (f' := (15, [some (.ref 0), some (.int x1)], [.int x1, .ref 38, .ref 0], μ2)) (cs := []) rfl trivial ?_
    refine gWp_virt gT_114 (pc := 15) (q := 38) (as := [.ref 38, .int x1]) (rest := [.ref 0]) rfl rfl rfl rfl rfl rfl ⟨by decide, Nat.le_of_ble_eq_true rfl, by decide, Nat.le_of_ble_eq_true rfl⟩ (gWp_imp h (fun μ3 r h => ?_))
    obtain ⟨v4, rfl, h⟩ := h
    refine Or.inl ⟨_, rfl, ?_⟩
    show gWp none 114 (18, [some (.ref 0), some (.int x1)], [.int v4, .ref 0], μ3) _ P
    refine gWp_virt gT_114 (pc := 18) (q := 0) (as := [.ref 0, .int v4]) (rest := []) rfl rfl rfl rfl rfl rfl ⟨by decide, Nat.le_of_ble_eq_true rfl, by decide, Nat.le_of_ble_eq_true rfl⟩ (gWp_imp h (fun μ5 r h => ?_))
    obtain ⟨v6, rfl, h⟩ := h
    refine Or.inl ⟨_, rfl, ?_⟩
    show gWp none 114 (21, [some (.ref 0), some (.int x1)], [.int v6], μ5) _ P
    exact gWp_end gT_114 rfl (gEnd_int trivial) h
  · obtain ⟨y, rfl, h⟩ := h
    exact Or.inr (Or.inl ⟨y, rfl, rfl, h⟩)
/-! Glyphmill.glyphInLines -/
theorem gT_116 : gCode[116]? = some gC_116 := rfl
set_option maxRecDepth 20000 in
theorem vc_116 {μ : gMu} {x1 : Int32} {P : gMu → gRes → Prop} (h : gCl' 100 [.ref 0, .int x1] μ (fun μ1 r => (∃ v2, r = .inl (some (.int v2)) ∧ (gCl' 107 [.ref 0] μ1 (fun μ3 r => (r = .inl none ∧ (((¬ (gI μ3 32 8) = 0) → (P μ3 (.inl (some (.int v2))))) ∧ (((gI μ3 32 8) = 0) → (P μ3 (.inr 4))))) ∨ (∃ y, r = .inr y ∧ P μ3 (.inr y))))) ∨ (∃ y, r = .inr y ∧ P μ1 (.inr y)))) : gWp none 116 (0, [some (.ref 0), some (.int x1), none], [], μ) 0 P := by
  refine gWp_sts gT_116 2 (f' := (2, [some (.ref 0), some (.int x1), none], [.int x1, .ref 0], μ)) (cs := []) rfl trivial ?_
  refine gWp_virt gT_116 (pc := 2) (q := 0) (as := [.ref 0, .int x1]) (rest := []) rfl rfl rfl rfl rfl rfl ⟨by decide, Nat.le_of_ble_eq_true rfl, by decide, Nat.le_of_ble_eq_true rfl⟩ (gWp_imp h (fun μ1 r h => ?_))
  rcases h with h | h
  · obtain ⟨v2, rfl, h⟩ := h
    refine Or.inl ⟨_, rfl, ?_⟩
    show gWp none 116 (5, [some (.ref 0), some (.int x1), none], [.int v2], μ1) _ P
    refine gWp_sts gT_116 2 (f' := (7, [some (.ref 0), some (.int x1), some (.int v2)], [.ref 0], μ1)) (cs := []) rfl trivial ?_
    refine gWp_virt gT_116 (pc := 7) (q := 0) (as := [.ref 0]) (rest := []) rfl rfl rfl rfl rfl rfl ⟨by decide, Nat.le_of_ble_eq_true rfl, by decide, Nat.le_of_ble_eq_true rfl⟩ (gWp_imp h (fun μ3 r h => ?_))
    rcases h with h | h
    · obtain ⟨rfl, h⟩ := h
      refine Or.inl ⟨_, rfl, ?_⟩
      show gWp none 116 (10, [some (.ref 0), some (.int x1), some (.int v2)], [], μ3) _ P
      refine gWp_sts gT_116 3 (f' := (17, [some (.ref 0), some (.int x1), some (.int v2)], [.int (gI μ3 32 8)], μ3)) (cs := []) rfl trivial ?_
      refine gWp_if gT_116 (pc := 17) rfl ⟨fun c => ?_, fun c => ?_⟩
      · replace h := h.1 (of_decide_eq_true c)
        refine gWp_sts gT_116 1 (f' := (32, [some (.ref 0), some (.int x1), some (.int v2)], [.int v2], μ3)) (cs := []) rfl trivial ?_
        exact gWp_end gT_116 rfl (gEnd_int trivial) h
      · replace h := h.2 (Classical.not_not.mp (fun q => c (decide_eq_true q)))
        exact gWp_end gT_116 rfl rfl h
    · obtain ⟨y, rfl, h⟩ := h
      exact Or.inr (Or.inl ⟨y, rfl, rfl, h⟩)
  · obtain ⟨y, rfl, h⟩ := h
    exact Or.inr (Or.inl ⟨y, rfl, rfl, h⟩)
/-! Glyphmill.lineOf -/
theorem gT_117 : gCode[117]? = some gC_117 := rfl
set_option maxRecDepth 20000 in
theorem vc_117 {μ : gMu} {x1 : Int32} {P : gMu → gRes → Prop} (h : gCl' 62 [.ref 0] μ (fun μ1 r => (r = .inl none ∧ (gCl' 116 [.ref 0, .int x1] μ1 (fun μ2 r => (∃ v3, r = .inl (some (.int v3)) ∧ ((vp_in v3 50) ∧ (P μ2 (.inl (some (.int (gI μ2 39 v3.toNatClampNeg))))))) ∨ (∃ y, r = .inr y ∧ P μ2 (.inr y))))))) : gWp none 117 (0, [some (.ref 0), some (.int x1)], [], μ) 0 P := by
  refine gWp_sts gT_117 1 (f' := (1, [some (.ref 0), some (.int x1)], [.ref 0], μ)) (cs := []) rfl trivial ?_
  refine gWp_virt gT_117 (pc := 1) (q := 0) (as := [.ref 0]) (rest := []) rfl rfl rfl rfl rfl rfl ⟨by decide, Nat.le_of_ble_eq_true rfl, by decide, Nat.le_of_ble_eq_true rfl⟩ (gWp_imp h (fun μ1 r h => ?_))
  obtain ⟨rfl, h⟩ := h
  refine Or.inl ⟨_, rfl, ?_⟩
  show gWp none 117 (4, [some (.ref 0), some (.int x1)], [], μ1) _ P
  refine gWp_sts gT_117 5 (f' := (13, [some (.ref 0), some (.int x1)], [.int x1, .ref 0, .ref 39], μ1)) (cs := []) rfl trivial ?_
  refine gWp_virt gT_117 (pc := 13) (q := 0) (as := [.ref 0, .int x1]) (rest := [.ref 39]) rfl rfl rfl rfl rfl rfl ⟨by decide, Nat.le_of_ble_eq_true rfl, by decide, Nat.le_of_ble_eq_true rfl⟩ (gWp_imp h (fun μ2 r h => ?_))
  rcases h with h | h
  · obtain ⟨v3, rfl, h⟩ := h
    refine Or.inl ⟨_, rfl, ?_⟩
    show gWp none 117 (16, [some (.ref 0), some (.int x1)], [.int v3, .ref 39], μ2) _ P
    obtain ⟨c1, h⟩ := h
    refine gWp_sts gT_117 1 (f' := (17, [some (.ref 0), some (.int x1)], [.int (gI μ2 39 v3.toNatClampNeg)], μ2)) (cs := [vp_in v3 50]) rfl c1 ?_
    exact gWp_end gT_117 rfl (gEnd_int trivial) h
  · obtain ⟨y, rfl, h⟩ := h
    exact Or.inr (Or.inl ⟨y, rfl, rfl, h⟩)
/-! Glyphmill.widthOf -/
theorem gT_119 : gCode[119]? = some gC_119 := rfl
set_option maxRecDepth 20000 in
theorem vc_119 {μ : gMu} {x1 : Int32} {P : gMu → gRes → Prop} (h : gCl' 62 [.ref 0] μ (fun μ1 r => (r = .inl none ∧ (gCl' 113 [.ref 0, .int x1] μ1 (fun μ2 r => (r = .inl none ∧ ((vp_in x1 51) ∧ ((vp_in (x1 + (1 : Int32)) 51) ∧ (gCl' 28 [.ref 29, .int (gI μ2 37 x1.toNatClampNeg), .int (gI μ2 37 ((x1 + (1 : Int32)).toNatClampNeg))] μ2 (fun μ3 r => (∃ v4, r = .inl (some (.int v4)) ∧ (P μ3 (.inl (some (.int v4)))))))))) ∨ (∃ y, r = .inr y ∧ P μ2 (.inr y))))))) : gWp none 119 (0, [some (.ref 0), some (.int x1)], [], μ) 0 P := by
  refine gWp_sts gT_119 1 (f' := (1, [some (.ref 0), some (.int x1)], [.ref 0], μ)) (cs := []) rfl trivial ?_
  refine gWp_virt gT_119 (pc := 1) (q := 0) (as := [.ref 0]) (rest := []) rfl rfl rfl rfl rfl rfl ⟨by decide, Nat.le_of_ble_eq_true rfl, by decide, Nat.le_of_ble_eq_true rfl⟩ (gWp_imp h (fun μ1 r h => ?_))
  obtain ⟨rfl, h⟩ := h
  refine Or.inl ⟨_, rfl, ?_⟩
  show gWp none 119 (4, [some (.ref 0), some (.int x1)], [], μ1) _ P
  refine gWp_sts gT_119 2 (f' := (6, [some (.ref 0), some (.int x1)], [.int x1, .ref 0], μ1)) (cs := []) rfl trivial ?_
  refine gWp_virt gT_119 (pc := 6) (q := 0) (as := [.ref 0, .int x1]) (rest := []) rfl rfl rfl rfl rfl rfl ⟨by decide, Nat.le_of_ble_eq_true rfl, by decide, Nat.le_of_ble_eq_true rfl⟩ (gWp_imp h (fun μ2 r h => ?_))
  rcases h with h | h
  · obtain ⟨rfl, h⟩ := h
    refine Or.inl ⟨_, rfl, ?_⟩
    show gWp none 119 (9, [some (.ref 0), some (.int x1)], [], μ2) _ P
    obtain ⟨c1, c2, h⟩ := h
    refine gWp_sts gT_119 14 (f' := (33, [some (.ref 0), some (.int x1)], [.int (gI μ2 37 ((x1 + (1 : Int32)).toNatClampNeg)), .int (gI μ2 37 x1.toNatClampNeg), .ref 29], μ2)) (cs := [vp_in x1 51, vp_in (x1 + (1 : Int32)) 51]) rfl ⟨c1, c2⟩ ?_
    refine gWp_virt gT_119 (pc := 33) (q := 29) (as := [.ref 29, .int (gI μ2 37 x1.toNatClampNeg), .int (gI μ2 37 ((x1 + (1 : Int32)).toNatClampNeg))]) (rest := []) rfl rfl rfl rfl rfl rfl ⟨by decide, Nat.le_of_ble_eq_true rfl, by decide, Nat.le_of_ble_eq_true rfl⟩ (gWp_imp h (fun μ3 r h => ?_))
    obtain ⟨v4, rfl, h⟩ := h
    refine Or.inl ⟨_, rfl, ?_⟩
    show gWp none 119 (36, [some (.ref 0), some (.int x1)], [.int v4], μ3) _ P
    exact gWp_end gT_119 rfl (gEnd_int trivial) h
  · obtain ⟨y, rfl, h⟩ := h
    exact Or.inr (Or.inl ⟨y, rfl, rfl, h⟩)
