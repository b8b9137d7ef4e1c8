/-! WHAT EACH METHOD OWES (methods 0 to 59), from its entry and from each head of a loop; written by wip/p41/vcgen.py -/
def gI (μ : gMu) (a j : Nat) : Int32 := μ.1 a j
def gJ (μ : gMu) (a j : Nat) : Int64 := μ.2.1 a j
def gD (μ : gMu) (a j : Nat) : UInt64 := μ.2.2 a j

/-! java/util/Arrays.fill -/
theorem gT_0 : gCode[0]? = some gC_0 := rfl
set_option maxRecDepth 20000 in
theorem vc_0_5 {μ : gMu} {x1 : Int32} {x2 : Int32} {x3 : Int32} {P : gMu → gRes → Prop} {q n : Nat} (hq : gArr q = some (0, n)) (hsc : q ≠ gSC) (h : ((x3 ≤ x2) → (P μ (.inl none))) ∧ ((¬ x3 ≤ x2) → ((vp_in x2 n) ∧ (gWp none 0 (5, [some (.ref q), some (.int x1), some (.int (x2 + (1 : Int32))), some (.int x3)], [], (gsI μ q x2.toNatClampNeg x1)) 0 P)))) : gWp none 0 (5, [some (.ref q), some (.int x1), some (.int x2), some (.int x3)], [], μ) 0 P := by
  refine gWp_sts gT_0 2 (f' := (7, [some (.ref q), some (.int x1), some (.int x2), some (.int x3)], [.int x3, .int x2], μ)) (cs := []) (by simp [gSts, gLk, gC_0, gStp, gLdA, gLdI, gLdJ, gPush, gALen, gIst, gJst, gSto, gSt1, gSt2, gKill, hq, hsc, Value.category]) trivial ?_
  refine gWp_icmp gT_0 (pc := 7) rfl ⟨fun c => ?_, fun c => ?_⟩
  · replace h := h.1 (of_decide_eq_true c)
    exact gWp_end gT_0 rfl rfl h
  · replace h := h.2 (fun q => c (decide_eq_true q))
    obtain ⟨c1, h⟩ := h
    refine gWp_sts gT_0 6 (f' := (5, [some (.ref q), some (.int x1), some (.int (x2 + (1 : Int32))), some (.int x3)], [], (gsI μ q x2.toNatClampNeg x1))) (cs := [vp_in x2 n]) (by simp [gSts, gLk, gC_0, gStp, gLdA, gLdI, gLdJ, gPush, gALen, gIst, gJst, gSto, gSt1, gSt2, gKill, hq, hsc, Value.category]) c1 ?_
    exact h
set_option maxRecDepth 20000 in
theorem vc_0 {μ : gMu} {x1 : Int32} {P : gMu → gRes → Prop} {q n : Nat} (hq : gArr q = some (0, n)) (hsc : q ≠ gSC) (h : gWp none 0 (5, [some (.ref q), some (.int x1), some (.int (0 : Int32)), some (.int (Int32.ofNat n))], [], μ) 0 P) : gWp none 0 (0, [some (.ref q), some (.int x1), none, none], [], μ) 0 P := by
  refine gWp_sts gT_0 5 (f' := (5, [some (.ref q), some (.int x1), some (.int (0 : Int32)), some (.int (Int32.ofNat n))], [], μ)) (cs := []) (by simp [gSts, gLk, gC_0, gStp, gLdA, gLdI, gLdJ, gPush, gALen, gIst, gJst, gSto, gSt1, gSt2, gKill, hq, hsc, Value.category]) trivial ?_
  exact h
/-! Glyphmill.setBase -/
theorem gT_1 : gCode[1]? = some gC_1 := rfl
set_option maxRecDepth 20000 in
theorem vc_1 {μ : gMu} {x1 : Int32} {P : gMu → gRes → Prop} (h : ((¬ (gI μ 0 10) = (1 : Int32)) → (((x1 = 0) → (P (gsI (gsI μ 0 10 (0 : Int32)) 0 11 (1 : Int32)) (.inl (some (.int (0 : Int32)))))) ∧ ((¬ x1 = 0) → (P (gsI (gsI μ 0 10 (1 : Int32)) 0 11 (1 : Int32)) (.inl (some (.int (0 : Int32)))))))) ∧ (((gI μ 0 10) = (1 : Int32)) → (((x1 = 0) → (P (gsI (gsI μ 0 10 (0 : Int32)) 0 11 (1 : Int32)) (.inl (some (.int (1 : Int32)))))) ∧ ((¬ x1 = 0) → (P (gsI (gsI μ 0 10 (1 : Int32)) 0 11 (1 : Int32)) (.inl (some (.int (1 : Int32))))))))) : gWp none 1 (0, [some (.ref 0), some (.int x1), none], [], μ) 0 P := by
  refine gWp_sts gT_1 3 (f' := (5, [some (.ref 0), some (.int x1), none], [.int (1 : Int32), .int (gI μ 0 10)], μ)) (cs := []) rfl trivial ?_
  refine gWp_icmp gT_1 (pc := 5) rfl ⟨fun c => ?_, fun c => ?_⟩
  · replace h := h.1 (of_decide_eq_true c)
    refine gWp_sts gT_1 4 (f' := (16, [some (.ref 0), some (.int x1), some (.int (0 : Int32))], [.int x1, .ref 0], μ)) (cs := []) rfl trivial ?_
    refine gWp_if gT_1 (pc := 16) rfl ⟨fun c => ?_, fun c => ?_⟩
    · replace h := h.1 (of_decide_eq_true c)
      refine gWp_sts gT_1 6 (f' := (33, [some (.ref 0), some (.int x1), some (.int (0 : Int32))], [.int (0 : Int32)], (gsI (gsI μ 0 10 (0 : Int32)) 0 11 (1 : Int32)))) (cs := [(1 : Int32) = 0 ∨ (1 : Int32) = 1]) rfl (Or.inr rfl) ?_
      exact gWp_end gT_1 rfl (gEnd_int (show narrow .boolean (.int (0 : Int32)) = .int (0 : Int32) by decide)) h
    · replace h := h.2 (fun q => c (decide_eq_true q))
      refine gWp_sts gT_1 7 (f' := (33, [some (.ref 0), some (.int x1), some (.int (0 : Int32))], [.int (0 : Int32)], (gsI (gsI μ 0 10 (1 : Int32)) 0 11 (1 : Int32)))) (cs := [(1 : Int32) = 0 ∨ (1 : Int32) = 1]) rfl (Or.inr rfl) ?_
      exact gWp_end gT_1 rfl (gEnd_int (show narrow .boolean (.int (0 : Int32)) = .int (0 : Int32) by decide)) h
  · replace h := h.2 (Classical.not_not.mp (fun q => c (decide_eq_true q)))
    refine gWp_sts gT_1 5 (f' := (16, [some (.ref 0), some (.int x1), some (.int (1 : Int32))], [.int x1, .ref 0], μ)) (cs := []) rfl trivial ?_
    refine gWp_if gT_1 (pc := 16) rfl ⟨fun c => ?_, fun c => ?_⟩
    · replace h := h.1 (of_decide_eq_true c)
      refine gWp_sts gT_1 6 (f' := (33, [some (.ref 0), some (.int x1), some (.int (1 : Int32))], [.int (1 : Int32)], (gsI (gsI μ 0 10 (0 : Int32)) 0 11 (1 : Int32)))) (cs := [(1 : Int32) = 0 ∨ (1 : Int32) = 1]) rfl (Or.inr rfl) ?_
      exact gWp_end gT_1 rfl (gEnd_int (show narrow .boolean (.int (1 : Int32)) = .int (1 : Int32) by decide)) h
    · replace h := h.2 (fun q => c (decide_eq_true q))
      refine gWp_sts gT_1 7 (f' := (33, [some (.ref 0), some (.int x1), some (.int (1 : Int32))], [.int (1 : Int32)], (gsI (gsI μ 0 10 (1 : Int32)) 0 11 (1 : Int32)))) (cs := [(1 : Int32) = 0 ∨ (1 : Int32) = 1]) rfl (Or.inr rfl) ?_
      exact gWp_end gT_1 rfl (gEnd_int (show narrow .boolean (.int (1 : Int32)) = .int (1 : Int32) by decide)) h
/-! Glyphmill.length -/
theorem gT_2 : gCode[2]? = some gC_2 := rfl
set_option maxRecDepth 20000 in
theorem vc_2 {μ : gMu} {P : gMu → gRes → Prop} (h : P μ (.inl (some (.int (gI μ 2 1))))) : gWp none 2 (0, [some (.ref 0)], [], μ) 0 P := by
  refine gWp_sts gT_2 3 (f' := (7, [some (.ref 0)], [.int (gI μ 2 1)], μ)) (cs := []) rfl trivial ?_
  exact gWp_end gT_2 rfl (gEnd_int trivial) h
/-! Glyphmill.isMark -/
theorem gT_3 : gCode[3]? = some gC_3 := rfl
set_option maxRecDepth 20000 in
theorem vc_3 {μ : gMu} {x0 : Int32} {P : gMu → gRes → Prop} (h : ((x0 = (91 : Int32)) → (P μ (.inl (some (.int (1 : Int32)))))) ∧ ((¬ x0 = (91 : Int32)) → (((x0 = (123 : Int32)) → (P μ (.inl (some (.int (1 : Int32)))))) ∧ ((¬ x0 = (123 : Int32)) → (((¬ x0 = (125 : Int32)) → (P μ (.inl (some (.int (0 : Int32)))))) ∧ ((x0 = (125 : Int32)) → (P μ (.inl (some (.int (1 : Int32))))))))))) : gWp none 3 (0, [some (.int x0)], [], μ) 0 P := by
  refine gWp_sts gT_3 2 (f' := (3, [some (.int x0)], [.int (91 : Int32), .int x0], μ)) (cs := []) rfl trivial ?_
  refine gWp_icmp gT_3 (pc := 3) rfl ⟨fun c => ?_, fun c => ?_⟩
  · replace h := h.1 (of_decide_eq_true c)
    refine gWp_sts gT_3 2 (f' := (23, [some (.int x0)], [.int (1 : Int32)], μ)) (cs := []) rfl trivial ?_
    exact gWp_end gT_3 rfl (gEnd_int (show narrow .boolean (.int (1 : Int32)) = .int (1 : Int32) by decide)) h
  · replace h := h.2 (fun q => c (decide_eq_true q))
    refine gWp_sts gT_3 2 (f' := (9, [some (.int x0)], [.int (123 : Int32), .int x0], μ)) (cs := []) rfl trivial ?_
    refine gWp_icmp gT_3 (pc := 9) rfl ⟨fun c => ?_, fun c => ?_⟩
    · replace h := h.1 (of_decide_eq_true c)
      refine gWp_sts gT_3 2 (f' := (23, [some (.int x0)], [.int (1 : Int32)], μ)) (cs := []) rfl trivial ?_
      exact gWp_end gT_3 rfl (gEnd_int (show narrow .boolean (.int (1 : Int32)) = .int (1 : Int32) by decide)) h
    · replace h := h.2 (fun q => c (decide_eq_true q))
      refine gWp_sts gT_3 2 (f' := (15, [some (.int x0)], [.int (125 : Int32), .int x0], μ)) (cs := []) rfl trivial ?_
      refine gWp_icmp gT_3 (pc := 15) rfl ⟨fun c => ?_, fun c => ?_⟩
      · replace h := h.1 (of_decide_eq_true c)
        refine gWp_sts gT_3 1 (f' := (23, [some (.int x0)], [.int (0 : Int32)], μ)) (cs := []) rfl trivial ?_
        exact gWp_end gT_3 rfl (gEnd_int (show narrow .boolean (.int (0 : Int32)) = .int (0 : Int32) by decide)) h
      · replace h := h.2 (Classical.not_not.mp (fun q => c (decide_eq_true q)))
        refine gWp_sts gT_3 2 (f' := (23, [some (.int x0)], [.int (1 : Int32)], μ)) (cs := []) rfl trivial ?_
        exact gWp_end gT_3 rfl (gEnd_int (show narrow .boolean (.int (1 : Int32)) = .int (1 : Int32) by decide)) h
/-! Glyphmill$Text.countOpen -/
theorem gT_4 : gCode[4]? = some gC_4 := rfl
set_option maxRecDepth 20000 in
theorem vc_4_4 {μ : gMu} {x1 : Int32} {x2 : Int32} {P : gMu → gRes → Prop} (h : (((gI μ 2 1) ≤ x2) → (P μ (.inl (some (.int x1))))) ∧ ((¬ (gI μ 2 1) ≤ x2) → ((vp_in x2 50) ∧ (gCl' 3 [.int (gI μ 3 x2.toNatClampNeg)] μ (fun μ1 r => (∃ v2, r = .inl (some (.int v2)) ∧ (((v2 = 0) → (gWp none 4 (4, [some (.ref 2), some (.int x1), some (.int (x2 + (1 : Int32)))], [], μ1) 0 P)) ∧ ((¬ v2 = 0) → ((vp_in x2 50) ∧ (((¬ (gI μ1 3 x2.toNatClampNeg) = (125 : Int32)) → (gWp none 4 (4, [some (.ref 2), some (.int (x1 + (1 : Int32))), some (.int (x2 + (1 : Int32)))], [], μ1) 0 P)) ∧ (((gI μ1 3 x2.toNatClampNeg) = (125 : Int32)) → (gWp none 4 (4, [some (.ref 2), some (.int (x1 + (-1 : Int32))), some (.int (x2 + (1 : Int32)))], [], μ1) 0 P)))))))))))) : gWp none 4 (4, [some (.ref 2), some (.int x1), some (.int x2)], [], μ) 0 P := by
  refine gWp_sts gT_4 3 (f' := (9, [some (.ref 2), some (.int x1), some (.int x2)], [.int (gI μ 2 1), .int x2], μ)) (cs := []) rfl trivial ?_
  refine gWp_icmp gT_4 (pc := 9) rfl ⟨fun c => ?_, fun c => ?_⟩
  · replace h := h.1 (of_decide_eq_true c)
    refine gWp_sts gT_4 1 (f' := (50, [some (.ref 2), some (.int x1), some (.int x2)], [.int x1], μ)) (cs := []) rfl trivial ?_
    exact gWp_end gT_4 rfl (gEnd_int trivial) h
  · replace h := h.2 (fun q => c (decide_eq_true q))
    obtain ⟨c1, h⟩ := h
    refine gWp_sts gT_4 4 (f' := (18, [some (.ref 2), some (.int x1), some (.int x2)], [.int (gI μ 3 x2.toNatClampNeg)], μ)) (cs := [vp_in x2 50]) rfl c1 ?_
    refine gWp_stat gT_4 (pc := 18) (c01 := 1) (as := [.int (gI μ 3 x2.toNatClampNeg)]) (rest := []) rfl (Or.inr rfl) rfl rfl rfl ⟨by decide, Nat.le_of_ble_eq_true rfl, by decide, Nat.le_of_ble_eq_true rfl⟩ (gWp_imp h (fun μ1 r h => ?_))
    obtain ⟨v2, rfl, h⟩ := h
    refine Or.inl ⟨_, rfl, ?_⟩
    show gWp none 4 (21, [some (.ref 2), some (.int x1), some (.int x2)], [.int v2], μ1) _ P
    refine gWp_if gT_4 (pc := 21) rfl ⟨fun c => ?_, fun c => ?_⟩
    · replace h := h.1 (of_decide_eq_true c)
      refine gWp_sts gT_4 2 (f' := (4, [some (.ref 2), some (.int x1), some (.int (x2 + (1 : Int32)))], [], μ1)) (cs := []) rfl trivial ?_
      exact h
    · replace h := h.2 (fun q => c (decide_eq_true q))
      obtain ⟨c1, h⟩ := h
      refine gWp_sts gT_4 6 (f' := (33, [some (.ref 2), some (.int x1), some (.int x2)], [.int (125 : Int32), .int (gI μ1 3 x2.toNatClampNeg), .int x1], μ1)) (cs := [vp_in x2 50]) rfl c1 ?_
      refine gWp_icmp gT_4 (pc := 33) rfl ⟨fun c => ?_, fun c => ?_⟩
      · replace h := h.1 (of_decide_eq_true c)
        refine gWp_sts gT_4 5 (f' := (4, [some (.ref 2), some (.int (x1 + (1 : Int32))), some (.int (x2 + (1 : Int32)))], [], μ1)) (cs := []) rfl trivial ?_
        exact h
      · replace h := h.2 (Classical.not_not.mp (fun q => c (decide_eq_true q)))
        refine gWp_sts gT_4 6 (f' := (4, [some (.ref 2), some (.int (x1 + (-1 : Int32))), some (.int (x2 + (1 : Int32)))], [], μ1)) (cs := []) rfl trivial ?_
        exact h
set_option maxRecDepth 20000 in
theorem vc_4 {μ : gMu} {P : gMu → gRes → Prop} (h : gWp none 4 (4, [some (.ref 2), some (.int (0 : Int32)), some (.int (0 : Int32))], [], μ) 0 P) : gWp none 4 (0, [some (.ref 2), none, none], [], μ) 0 P := by
  refine gWp_sts gT_4 4 (f' := (4, [some (.ref 2), some (.int (0 : Int32)), some (.int (0 : Int32))], [], μ)) (cs := []) rfl trivial ?_
  exact h
/-! Glyphmill.open -/
theorem gT_5 : gCode[5]? = some gC_5 := rfl
set_option maxRecDepth 20000 in
theorem vc_5 {μ : gMu} {P : gMu → gRes → Prop} (h : gCl' 4 [.ref 2] μ (fun μ1 r => (∃ v2, r = .inl (some (.int v2)) ∧ (P μ1 (.inl (some (.int v2))))))) : gWp none 5 (0, [some (.ref 0)], [], μ) 0 P := by
  refine gWp_sts gT_5 2 (f' := (4, [some (.ref 0)], [.ref 2], μ)) (cs := []) rfl trivial ?_
  refine gWp_virt gT_5 (pc := 4) (q := 2) (as := [.ref 2]) (rest := []) rfl rfl rfl rfl rfl rfl ⟨by decide, Nat.le_of_ble_eq_true rfl, by decide, Nat.le_of_ble_eq_true rfl⟩ (gWp_imp h (fun μ1 r h => ?_))
  obtain ⟨v2, rfl, h⟩ := h
  refine Or.inl ⟨_, rfl, ?_⟩
  show gWp none 5 (7, [some (.ref 0)], [.int v2], μ1) _ P
  exact gWp_end gT_5 rfl (gEnd_int trivial) h
/-! Glyphmill$Font.ligature -/
theorem gT_6 : gCode[6]? = some gC_6 := rfl
set_option maxRecDepth 20000 in
theorem vc_6_2 {μ : gMu} {x1 : Int32} {x2 : Int32} {x3 : Int32} {P : gMu → gRes → Prop} (h : (((gI μ 4 4) ≤ x3) → (P μ (.inl (some (.int (-1 : Int32)))))) ∧ ((¬ (gI μ 4 4) ≤ x3) → ((vp_in x3 20) ∧ (((¬ (gI μ 6 x3.toNatClampNeg) = x1) → (gWp none 6 (2, [some (.ref 4), some (.int x1), some (.int x2), some (.int (x3 + (1 : Int32)))], [], μ) 0 P)) ∧ (((gI μ 6 x3.toNatClampNeg) = x1) → ((vp_in x3 20) ∧ (((¬ (gI μ 7 x3.toNatClampNeg) = x2) → (gWp none 6 (2, [some (.ref 4), some (.int x1), some (.int x2), some (.int (x3 + (1 : Int32)))], [], μ) 0 P)) ∧ (((gI μ 7 x3.toNatClampNeg) = x2) → (P μ (.inl (some (.int ((200 : Int32) + x3))))))))))))) : gWp none 6 (2, [some (.ref 4), some (.int x1), some (.int x2), some (.int x3)], [], μ) 0 P := by
  refine gWp_sts gT_6 3 (f' := (7, [some (.ref 4), some (.int x1), some (.int x2), some (.int x3)], [.int (gI μ 4 4), .int x3], μ)) (cs := []) rfl trivial ?_
  refine gWp_icmp gT_6 (pc := 7) rfl ⟨fun c => ?_, fun c => ?_⟩
  · replace h := h.1 (of_decide_eq_true c)
    refine gWp_sts gT_6 1 (f' := (43, [some (.ref 4), some (.int x1), some (.int x2), some (.int x3)], [.int (-1 : Int32)], μ)) (cs := []) rfl trivial ?_
    exact gWp_end gT_6 rfl (gEnd_int trivial) h
  · replace h := h.2 (fun q => c (decide_eq_true q))
    obtain ⟨c1, h⟩ := h
    refine gWp_sts gT_6 5 (f' := (17, [some (.ref 4), some (.int x1), some (.int x2), some (.int x3)], [.int x1, .int (gI μ 6 x3.toNatClampNeg)], μ)) (cs := [vp_in x3 20]) rfl c1 ?_
    refine gWp_icmp gT_6 (pc := 17) rfl ⟨fun c => ?_, fun c => ?_⟩
    · replace h := h.1 (of_decide_eq_true c)
      refine gWp_sts gT_6 2 (f' := (2, [some (.ref 4), some (.int x1), some (.int x2), some (.int (x3 + (1 : Int32)))], [], μ)) (cs := []) rfl trivial ?_
      exact h
    · replace h := h.2 (Classical.not_not.mp (fun q => c (decide_eq_true q)))
      obtain ⟨c1, h⟩ := h
      refine gWp_sts gT_6 5 (f' := (27, [some (.ref 4), some (.int x1), some (.int x2), some (.int x3)], [.int x2, .int (gI μ 7 x3.toNatClampNeg)], μ)) (cs := [vp_in x3 20]) rfl c1 ?_
      refine gWp_icmp gT_6 (pc := 27) rfl ⟨fun c => ?_, fun c => ?_⟩
      · replace h := h.1 (of_decide_eq_true c)
        refine gWp_sts gT_6 2 (f' := (2, [some (.ref 4), some (.int x1), some (.int x2), some (.int (x3 + (1 : Int32)))], [], μ)) (cs := []) rfl trivial ?_
        exact h
      · replace h := h.2 (Classical.not_not.mp (fun q => c (decide_eq_true q)))
        refine gWp_sts gT_6 3 (f' := (35, [some (.ref 4), some (.int x1), some (.int x2), some (.int x3)], [.int ((200 : Int32) + x3)], μ)) (cs := []) rfl trivial ?_
        exact gWp_end gT_6 rfl (gEnd_int trivial) h
set_option maxRecDepth 20000 in
theorem vc_6 {μ : gMu} {x1 : Int32} {x2 : Int32} {P : gMu → gRes → Prop} (h : gWp none 6 (2, [some (.ref 4), some (.int x1), some (.int x2), some (.int (0 : Int32))], [], μ) 0 P) : gWp none 6 (0, [some (.ref 4), some (.int x1), some (.int x2), none], [], μ) 0 P := by
  refine gWp_sts gT_6 2 (f' := (2, [some (.ref 4), some (.int x1), some (.int x2), some (.int (0 : Int32))], [], μ)) (cs := []) rfl trivial ?_
  exact h
/-! Glyphmill$Glyphs.ligatureWith -/
theorem gT_7 : gCode[7]? = some gC_7 := rfl
set_option maxRecDepth 20000 in
theorem vc_7 {μ : gMu} {x1 : Int32} {P : gMu → gRes → Prop} (h : ((x1 = 0) → (P μ (.inl (some (.int (-1 : Int32)))))) ∧ ((¬ x1 = 0) → ((((gI μ 21 10) = 0) → (P μ (.inl (some (.int (-1 : Int32)))))) ∧ ((¬ (gI μ 21 10) = 0) → ((vp_in x1 50) ∧ ((vp_in (x1 - (1 : Int32)) 50) ∧ ((((gI μ 20 x1.toNatClampNeg) = (gI μ 20 ((x1 - (1 : Int32)).toNatClampNeg))) → ((vp_in ((gI μ 21 10) - (1 : Int32)) 50) ∧ ((vp_in x1 50) ∧ (gCl' 6 [.ref 4, .int (gI μ 23 (((gI μ 21 10) - (1 : Int32)).toNatClampNeg)), .int (gI μ 12 x1.toNatClampNeg)] μ (fun μ1 r => (∃ v2, r = .inl (some (.int v2)) ∧ (P μ1 (.inl (some (.int v2)))))))))) ∧ ((¬ (gI μ 20 x1.toNatClampNeg) = (gI μ 20 ((x1 - (1 : Int32)).toNatClampNeg))) → (P μ (.inl (some (.int (-1 : Int32))))))))))))) : gWp none 7 (0, [some (.ref 21), some (.int x1), some (.ref 4)], [], μ) 0 P := by
  refine gWp_sts gT_7 1 (f' := (1, [some (.ref 21), some (.int x1), some (.ref 4)], [.int x1], μ)) (cs := []) rfl trivial ?_
  refine gWp_if gT_7 (pc := 1) rfl ⟨fun c => ?_, fun c => ?_⟩
  · replace h := h.1 (of_decide_eq_true c)
    refine gWp_sts gT_7 1 (f' := (35, [some (.ref 21), some (.int x1), some (.ref 4)], [.int (-1 : Int32)], μ)) (cs := []) rfl trivial ?_
    exact gWp_end gT_7 rfl (gEnd_int trivial) h
  · replace h := h.2 (fun q => c (decide_eq_true q))
    refine gWp_sts gT_7 2 (f' := (8, [some (.ref 21), some (.int x1), some (.ref 4)], [.int (gI μ 21 10)], μ)) (cs := []) rfl trivial ?_
    refine gWp_if gT_7 (pc := 8) rfl ⟨fun c => ?_, fun c => ?_⟩
    · replace h := h.1 (of_decide_eq_true c)
      refine gWp_sts gT_7 1 (f' := (35, [some (.ref 21), some (.int x1), some (.ref 4)], [.int (-1 : Int32)], μ)) (cs := []) rfl trivial ?_
      exact gWp_end gT_7 rfl (gEnd_int trivial) h
    · replace h := h.2 (fun q => c (decide_eq_true q))
      obtain ⟨c1, c2, h⟩ := h
      refine gWp_sts gT_7 12 (f' := (31, [some (.ref 21), some (.int x1), some (.ref 4)], [.int (gI μ 20 ((x1 - (1 : Int32)).toNatClampNeg)), .int (gI μ 20 x1.toNatClampNeg)], μ)) (cs := [vp_in x1 50, vp_in (x1 - (1 : Int32)) 50]) rfl ⟨c1, c2⟩ ?_
      refine gWp_icmp gT_7 (pc := 31) rfl ⟨fun c => ?_, fun c => ?_⟩
      · replace h := h.1 (of_decide_eq_true c)
        obtain ⟨c1, c2, h⟩ := h
        refine gWp_sts gT_7 13 (f' := (57, [some (.ref 21), some (.int x1), some (.ref 4)], [.int (gI μ 12 x1.toNatClampNeg), .int (gI μ 23 (((gI μ 21 10) - (1 : Int32)).toNatClampNeg)), .ref 4], μ)) (cs := [vp_in ((gI μ 21 10) - (1 : Int32)) 50, vp_in x1 50]) rfl ⟨c1, c2⟩ ?_
        refine gWp_virt gT_7 (pc := 57) (q := 4) (as := [.ref 4, .int (gI μ 23 (((gI μ 21 10) - (1 : Int32)).toNatClampNeg)), .int (gI μ 12 x1.toNatClampNeg)]) (rest := []) rfl rfl rfl rfl rfl rfl ⟨by decide, Nat.le_of_ble_eq_true rfl, by decide, Nat.le_of_ble_eq_true rfl⟩ (gWp_imp h (fun μ1 r h => ?_))
        obtain ⟨v2, rfl, h⟩ := h
        refine Or.inl ⟨_, rfl, ?_⟩
        show gWp none 7 (60, [some (.ref 21), some (.int x1), some (.ref 4)], [.int v2], μ1) _ P
        exact gWp_end gT_7 rfl (gEnd_int trivial) h
      · replace h := h.2 (fun q => c (decide_eq_true q))
        refine gWp_sts gT_7 1 (f' := (35, [some (.ref 21), some (.int x1), some (.ref 4)], [.int (-1 : Int32)], μ)) (cs := []) rfl trivial ?_
        exact gWp_end gT_7 rfl (gEnd_int trivial) h
/-! Glyphmill$Font.isLigature -/
theorem gT_8 : gCode[8]? = some gC_8 := rfl
set_option maxRecDepth 20000 in
theorem vc_8 {μ : gMu} {x1 : Int32} {P : gMu → gRes → Prop} (h : ((x1 < (200 : Int32)) → (P μ (.inl (some (.int (0 : Int32)))))) ∧ ((¬ x1 < (200 : Int32)) → (((((200 : Int32) + (gI μ 4 4)) ≤ x1) → (P μ (.inl (some (.int (0 : Int32)))))) ∧ ((¬ ((200 : Int32) + (gI μ 4 4)) ≤ x1) → (P μ (.inl (some (.int (1 : Int32))))))))) : gWp none 8 (0, [some (.ref 4), some (.int x1)], [], μ) 0 P := by
  refine gWp_sts gT_8 2 (f' := (4, [some (.ref 4), some (.int x1)], [.int (200 : Int32), .int x1], μ)) (cs := []) rfl trivial ?_
  refine gWp_icmp gT_8 (pc := 4) rfl ⟨fun c => ?_, fun c => ?_⟩
  · replace h := h.1 (of_decide_eq_true c)
    refine gWp_sts gT_8 1 (f' := (24, [some (.ref 4), some (.int x1)], [.int (0 : Int32)], μ)) (cs := []) rfl trivial ?_
    exact gWp_end gT_8 rfl (gEnd_int (show narrow .boolean (.int (0 : Int32)) = .int (0 : Int32) by decide)) h
  · replace h := h.2 (fun q => c (decide_eq_true q))
    refine gWp_sts gT_8 5 (f' := (16, [some (.ref 4), some (.int x1)], [.int ((200 : Int32) + (gI μ 4 4)), .int x1], μ)) (cs := []) rfl trivial ?_
    refine gWp_icmp gT_8 (pc := 16) rfl ⟨fun c => ?_, fun c => ?_⟩
    · replace h := h.1 (of_decide_eq_true c)
      refine gWp_sts gT_8 1 (f' := (24, [some (.ref 4), some (.int x1)], [.int (0 : Int32)], μ)) (cs := []) rfl trivial ?_
      exact gWp_end gT_8 rfl (gEnd_int (show narrow .boolean (.int (0 : Int32)) = .int (0 : Int32) by decide)) h
    · replace h := h.2 (fun q => c (decide_eq_true q))
      refine gWp_sts gT_8 2 (f' := (24, [some (.ref 4), some (.int x1)], [.int (1 : Int32)], μ)) (cs := []) rfl trivial ?_
      exact gWp_end gT_8 rfl (gEnd_int (show narrow .boolean (.int (1 : Int32)) = .int (1 : Int32) by decide)) h
/-! Glyphmill$Font.glyphWidth -/
theorem gT_9 : gCode[9]? = some gC_9 := rfl
set_option maxRecDepth 20000 in
theorem vc_9 {μ : gMu} {x1 : Int32} {P : gMu → gRes → Prop} (h : gCl' 8 [.ref 4, .int x1] μ (fun μ1 r => (∃ v2, r = .inl (some (.int v2)) ∧ (((v2 = 0) → (((x1 < 0) → (P μ1 (.inl (some (.int (0 : Int32)))))) ∧ ((¬ x1 < 0) → ((((128 : Int32) ≤ x1) → (P μ1 (.inl (some (.int (0 : Int32)))))) ∧ ((¬ (128 : Int32) ≤ x1) → ((vp_in x1 128) ∧ (P μ1 (.inl (some (.int (gI μ1 5 x1.toNatClampNeg))))))))))) ∧ ((¬ v2 = 0) → ((vp_in (x1 - (200 : Int32)) 20) ∧ (P μ1 (.inl (some (.int (gI μ1 8 ((x1 - (200 : Int32)).toNatClampNeg)))))))))))) : gWp none 9 (0, [some (.ref 4), some (.int x1)], [], μ) 0 P := by
  refine gWp_sts gT_9 2 (f' := (2, [some (.ref 4), some (.int x1)], [.int x1, .ref 4], μ)) (cs := []) rfl trivial ?_
  refine gWp_virt gT_9 (pc := 2) (q := 4) (as := [.ref 4, .int x1]) (rest := []) rfl rfl rfl rfl rfl rfl ⟨by decide, Nat.le_of_ble_eq_true rfl, by decide, Nat.le_of_ble_eq_true rfl⟩ (gWp_imp h (fun μ1 r h => ?_))
  obtain ⟨v2, rfl, h⟩ := h
  refine Or.inl ⟨_, rfl, ?_⟩
  show gWp none 9 (5, [some (.ref 4), some (.int x1)], [.int v2], μ1) _ P
  refine gWp_if gT_9 (pc := 5) rfl ⟨fun c => ?_, fun c => ?_⟩
  · replace h := h.1 (of_decide_eq_true c)
    refine gWp_sts gT_9 1 (f' := (20, [some (.ref 4), some (.int x1)], [.int x1], μ1)) (cs := []) rfl trivial ?_
    refine gWp_if gT_9 (pc := 20) rfl ⟨fun c => ?_, fun c => ?_⟩
    · replace h := h.1 (of_decide_eq_true c)
      refine gWp_sts gT_9 1 (f' := (40, [some (.ref 4), some (.int x1)], [.int (0 : Int32)], μ1)) (cs := []) rfl trivial ?_
      exact gWp_end gT_9 rfl (gEnd_int trivial) h
    · replace h := h.2 (fun q => c (decide_eq_true q))
      refine gWp_sts gT_9 2 (f' := (27, [some (.ref 4), some (.int x1)], [.int (128 : Int32), .int x1], μ1)) (cs := []) rfl trivial ?_
      refine gWp_icmp gT_9 (pc := 27) rfl ⟨fun c => ?_, fun c => ?_⟩
      · replace h := h.1 (of_decide_eq_true c)
        refine gWp_sts gT_9 1 (f' := (40, [some (.ref 4), some (.int x1)], [.int (0 : Int32)], μ1)) (cs := []) rfl trivial ?_
        exact gWp_end gT_9 rfl (gEnd_int trivial) h
      · replace h := h.2 (fun q => c (decide_eq_true q))
        obtain ⟨c1, h⟩ := h
        refine gWp_sts gT_9 5 (f' := (40, [some (.ref 4), some (.int x1)], [.int (gI μ1 5 x1.toNatClampNeg)], μ1)) (cs := [vp_in x1 128]) rfl c1 ?_
        exact gWp_end gT_9 rfl (gEnd_int trivial) h
  · replace h := h.2 (fun q => c (decide_eq_true q))
    obtain ⟨c1, h⟩ := h
    refine gWp_sts gT_9 6 (f' := (18, [some (.ref 4), some (.int x1)], [.int (gI μ1 8 ((x1 - (200 : Int32)).toNatClampNeg))], μ1)) (cs := [vp_in (x1 - (200 : Int32)) 20]) rfl c1 ?_
    exact gWp_end gT_9 rfl (gEnd_int trivial) h
/-! Glyphmill$Glyphs.isSpace -/
theorem gT_10 : gCode[10]? = some gC_10 := rfl
set_option maxRecDepth 20000 in
theorem vc_10 {μ : gMu} {x1 : Int32} {P : gMu → gRes → Prop} (h : (vp_in x1 50) ∧ (((¬ (gI μ 23 x1.toNatClampNeg) = (32 : Int32)) → (P μ (.inl (some (.int (0 : Int32)))))) ∧ (((gI μ 23 x1.toNatClampNeg) = (32 : Int32)) → (P μ (.inl (some (.int (1 : Int32)))))))) : gWp none 10 (0, [some (.ref 21), some (.int x1)], [], μ) 0 P := by
  obtain ⟨c1, h⟩ := h
  refine gWp_sts gT_10 5 (f' := (8, [some (.ref 21), some (.int x1)], [.int (32 : Int32), .int (gI μ 23 x1.toNatClampNeg)], μ)) (cs := [vp_in x1 50]) rfl c1 ?_
  refine gWp_icmp gT_10 (pc := 8) rfl ⟨fun c => ?_, fun c => ?_⟩
  · replace h := h.1 (of_decide_eq_true c)
    refine gWp_sts gT_10 1 (f' := (16, [some (.ref 21), some (.int x1)], [.int (0 : Int32)], μ)) (cs := []) rfl trivial ?_
    exact gWp_end gT_10 rfl (gEnd_int (show narrow .boolean (.int (0 : Int32)) = .int (0 : Int32) by decide)) h
  · replace h := h.2 (Classical.not_not.mp (fun q => c (decide_eq_true q)))
    refine gWp_sts gT_10 2 (f' := (16, [some (.ref 21), some (.int x1)], [.int (1 : Int32)], μ)) (cs := []) rfl trivial ?_
    exact gWp_end gT_10 rfl (gEnd_int (show narrow .boolean (.int (1 : Int32)) = .int (1 : Int32) by decide)) h
/-! Glyphmill$Glyphs.measure -/
theorem gT_11 : gCode[11]? = some gC_11 := rfl
set_option maxRecDepth 20000 in
theorem vc_11_2 {μ : gMu} {x2 : Int32} {P : gMu → gRes → Prop} (h : (((gI μ 21 10) ≤ x2) → (P μ (.inl none))) ∧ ((¬ (gI μ 21 10) ≤ x2) → ((vp_in x2 50) ∧ (gCl' 9 [.ref 4, .int (gI μ 23 x2.toNatClampNeg)] μ (fun μ1 r => (∃ v2, r = .inl (some (.int v2)) ∧ ((vp_in x2 50) ∧ ((vp_in x2 51) ∧ ((vp_in x2 50) ∧ ((vp_in (x2 + (1 : Int32)) 51) ∧ ((vp_in x2 51) ∧ (gCl' 10 [.ref 21, .int x2] (gsI (gsI μ1 26 x2.toNatClampNeg v2) 27 ((x2 + (1 : Int32)).toNatClampNeg) ((gI μ1 27 x2.toNatClampNeg) + (gI (gsI μ1 26 x2.toNatClampNeg v2) 26 x2.toNatClampNeg))) (fun μ3 r => (∃ v4, r = .inl (some (.int v4)) ∧ (((v4 = 0) → ((vp_in (x2 + (1 : Int32)) 51) ∧ (gWp none 11 (2, [some (.ref 21), some (.ref 4), some (.int (x2 + (1 : Int32)))], [], (gsI μ3 28 ((x2 + (1 : Int32)).toNatClampNeg) ((gI μ1 28 x2.toNatClampNeg) + (0 : Int32)))) 0 P))) ∧ ((¬ v4 = 0) → ((vp_in (x2 + (1 : Int32)) 51) ∧ (gWp none 11 (2, [some (.ref 21), some (.ref 4), some (.int (x2 + (1 : Int32)))], [], (gsI μ3 28 ((x2 + (1 : Int32)).toNatClampNeg) ((gI μ1 28 x2.toNatClampNeg) + (1 : Int32)))) 0 P)))))))))))))))))) : gWp none 11 (2, [some (.ref 21), some (.ref 4), some (.int x2)], [], μ) 0 P := by
  refine gWp_sts gT_11 3 (f' := (7, [some (.ref 21), some (.ref 4), some (.int x2)], [.int (gI μ 21 10), .int x2], μ)) (cs := []) rfl trivial ?_
  refine gWp_icmp gT_11 (pc := 7) rfl ⟨fun c => ?_, fun c => ?_⟩
  · replace h := h.1 (of_decide_eq_true c)
    exact gWp_end gT_11 rfl rfl h
  · replace h := h.2 (fun q => c (decide_eq_true q))
    obtain ⟨c1, h⟩ := h
    refine gWp_sts gT_11 8 (f' := (22, [some (.ref 21), some (.ref 4), some (.int x2)], [.int (gI μ 23 x2.toNatClampNeg), .ref 4, .int x2, .ref 26], μ)) (cs := [vp_in x2 50]) rfl c1 ?_
    refine gWp_virt gT_11 (pc := 22) (q := 4) (as := [.ref 4, .int (gI μ 23 x2.toNatClampNeg)]) (rest := [.int x2, .ref 26]) rfl rfl rfl rfl rfl rfl ⟨by decide, Nat.le_of_ble_eq_true rfl, by decide, Nat.le_of_ble_eq_true rfl⟩ (gWp_imp h (fun μ1 r h => ?_))
    obtain ⟨v2, rfl, h⟩ := h
    refine Or.inl ⟨_, rfl, ?_⟩
    show gWp none 11 (25, [some (.ref 21), some (.ref 4), some (.int x2)], [.int v2, .int x2, .ref 26], μ1) _ P
    obtain ⟨c1, c2, c3, c4, c5, h⟩ := h
    refine gWp_sts gT_11 27 (f' := (62, [some (.ref 21), some (.ref 4), some (.int x2)], [.int x2, .ref 21, .int (gI μ1 28 x2.toNatClampNeg), .int (x2 + (1 : Int32)), .ref 28], (gsI (gsI μ1 26 x2.toNatClampNeg v2) 27 ((x2 + (1 : Int32)).toNatClampNeg) ((gI μ1 27 x2.toNatClampNeg) + (gI (gsI μ1 26 x2.toNatClampNeg v2) 26 x2.toNatClampNeg))))) (cs := [vp_in x2 50, vp_in x2 51, vp_in x2 50, vp_in (x2 + (1 : Int32)) 51, vp_in x2 51]) rfl ⟨c1, c2, c3, c4, c5⟩ ?_
    refine gWp_virt gT_11 (pc := 62) (q := 21) (as := [.ref 21, .int x2]) (rest := [.int (gI μ1 28 x2.toNatClampNeg), .int (x2 + (1 : Int32)), .ref 28]) rfl rfl rfl rfl rfl rfl ⟨by decide, Nat.le_of_ble_eq_true rfl, by decide, Nat.le_of_ble_eq_true rfl⟩ (gWp_imp h (fun μ3 r h => ?_))
    obtain ⟨v4, rfl, h⟩ := h
    refine Or.inl ⟨_, rfl, ?_⟩
    show gWp none 11 (65, [some (.ref 21), some (.ref 4), some (.int x2)], [.int v4, .int (gI μ1 28 x2.toNatClampNeg), .int (x2 + (1 : Int32)), .ref 28], μ3) _ P
    refine gWp_if gT_11 (pc := 65) rfl ⟨fun c => ?_, fun c => ?_⟩
    · replace h := h.1 (of_decide_eq_true c)
      obtain ⟨c1, h⟩ := h
      refine gWp_sts gT_11 5 (f' := (2, [some (.ref 21), some (.ref 4), some (.int (x2 + (1 : Int32)))], [], (gsI μ3 28 ((x2 + (1 : Int32)).toNatClampNeg) ((gI μ1 28 x2.toNatClampNeg) + (0 : Int32))))) (cs := [vp_in (x2 + (1 : Int32)) 51]) rfl c1 ?_
      exact h
    · replace h := h.2 (fun q => c (decide_eq_true q))
      obtain ⟨c1, h⟩ := h
      refine gWp_sts gT_11 6 (f' := (2, [some (.ref 21), some (.ref 4), some (.int (x2 + (1 : Int32)))], [], (gsI μ3 28 ((x2 + (1 : Int32)).toNatClampNeg) ((gI μ1 28 x2.toNatClampNeg) + (1 : Int32))))) (cs := [vp_in (x2 + (1 : Int32)) 51]) rfl c1 ?_
      exact h
set_option maxRecDepth 20000 in
theorem vc_11 {μ : gMu} {P : gMu → gRes → Prop} (h : gWp none 11 (2, [some (.ref 21), some (.ref 4), some (.int (0 : Int32))], [], μ) 0 P) : gWp none 11 (0, [some (.ref 21), some (.ref 4), none], [], μ) 0 P := by
  refine gWp_sts gT_11 2 (f' := (2, [some (.ref 21), some (.ref 4), some (.int (0 : Int32))], [], μ)) (cs := []) rfl trivial ?_
  exact h
/-! Glyphmill$Glyphs.form -/
theorem gT_12 : gCode[12]? = some gC_12 := rfl
set_option maxRecDepth 20000 in
theorem vc_12_7 {μ : gMu} {x2 : Int32} {P : gMu → gRes → Prop} (h : (((gI μ 9 5) ≤ x2) → (gCl' 11 [.ref 21, .ref 4] μ (fun μ1 r => (r = .inl none ∧ (P μ1 (.inl none)))))) ∧ ((¬ (gI μ 9 5) ≤ x2) → (gCl' 7 [.ref 21, .int x2, .ref 4] μ (fun μ2 r => (∃ v3, r = .inl (some (.int v3)) ∧ (((¬ v3 = (-1 : Int32)) → ((vp_in ((gI μ2 21 10) - (1 : Int32)) 50) ∧ ((vp_in x2 50) ∧ (gWp none 12 (7, [some (.ref 21), some (.ref 4), some (.int (x2 + (1 : Int32))), some (.int v3)], [], (gsI (gsI μ2 23 (((gI μ2 21 10) - (1 : Int32)).toNatClampNeg) v3) 22 x2.toNatClampNeg ((gI μ2 21 10) - (1 : Int32)))) 0 P)))) ∧ ((v3 = (-1 : Int32)) → ((vp_in x2 50) ∧ ((vp_in (gI μ2 21 10) 50) ∧ ((vp_in (gI μ2 21 10) 50) ∧ ((vp_in x2 50) ∧ ((vp_in (gI μ2 21 10) 50) ∧ ((vp_in x2 50) ∧ (gWp none 12 (7, [some (.ref 21), some (.ref 4), some (.int (x2 + (1 : Int32))), some (.int v3)], [], (gsI (gsI (gsI (gsI (gsI μ2 23 ((gI μ2 21 10).toNatClampNeg) (gI μ2 12 x2.toNatClampNeg)) 24 ((gI μ2 21 10).toNatClampNeg) x2) 25 ((gI μ2 21 10).toNatClampNeg) (gI μ2 17 x2.toNatClampNeg)) 21 10 ((gI μ2 21 10) + (1 : Int32))) 22 x2.toNatClampNeg (((gI μ2 21 10) + (1 : Int32)) - (1 : Int32)))) 0 P)))))))))))))) : gWp none 12 (7, [some (.ref 21), some (.ref 4), some (.int x2), none], [], μ) 0 P := by
  refine gWp_sts gT_12 4 (f' := (15, [some (.ref 21), some (.ref 4), some (.int x2), none], [.int (gI μ 9 5), .int x2], μ)) (cs := []) rfl trivial ?_
  refine gWp_icmp gT_12 (pc := 15) rfl ⟨fun c => ?_, fun c => ?_⟩
  · replace h := h.1 (of_decide_eq_true c)
    refine gWp_sts gT_12 2 (f' := (121, [some (.ref 21), some (.ref 4), some (.int x2), none], [.ref 4, .ref 21], μ)) (cs := []) rfl trivial ?_
    refine gWp_virt gT_12 (pc := 121) (q := 21) (as := [.ref 21, .ref 4]) (rest := []) rfl rfl rfl rfl rfl rfl ⟨by decide, Nat.le_of_ble_eq_true rfl, by decide, Nat.le_of_ble_eq_true rfl⟩ (gWp_imp h (fun μ1 r h => ?_))
    obtain ⟨rfl, h⟩ := h
    refine Or.inl ⟨_, rfl, ?_⟩
    show gWp none 12 (124, [some (.ref 21), some (.ref 4), some (.int x2), none], [], μ1) _ P
    exact gWp_end gT_12 rfl rfl h
  · replace h := h.2 (fun q => c (decide_eq_true q))
    refine gWp_sts gT_12 3 (f' := (21, [some (.ref 21), some (.ref 4), some (.int x2), none], [.ref 4, .int x2, .ref 21], μ)) (cs := []) rfl trivial ?_
    refine gWp_virt gT_12 (pc := 21) (q := 21) (as := [.ref 21, .int x2, .ref 4]) (rest := []) rfl rfl rfl rfl rfl rfl ⟨by decide, Nat.le_of_ble_eq_true rfl, by decide, Nat.le_of_ble_eq_true rfl⟩ (gWp_imp h (fun μ2 r h => ?_))
    obtain ⟨v3, rfl, h⟩ := h
    refine Or.inl ⟨_, rfl, ?_⟩
    show gWp none 12 (24, [some (.ref 21), some (.ref 4), some (.int x2), none], [.int v3], μ2) _ P
    refine gWp_sts gT_12 3 (f' := (27, [some (.ref 21), some (.ref 4), some (.int x2), some (.int v3)], [.int (-1 : Int32), .int v3], μ2)) (cs := []) rfl trivial ?_
    refine gWp_icmp gT_12 (pc := 27) rfl ⟨fun c => ?_, fun c => ?_⟩
    · replace h := h.1 (of_decide_eq_true c)
      obtain ⟨c1, c2, h⟩ := h
      refine gWp_sts gT_12 18 (f' := (7, [some (.ref 21), some (.ref 4), some (.int (x2 + (1 : Int32))), some (.int v3)], [], (gsI (gsI μ2 23 (((gI μ2 21 10) - (1 : Int32)).toNatClampNeg) v3) 22 x2.toNatClampNeg ((gI μ2 21 10) - (1 : Int32))))) (cs := [vp_in ((gI μ2 21 10) - (1 : Int32)) 50, vp_in x2 50]) rfl ⟨c1, c2⟩ ?_
      exact h
    · replace h := h.2 (Classical.not_not.mp (fun q => c (decide_eq_true q)))
      obtain ⟨c1, c2, c3, c4, c5, c6, h⟩ := h
      refine gWp_sts gT_12 43 (f' := (7, [some (.ref 21), some (.ref 4), some (.int (x2 + (1 : Int32))), some (.int v3)], [], (gsI (gsI (gsI (gsI (gsI μ2 23 ((gI μ2 21 10).toNatClampNeg) (gI μ2 12 x2.toNatClampNeg)) 24 ((gI μ2 21 10).toNatClampNeg) x2) 25 ((gI μ2 21 10).toNatClampNeg) (gI μ2 17 x2.toNatClampNeg)) 21 10 ((gI μ2 21 10) + (1 : Int32))) 22 x2.toNatClampNeg (((gI μ2 21 10) + (1 : Int32)) - (1 : Int32))))) (cs := [vp_in x2 50, vp_in (gI μ2 21 10) 50, vp_in (gI μ2 21 10) 50, vp_in x2 50, vp_in (gI μ2 21 10) 50, (Value.ref 21 : Value).category = 1, vp_in x2 50]) rfl ⟨c1, c2, c3, c4, c5, rfl, c6⟩ ?_
      exact h
set_option maxRecDepth 20000 in
theorem vc_12 {μ : gMu} {P : gMu → gRes → Prop} (h : gWp none 12 (7, [some (.ref 21), some (.ref 4), some (.int (0 : Int32)), none], [], (gsI μ 21 10 (0 : Int32))) 0 P) : gWp none 12 (0, [some (.ref 21), some (.ref 4), none, none], [], μ) 0 P := by
  refine gWp_sts gT_12 5 (f' := (7, [some (.ref 21), some (.ref 4), some (.int (0 : Int32)), none], [], (gsI μ 21 10 (0 : Int32)))) (cs := []) rfl trivial ?_
  exact h
/-! Glyphmill.isOdd -/
theorem gT_13 : gCode[13]? = some gC_13 := rfl
set_option maxRecDepth 20000 in
theorem vc_13 {μ : gMu} {x0 : Int32} {P : gMu → gRes → Prop} (h : ((¬ (x0 &&& (1 : Int32)) = (1 : Int32)) → (P μ (.inl (some (.int (0 : Int32)))))) ∧ (((x0 &&& (1 : Int32)) = (1 : Int32)) → (P μ (.inl (some (.int (1 : Int32))))))) : gWp none 13 (0, [some (.int x0)], [], μ) 0 P := by
  refine gWp_sts gT_13 4 (f' := (4, [some (.int x0)], [.int (1 : Int32), .int (x0 &&& (1 : Int32))], μ)) (cs := []) rfl trivial ?_
  refine gWp_icmp gT_13 (pc := 4) rfl ⟨fun c => ?_, fun c => ?_⟩
  · replace h := h.1 (of_decide_eq_true c)
    refine gWp_sts gT_13 1 (f' := (12, [some (.int x0)], [.int (0 : Int32)], μ)) (cs := []) rfl trivial ?_
    exact gWp_end gT_13 rfl (gEnd_int (show narrow .boolean (.int (0 : Int32)) = .int (0 : Int32) by decide)) h
  · replace h := h.2 (Classical.not_not.mp (fun q => c (decide_eq_true q)))
    refine gWp_sts gT_13 2 (f' := (12, [some (.int x0)], [.int (1 : Int32)], μ)) (cs := []) rfl trivial ?_
    exact gWp_end gT_13 rfl (gEnd_int (show narrow .boolean (.int (1 : Int32)) = .int (1 : Int32) by decide)) h
/-! Glyphmill$Levels.direction -/
theorem gT_14 : gCode[14]? = some gC_14 := rfl
set_option maxRecDepth 20000 in
theorem vc_14 {μ : gMu} {x0 : Int32} {P : gMu → gRes → Prop} (h : gCl' 13 [.int x0] μ (fun μ1 r => (∃ v2, r = .inl (some (.int v2)) ∧ (((v2 = 0) → (P μ1 (.inl (some (.int (0 : Int32)))))) ∧ ((¬ v2 = 0) → (P μ1 (.inl (some (.int (1 : Int32)))))))))) : gWp none 14 (0, [some (.int x0)], [], μ) 0 P := by
  refine gWp_sts gT_14 1 (f' := (1, [some (.int x0)], [.int x0], μ)) (cs := []) rfl trivial ?_
  refine gWp_stat gT_14 (pc := 1) (c01 := 1) (as := [.int x0]) (rest := []) rfl (Or.inr rfl) rfl rfl rfl ⟨by decide, Nat.le_of_ble_eq_true rfl, by decide, Nat.le_of_ble_eq_true rfl⟩ (gWp_imp h (fun μ1 r h => ?_))
  obtain ⟨v2, rfl, h⟩ := h
  refine Or.inl ⟨_, rfl, ?_⟩
  show gWp none 14 (4, [some (.int x0)], [.int v2], μ1) _ P
  refine gWp_if gT_14 (pc := 4) rfl ⟨fun c => ?_, fun c => ?_⟩
  · replace h := h.1 (of_decide_eq_true c)
    refine gWp_sts gT_14 1 (f' := (12, [some (.int x0)], [.int (0 : Int32)], μ1)) (cs := []) rfl trivial ?_
    exact gWp_end gT_14 rfl (gEnd_int trivial) h
  · replace h := h.2 (fun q => c (decide_eq_true q))
    refine gWp_sts gT_14 2 (f' := (12, [some (.int x0)], [.int (1 : Int32)], μ1)) (cs := []) rfl trivial ?_
    exact gWp_end gT_14 rfl (gEnd_int trivial) h
/-! Glyphmill$Levels.neutralEnd -/
theorem gT_15 : gCode[15]? = some gC_15 := rfl
set_option maxRecDepth 20000 in
theorem vc_15_4 {μ : gMu} {x1 : Int32} {x2 : Int32} {x3 : Int32} {P : gMu → gRes → Prop} (h : ((x2 ≤ x3) → (P μ (.inl (some (.int x3))))) ∧ ((¬ x2 ≤ x3) → ((vp_in x3 50) ∧ (((¬ (gI μ 16 x3.toNatClampNeg) = (3 : Int32)) → (P μ (.inl (some (.int x3))))) ∧ (((gI μ 16 x3.toNatClampNeg) = (3 : Int32)) → (gWp none 15 (4, [some (.ref 15), some (.int x1), some (.int x2), some (.int (x3 + (1 : Int32)))], [], μ) 0 P)))))) : gWp none 15 (4, [some (.ref 15), some (.int x1), some (.int x2), some (.int x3)], [], μ) 0 P := by
  refine gWp_sts gT_15 2 (f' := (6, [some (.ref 15), some (.int x1), some (.int x2), some (.int x3)], [.int x2, .int x3], μ)) (cs := []) rfl trivial ?_
  refine gWp_icmp gT_15 (pc := 6) rfl ⟨fun c => ?_, fun c => ?_⟩
  · replace h := h.1 (of_decide_eq_true c)
    refine gWp_sts gT_15 1 (f' := (26, [some (.ref 15), some (.int x1), some (.int x2), some (.int x3)], [.int x3], μ)) (cs := []) rfl trivial ?_
    exact gWp_end gT_15 rfl (gEnd_int trivial) h
  · replace h := h.2 (fun q => c (decide_eq_true q))
    obtain ⟨c1, h⟩ := h
    refine gWp_sts gT_15 5 (f' := (16, [some (.ref 15), some (.int x1), some (.int x2), some (.int x3)], [.int (3 : Int32), .int (gI μ 16 x3.toNatClampNeg)], μ)) (cs := [vp_in x3 50]) rfl c1 ?_
    refine gWp_icmp gT_15 (pc := 16) rfl ⟨fun c => ?_, fun c => ?_⟩
    · replace h := h.1 (of_decide_eq_true c)
      refine gWp_sts gT_15 1 (f' := (26, [some (.ref 15), some (.int x1), some (.int x2), some (.int x3)], [.int x3], μ)) (cs := []) rfl trivial ?_
      exact gWp_end gT_15 rfl (gEnd_int trivial) h
    · replace h := h.2 (Classical.not_not.mp (fun q => c (decide_eq_true q)))
      refine gWp_sts gT_15 2 (f' := (4, [some (.ref 15), some (.int x1), some (.int x2), some (.int (x3 + (1 : Int32)))], [], μ)) (cs := []) rfl trivial ?_
      exact h
set_option maxRecDepth 20000 in
theorem vc_15 {μ : gMu} {x1 : Int32} {x2 : Int32} {P : gMu → gRes → Prop} (h : gWp none 15 (4, [some (.ref 15), some (.int x1), some (.int x2), some (.int (x1 + (1 : Int32)))], [], μ) 0 P) : gWp none 15 (0, [some (.ref 15), some (.int x1), some (.int x2), none], [], μ) 0 P := by
  refine gWp_sts gT_15 4 (f' := (4, [some (.ref 15), some (.int x1), some (.int x2), some (.int (x1 + (1 : Int32)))], [], μ)) (cs := []) rfl trivial ?_
  exact h
/-! Glyphmill$Levels.side -/
theorem gT_16 : gCode[16]? = some gC_16 := rfl
set_option maxRecDepth 20000 in
theorem vc_16 {μ : gMu} {x0 : Int32} {P : gMu → gRes → Prop} (h : ((¬ x0 = 0) → (P μ (.inl (some (.int (1 : Int32)))))) ∧ ((x0 = 0) → (P μ (.inl (some (.int (0 : Int32))))))) : gWp none 16 (0, [some (.int x0)], [], μ) 0 P := by
  refine gWp_sts gT_16 1 (f' := (1, [some (.int x0)], [.int x0], μ)) (cs := []) rfl trivial ?_
  refine gWp_if gT_16 (pc := 1) rfl ⟨fun c => ?_, fun c => ?_⟩
  · replace h := h.1 (of_decide_eq_true c)
    refine gWp_sts gT_16 1 (f' := (9, [some (.int x0)], [.int (1 : Int32)], μ)) (cs := []) rfl trivial ?_
    exact gWp_end gT_16 rfl (gEnd_int trivial) h
  · replace h := h.2 (Classical.not_not.mp (fun q => c (decide_eq_true q)))
    refine gWp_sts gT_16 2 (f' := (9, [some (.int x0)], [.int (0 : Int32)], μ)) (cs := []) rfl trivial ?_
    exact gWp_end gT_16 rfl (gEnd_int trivial) h
/-! Glyphmill$Levels.directNeutrals -/
theorem gT_17 : gCode[17]? = some gC_17 := rfl
set_option maxRecDepth 20000 in
theorem vc_17_107 {μ : gMu} {x1 : Int32} {x2 : Int32} {x3 : Int32} {x4 : Int32} {x5 : Int32} {x6 : Int32} {x7 : Int32} {x8 : Int32} {x9 : Int32} {x10 : Int32} {P : gMu → gRes → Prop} (h : ((x6 ≤ x10) → (gWp none 17 (3, [some (.ref 15), some (.int x1), some (.int x2), some (.int x3), some (.int x4), some (.int (x5 + (1 : Int32))), some (.int x6), some (.int x7), some (.int x8), some (.int x9), some (.int x10)], [], μ) 0 P)) ∧ ((¬ x6 ≤ x10) → ((vp_in x10 50) ∧ (gWp none 17 (107, [some (.ref 15), some (.int x1), some (.int x2), some (.int x3), some (.int x4), some (.int x5), some (.int x6), some (.int x7), some (.int x8), some (.int x9), some (.int (x10 + (1 : Int32)))], [], (gsI μ 16 x10.toNatClampNeg x9)) 0 P)))) : gWp none 17 (107, [some (.ref 15), some (.int x1), some (.int x2), some (.int x3), some (.int x4), some (.int x5), some (.int x6), some (.int x7), some (.int x8), some (.int x9), some (.int x10)], [], μ) 0 P := by
  refine gWp_sts gT_17 2 (f' := (111, [some (.ref 15), some (.int x1), some (.int x2), some (.int x3), some (.int x4), some (.int x5), some (.int x6), some (.int x7), some (.int x8), some (.int x9), some (.int x10)], [.int x6, .int x10], μ)) (cs := []) rfl trivial ?_
  refine gWp_icmp gT_17 (pc := 111) rfl ⟨fun c => ?_, fun c => ?_⟩
  · replace h := h.1 (of_decide_eq_true c)
    refine gWp_sts gT_17 2 (f' := (3, [some (.ref 15), some (.int x1), some (.int x2), some (.int x3), some (.int x4), some (.int (x5 + (1 : Int32))), some (.int x6), some (.int x7), some (.int x8), some (.int x9), some (.int x10)], [], μ)) (cs := []) rfl trivial ?_
    exact h
  · replace h := h.2 (fun q => c (decide_eq_true q))
    obtain ⟨c1, h⟩ := h
    refine gWp_sts gT_17 7 (f' := (107, [some (.ref 15), some (.int x1), some (.int x2), some (.int x3), some (.int x4), some (.int x5), some (.int x6), some (.int x7), some (.int x8), some (.int x9), some (.int (x10 + (1 : Int32)))], [], (gsI μ 16 x10.toNatClampNeg x9))) (cs := [vp_in x10 50]) rfl c1 ?_
    exact h
set_option maxRecDepth 20000 in
theorem vc_17_3 {μ : gMu} {x1 : Int32} {x2 : Int32} {x3 : Int32} {x4 : Int32} {x5 : Int32} {P : gMu → gRes → Prop} (h : ((x2 ≤ x5) → (P μ (.inl none))) ∧ ((¬ x2 ≤ x5) → ((vp_in x5 50) ∧ (((¬ (gI μ 16 x5.toNatClampNeg) = (3 : Int32)) → (gWp none 17 (3, [some (.ref 15), some (.int x1), some (.int x2), some (.int x3), some (.int x4), some (.int (x5 + (1 : Int32))), none, none, none, none, none], [], μ) 0 P)) ∧ (((gI μ 16 x5.toNatClampNeg) = (3 : Int32)) → (gCl' 15 [.ref 15, .int x5, .int x2] μ (fun μ1 r => (∃ v2, r = .inl (some (.int v2)) ∧ (((¬ x5 = x1) → ((vp_in (x5 - (1 : Int32)) 50) ∧ (gCl' 16 [.int (gI μ1 16 ((x5 - (1 : Int32)).toNatClampNeg))] μ1 (fun μ3 r => (∃ v4, r = .inl (some (.int v4)) ∧ (((¬ v2 = x2) → ((vp_in v2 50) ∧ (gCl' 16 [.int (gI μ3 16 v2.toNatClampNeg)] μ3 (fun μ5 r => (∃ v6, r = .inl (some (.int v6)) ∧ (((¬ v4 = v6) → ((vp_in x5 50) ∧ (gCl' 14 [.int (gI μ5 13 x5.toNatClampNeg)] μ5 (fun μ7 r => (∃ v8, r = .inl (some (.int v8)) ∧ (gWp none 17 (107, [some (.ref 15), some (.int x1), some (.int x2), some (.int x3), some (.int x4), some (.int x5), some (.int v2), some (.int v4), some (.int v6), some (.int v8), some (.int x5)], [], μ7) 0 P)))))) ∧ ((v4 = v6) → (gWp none 17 (107, [some (.ref 15), some (.int x1), some (.int x2), some (.int x3), some (.int x4), some (.int x5), some (.int v2), some (.int v4), some (.int v6), some (.int v4), some (.int x5)], [], μ5) 0 P)))))))) ∧ ((v2 = x2) → (((¬ v4 = x4) → ((vp_in x5 50) ∧ (gCl' 14 [.int (gI μ3 13 x5.toNatClampNeg)] μ3 (fun μ9 r => (∃ v10, r = .inl (some (.int v10)) ∧ (gWp none 17 (107, [some (.ref 15), some (.int x1), some (.int x2), some (.int x3), some (.int x4), some (.int x5), some (.int v2), some (.int v4), some (.int x4), some (.int v10), some (.int x5)], [], μ9) 0 P)))))) ∧ ((v4 = x4) → (gWp none 17 (107, [some (.ref 15), some (.int x1), some (.int x2), some (.int x3), some (.int x4), some (.int x5), some (.int v2), some (.int v4), some (.int x4), some (.int v4), some (.int x5)], [], μ3) 0 P)))))))))) ∧ ((x5 = x1) → (((¬ v2 = x2) → ((vp_in v2 50) ∧ (gCl' 16 [.int (gI μ1 16 v2.toNatClampNeg)] μ1 (fun μ11 r => (∃ v12, r = .inl (some (.int v12)) ∧ (((¬ x3 = v12) → ((vp_in x5 50) ∧ (gCl' 14 [.int (gI μ11 13 x5.toNatClampNeg)] μ11 (fun μ13 r => (∃ v14, r = .inl (some (.int v14)) ∧ (gWp none 17 (107, [some (.ref 15), some (.int x1), some (.int x2), some (.int x3), some (.int x4), some (.int x5), some (.int v2), some (.int x3), some (.int v12), some (.int v14), some (.int x5)], [], μ13) 0 P)))))) ∧ ((x3 = v12) → (gWp none 17 (107, [some (.ref 15), some (.int x1), some (.int x2), some (.int x3), some (.int x4), some (.int x5), some (.int v2), some (.int x3), some (.int v12), some (.int x3), some (.int x5)], [], μ11) 0 P)))))))) ∧ ((v2 = x2) → (((¬ x3 = x4) → ((vp_in x5 50) ∧ (gCl' 14 [.int (gI μ1 13 x5.toNatClampNeg)] μ1 (fun μ15 r => (∃ v16, r = .inl (some (.int v16)) ∧ (gWp none 17 (107, [some (.ref 15), some (.int x1), some (.int x2), some (.int x3), some (.int x4), some (.int x5), some (.int v2), some (.int x3), some (.int x4), some (.int v16), some (.int x5)], [], μ15) 0 P)))))) ∧ ((x3 = x4) → (gWp none 17 (107, [some (.ref 15), some (.int x1), some (.int x2), some (.int x3), some (.int x4), some (.int x5), some (.int v2), some (.int x3), some (.int x4), some (.int x3), some (.int x5)], [], μ1) 0 P))))))))))))))) : gWp none 17 (3, [some (.ref 15), some (.int x1), some (.int x2), some (.int x3), some (.int x4), some (.int x5), none, none, none, none, none], [], μ) 0 P := by
  refine gWp_sts gT_17 2 (f' := (6, [some (.ref 15), some (.int x1), some (.int x2), some (.int x3), some (.int x4), some (.int x5), none, none, none, none, none], [.int x2, .int x5], μ)) (cs := []) rfl trivial ?_
  refine gWp_icmp gT_17 (pc := 6) rfl ⟨fun c => ?_, fun c => ?_⟩
  · replace h := h.1 (of_decide_eq_true c)
    exact gWp_end gT_17 rfl rfl h
  · replace h := h.2 (fun q => c (decide_eq_true q))
    obtain ⟨c1, h⟩ := h
    refine gWp_sts gT_17 5 (f' := (17, [some (.ref 15), some (.int x1), some (.int x2), some (.int x3), some (.int x4), some (.int x5), none, none, none, none, none], [.int (3 : Int32), .int (gI μ 16 x5.toNatClampNeg)], μ)) (cs := [vp_in x5 50]) rfl c1 ?_
    refine gWp_icmp gT_17 (pc := 17) rfl ⟨fun c => ?_, fun c => ?_⟩
    · replace h := h.1 (of_decide_eq_true c)
      refine gWp_sts gT_17 2 (f' := (3, [some (.ref 15), some (.int x1), some (.int x2), some (.int x3), some (.int x4), some (.int (x5 + (1 : Int32))), none, none, none, none, none], [], μ)) (cs := []) rfl trivial ?_
      exact h
    · replace h := h.2 (Classical.not_not.mp (fun q => c (decide_eq_true q)))
      refine gWp_sts gT_17 3 (f' := (24, [some (.ref 15), some (.int x1), some (.int x2), some (.int x3), some (.int x4), some (.int x5), none, none, none, none, none], [.int x2, .int x5, .ref 15], μ)) (cs := []) rfl trivial ?_
      refine gWp_virt gT_17 (pc := 24) (q := 15) (as := [.ref 15, .int x5, .int x2]) (rest := []) rfl rfl rfl rfl rfl rfl ⟨by decide, Nat.le_of_ble_eq_true rfl, by decide, Nat.le_of_ble_eq_true rfl⟩ (gWp_imp h (fun μ1 r h => ?_))
      obtain ⟨v2, rfl, h⟩ := h
      refine Or.inl ⟨_, rfl, ?_⟩
      show gWp none 17 (27, [some (.ref 15), some (.int x1), some (.int x2), some (.int x3), some (.int x4), some (.int x5), none, none, none, none, none], [.int v2], μ1) _ P
      refine gWp_sts gT_17 3 (f' := (32, [some (.ref 15), some (.int x1), some (.int x2), some (.int x3), some (.int x4), some (.int x5), some (.int v2), none, none, none, none], [.int x1, .int x5], μ1)) (cs := []) rfl trivial ?_
      refine gWp_icmp gT_17 (pc := 32) rfl ⟨fun c => ?_, fun c => ?_⟩
      · replace h := h.1 (of_decide_eq_true c)
        obtain ⟨c1, h⟩ := h
        refine gWp_sts gT_17 6 (f' := (48, [some (.ref 15), some (.int x1), some (.int x2), some (.int x3), some (.int x4), some (.int x5), some (.int v2), none, none, none, none], [.int (gI μ1 16 ((x5 - (1 : Int32)).toNatClampNeg))], μ1)) (cs := [vp_in (x5 - (1 : Int32)) 50]) rfl c1 ?_
        refine gWp_stat gT_17 (pc := 48) (c01 := 0) (as := [.int (gI μ1 16 ((x5 - (1 : Int32)).toNatClampNeg))]) (rest := []) rfl (Or.inl rfl) rfl rfl rfl ⟨by decide, Nat.le_of_ble_eq_true rfl, by decide, Nat.le_of_ble_eq_true rfl⟩ (gWp_imp h (fun μ3 r h => ?_))
        obtain ⟨v4, rfl, h⟩ := h
        refine Or.inl ⟨_, rfl, ?_⟩
        show gWp none 17 (51, [some (.ref 15), some (.int x1), some (.int x2), some (.int x3), some (.int x4), some (.int x5), some (.int v2), none, none, none, none], [.int v4], μ3) _ P
        refine gWp_sts gT_17 3 (f' := (56, [some (.ref 15), some (.int x1), some (.int x2), some (.int x3), some (.int x4), some (.int x5), some (.int v2), some (.int v4), none, none, none], [.int x2, .int v2], μ3)) (cs := []) rfl trivial ?_
        refine gWp_icmp gT_17 (pc := 56) rfl ⟨fun c => ?_, fun c => ?_⟩
        · replace h := h.1 (of_decide_eq_true c)
          obtain ⟨c1, h⟩ := h
          refine gWp_sts gT_17 4 (f' := (71, [some (.ref 15), some (.int x1), some (.int x2), some (.int x3), some (.int x4), some (.int x5), some (.int v2), some (.int v4), none, none, none], [.int (gI μ3 16 v2.toNatClampNeg)], μ3)) (cs := [vp_in v2 50]) rfl c1 ?_
          refine gWp_stat gT_17 (pc := 71) (c01 := 0) (as := [.int (gI μ3 16 v2.toNatClampNeg)]) (rest := []) rfl (Or.inl rfl) rfl rfl rfl ⟨by decide, Nat.le_of_ble_eq_true rfl, by decide, Nat.le_of_ble_eq_true rfl⟩ (gWp_imp h (fun μ5 r h => ?_))
          obtain ⟨v6, rfl, h⟩ := h
          refine Or.inl ⟨_, rfl, ?_⟩
          show gWp none 17 (74, [some (.ref 15), some (.int x1), some (.int x2), some (.int x3), some (.int x4), some (.int x5), some (.int v2), some (.int v4), none, none, none], [.int v6], μ5) _ P
          refine gWp_sts gT_17 3 (f' := (80, [some (.ref 15), some (.int x1), some (.int x2), some (.int x3), some (.int x4), some (.int x5), some (.int v2), some (.int v4), some (.int v6), none, none], [.int v6, .int v4], μ5)) (cs := []) rfl trivial ?_
          refine gWp_icmp gT_17 (pc := 80) rfl ⟨fun c => ?_, fun c => ?_⟩
          · replace h := h.1 (of_decide_eq_true c)
            obtain ⟨c1, h⟩ := h
            refine gWp_sts gT_17 5 (f' := (98, [some (.ref 15), some (.int x1), some (.int x2), some (.int x3), some (.int x4), some (.int x5), some (.int v2), some (.int v4), some (.int v6), none, none], [.int (gI μ5 13 x5.toNatClampNeg)], μ5)) (cs := [vp_in x5 50]) rfl c1 ?_
            refine gWp_stat gT_17 (pc := 98) (c01 := 0) (as := [.int (gI μ5 13 x5.toNatClampNeg)]) (rest := []) rfl (Or.inl rfl) rfl rfl rfl ⟨by decide, Nat.le_of_ble_eq_true rfl, by decide, Nat.le_of_ble_eq_true rfl⟩ (gWp_imp h (fun μ7 r h => ?_))
            obtain ⟨v8, rfl, h⟩ := h
            refine Or.inl ⟨_, rfl, ?_⟩
            show gWp none 17 (101, [some (.ref 15), some (.int x1), some (.int x2), some (.int x3), some (.int x4), some (.int x5), some (.int v2), some (.int v4), some (.int v6), none, none], [.int v8], μ7) _ P
            refine gWp_sts gT_17 3 (f' := (107, [some (.ref 15), some (.int x1), some (.int x2), some (.int x3), some (.int x4), some (.int x5), some (.int v2), some (.int v4), some (.int v6), some (.int v8), some (.int x5)], [], μ7)) (cs := []) rfl trivial ?_
            exact h
          · replace h := h.2 (Classical.not_not.mp (fun q => c (decide_eq_true q)))
            refine gWp_sts gT_17 5 (f' := (107, [some (.ref 15), some (.int x1), some (.int x2), some (.int x3), some (.int x4), some (.int x5), some (.int v2), some (.int v4), some (.int v6), some (.int v4), some (.int x5)], [], μ5)) (cs := []) rfl trivial ?_
            exact h
        · replace h := h.2 (Classical.not_not.mp (fun q => c (decide_eq_true q)))
          refine gWp_sts gT_17 5 (f' := (80, [some (.ref 15), some (.int x1), some (.int x2), some (.int x3), some (.int x4), some (.int x5), some (.int v2), some (.int v4), some (.int x4), none, none], [.int x4, .int v4], μ3)) (cs := []) rfl trivial ?_
          refine gWp_icmp gT_17 (pc := 80) rfl ⟨fun c => ?_, fun c => ?_⟩
          · replace h := h.1 (of_decide_eq_true c)
            obtain ⟨c1, h⟩ := h
            refine gWp_sts gT_17 5 (f' := (98, [some (.ref 15), some (.int x1), some (.int x2), some (.int x3), some (.int x4), some (.int x5), some (.int v2), some (.int v4), some (.int x4), none, none], [.int (gI μ3 13 x5.toNatClampNeg)], μ3)) (cs := [vp_in x5 50]) rfl c1 ?_
            refine gWp_stat gT_17 (pc := 98) (c01 := 0) (as := [.int (gI μ3 13 x5.toNatClampNeg)]) (rest := []) rfl (Or.inl rfl) rfl rfl rfl ⟨by decide, Nat.le_of_ble_eq_true rfl, by decide, Nat.le_of_ble_eq_true rfl⟩ (gWp_imp h (fun μ9 r h => ?_))
            obtain ⟨v10, rfl, h⟩ := h
            refine Or.inl ⟨_, rfl, ?_⟩
            show gWp none 17 (101, [some (.ref 15), some (.int x1), some (.int x2), some (.int x3), some (.int x4), some (.int x5), some (.int v2), some (.int v4), some (.int x4), none, none], [.int v10], μ9) _ P
            refine gWp_sts gT_17 3 (f' := (107, [some (.ref 15), some (.int x1), some (.int x2), some (.int x3), some (.int x4), some (.int x5), some (.int v2), some (.int v4), some (.int x4), some (.int v10), some (.int x5)], [], μ9)) (cs := []) rfl trivial ?_
            exact h
          · replace h := h.2 (Classical.not_not.mp (fun q => c (decide_eq_true q)))
            refine gWp_sts gT_17 5 (f' := (107, [some (.ref 15), some (.int x1), some (.int x2), some (.int x3), some (.int x4), some (.int x5), some (.int v2), some (.int v4), some (.int x4), some (.int v4), some (.int x5)], [], μ3)) (cs := []) rfl trivial ?_
            exact h
      · replace h := h.2 (Classical.not_not.mp (fun q => c (decide_eq_true q)))
        refine gWp_sts gT_17 5 (f' := (56, [some (.ref 15), some (.int x1), some (.int x2), some (.int x3), some (.int x4), some (.int x5), some (.int v2), some (.int x3), none, none, none], [.int x2, .int v2], μ1)) (cs := []) rfl trivial ?_
        refine gWp_icmp gT_17 (pc := 56) rfl ⟨fun c => ?_, fun c => ?_⟩
        · replace h := h.1 (of_decide_eq_true c)
          obtain ⟨c1, h⟩ := h
          refine gWp_sts gT_17 4 (f' := (71, [some (.ref 15), some (.int x1), some (.int x2), some (.int x3), some (.int x4), some (.int x5), some (.int v2), some (.int x3), none, none, none], [.int (gI μ1 16 v2.toNatClampNeg)], μ1)) (cs := [vp_in v2 50]) rfl c1 ?_
          refine gWp_stat gT_17 (pc := 71) (c01 := 0) (as := [.int (gI μ1 16 v2.toNatClampNeg)]) (rest := []) rfl (Or.inl rfl) rfl rfl rfl ⟨by decide, Nat.le_of_ble_eq_true rfl, by decide, Nat.le_of_ble_eq_true rfl⟩ (gWp_imp h (fun μ11 r h => ?_))
          obtain ⟨v12, rfl, h⟩ := h
          refine Or.inl ⟨_, rfl, ?_⟩
          show gWp none 17 (74, [some (.ref 15), some (.int x1), some (.int x2), some (.int x3), some (.int x4), some (.int x5), some (.int v2), some (.int x3), none, none, none], [.int v12], μ11) _ P
          refine gWp_sts gT_17 3 (f' := (80, [some (.ref 15), some (.int x1), some (.int x2), some (.int x3), some (.int x4), some (.int x5), some (.int v2), some (.int x3), some (.int v12), none, none], [.int v12, .int x3], μ11)) (cs := []) rfl trivial ?_
          refine gWp_icmp gT_17 (pc := 80) rfl ⟨fun c => ?_, fun c => ?_⟩
          · replace h := h.1 (of_decide_eq_true c)
            obtain ⟨c1, h⟩ := h
            refine gWp_sts gT_17 5 (f' := (98, [some (.ref 15), some (.int x1), some (.int x2), some (.int x3), some (.int x4), some (.int x5), some (.int v2), some (.int x3), some (.int v12), none, none], [.int (gI μ11 13 x5.toNatClampNeg)], μ11)) (cs := [vp_in x5 50]) rfl c1 ?_
            refine gWp_stat gT_17 (pc := 98) (c01 := 0) (as := [.int (gI μ11 13 x5.toNatClampNeg)]) (rest := []) rfl (Or.inl rfl) rfl rfl rfl ⟨by decide, Nat.le_of_ble_eq_true rfl, by decide, Nat.le_of_ble_eq_true rfl⟩ (gWp_imp h (fun μ13 r h => ?_))
            obtain ⟨v14, rfl, h⟩ := h
            refine Or.inl ⟨_, rfl, ?_⟩
            show gWp none 17 (101, [some (.ref 15), some (.int x1), some (.int x2), some (.int x3), some (.int x4), some (.int x5), some (.int v2), some (.int x3), some (.int v12), none, none], [.int v14], μ13) _ P
            refine gWp_sts gT_17 3 (f' := (107, [some (.ref 15), some (.int x1), some (.int x2), some (.int x3), some (.int x4), some (.int x5), some (.int v2), some (.int x3), some (.int v12), some (.int v14), some (.int x5)], [], μ13)) (cs := []) rfl trivial ?_
            exact h
          · replace h := h.2 (Classical.not_not.mp (fun q => c (decide_eq_true q)))
            refine gWp_sts gT_17 5 (f' := (107, [some (.ref 15), some (.int x1), some (.int x2), some (.int x3), some (.int x4), some (.int x5), some (.int v2), some (.int x3), some (.int v12), some (.int x3), some (.int x5)], [], μ11)) (cs := []) rfl trivial ?_
            exact h
        · replace h := h.2 (Classical.not_not.mp (fun q => c (decide_eq_true q)))
          refine gWp_sts gT_17 5 (f' := (80, [some (.ref 15), some (.int x1), some (.int x2), some (.int x3), some (.int x4), some (.int x5), some (.int v2), some (.int x3), some (.int x4), none, none], [.int x4, .int x3], μ1)) (cs := []) rfl trivial ?_
          refine gWp_icmp gT_17 (pc := 80) rfl ⟨fun c => ?_, fun c => ?_⟩
          · replace h := h.1 (of_decide_eq_true c)
            obtain ⟨c1, h⟩ := h
            refine gWp_sts gT_17 5 (f' := (98, [some (.ref 15), some (.int x1), some (.int x2), some (.int x3), some (.int x4), some (.int x5), some (.int v2), some (.int x3), some (.int x4), none, none], [.int (gI μ1 13 x5.toNatClampNeg)], μ1)) (cs := [vp_in x5 50]) rfl c1 ?_
            refine gWp_stat gT_17 (pc := 98) (c01 := 0) (as := [.int (gI μ1 13 x5.toNatClampNeg)]) (rest := []) rfl (Or.inl rfl) rfl rfl rfl ⟨by decide, Nat.le_of_ble_eq_true rfl, by decide, Nat.le_of_ble_eq_true rfl⟩ (gWp_imp h (fun μ15 r h => ?_))
            obtain ⟨v16, rfl, h⟩ := h
            refine Or.inl ⟨_, rfl, ?_⟩
            show gWp none 17 (101, [some (.ref 15), some (.int x1), some (.int x2), some (.int x3), some (.int x4), some (.int x5), some (.int v2), some (.int x3), some (.int x4), none, none], [.int v16], μ15) _ P
            refine gWp_sts gT_17 3 (f' := (107, [some (.ref 15), some (.int x1), some (.int x2), some (.int x3), some (.int x4), some (.int x5), some (.int v2), some (.int x3), some (.int x4), some (.int v16), some (.int x5)], [], μ15)) (cs := []) rfl trivial ?_
            exact h
          · replace h := h.2 (Classical.not_not.mp (fun q => c (decide_eq_true q)))
            refine gWp_sts gT_17 5 (f' := (107, [some (.ref 15), some (.int x1), some (.int x2), some (.int x3), some (.int x4), some (.int x5), some (.int v2), some (.int x3), some (.int x4), some (.int x3), some (.int x5)], [], μ1)) (cs := []) rfl trivial ?_
            exact h
set_option maxRecDepth 20000 in
theorem vc_17 {μ : gMu} {x1 : Int32} {x2 : Int32} {x3 : Int32} {x4 : Int32} {P : gMu → gRes → Prop} (h : gWp none 17 (3, [some (.ref 15), some (.int x1), some (.int x2), some (.int x3), some (.int x4), some (.int x1), none, none, none, none, none], [], μ) 0 P) : gWp none 17 (0, [some (.ref 15), some (.int x1), some (.int x2), some (.int x3), some (.int x4), none, none, none, none, none, none], [], μ) 0 P := by
  refine gWp_sts gT_17 2 (f' := (3, [some (.ref 15), some (.int x1), some (.int x2), some (.int x3), some (.int x4), some (.int x1), none, none, none, none, none], [], μ)) (cs := []) rfl trivial ?_
  exact h
/-! Glyphmill$Levels.setLevels -/
theorem gT_18 : gCode[18]? = some gC_18 := rfl
set_option maxRecDepth 20000 in
theorem vc_18_2 {μ : gMu} {x1 : Int32} {x2 : Int32} {x3 : Int32} {P : gMu → gRes → Prop} (h : ((x2 ≤ x3) → (P μ (.inl none))) ∧ ((¬ x2 ≤ x3) → ((vp_in x3 50) ∧ (gCl' 13 [.int (gI μ 13 x3.toNatClampNeg)] μ (fun μ1 r => (∃ v2, r = .inl (some (.int v2)) ∧ (((v2 = 0) → ((vp_in x3 50) ∧ (((¬ (gI μ1 16 x3.toNatClampNeg) = 0) → ((vp_in x3 50) ∧ (((¬ (gI μ1 16 x3.toNatClampNeg) = (1 : Int32)) → ((vp_in x3 50) ∧ (gWp none 18 (2, [some (.ref 15), some (.int x1), some (.int x2), some (.int (x3 + (1 : Int32))), some (.int (gI μ 13 x3.toNatClampNeg))], [], (gsI μ1 17 x3.toNatClampNeg ((gI μ 13 x3.toNatClampNeg) + (2 : Int32)))) 0 P))) ∧ (((gI μ1 16 x3.toNatClampNeg) = (1 : Int32)) → ((vp_in x3 50) ∧ (gWp none 18 (2, [some (.ref 15), some (.int x1), some (.int x2), some (.int (x3 + (1 : Int32))), some (.int (gI μ 13 x3.toNatClampNeg))], [], (gsI μ1 17 x3.toNatClampNeg ((gI μ 13 x3.toNatClampNeg) + (1 : Int32)))) 0 P)))))) ∧ (((gI μ1 16 x3.toNatClampNeg) = 0) → ((vp_in x3 50) ∧ (gWp none 18 (2, [some (.ref 15), some (.int x1), some (.int x2), some (.int (x3 + (1 : Int32))), some (.int (gI μ 13 x3.toNatClampNeg))], [], (gsI μ1 17 x3.toNatClampNeg (gI μ 13 x3.toNatClampNeg))) 0 P)))))) ∧ ((¬ v2 = 0) → ((vp_in x3 50) ∧ (((¬ (gI μ1 16 x3.toNatClampNeg) = (1 : Int32)) → ((vp_in x3 50) ∧ (gWp none 18 (2, [some (.ref 15), some (.int x1), some (.int x2), some (.int (x3 + (1 : Int32))), some (.int (gI μ 13 x3.toNatClampNeg))], [], (gsI μ1 17 x3.toNatClampNeg ((gI μ 13 x3.toNatClampNeg) + (1 : Int32)))) 0 P))) ∧ (((gI μ1 16 x3.toNatClampNeg) = (1 : Int32)) → ((vp_in x3 50) ∧ (gWp none 18 (2, [some (.ref 15), some (.int x1), some (.int x2), some (.int (x3 + (1 : Int32))), some (.int (gI μ 13 x3.toNatClampNeg))], [], (gsI μ1 17 x3.toNatClampNeg (gI μ 13 x3.toNatClampNeg))) 0 P))))))))))))) : gWp none 18 (2, [some (.ref 15), some (.int x1), some (.int x2), some (.int x3), none], [], μ) 0 P := by
  refine gWp_sts gT_18 2 (f' := (4, [some (.ref 15), some (.int x1), some (.int x2), some (.int x3), none], [.int x2, .int x3], μ)) (cs := []) rfl trivial ?_
  refine gWp_icmp gT_18 (pc := 4) rfl ⟨fun c => ?_, fun c => ?_⟩
  · replace h := h.1 (of_decide_eq_true c)
    exact gWp_end gT_18 rfl rfl h
  · replace h := h.2 (fun q => c (decide_eq_true q))
    obtain ⟨c1, h⟩ := h
    refine gWp_sts gT_18 7 (f' := (20, [some (.ref 15), some (.int x1), some (.int x2), some (.int x3), some (.int (gI μ 13 x3.toNatClampNeg))], [.int (gI μ 13 x3.toNatClampNeg)], μ)) (cs := [vp_in x3 50]) rfl c1 ?_
    refine gWp_stat gT_18 (pc := 20) (c01 := 1) (as := [.int (gI μ 13 x3.toNatClampNeg)]) (rest := []) rfl (Or.inr rfl) rfl rfl rfl ⟨by decide, Nat.le_of_ble_eq_true rfl, by decide, Nat.le_of_ble_eq_true rfl⟩ (gWp_imp h (fun μ1 r h => ?_))
    obtain ⟨v2, rfl, h⟩ := h
    refine Or.inl ⟨_, rfl, ?_⟩
    show gWp none 18 (23, [some (.ref 15), some (.int x1), some (.int x2), some (.int x3), some (.int (gI μ 13 x3.toNatClampNeg))], [.int v2], μ1) _ P
    refine gWp_if gT_18 (pc := 23) rfl ⟨fun c => ?_, fun c => ?_⟩
    · replace h := h.1 (of_decide_eq_true c)
      obtain ⟨c1, h⟩ := h
      refine gWp_sts gT_18 7 (f' := (65, [some (.ref 15), some (.int x1), some (.int x2), some (.int x3), some (.int (gI μ 13 x3.toNatClampNeg))], [.int (gI μ1 16 x3.toNatClampNeg), .int x3, .ref 17], μ1)) (cs := [vp_in x3 50]) rfl c1 ?_
      refine gWp_if gT_18 (pc := 65) rfl ⟨fun c => ?_, fun c => ?_⟩
      · replace h := h.1 (of_decide_eq_true c)
        obtain ⟨c1, h⟩ := h
        refine gWp_sts gT_18 5 (f' := (80, [some (.ref 15), some (.int x1), some (.int x2), some (.int x3), some (.int (gI μ 13 x3.toNatClampNeg))], [.int (1 : Int32), .int (gI μ1 16 x3.toNatClampNeg), .int x3, .ref 17], μ1)) (cs := [vp_in x3 50]) rfl c1 ?_
        refine gWp_icmp gT_18 (pc := 80) rfl ⟨fun c => ?_, fun c => ?_⟩
        · replace h := h.1 (of_decide_eq_true c)
          obtain ⟨c1, h⟩ := h
          refine gWp_sts gT_18 6 (f' := (2, [some (.ref 15), some (.int x1), some (.int x2), some (.int (x3 + (1 : Int32))), some (.int (gI μ 13 x3.toNatClampNeg))], [], (gsI μ1 17 x3.toNatClampNeg ((gI μ 13 x3.toNatClampNeg) + (2 : Int32))))) (cs := [vp_in x3 50]) rfl c1 ?_
          exact h
        · replace h := h.2 (Classical.not_not.mp (fun q => c (decide_eq_true q)))
          obtain ⟨c1, h⟩ := h
          refine gWp_sts gT_18 7 (f' := (2, [some (.ref 15), some (.int x1), some (.int x2), some (.int (x3 + (1 : Int32))), some (.int (gI μ 13 x3.toNatClampNeg))], [], (gsI μ1 17 x3.toNatClampNeg ((gI μ 13 x3.toNatClampNeg) + (1 : Int32))))) (cs := [vp_in x3 50]) rfl c1 ?_
          exact h
      · replace h := h.2 (Classical.not_not.mp (fun q => c (decide_eq_true q)))
        obtain ⟨c1, h⟩ := h
        refine gWp_sts gT_18 5 (f' := (2, [some (.ref 15), some (.int x1), some (.int x2), some (.int (x3 + (1 : Int32))), some (.int (gI μ 13 x3.toNatClampNeg))], [], (gsI μ1 17 x3.toNatClampNeg (gI μ 13 x3.toNatClampNeg)))) (cs := [vp_in x3 50]) rfl c1 ?_
        exact h
    · replace h := h.2 (fun q => c (decide_eq_true q))
      obtain ⟨c1, h⟩ := h
      refine gWp_sts gT_18 8 (f' := (38, [some (.ref 15), some (.int x1), some (.int x2), some (.int x3), some (.int (gI μ 13 x3.toNatClampNeg))], [.int (1 : Int32), .int (gI μ1 16 x3.toNatClampNeg), .int x3, .ref 17], μ1)) (cs := [vp_in x3 50]) rfl c1 ?_
      refine gWp_icmp gT_18 (pc := 38) rfl ⟨fun c => ?_, fun c => ?_⟩
      · replace h := h.1 (of_decide_eq_true c)
        obtain ⟨c1, h⟩ := h
        refine gWp_sts gT_18 7 (f' := (2, [some (.ref 15), some (.int x1), some (.int x2), some (.int (x3 + (1 : Int32))), some (.int (gI μ 13 x3.toNatClampNeg))], [], (gsI μ1 17 x3.toNatClampNeg ((gI μ 13 x3.toNatClampNeg) + (1 : Int32))))) (cs := [vp_in x3 50]) rfl c1 ?_
        exact h
      · replace h := h.2 (Classical.not_not.mp (fun q => c (decide_eq_true q)))
        obtain ⟨c1, h⟩ := h
        refine gWp_sts gT_18 6 (f' := (2, [some (.ref 15), some (.int x1), some (.int x2), some (.int (x3 + (1 : Int32))), some (.int (gI μ 13 x3.toNatClampNeg))], [], (gsI μ1 17 x3.toNatClampNeg (gI μ 13 x3.toNatClampNeg)))) (cs := [vp_in x3 50]) rfl c1 ?_
        exact h
set_option maxRecDepth 20000 in
theorem vc_18 {μ : gMu} {x1 : Int32} {x2 : Int32} {P : gMu → gRes → Prop} (h : gWp none 18 (2, [some (.ref 15), some (.int x1), some (.int x2), some (.int x1), none], [], μ) 0 P) : gWp none 18 (0, [some (.ref 15), some (.int x1), some (.int x2), none, none], [], μ) 0 P := by
  refine gWp_sts gT_18 2 (f' := (2, [some (.ref 15), some (.int x1), some (.int x2), some (.int x1), none], [], μ)) (cs := []) rfl trivial ?_
  exact h
/-! Glyphmill.isDigit -/
theorem gT_19 : gCode[19]? = some gC_19 := rfl
set_option maxRecDepth 20000 in
theorem vc_19 {μ : gMu} {x0 : Int32} {P : gMu → gRes → Prop} (h : ((x0 < (48 : Int32)) → (P μ (.inl (some (.int (0 : Int32)))))) ∧ ((¬ x0 < (48 : Int32)) → ((((57 : Int32) < x0) → (P μ (.inl (some (.int (0 : Int32)))))) ∧ ((¬ (57 : Int32) < x0) → (P μ (.inl (some (.int (1 : Int32))))))))) : gWp none 19 (0, [some (.int x0)], [], μ) 0 P := by
  refine gWp_sts gT_19 2 (f' := (3, [some (.int x0)], [.int (48 : Int32), .int x0], μ)) (cs := []) rfl trivial ?_
  refine gWp_icmp gT_19 (pc := 3) rfl ⟨fun c => ?_, fun c => ?_⟩
  · replace h := h.1 (of_decide_eq_true c)
    refine gWp_sts gT_19 1 (f' := (17, [some (.int x0)], [.int (0 : Int32)], μ)) (cs := []) rfl trivial ?_
    exact gWp_end gT_19 rfl (gEnd_int (show narrow .boolean (.int (0 : Int32)) = .int (0 : Int32) by decide)) h
  · replace h := h.2 (fun q => c (decide_eq_true q))
    refine gWp_sts gT_19 2 (f' := (9, [some (.int x0)], [.int (57 : Int32), .int x0], μ)) (cs := []) rfl trivial ?_
    refine gWp_icmp gT_19 (pc := 9) rfl ⟨fun c => ?_, fun c => ?_⟩
    · replace h := h.1 (of_decide_eq_true c)
      refine gWp_sts gT_19 1 (f' := (17, [some (.int x0)], [.int (0 : Int32)], μ)) (cs := []) rfl trivial ?_
      exact gWp_end gT_19 rfl (gEnd_int (show narrow .boolean (.int (0 : Int32)) = .int (0 : Int32) by decide)) h
    · replace h := h.2 (fun q => c (decide_eq_true q))
      refine gWp_sts gT_19 2 (f' := (17, [some (.int x0)], [.int (1 : Int32)], μ)) (cs := []) rfl trivial ?_
      exact gWp_end gT_19 rfl (gEnd_int (show narrow .boolean (.int (1 : Int32)) = .int (1 : Int32) by decide)) h
/-! Glyphmill.isLeftLetter -/
theorem gT_20 : gCode[20]? = some gC_20 := rfl
set_option maxRecDepth 20000 in
theorem vc_20 {μ : gMu} {x0 : Int32} {P : gMu → gRes → Prop} (h : ((x0 < (97 : Int32)) → (P μ (.inl (some (.int (0 : Int32)))))) ∧ ((¬ x0 < (97 : Int32)) → ((((122 : Int32) < x0) → (P μ (.inl (some (.int (0 : Int32)))))) ∧ ((¬ (122 : Int32) < x0) → (P μ (.inl (some (.int (1 : Int32))))))))) : gWp none 20 (0, [some (.int x0)], [], μ) 0 P := by
  refine gWp_sts gT_20 2 (f' := (3, [some (.int x0)], [.int (97 : Int32), .int x0], μ)) (cs := []) rfl trivial ?_
  refine gWp_icmp gT_20 (pc := 3) rfl ⟨fun c => ?_, fun c => ?_⟩
  · replace h := h.1 (of_decide_eq_true c)
    refine gWp_sts gT_20 1 (f' := (17, [some (.int x0)], [.int (0 : Int32)], μ)) (cs := []) rfl trivial ?_
    exact gWp_end gT_20 rfl (gEnd_int (show narrow .boolean (.int (0 : Int32)) = .int (0 : Int32) by decide)) h
  · replace h := h.2 (fun q => c (decide_eq_true q))
    refine gWp_sts gT_20 2 (f' := (9, [some (.int x0)], [.int (122 : Int32), .int x0], μ)) (cs := []) rfl trivial ?_
    refine gWp_icmp gT_20 (pc := 9) rfl ⟨fun c => ?_, fun c => ?_⟩
    · replace h := h.1 (of_decide_eq_true c)
      refine gWp_sts gT_20 1 (f' := (17, [some (.int x0)], [.int (0 : Int32)], μ)) (cs := []) rfl trivial ?_
      exact gWp_end gT_20 rfl (gEnd_int (show narrow .boolean (.int (0 : Int32)) = .int (0 : Int32) by decide)) h
    · replace h := h.2 (fun q => c (decide_eq_true q))
      refine gWp_sts gT_20 2 (f' := (17, [some (.int x0)], [.int (1 : Int32)], μ)) (cs := []) rfl trivial ?_
      exact gWp_end gT_20 rfl (gEnd_int (show narrow .boolean (.int (1 : Int32)) = .int (1 : Int32) by decide)) h
/-! Glyphmill.isRightLetter -/
theorem gT_21 : gCode[21]? = some gC_21 := rfl
set_option maxRecDepth 20000 in
theorem vc_21 {μ : gMu} {x0 : Int32} {P : gMu → gRes → Prop} (h : ((x0 < (65 : Int32)) → (P μ (.inl (some (.int (0 : Int32)))))) ∧ ((¬ x0 < (65 : Int32)) → ((((90 : Int32) < x0) → (P μ (.inl (some (.int (0 : Int32)))))) ∧ ((¬ (90 : Int32) < x0) → (P μ (.inl (some (.int (1 : Int32))))))))) : gWp none 21 (0, [some (.int x0)], [], μ) 0 P := by
  refine gWp_sts gT_21 2 (f' := (3, [some (.int x0)], [.int (65 : Int32), .int x0], μ)) (cs := []) rfl trivial ?_
  refine gWp_icmp gT_21 (pc := 3) rfl ⟨fun c => ?_, fun c => ?_⟩
  · replace h := h.1 (of_decide_eq_true c)
    refine gWp_sts gT_21 1 (f' := (17, [some (.int x0)], [.int (0 : Int32)], μ)) (cs := []) rfl trivial ?_
    exact gWp_end gT_21 rfl (gEnd_int (show narrow .boolean (.int (0 : Int32)) = .int (0 : Int32) by decide)) h
  · replace h := h.2 (fun q => c (decide_eq_true q))
    refine gWp_sts gT_21 2 (f' := (9, [some (.int x0)], [.int (90 : Int32), .int x0], μ)) (cs := []) rfl trivial ?_
    refine gWp_icmp gT_21 (pc := 9) rfl ⟨fun c => ?_, fun c => ?_⟩
    · replace h := h.1 (of_decide_eq_true c)
      refine gWp_sts gT_21 1 (f' := (17, [some (.int x0)], [.int (0 : Int32)], μ)) (cs := []) rfl trivial ?_
      exact gWp_end gT_21 rfl (gEnd_int (show narrow .boolean (.int (0 : Int32)) = .int (0 : Int32) by decide)) h
    · replace h := h.2 (fun q => c (decide_eq_true q))
      refine gWp_sts gT_21 2 (f' := (17, [some (.int x0)], [.int (1 : Int32)], μ)) (cs := []) rfl trivial ?_
      exact gWp_end gT_21 rfl (gEnd_int (show narrow .boolean (.int (1 : Int32)) = .int (1 : Int32) by decide)) h
/-! Glyphmill.isLetter -/
theorem gT_22 : gCode[22]? = some gC_22 := rfl
set_option maxRecDepth 20000 in
theorem vc_22 {μ : gMu} {x0 : Int32} {P : gMu → gRes → Prop} (h : gCl' 20 [.int x0] μ (fun μ1 r => (∃ v2, r = .inl (some (.int v2)) ∧ (((¬ v2 = 0) → (P μ1 (.inl (some (.int (1 : Int32)))))) ∧ ((v2 = 0) → (gCl' 21 [.int x0] μ1 (fun μ3 r => (∃ v4, r = .inl (some (.int v4)) ∧ (((v4 = 0) → (P μ3 (.inl (some (.int (0 : Int32)))))) ∧ ((¬ v4 = 0) → (P μ3 (.inl (some (.int (1 : Int32))))))))))))))) : gWp none 22 (0, [some (.int x0)], [], μ) 0 P := by
  refine gWp_sts gT_22 1 (f' := (1, [some (.int x0)], [.int x0], μ)) (cs := []) rfl trivial ?_
  refine gWp_stat gT_22 (pc := 1) (c01 := 0) (as := [.int x0]) (rest := []) rfl (Or.inl rfl) rfl rfl rfl ⟨by decide, Nat.le_of_ble_eq_true rfl, by decide, Nat.le_of_ble_eq_true rfl⟩ (gWp_imp h (fun μ1 r h => ?_))
  obtain ⟨v2, rfl, h⟩ := h
  refine Or.inl ⟨_, rfl, ?_⟩
  show gWp none 22 (4, [some (.int x0)], [.int v2], μ1) _ P
  refine gWp_if gT_22 (pc := 4) rfl ⟨fun c => ?_, fun c => ?_⟩
  · replace h := h.1 (of_decide_eq_true c)
    refine gWp_sts gT_22 2 (f' := (19, [some (.int x0)], [.int (1 : Int32)], μ1)) (cs := []) rfl trivial ?_
    exact gWp_end gT_22 rfl (gEnd_int (show narrow .boolean (.int (1 : Int32)) = .int (1 : Int32) by decide)) h
  · replace h := h.2 (Classical.not_not.mp (fun q => c (decide_eq_true q)))
    refine gWp_sts gT_22 1 (f' := (8, [some (.int x0)], [.int x0], μ1)) (cs := []) rfl trivial ?_
    refine gWp_stat gT_22 (pc := 8) (c01 := 0) (as := [.int x0]) (rest := []) rfl (Or.inl rfl) rfl rfl rfl ⟨by decide, Nat.le_of_ble_eq_true rfl, by decide, Nat.le_of_ble_eq_true rfl⟩ (gWp_imp h (fun μ3 r h => ?_))
    obtain ⟨v4, rfl, h⟩ := h
    refine Or.inl ⟨_, rfl, ?_⟩
    show gWp none 22 (11, [some (.int x0)], [.int v4], μ3) _ P
    refine gWp_if gT_22 (pc := 11) rfl ⟨fun c => ?_, fun c => ?_⟩
    · replace h := h.1 (of_decide_eq_true c)
      refine gWp_sts gT_22 1 (f' := (19, [some (.int x0)], [.int (0 : Int32)], μ3)) (cs := []) rfl trivial ?_
      exact gWp_end gT_22 rfl (gEnd_int (show narrow .boolean (.int (0 : Int32)) = .int (0 : Int32) by decide)) h
    · replace h := h.2 (fun q => c (decide_eq_true q))
      refine gWp_sts gT_22 2 (f' := (19, [some (.int x0)], [.int (1 : Int32)], μ3)) (cs := []) rfl trivial ?_
      exact gWp_end gT_22 rfl (gEnd_int (show narrow .boolean (.int (1 : Int32)) = .int (1 : Int32) by decide)) h
/-! Glyphmill$Levels.sortKinds -/
theorem gT_23 : gCode[23]? = some gC_23 := rfl
set_option maxRecDepth 20000 in
theorem vc_23_6 {μ : gMu} {x1 : Int32} {x2 : Int32} {x3 : Int32} {x4 : Int32} {x5 : Int32} {P : gMu → gRes → Prop} (h : ((x2 ≤ x5) → (P μ (.inl none))) ∧ ((¬ x2 ≤ x5) → ((vp_in x5 50) ∧ (gCl' 22 [.int (gI μ 12 x5.toNatClampNeg)] μ (fun μ1 r => (∃ v2, r = .inl (some (.int v2)) ∧ (((v2 = 0) → (gCl' 19 [.int (gI μ 12 x5.toNatClampNeg)] μ1 (fun μ3 r => (∃ v4, r = .inl (some (.int v4)) ∧ (((v4 = 0) → ((vp_in x5 50) ∧ (gWp none 23 (6, [some (.ref 15), some (.int x1), some (.int x2), some (.int x3), some (.int x4), some (.int (x5 + (1 : Int32))), some (.int (gI μ 12 x5.toNatClampNeg))], [], (gsI μ3 16 x5.toNatClampNeg (3 : Int32))) 0 P))) ∧ ((¬ v4 = 0) → (((¬ x4 = 0) → ((vp_in x5 50) ∧ (gWp none 23 (6, [some (.ref 15), some (.int x1), some (.int x2), some (.int x3), some (.int x4), some (.int (x5 + (1 : Int32))), some (.int (gI μ 12 x5.toNatClampNeg))], [], (gsI μ3 16 x5.toNatClampNeg (2 : Int32))) 0 P))) ∧ ((x4 = 0) → ((vp_in x5 50) ∧ (gWp none 23 (6, [some (.ref 15), some (.int x1), some (.int x2), some (.int x3), some (.int x4), some (.int (x5 + (1 : Int32))), some (.int (gI μ 12 x5.toNatClampNeg))], [], (gsI μ3 16 x5.toNatClampNeg (0 : Int32))) 0 P)))))))))) ∧ ((¬ v2 = 0) → (gCl' 20 [.int (gI μ 12 x5.toNatClampNeg)] μ1 (fun μ5 r => (∃ v6, r = .inl (some (.int v6)) ∧ (((v6 = 0) → ((vp_in x5 50) ∧ (gWp none 23 (6, [some (.ref 15), some (.int x1), some (.int x2), some (.int x3), some (.int (1 : Int32)), some (.int (x5 + (1 : Int32))), some (.int (gI μ 12 x5.toNatClampNeg))], [], (gsI μ5 16 x5.toNatClampNeg (1 : Int32))) 0 P))) ∧ ((¬ v6 = 0) → ((vp_in x5 50) ∧ (gWp none 23 (6, [some (.ref 15), some (.int x1), some (.int x2), some (.int x3), some (.int (0 : Int32)), some (.int (x5 + (1 : Int32))), some (.int (gI μ 12 x5.toNatClampNeg))], [], (gsI μ5 16 x5.toNatClampNeg (0 : Int32))) 0 P))))))))))))))) : gWp none 23 (6, [some (.ref 15), some (.int x1), some (.int x2), some (.int x3), some (.int x4), some (.int x5), none], [], μ) 0 P := by
  refine gWp_sts gT_23 2 (f' := (9, [some (.ref 15), some (.int x1), some (.int x2), some (.int x3), some (.int x4), some (.int x5), none], [.int x2, .int x5], μ)) (cs := []) rfl trivial ?_
  refine gWp_icmp gT_23 (pc := 9) rfl ⟨fun c => ?_, fun c => ?_⟩
  · replace h := h.1 (of_decide_eq_true c)
    exact gWp_end gT_23 rfl rfl h
  · replace h := h.2 (fun q => c (decide_eq_true q))
    obtain ⟨c1, h⟩ := h
    refine gWp_sts gT_23 7 (f' := (26, [some (.ref 15), some (.int x1), some (.int x2), some (.int x3), some (.int x4), some (.int x5), some (.int (gI μ 12 x5.toNatClampNeg))], [.int (gI μ 12 x5.toNatClampNeg)], μ)) (cs := [vp_in x5 50]) rfl c1 ?_
    refine gWp_stat gT_23 (pc := 26) (c01 := 1) (as := [.int (gI μ 12 x5.toNatClampNeg)]) (rest := []) rfl (Or.inr rfl) rfl rfl rfl ⟨by decide, Nat.le_of_ble_eq_true rfl, by decide, Nat.le_of_ble_eq_true rfl⟩ (gWp_imp h (fun μ1 r h => ?_))
    obtain ⟨v2, rfl, h⟩ := h
    refine Or.inl ⟨_, rfl, ?_⟩
    show gWp none 23 (29, [some (.ref 15), some (.int x1), some (.int x2), some (.int x3), some (.int x4), some (.int x5), some (.int (gI μ 12 x5.toNatClampNeg))], [.int v2], μ1) _ P
    refine gWp_if gT_23 (pc := 29) rfl ⟨fun c => ?_, fun c => ?_⟩
    · replace h := h.1 (of_decide_eq_true c)
      refine gWp_sts gT_23 1 (f' := (61, [some (.ref 15), some (.int x1), some (.int x2), some (.int x3), some (.int x4), some (.int x5), some (.int (gI μ 12 x5.toNatClampNeg))], [.int (gI μ 12 x5.toNatClampNeg)], μ1)) (cs := []) rfl trivial ?_
      refine gWp_stat gT_23 (pc := 61) (c01 := 1) (as := [.int (gI μ 12 x5.toNatClampNeg)]) (rest := []) rfl (Or.inr rfl) rfl rfl rfl ⟨by decide, Nat.le_of_ble_eq_true rfl, by decide, Nat.le_of_ble_eq_true rfl⟩ (gWp_imp h (fun μ3 r h => ?_))
      obtain ⟨v4, rfl, h⟩ := h
      refine Or.inl ⟨_, rfl, ?_⟩
      show gWp none 23 (64, [some (.ref 15), some (.int x1), some (.int x2), some (.int x3), some (.int x4), some (.int x5), some (.int (gI μ 12 x5.toNatClampNeg))], [.int v4], μ3) _ P
      refine gWp_if gT_23 (pc := 64) rfl ⟨fun c => ?_, fun c => ?_⟩
      · replace h := h.1 (of_decide_eq_true c)
        obtain ⟨c1, h⟩ := h
        refine gWp_sts gT_23 7 (f' := (6, [some (.ref 15), some (.int x1), some (.int x2), some (.int x3), some (.int x4), some (.int (x5 + (1 : Int32))), some (.int (gI μ 12 x5.toNatClampNeg))], [], (gsI μ3 16 x5.toNatClampNeg (3 : Int32)))) (cs := [vp_in x5 50]) rfl c1 ?_
        exact h
      · replace h := h.2 (fun q => c (decide_eq_true q))
        refine gWp_sts gT_23 4 (f' := (75, [some (.ref 15), some (.int x1), some (.int x2), some (.int x3), some (.int x4), some (.int x5), some (.int (gI μ 12 x5.toNatClampNeg))], [.int x4, .int x5, .ref 16], μ3)) (cs := []) rfl trivial ?_
        refine gWp_if gT_23 (pc := 75) rfl ⟨fun c => ?_, fun c => ?_⟩
        · replace h := h.1 (of_decide_eq_true c)
          obtain ⟨c1, h⟩ := h
          refine gWp_sts gT_23 5 (f' := (6, [some (.ref 15), some (.int x1), some (.int x2), some (.int x3), some (.int x4), some (.int (x5 + (1 : Int32))), some (.int (gI μ 12 x5.toNatClampNeg))], [], (gsI μ3 16 x5.toNatClampNeg (2 : Int32)))) (cs := [vp_in x5 50]) rfl c1 ?_
          exact h
        · replace h := h.2 (Classical.not_not.mp (fun q => c (decide_eq_true q)))
          obtain ⟨c1, h⟩ := h
          refine gWp_sts gT_23 6 (f' := (6, [some (.ref 15), some (.int x1), some (.int x2), some (.int x3), some (.int x4), some (.int (x5 + (1 : Int32))), some (.int (gI μ 12 x5.toNatClampNeg))], [], (gsI μ3 16 x5.toNatClampNeg (0 : Int32)))) (cs := [vp_in x5 50]) rfl c1 ?_
          exact h
    · replace h := h.2 (fun q => c (decide_eq_true q))
      refine gWp_sts gT_23 1 (f' := (34, [some (.ref 15), some (.int x1), some (.int x2), some (.int x3), some (.int x4), some (.int x5), some (.int (gI μ 12 x5.toNatClampNeg))], [.int (gI μ 12 x5.toNatClampNeg)], μ1)) (cs := []) rfl trivial ?_
      refine gWp_stat gT_23 (pc := 34) (c01 := 1) (as := [.int (gI μ 12 x5.toNatClampNeg)]) (rest := []) rfl (Or.inr rfl) rfl rfl rfl ⟨by decide, Nat.le_of_ble_eq_true rfl, by decide, Nat.le_of_ble_eq_true rfl⟩ (gWp_imp h (fun μ5 r h => ?_))
      obtain ⟨v6, rfl, h⟩ := h
      refine Or.inl ⟨_, rfl, ?_⟩
      show gWp none 23 (37, [some (.ref 15), some (.int x1), some (.int x2), some (.int x3), some (.int x4), some (.int x5), some (.int (gI μ 12 x5.toNatClampNeg))], [.int v6], μ5) _ P
      refine gWp_if gT_23 (pc := 37) rfl ⟨fun c => ?_, fun c => ?_⟩
      · replace h := h.1 (of_decide_eq_true c)
        obtain ⟨c1, h⟩ := h
        refine gWp_sts gT_23 10 (f' := (6, [some (.ref 15), some (.int x1), some (.int x2), some (.int x3), some (.int (1 : Int32)), some (.int (x5 + (1 : Int32))), some (.int (gI μ 12 x5.toNatClampNeg))], [], (gsI μ5 16 x5.toNatClampNeg (1 : Int32)))) (cs := [vp_in x5 50]) rfl c1 ?_
        exact h
      · replace h := h.2 (fun q => c (decide_eq_true q))
        obtain ⟨c1, h⟩ := h
        refine gWp_sts gT_23 11 (f' := (6, [some (.ref 15), some (.int x1), some (.int x2), some (.int x3), some (.int (0 : Int32)), some (.int (x5 + (1 : Int32))), some (.int (gI μ 12 x5.toNatClampNeg))], [], (gsI μ5 16 x5.toNatClampNeg (0 : Int32)))) (cs := [vp_in x5 50]) rfl c1 ?_
        exact h
set_option maxRecDepth 20000 in
theorem vc_23 {μ : gMu} {x1 : Int32} {x2 : Int32} {x3 : Int32} {P : gMu → gRes → Prop} (h : gWp none 23 (6, [some (.ref 15), some (.int x1), some (.int x2), some (.int x3), some (.int x3), some (.int x1), none], [], μ) 0 P) : gWp none 23 (0, [some (.ref 15), some (.int x1), some (.int x2), some (.int x3), none, none, none], [], μ) 0 P := by
  refine gWp_sts gT_23 4 (f' := (6, [some (.ref 15), some (.int x1), some (.int x2), some (.int x3), some (.int x3), some (.int x1), none], [], μ)) (cs := []) rfl trivial ?_
  exact h
/-! Glyphmill$Levels.stretchEnd -/
theorem gT_24 : gCode[24]? = some gC_24 := rfl
set_option maxRecDepth 20000 in
theorem vc_24_4 {μ : gMu} {x1 : Int32} {x2 : Int32} {P : gMu → gRes → Prop} (h : (((gI μ 9 5) ≤ x2) → (P μ (.inl (some (.int x2))))) ∧ ((¬ (gI μ 9 5) ≤ x2) → ((vp_in x2 50) ∧ ((vp_in x1 50) ∧ (((¬ (gI μ 13 x2.toNatClampNeg) = (gI μ 13 x1.toNatClampNeg)) → (P μ (.inl (some (.int x2))))) ∧ (((gI μ 13 x2.toNatClampNeg) = (gI μ 13 x1.toNatClampNeg)) → (gWp none 24 (4, [some (.ref 15), some (.int x1), some (.int (x2 + (1 : Int32)))], [], μ) 0 P))))))) : gWp none 24 (4, [some (.ref 15), some (.int x1), some (.int x2)], [], μ) 0 P := by
  refine gWp_sts gT_24 4 (f' := (12, [some (.ref 15), some (.int x1), some (.int x2)], [.int (gI μ 9 5), .int x2], μ)) (cs := []) rfl trivial ?_
  refine gWp_icmp gT_24 (pc := 12) rfl ⟨fun c => ?_, fun c => ?_⟩
  · replace h := h.1 (of_decide_eq_true c)
    refine gWp_sts gT_24 1 (f' := (43, [some (.ref 15), some (.int x1), some (.int x2)], [.int x2], μ)) (cs := []) rfl trivial ?_
    exact gWp_end gT_24 rfl (gEnd_int trivial) h
  · replace h := h.2 (fun q => c (decide_eq_true q))
    obtain ⟨c1, c2, h⟩ := h
    refine gWp_sts gT_24 10 (f' := (33, [some (.ref 15), some (.int x1), some (.int x2)], [.int (gI μ 13 x1.toNatClampNeg), .int (gI μ 13 x2.toNatClampNeg)], μ)) (cs := [vp_in x2 50, vp_in x1 50]) rfl ⟨c1, c2⟩ ?_
    refine gWp_icmp gT_24 (pc := 33) rfl ⟨fun c => ?_, fun c => ?_⟩
    · replace h := h.1 (of_decide_eq_true c)
      refine gWp_sts gT_24 1 (f' := (43, [some (.ref 15), some (.int x1), some (.int x2)], [.int x2], μ)) (cs := []) rfl trivial ?_
      exact gWp_end gT_24 rfl (gEnd_int trivial) h
    · replace h := h.2 (Classical.not_not.mp (fun q => c (decide_eq_true q)))
      refine gWp_sts gT_24 2 (f' := (4, [some (.ref 15), some (.int x1), some (.int (x2 + (1 : Int32)))], [], μ)) (cs := []) rfl trivial ?_
      exact h
set_option maxRecDepth 20000 in
theorem vc_24 {μ : gMu} {x1 : Int32} {P : gMu → gRes → Prop} (h : gWp none 24 (4, [some (.ref 15), some (.int x1), some (.int (x1 + (1 : Int32)))], [], μ) 0 P) : gWp none 24 (0, [some (.ref 15), some (.int x1), none], [], μ) 0 P := by
  refine gWp_sts gT_24 4 (f' := (4, [some (.ref 15), some (.int x1), some (.int (x1 + (1 : Int32)))], [], μ)) (cs := []) rfl trivial ?_
  exact h
/-! Glyphmill$Levels.resolve -/
theorem gT_25 : gCode[25]? = some gC_25 := rfl
set_option maxRecDepth 20000 in
theorem vc_25_10 {μ : gMu} {x1 : Int32} {x3 : Int32} {P : gMu → gRes → Prop} (h : (((gI μ 9 5) ≤ x3) → (P μ (.inl none))) ∧ ((¬ (gI μ 9 5) ≤ x3) → (((x3 = 0) → (gCl' 24 [.ref 15, .int x3] μ (fun μ1 r => (∃ v2, r = .inl (some (.int v2)) ∧ (((¬ x3 = 0) → ((vp_in (x3 - (1 : Int32)) 50) ∧ (((¬ v2 = (gI μ1 9 5)) → ((vp_in v2 50) ∧ ((vp_in x3 50) ∧ (gCl' 14 [.int (if (gI μ1 13 x3.toNatClampNeg) < (gI μ1 13 ((x3 - (1 : Int32)).toNatClampNeg)) then gI μ1 13 ((x3 - (1 : Int32)).toNatClampNeg) else gI μ1 13 x3.toNatClampNeg)] μ1 (fun μ3 r => (∃ v4, r = .inl (some (.int v4)) ∧ (gCl' 23 [.ref 15, .int x3, .int v2, .int v4] μ3 (fun μ5 r => (r = .inl none ∧ (gCl' 14 [.int (if (gI μ1 13 x3.toNatClampNeg) < (gI μ1 13 v2.toNatClampNeg) then gI μ1 13 v2.toNatClampNeg else gI μ1 13 x3.toNatClampNeg)] μ5 (fun μ6 r => (∃ v7, r = .inl (some (.int v7)) ∧ (gCl' 17 [.ref 15, .int x3, .int v2, .int v4, .int v7] μ6 (fun μ8 r => (r = .inl none ∧ (gCl' 18 [.ref 15, .int x3, .int v2] μ8 (fun μ9 r => (r = .inl none ∧ (gWp none 25 (10, [some (.ref 15), some (.int x1), some (.ref 13), some (.int (x3 + (1 : Int32))), some (.int v2), some (.int (gI μ1 13 ((x3 - (1 : Int32)).toNatClampNeg))), some (.int (gI μ1 13 v2.toNatClampNeg)), some (.int (gI μ1 13 x3.toNatClampNeg)), some (.int v4)], [], μ9) 0 P))))))))))))))))))) ∧ ((v2 = (gI μ1 9 5)) → ((vp_in x3 50) ∧ (gCl' 14 [.int (if (gI μ1 13 x3.toNatClampNeg) < (gI μ1 13 ((x3 - (1 : Int32)).toNatClampNeg)) then gI μ1 13 ((x3 - (1 : Int32)).toNatClampNeg) else gI μ1 13 x3.toNatClampNeg)] μ1 (fun μ10 r => (∃ v11, r = .inl (some (.int v11)) ∧ (gCl' 23 [.ref 15, .int x3, .int v2, .int v11] μ10 (fun μ12 r => (r = .inl none ∧ (gCl' 14 [.int (if (gI μ1 13 x3.toNatClampNeg) < x1 then x1 else gI μ1 13 x3.toNatClampNeg)] μ12 (fun μ13 r => (∃ v14, r = .inl (some (.int v14)) ∧ (gCl' 17 [.ref 15, .int x3, .int v2, .int v11, .int v14] μ13 (fun μ15 r => (r = .inl none ∧ (gCl' 18 [.ref 15, .int x3, .int v2] μ15 (fun μ16 r => (r = .inl none ∧ (gWp none 25 (10, [some (.ref 15), some (.int x1), some (.ref 13), some (.int (x3 + (1 : Int32))), some (.int v2), some (.int (gI μ1 13 ((x3 - (1 : Int32)).toNatClampNeg))), some (.int x1), some (.int (gI μ1 13 x3.toNatClampNeg)), some (.int v11)], [], μ16) 0 P))))))))))))))))))))) ∧ ((x3 = 0) → (((¬ v2 = (gI μ1 9 5)) → ((vp_in v2 50) ∧ ((vp_in x3 50) ∧ (gCl' 14 [.int (if (gI μ1 13 x3.toNatClampNeg) < x1 then x1 else gI μ1 13 x3.toNatClampNeg)] μ1 (fun μ17 r => (∃ v18, r = .inl (some (.int v18)) ∧ (gCl' 23 [.ref 15, .int x3, .int v2, .int v18] μ17 (fun μ19 r => (r = .inl none ∧ (gCl' 14 [.int (if (gI μ1 13 x3.toNatClampNeg) < (gI μ1 13 v2.toNatClampNeg) then gI μ1 13 v2.toNatClampNeg else gI μ1 13 x3.toNatClampNeg)] μ19 (fun μ20 r => (∃ v21, r = .inl (some (.int v21)) ∧ (gCl' 17 [.ref 15, .int x3, .int v2, .int v18, .int v21] μ20 (fun μ22 r => (r = .inl none ∧ (gCl' 18 [.ref 15, .int x3, .int v2] μ22 (fun μ23 r => (r = .inl none ∧ (gWp none 25 (10, [some (.ref 15), some (.int x1), some (.ref 13), some (.int (x3 + (1 : Int32))), some (.int v2), some (.int x1), some (.int (gI μ1 13 v2.toNatClampNeg)), some (.int (gI μ1 13 x3.toNatClampNeg)), some (.int v18)], [], μ23) 0 P))))))))))))))))))) ∧ ((v2 = (gI μ1 9 5)) → ((vp_in x3 50) ∧ (gCl' 14 [.int (if (gI μ1 13 x3.toNatClampNeg) < x1 then x1 else gI μ1 13 x3.toNatClampNeg)] μ1 (fun μ24 r => (∃ v25, r = .inl (some (.int v25)) ∧ (gCl' 23 [.ref 15, .int x3, .int v2, .int v25] μ24 (fun μ26 r => (r = .inl none ∧ (gCl' 14 [.int (if (gI μ1 13 x3.toNatClampNeg) < x1 then x1 else gI μ1 13 x3.toNatClampNeg)] μ26 (fun μ27 r => (∃ v28, r = .inl (some (.int v28)) ∧ (gCl' 17 [.ref 15, .int x3, .int v2, .int v25, .int v28] μ27 (fun μ29 r => (r = .inl none ∧ (gCl' 18 [.ref 15, .int x3, .int v2] μ29 (fun μ30 r => (r = .inl none ∧ (gWp none 25 (10, [some (.ref 15), some (.int x1), some (.ref 13), some (.int (x3 + (1 : Int32))), some (.int v2), some (.int x1), some (.int x1), some (.int (gI μ1 13 x3.toNatClampNeg)), some (.int v25)], [], μ30) 0 P))))))))))))))))))))))))) ∧ ((¬ x3 = 0) → ((vp_in x3 50) ∧ ((vp_in (x3 - (1 : Int32)) 50) ∧ ((((gI μ 13 x3.toNatClampNeg) = (gI μ 13 ((x3 - (1 : Int32)).toNatClampNeg))) → (gWp none 25 (10, [some (.ref 15), some (.int x1), some (.ref 13), some (.int (x3 + (1 : Int32))), none, none, none, none, none], [], μ) 0 P)) ∧ ((¬ (gI μ 13 x3.toNatClampNeg) = (gI μ 13 ((x3 - (1 : Int32)).toNatClampNeg))) → (gCl' 24 [.ref 15, .int x3] μ (fun μ31 r => (∃ v32, r = .inl (some (.int v32)) ∧ (((¬ x3 = 0) → ((vp_in (x3 - (1 : Int32)) 50) ∧ (((¬ v32 = (gI μ31 9 5)) → ((vp_in v32 50) ∧ ((vp_in x3 50) ∧ (gCl' 14 [.int (if (gI μ31 13 x3.toNatClampNeg) < (gI μ31 13 ((x3 - (1 : Int32)).toNatClampNeg)) then gI μ31 13 ((x3 - (1 : Int32)).toNatClampNeg) else gI μ31 13 x3.toNatClampNeg)] μ31 (fun μ33 r => (∃ v34, r = .inl (some (.int v34)) ∧ (gCl' 23 [.ref 15, .int x3, .int v32, .int v34] μ33 (fun μ35 r => (r = .inl none ∧ (gCl' 14 [.int (if (gI μ31 13 x3.toNatClampNeg) < (gI μ31 13 v32.toNatClampNeg) then gI μ31 13 v32.toNatClampNeg else gI μ31 13 x3.toNatClampNeg)] μ35 (fun μ36 r => (∃ v37, r = .inl (some (.int v37)) ∧ (gCl' 17 [.ref 15, .int x3, .int v32, .int v34, .int v37] μ36 (fun μ38 r => (r = .inl none ∧ (gCl' 18 [.ref 15, .int x3, .int v32] μ38 (fun μ39 r => (r = .inl none ∧ (gWp none 25 (10, [some (.ref 15), some (.int x1), some (.ref 13), some (.int (x3 + (1 : Int32))), some (.int v32), some (.int (gI μ31 13 ((x3 - (1 : Int32)).toNatClampNeg))), some (.int (gI μ31 13 v32.toNatClampNeg)), some (.int (gI μ31 13 x3.toNatClampNeg)), some (.int v34)], [], μ39) 0 P))))))))))))))))))) ∧ ((v32 = (gI μ31 9 5)) → ((vp_in x3 50) ∧ (gCl' 14 [.int (if (gI μ31 13 x3.toNatClampNeg) < (gI μ31 13 ((x3 - (1 : Int32)).toNatClampNeg)) then gI μ31 13 ((x3 - (1 : Int32)).toNatClampNeg) else gI μ31 13 x3.toNatClampNeg)] μ31 (fun μ40 r => (∃ v41, r = .inl (some (.int v41)) ∧ (gCl' 23 [.ref 15, .int x3, .int v32, .int v41] μ40 (fun μ42 r => (r = .inl none ∧ (gCl' 14 [.int (if (gI μ31 13 x3.toNatClampNeg) < x1 then x1 else gI μ31 13 x3.toNatClampNeg)] μ42 (fun μ43 r => (∃ v44, r = .inl (some (.int v44)) ∧ (gCl' 17 [.ref 15, .int x3, .int v32, .int v41, .int v44] μ43 (fun μ45 r => (r = .inl none ∧ (gCl' 18 [.ref 15, .int x3, .int v32] μ45 (fun μ46 r => (r = .inl none ∧ (gWp none 25 (10, [some (.ref 15), some (.int x1), some (.ref 13), some (.int (x3 + (1 : Int32))), some (.int v32), some (.int (gI μ31 13 ((x3 - (1 : Int32)).toNatClampNeg))), some (.int x1), some (.int (gI μ31 13 x3.toNatClampNeg)), some (.int v41)], [], μ46) 0 P))))))))))))))))))))) ∧ ((x3 = 0) → (((¬ v32 = (gI μ31 9 5)) → ((vp_in v32 50) ∧ ((vp_in x3 50) ∧ (gCl' 14 [.int (if (gI μ31 13 x3.toNatClampNeg) < x1 then x1 else gI μ31 13 x3.toNatClampNeg)] μ31 (fun μ47 r => (∃ v48, r = .inl (some (.int v48)) ∧ (gCl' 23 [.ref 15, .int x3, .int v32, .int v48] μ47 (fun μ49 r => (r = .inl none ∧ (gCl' 14 [.int (if (gI μ31 13 x3.toNatClampNeg) < (gI μ31 13 v32.toNatClampNeg) then gI μ31 13 v32.toNatClampNeg else gI μ31 13 x3.toNatClampNeg)] μ49 (fun μ50 r => (∃ v51, r = .inl (some (.int v51)) ∧ (gCl' 17 [.ref 15, .int x3, .int v32, .int v48, .int v51] μ50 (fun μ52 r => (r = .inl none ∧ (gCl' 18 [.ref 15, .int x3, .int v32] μ52 (fun μ53 r => (r = .inl none ∧ (gWp none 25 (10, [some (.ref 15), some (.int x1), some (.ref 13), some (.int (x3 + (1 : Int32))), some (.int v32), some (.int x1), some (.int (gI μ31 13 v32.toNatClampNeg)), some (.int (gI μ31 13 x3.toNatClampNeg)), some (.int v48)], [], μ53) 0 P))))))))))))))))))) ∧ ((v32 = (gI μ31 9 5)) → ((vp_in x3 50) ∧ (gCl' 14 [.int (if (gI μ31 13 x3.toNatClampNeg) < x1 then x1 else gI μ31 13 x3.toNatClampNeg)] μ31 (fun μ54 r => (∃ v55, r = .inl (some (.int v55)) ∧ (gCl' 23 [.ref 15, .int x3, .int v32, .int v55] μ54 (fun μ56 r => (r = .inl none ∧ (gCl' 14 [.int (if (gI μ31 13 x3.toNatClampNeg) < x1 then x1 else gI μ31 13 x3.toNatClampNeg)] μ56 (fun μ57 r => (∃ v58, r = .inl (some (.int v58)) ∧ (gCl' 17 [.ref 15, .int x3, .int v32, .int v55, .int v58] μ57 (fun μ59 r => (r = .inl none ∧ (gCl' 18 [.ref 15, .int x3, .int v32] μ59 (fun μ60 r => (r = .inl none ∧ (gWp none 25 (10, [some (.ref 15), some (.int x1), some (.ref 13), some (.int (x3 + (1 : Int32))), some (.int v32), some (.int x1), some (.int x1), some (.int (gI μ31 13 x3.toNatClampNeg)), some (.int v55)], [], μ60) 0 P)))))))))))))))))))))))))))))))) : gWp none 25 (10, [some (.ref 15), some (.int x1), some (.ref 13), some (.int x3), none, none, none, none, none], [], μ) 0 P := by
  refine gWp_sts gT_25 4 (f' := (18, [some (.ref 15), some (.int x1), some (.ref 13), some (.int x3), none, none, none, none, none], [.int (gI μ 9 5), .int x3], μ)) (cs := []) rfl trivial ?_
  refine gWp_icmp gT_25 (pc := 18) rfl ⟨fun c => ?_, fun c => ?_⟩
  · replace h := h.1 (of_decide_eq_true c)
    exact gWp_end gT_25 rfl rfl h
  · replace h := h.2 (fun q => c (decide_eq_true q))
    refine gWp_sts gT_25 1 (f' := (22, [some (.ref 15), some (.int x1), some (.ref 13), some (.int x3), none, none, none, none, none], [.int x3], μ)) (cs := []) rfl trivial ?_
    refine gWp_if gT_25 (pc := 22) rfl ⟨fun c => ?_, fun c => ?_⟩
    · replace h := h.1 (of_decide_eq_true c)
      refine gWp_sts gT_25 2 (f' := (38, [some (.ref 15), some (.int x1), some (.ref 13), some (.int x3), none, none, none, none, none], [.int x3, .ref 15], μ)) (cs := []) rfl trivial ?_
      refine gWp_virt gT_25 (pc := 38) (q := 15) (as := [.ref 15, .int x3]) (rest := []) rfl rfl rfl rfl rfl rfl ⟨by decide, Nat.le_of_ble_eq_true rfl, by decide, Nat.le_of_ble_eq_true rfl⟩ (gWp_imp h (fun μ1 r h => ?_))
      obtain ⟨v2, rfl, h⟩ := h
      refine Or.inl ⟨_, rfl, ?_⟩
      show gWp none 25 (41, [some (.ref 15), some (.int x1), some (.ref 13), some (.int x3), none, none, none, none, none], [.int v2], μ1) _ P
      refine gWp_sts gT_25 2 (f' := (44, [some (.ref 15), some (.int x1), some (.ref 13), some (.int x3), some (.int v2), none, none, none, none], [.int x3], μ1)) (cs := []) rfl trivial ?_
      refine gWp_if gT_25 (pc := 44) rfl ⟨fun c => ?_, fun c => ?_⟩
      · replace h := h.1 (of_decide_eq_true c)
        obtain ⟨c1, h⟩ := h
        refine gWp_sts gT_25 10 (f' := (67, [some (.ref 15), some (.int x1), some (.ref 13), some (.int x3), some (.int v2), some (.int (gI μ1 13 ((x3 - (1 : Int32)).toNatClampNeg))), none, none, none], [.int (gI μ1 9 5), .int v2], μ1)) (cs := [vp_in (x3 - (1 : Int32)) 50]) rfl c1 ?_
        refine gWp_icmp gT_25 (pc := 67) rfl ⟨fun c => ?_, fun c => ?_⟩
        · replace h := h.1 (of_decide_eq_true c)
          obtain ⟨c1, c2, h⟩ := h
          refine gWp_sts gT_25 11 (f' := (92, [some (.ref 15), some (.int x1), some (.ref 13), some (.int x3), some (.int v2), some (.int (gI μ1 13 ((x3 - (1 : Int32)).toNatClampNeg))), some (.int (gI μ1 13 v2.toNatClampNeg)), some (.int (gI μ1 13 x3.toNatClampNeg)), none], [.int (if (gI μ1 13 x3.toNatClampNeg) < (gI μ1 13 ((x3 - (1 : Int32)).toNatClampNeg)) then gI μ1 13 ((x3 - (1 : Int32)).toNatClampNeg) else gI μ1 13 x3.toNatClampNeg)], μ1)) (cs := [vp_in v2 50, vp_in x3 50, (([] : List Value).map fun v => v.category).sum ≤ 8]) rfl ⟨c1, c2, (Nat.le_of_ble_eq_true rfl)⟩ ?_
          refine gWp_stat gT_25 (pc := 92) (c01 := 0) (as := [.int (if (gI μ1 13 x3.toNatClampNeg) < (gI μ1 13 ((x3 - (1 : Int32)).toNatClampNeg)) then gI μ1 13 ((x3 - (1 : Int32)).toNatClampNeg) else gI μ1 13 x3.toNatClampNeg)]) (rest := []) rfl (Or.inl rfl) rfl rfl rfl ⟨by decide, Nat.le_of_ble_eq_true rfl, by decide, Nat.le_of_ble_eq_true rfl⟩ (gWp_imp h (fun μ3 r h => ?_))
          obtain ⟨v4, rfl, h⟩ := h
          refine Or.inl ⟨_, rfl, ?_⟩
          show gWp none 25 (95, [some (.ref 15), some (.int x1), some (.ref 13), some (.int x3), some (.int v2), some (.int (gI μ1 13 ((x3 - (1 : Int32)).toNatClampNeg))), some (.int (gI μ1 13 v2.toNatClampNeg)), some (.int (gI μ1 13 x3.toNatClampNeg)), none], [.int v4], μ3) _ P
          refine gWp_sts gT_25 5 (f' := (103, [some (.ref 15), some (.int x1), some (.ref 13), some (.int x3), some (.int v2), some (.int (gI μ1 13 ((x3 - (1 : Int32)).toNatClampNeg))), some (.int (gI μ1 13 v2.toNatClampNeg)), some (.int (gI μ1 13 x3.toNatClampNeg)), some (.int v4)], [.int v4, .int v2, .int x3, .ref 15], μ3)) (cs := []) rfl trivial ?_
          refine gWp_virt gT_25 (pc := 103) (q := 15) (as := [.ref 15, .int x3, .int v2, .int v4]) (rest := []) rfl rfl rfl rfl rfl rfl ⟨by decide, Nat.le_of_ble_eq_true rfl, by decide, Nat.le_of_ble_eq_true rfl⟩ (gWp_imp h (fun μ5 r h => ?_))
          obtain ⟨rfl, h⟩ := h
          refine Or.inl ⟨_, rfl, ?_⟩
          show gWp none 25 (106, [some (.ref 15), some (.int x1), some (.ref 13), some (.int x3), some (.int v2), some (.int (gI μ1 13 ((x3 - (1 : Int32)).toNatClampNeg))), some (.int (gI μ1 13 v2.toNatClampNeg)), some (.int (gI μ1 13 x3.toNatClampNeg)), some (.int v4)], [], μ5) _ P
          refine gWp_sts gT_25 7 (f' := (119, [some (.ref 15), some (.int x1), some (.ref 13), some (.int x3), some (.int v2), some (.int (gI μ1 13 ((x3 - (1 : Int32)).toNatClampNeg))), some (.int (gI μ1 13 v2.toNatClampNeg)), some (.int (gI μ1 13 x3.toNatClampNeg)), some (.int v4)], [.int (if (gI μ1 13 x3.toNatClampNeg) < (gI μ1 13 v2.toNatClampNeg) then gI μ1 13 v2.toNatClampNeg else gI μ1 13 x3.toNatClampNeg), .int v4, .int v2, .int x3, .ref 15], μ5)) (cs := [(([.int v4, .int v2, .int x3, .ref 15] : List Value).map fun v => v.category).sum ≤ 8]) rfl (Nat.le_of_ble_eq_true rfl) ?_
          refine gWp_stat gT_25 (pc := 119) (c01 := 0) (as := [.int (if (gI μ1 13 x3.toNatClampNeg) < (gI μ1 13 v2.toNatClampNeg) then gI μ1 13 v2.toNatClampNeg else gI μ1 13 x3.toNatClampNeg)]) (rest := [.int v4, .int v2, .int x3, .ref 15]) rfl (Or.inl rfl) rfl rfl rfl ⟨by decide, Nat.le_of_ble_eq_true rfl, by decide, Nat.le_of_ble_eq_true rfl⟩ (gWp_imp h (fun μ6 r h => ?_))
          obtain ⟨v7, rfl, h⟩ := h
          refine Or.inl ⟨_, rfl, ?_⟩
          show gWp none 25 (122, [some (.ref 15), some (.int x1), some (.ref 13), some (.int x3), some (.int v2), some (.int (gI μ1 13 ((x3 - (1 : Int32)).toNatClampNeg))), some (.int (gI μ1 13 v2.toNatClampNeg)), some (.int (gI μ1 13 x3.toNatClampNeg)), some (.int v4)], [.int v7, .int v4, .int v2, .int x3, .ref 15], μ6) _ P
          refine gWp_virt gT_25 (pc := 122) (q := 15) (as := [.ref 15, .int x3, .int v2, .int v4, .int v7]) (rest := []) rfl rfl rfl rfl rfl rfl ⟨by decide, Nat.le_of_ble_eq_true rfl, by decide, Nat.le_of_ble_eq_true rfl⟩ (gWp_imp h (fun μ8 r h => ?_))
          obtain ⟨rfl, h⟩ := h
          refine Or.inl ⟨_, rfl, ?_⟩
          show gWp none 25 (125, [some (.ref 15), some (.int x1), some (.ref 13), some (.int x3), some (.int v2), some (.int (gI μ1 13 ((x3 - (1 : Int32)).toNatClampNeg))), some (.int (gI μ1 13 v2.toNatClampNeg)), some (.int (gI μ1 13 x3.toNatClampNeg)), some (.int v4)], [], μ8) _ P
          refine gWp_sts gT_25 3 (f' := (129, [some (.ref 15), some (.int x1), some (.ref 13), some (.int x3), some (.int v2), some (.int (gI μ1 13 ((x3 - (1 : Int32)).toNatClampNeg))), some (.int (gI μ1 13 v2.toNatClampNeg)), some (.int (gI μ1 13 x3.toNatClampNeg)), some (.int v4)], [.int v2, .int x3, .ref 15], μ8)) (cs := []) rfl trivial ?_
          refine gWp_virt gT_25 (pc := 129) (q := 15) (as := [.ref 15, .int x3, .int v2]) (rest := []) rfl rfl rfl rfl rfl rfl ⟨by decide, Nat.le_of_ble_eq_true rfl, by decide, Nat.le_of_ble_eq_true rfl⟩ (gWp_imp h (fun μ9 r h => ?_))
          obtain ⟨rfl, h⟩ := h
          refine Or.inl ⟨_, rfl, ?_⟩
          show gWp none 25 (132, [some (.ref 15), some (.int x1), some (.ref 13), some (.int x3), some (.int v2), some (.int (gI μ1 13 ((x3 - (1 : Int32)).toNatClampNeg))), some (.int (gI μ1 13 v2.toNatClampNeg)), some (.int (gI μ1 13 x3.toNatClampNeg)), some (.int v4)], [], μ9) _ P
          refine gWp_sts gT_25 2 (f' := (10, [some (.ref 15), some (.int x1), some (.ref 13), some (.int (x3 + (1 : Int32))), some (.int v2), some (.int (gI μ1 13 ((x3 - (1 : Int32)).toNatClampNeg))), some (.int (gI μ1 13 v2.toNatClampNeg)), some (.int (gI μ1 13 x3.toNatClampNeg)), some (.int v4)], [], μ9)) (cs := []) rfl trivial ?_
          exact h
        · replace h := h.2 (Classical.not_not.mp (fun q => c (decide_eq_true q)))
          obtain ⟨c1, h⟩ := h
          refine gWp_sts gT_25 10 (f' := (92, [some (.ref 15), some (.int x1), some (.ref 13), some (.int x3), some (.int v2), some (.int (gI μ1 13 ((x3 - (1 : Int32)).toNatClampNeg))), some (.int x1), some (.int (gI μ1 13 x3.toNatClampNeg)), none], [.int (if (gI μ1 13 x3.toNatClampNeg) < (gI μ1 13 ((x3 - (1 : Int32)).toNatClampNeg)) then gI μ1 13 ((x3 - (1 : Int32)).toNatClampNeg) else gI μ1 13 x3.toNatClampNeg)], μ1)) (cs := [vp_in x3 50, (([] : List Value).map fun v => v.category).sum ≤ 8]) rfl ⟨c1, (Nat.le_of_ble_eq_true rfl)⟩ ?_
          refine gWp_stat gT_25 (pc := 92) (c01 := 0) (as := [.int (if (gI μ1 13 x3.toNatClampNeg) < (gI μ1 13 ((x3 - (1 : Int32)).toNatClampNeg)) then gI μ1 13 ((x3 - (1 : Int32)).toNatClampNeg) else gI μ1 13 x3.toNatClampNeg)]) (rest := []) rfl (Or.inl rfl) rfl rfl rfl ⟨by decide, Nat.le_of_ble_eq_true rfl, by decide, Nat.le_of_ble_eq_true rfl⟩ (gWp_imp h (fun μ10 r h => ?_))
          obtain ⟨v11, rfl, h⟩ := h
          refine Or.inl ⟨_, rfl, ?_⟩
          show gWp none 25 (95, [some (.ref 15), some (.int x1), some (.ref 13), some (.int x3), some (.int v2), some (.int (gI μ1 13 ((x3 - (1 : Int32)).toNatClampNeg))), some (.int x1), some (.int (gI μ1 13 x3.toNatClampNeg)), none], [.int v11], μ10) _ P
          refine gWp_sts gT_25 5 (f' := (103, [some (.ref 15), some (.int x1), some (.ref 13), some (.int x3), some (.int v2), some (.int (gI μ1 13 ((x3 - (1 : Int32)).toNatClampNeg))), some (.int x1), some (.int (gI μ1 13 x3.toNatClampNeg)), some (.int v11)], [.int v11, .int v2, .int x3, .ref 15], μ10)) (cs := []) rfl trivial ?_
          refine gWp_virt gT_25 (pc := 103) (q := 15) (as := [.ref 15, .int x3, .int v2, .int v11]) (rest := []) rfl rfl rfl rfl rfl rfl ⟨by decide, Nat.le_of_ble_eq_true rfl, by decide, Nat.le_of_ble_eq_true rfl⟩ (gWp_imp h (fun μ12 r h => ?_))
          obtain ⟨rfl, h⟩ := h
          refine Or.inl ⟨_, rfl, ?_⟩
          show gWp none 25 (106, [some (.ref 15), some (.int x1), some (.ref 13), some (.int x3), some (.int v2), some (.int (gI μ1 13 ((x3 - (1 : Int32)).toNatClampNeg))), some (.int x1), some (.int (gI μ1 13 x3.toNatClampNeg)), some (.int v11)], [], μ12) _ P
          refine gWp_sts gT_25 7 (f' := (119, [some (.ref 15), some (.int x1), some (.ref 13), some (.int x3), some (.int v2), some (.int (gI μ1 13 ((x3 - (1 : Int32)).toNatClampNeg))), some (.int x1), some (.int (gI μ1 13 x3.toNatClampNeg)), some (.int v11)], [.int (if (gI μ1 13 x3.toNatClampNeg) < x1 then x1 else gI μ1 13 x3.toNatClampNeg), .int v11, .int v2, .int x3, .ref 15], μ12)) (cs := [(([.int v11, .int v2, .int x3, .ref 15] : List Value).map fun v => v.category).sum ≤ 8]) rfl (Nat.le_of_ble_eq_true rfl) ?_
          refine gWp_stat gT_25 (pc := 119) (c01 := 0) (as := [.int (if (gI μ1 13 x3.toNatClampNeg) < x1 then x1 else gI μ1 13 x3.toNatClampNeg)]) (rest := [.int v11, .int v2, .int x3, .ref 15]) rfl (Or.inl rfl) rfl rfl rfl ⟨by decide, Nat.le_of_ble_eq_true rfl, by decide, Nat.le_of_ble_eq_true rfl⟩ (gWp_imp h (fun μ13 r h => ?_))
          obtain ⟨v14, rfl, h⟩ := h
          refine Or.inl ⟨_, rfl, ?_⟩
          show gWp none 25 (122, [some (.ref 15), some (.int x1), some (.ref 13), some (.int x3), some (.int v2), some (.int (gI μ1 13 ((x3 - (1 : Int32)).toNatClampNeg))), some (.int x1), some (.int (gI μ1 13 x3.toNatClampNeg)), some (.int v11)], [.int v14, .int v11, .int v2, .int x3, .ref 15], μ13) _ P
          refine gWp_virt gT_25 (pc := 122) (q := 15) (as := [.ref 15, .int x3, .int v2, .int v11, .int v14]) (rest := []) rfl rfl rfl rfl rfl rfl ⟨by decide, Nat.le_of_ble_eq_true rfl, by decide, Nat.le_of_ble_eq_true rfl⟩ (gWp_imp h (fun μ15 r h => ?_))
          obtain ⟨rfl, h⟩ := h
          refine Or.inl ⟨_, rfl, ?_⟩
          show gWp none 25 (125, [some (.ref 15), some (.int x1), some (.ref 13), some (.int x3), some (.int v2), some (.int (gI μ1 13 ((x3 - (1 : Int32)).toNatClampNeg))), some (.int x1), some (.int (gI μ1 13 x3.toNatClampNeg)), some (.int v11)], [], μ15) _ P
          refine gWp_sts gT_25 3 (f' := (129, [some (.ref 15), some (.int x1), some (.ref 13), some (.int x3), some (.int v2), some (.int (gI μ1 13 ((x3 - (1 : Int32)).toNatClampNeg))), some (.int x1), some (.int (gI μ1 13 x3.toNatClampNeg)), some (.int v11)], [.int v2, .int x3, .ref 15], μ15)) (cs := []) rfl trivial ?_
          refine gWp_virt gT_25 (pc := 129) (q := 15) (as := [.ref 15, .int x3, .int v2]) (rest := []) rfl rfl rfl rfl rfl rfl ⟨by decide, Nat.le_of_ble_eq_true rfl, by decide, Nat.le_of_ble_eq_true rfl⟩ (gWp_imp h (fun μ16 r h => ?_))
          obtain ⟨rfl, h⟩ := h
          refine Or.inl ⟨_, rfl, ?_⟩
          show gWp none 25 (132, [some (.ref 15), some (.int x1), some (.ref 13), some (.int x3), some (.int v2), some (.int (gI μ1 13 ((x3 - (1 : Int32)).toNatClampNeg))), some (.int x1), some (.int (gI μ1 13 x3.toNatClampNeg)), some (.int v11)], [], μ16) _ P
          refine gWp_sts gT_25 2 (f' := (10, [some (.ref 15), some (.int x1), some (.ref 13), some (.int (x3 + (1 : Int32))), some (.int v2), some (.int (gI μ1 13 ((x3 - (1 : Int32)).toNatClampNeg))), some (.int x1), some (.int (gI μ1 13 x3.toNatClampNeg)), some (.int v11)], [], μ16)) (cs := []) rfl trivial ?_
          exact h
      · replace h := h.2 (Classical.not_not.mp (fun q => c (decide_eq_true q)))
        refine gWp_sts gT_25 7 (f' := (67, [some (.ref 15), some (.int x1), some (.ref 13), some (.int x3), some (.int v2), some (.int x1), none, none, none], [.int (gI μ1 9 5), .int v2], μ1)) (cs := []) rfl trivial ?_
        refine gWp_icmp gT_25 (pc := 67) rfl ⟨fun c => ?_, fun c => ?_⟩
        · replace h := h.1 (of_decide_eq_true c)
          obtain ⟨c1, c2, h⟩ := h
          refine gWp_sts gT_25 11 (f' := (92, [some (.ref 15), some (.int x1), some (.ref 13), some (.int x3), some (.int v2), some (.int x1), some (.int (gI μ1 13 v2.toNatClampNeg)), some (.int (gI μ1 13 x3.toNatClampNeg)), none], [.int (if (gI μ1 13 x3.toNatClampNeg) < x1 then x1 else gI μ1 13 x3.toNatClampNeg)], μ1)) (cs := [vp_in v2 50, vp_in x3 50, (([] : List Value).map fun v => v.category).sum ≤ 8]) rfl ⟨c1, c2, (Nat.le_of_ble_eq_true rfl)⟩ ?_
          refine gWp_stat gT_25 (pc := 92) (c01 := 0) (as := [.int (if (gI μ1 13 x3.toNatClampNeg) < x1 then x1 else gI μ1 13 x3.toNatClampNeg)]) (rest := []) rfl (Or.inl rfl) rfl rfl rfl ⟨by decide, Nat.le_of_ble_eq_true rfl, by decide, Nat.le_of_ble_eq_true rfl⟩ (gWp_imp h (fun μ17 r h => ?_))
          obtain ⟨v18, rfl, h⟩ := h
          refine Or.inl ⟨_, rfl, ?_⟩
          show gWp none 25 (95, [some (.ref 15), some (.int x1), some (.ref 13), some (.int x3), some (.int v2), some (.int x1), some (.int (gI μ1 13 v2.toNatClampNeg)), some (.int (gI μ1 13 x3.toNatClampNeg)), none], [.int v18], μ17) _ P
          refine gWp_sts gT_25 5 (f' := (103, [some (.ref 15), some (.int x1), some (.ref 13), some (.int x3), some (.int v2), some (.int x1), some (.int (gI μ1 13 v2.toNatClampNeg)), some (.int (gI μ1 13 x3.toNatClampNeg)), some (.int v18)], [.int v18, .int v2, .int x3, .ref 15], μ17)) (cs := []) rfl trivial ?_
          refine gWp_virt gT_25 (pc := 103) (q := 15) (as := [.ref 15, .int x3, .int v2, .int v18]) (rest := []) rfl rfl rfl rfl rfl rfl ⟨by decide, Nat.le_of_ble_eq_true rfl, by decide, Nat.le_of_ble_eq_true rfl⟩ (gWp_imp h (fun μ19 r h => ?_))
          obtain ⟨rfl, h⟩ := h
          refine Or.inl ⟨_, rfl, ?_⟩
          show gWp none 25 (106, [some (.ref 15), some (.int x1), some (.ref 13), some (.int x3), some (.int v2), some (.int x1), some (.int (gI μ1 13 v2.toNatClampNeg)), some (.int (gI μ1 13 x3.toNatClampNeg)), some (.int v18)], [], μ19) _ P
          refine gWp_sts gT_25 7 (f' := (119, [some (.ref 15), some (.int x1), some (.ref 13), some (.int x3), some (.int v2), some (.int x1), some (.int (gI μ1 13 v2.toNatClampNeg)), some (.int (gI μ1 13 x3.toNatClampNeg)), some (.int v18)], [.int (if (gI μ1 13 x3.toNatClampNeg) < (gI μ1 13 v2.toNatClampNeg) then gI μ1 13 v2.toNatClampNeg else gI μ1 13 x3.toNatClampNeg), .int v18, .int v2, .int x3, .ref 15], μ19)) (cs := [(([.int v18, .int v2, .int x3, .ref 15] : List Value).map fun v => v.category).sum ≤ 8]) rfl (Nat.le_of_ble_eq_true rfl) ?_
          refine gWp_stat gT_25 (pc := 119) (c01 := 0) (as := [.int (if (gI μ1 13 x3.toNatClampNeg) < (gI μ1 13 v2.toNatClampNeg) then gI μ1 13 v2.toNatClampNeg else gI μ1 13 x3.toNatClampNeg)]) (rest := [.int v18, .int v2, .int x3, .ref 15]) rfl (Or.inl rfl) rfl rfl rfl ⟨by decide, Nat.le_of_ble_eq_true rfl, by decide, Nat.le_of_ble_eq_true rfl⟩ (gWp_imp h (fun μ20 r h => ?_))
          obtain ⟨v21, rfl, h⟩ := h
          refine Or.inl ⟨_, rfl, ?_⟩
          show gWp none 25 (122, [some (.ref 15), some (.int x1), some (.ref 13), some (.int x3), some (.int v2), some (.int x1), some (.int (gI μ1 13 v2.toNatClampNeg)), some (.int (gI μ1 13 x3.toNatClampNeg)), some (.int v18)], [.int v21, .int v18, .int v2, .int x3, .ref 15], μ20) _ P
          refine gWp_virt gT_25 (pc := 122) (q := 15) (as := [.ref 15, .int x3, .int v2, .int v18, .int v21]) (rest := []) rfl rfl rfl rfl rfl rfl ⟨by decide, Nat.le_of_ble_eq_true rfl, by decide, Nat.le_of_ble_eq_true rfl⟩ (gWp_imp h (fun μ22 r h => ?_))
          obtain ⟨rfl, h⟩ := h
          refine Or.inl ⟨_, rfl, ?_⟩
          show gWp none 25 (125, [some (.ref 15), some (.int x1), some (.ref 13), some (.int x3), some (.int v2), some (.int x1), some (.int (gI μ1 13 v2.toNatClampNeg)), some (.int (gI μ1 13 x3.toNatClampNeg)), some (.int v18)], [], μ22) _ P
          refine gWp_sts gT_25 3 (f' := (129, [some (.ref 15), some (.int x1), some (.ref 13), some (.int x3), some (.int v2), some (.int x1), some (.int (gI μ1 13 v2.toNatClampNeg)), some (.int (gI μ1 13 x3.toNatClampNeg)), some (.int v18)], [.int v2, .int x3, .ref 15], μ22)) (cs := []) rfl trivial ?_
          refine gWp_virt gT_25 (pc := 129) (q := 15) (as := [.ref 15, .int x3, .int v2]) (rest := []) rfl rfl rfl rfl rfl rfl ⟨by decide, Nat.le_of_ble_eq_true rfl, by decide, Nat.le_of_ble_eq_true rfl⟩ (gWp_imp h (fun μ23 r h => ?_))
          obtain ⟨rfl, h⟩ := h
          refine Or.inl ⟨_, rfl, ?_⟩
          show gWp none 25 (132, [some (.ref 15), some (.int x1), some (.ref 13), some (.int x3), some (.int v2), some (.int x1), some (.int (gI μ1 13 v2.toNatClampNeg)), some (.int (gI μ1 13 x3.toNatClampNeg)), some (.int v18)], [], μ23) _ P
          refine gWp_sts gT_25 2 (f' := (10, [some (.ref 15), some (.int x1), some (.ref 13), some (.int (x3 + (1 : Int32))), some (.int v2), some (.int x1), some (.int (gI μ1 13 v2.toNatClampNeg)), some (.int (gI μ1 13 x3.toNatClampNeg)), some (.int v18)], [], μ23)) (cs := []) rfl trivial ?_
          exact h
        · replace h := h.2 (Classical.not_not.mp (fun q => c (decide_eq_true q)))
          obtain ⟨c1, h⟩ := h
          refine gWp_sts gT_25 10 (f' := (92, [some (.ref 15), some (.int x1), some (.ref 13), some (.int x3), some (.int v2), some (.int x1), some (.int x1), some (.int (gI μ1 13 x3.toNatClampNeg)), none], [.int (if (gI μ1 13 x3.toNatClampNeg) < x1 then x1 else gI μ1 13 x3.toNatClampNeg)], μ1)) (cs := [vp_in x3 50, (([] : List Value).map fun v => v.category).sum ≤ 8]) rfl ⟨c1, (Nat.le_of_ble_eq_true rfl)⟩ ?_
          refine gWp_stat gT_25 (pc := 92) (c01 := 0) (as := [.int (if (gI μ1 13 x3.toNatClampNeg) < x1 then x1 else gI μ1 13 x3.toNatClampNeg)]) (rest := []) rfl (Or.inl rfl) rfl rfl rfl ⟨by decide, Nat.le_of_ble_eq_true rfl, by decide, Nat.le_of_ble_eq_true rfl⟩ (gWp_imp h (fun μ24 r h => ?_))
          obtain ⟨v25, rfl, h⟩ := h
          refine Or.inl ⟨_, rfl, ?_⟩
          show gWp none 25 (95, [some (.ref 15), some (.int x1), some (.ref 13), some (.int x3), some (.int v2), some (.int x1), some (.int x1), some (.int (gI μ1 13 x3.toNatClampNeg)), none], [.int v25], μ24) _ P
          refine gWp_sts gT_25 5 (f' := (103, [some (.ref 15), some (.int x1), some (.ref 13), some (.int x3), some (.int v2), some (.int x1), some (.int x1), some (.int (gI μ1 13 x3.toNatClampNeg)), some (.int v25)], [.int v25, .int v2, .int x3, .ref 15], μ24)) (cs := []) rfl trivial ?_
          refine gWp_virt gT_25 (pc := 103) (q := 15) (as := [.ref 15, .int x3, .int v2, .int v25]) (rest := []) rfl rfl rfl rfl rfl rfl ⟨by decide, Nat.le_of_ble_eq_true rfl, by decide, Nat.le_of_ble_eq_true rfl⟩ (gWp_imp h (fun μ26 r h => ?_))
          obtain ⟨rfl, h⟩ := h
          refine Or.inl ⟨_, rfl, ?_⟩
          show gWp none 25 (106, [some (.ref 15), some (.int x1), some (.ref 13), some (.int x3), some (.int v2), some (.int x1), some (.int x1), some (.int (gI μ1 13 x3.toNatClampNeg)), some (.int v25)], [], μ26) _ P
          refine gWp_sts gT_25 7 (f' := (119, [some (.ref 15), some (.int x1), some (.ref 13), some (.int x3), some (.int v2), some (.int x1), some (.int x1), some (.int (gI μ1 13 x3.toNatClampNeg)), some (.int v25)], [.int (if (gI μ1 13 x3.toNatClampNeg) < x1 then x1 else gI μ1 13 x3.toNatClampNeg), .int v25, .int v2, .int x3, .ref 15], μ26)) (cs := [(([.int v25, .int v2, .int x3, .ref 15] : List Value).map fun v => v.category).sum ≤ 8]) rfl (Nat.le_of_ble_eq_true rfl) ?_
          refine gWp_stat gT_25 (pc := 119) (c01 := 0) (as := [.int (if (gI μ1 13 x3.toNatClampNeg) < x1 then x1 else gI μ1 13 x3.toNatClampNeg)]) (rest := [.int v25, .int v2, .int x3, .ref 15]) rfl (Or.inl rfl) rfl rfl rfl ⟨by decide, Nat.le_of_ble_eq_true rfl, by decide, Nat.le_of_ble_eq_true rfl⟩ (gWp_imp h (fun μ27 r h => ?_))
          obtain ⟨v28, rfl, h⟩ := h
          refine Or.inl ⟨_, rfl, ?_⟩
          show gWp none 25 (122, [some (.ref 15), some (.int x1), some (.ref 13), some (.int x3), some (.int v2), some (.int x1), some (.int x1), some (.int (gI μ1 13 x3.toNatClampNeg)), some (.int v25)], [.int v28, .int v25, .int v2, .int x3, .ref 15], μ27) _ P
          refine gWp_virt gT_25 (pc := 122) (q := 15) (as := [.ref 15, .int x3, .int v2, .int v25, .int v28]) (rest := []) rfl rfl rfl rfl rfl rfl ⟨by decide, Nat.le_of_ble_eq_true rfl, by decide, Nat.le_of_ble_eq_true rfl⟩ (gWp_imp h (fun μ29 r h => ?_))
          obtain ⟨rfl, h⟩ := h
          refine Or.inl ⟨_, rfl, ?_⟩
          show gWp none 25 (125, [some (.ref 15), some (.int x1), some (.ref 13), some (.int x3), some (.int v2), some (.int x1), some (.int x1), some (.int (gI μ1 13 x3.toNatClampNeg)), some (.int v25)], [], μ29) _ P
          refine gWp_sts gT_25 3 (f' := (129, [some (.ref 15), some (.int x1), some (.ref 13), some (.int x3), some (.int v2), some (.int x1), some (.int x1), some (.int (gI μ1 13 x3.toNatClampNeg)), some (.int v25)], [.int v2, .int x3, .ref 15], μ29)) (cs := []) rfl trivial ?_
          refine gWp_virt gT_25 (pc := 129) (q := 15) (as := [.ref 15, .int x3, .int v2]) (rest := []) rfl rfl rfl rfl rfl rfl ⟨by decide, Nat.le_of_ble_eq_true rfl, by decide, Nat.le_of_ble_eq_true rfl⟩ (gWp_imp h (fun μ30 r h => ?_))
          obtain ⟨rfl, h⟩ := h
          refine Or.inl ⟨_, rfl, ?_⟩
          show gWp none 25 (132, [some (.ref 15), some (.int x1), some (.ref 13), some (.int x3), some (.int v2), some (.int x1), some (.int x1), some (.int (gI μ1 13 x3.toNatClampNeg)), some (.int v25)], [], μ30) _ P
          refine gWp_sts gT_25 2 (f' := (10, [some (.ref 15), some (.int x1), some (.ref 13), some (.int (x3 + (1 : Int32))), some (.int v2), some (.int x1), some (.int x1), some (.int (gI μ1 13 x3.toNatClampNeg)), some (.int v25)], [], μ30)) (cs := []) rfl trivial ?_
          exact h
    · replace h := h.2 (fun q => c (decide_eq_true q))
      obtain ⟨c1, c2, h⟩ := h
      refine gWp_sts gT_25 8 (f' := (33, [some (.ref 15), some (.int x1), some (.ref 13), some (.int x3), none, none, none, none, none], [.int (gI μ 13 ((x3 - (1 : Int32)).toNatClampNeg)), .int (gI μ 13 x3.toNatClampNeg)], μ)) (cs := [vp_in x3 50, vp_in (x3 - (1 : Int32)) 50]) rfl ⟨c1, c2⟩ ?_
      refine gWp_icmp gT_25 (pc := 33) rfl ⟨fun c => ?_, fun c => ?_⟩
      · replace h := h.1 (of_decide_eq_true c)
        refine gWp_sts gT_25 2 (f' := (10, [some (.ref 15), some (.int x1), some (.ref 13), some (.int (x3 + (1 : Int32))), none, none, none, none, none], [], μ)) (cs := []) rfl trivial ?_
        exact h
      · replace h := h.2 (fun q => c (decide_eq_true q))
        refine gWp_sts gT_25 2 (f' := (38, [some (.ref 15), some (.int x1), some (.ref 13), some (.int x3), none, none, none, none, none], [.int x3, .ref 15], μ)) (cs := []) rfl trivial ?_
        refine gWp_virt gT_25 (pc := 38) (q := 15) (as := [.ref 15, .int x3]) (rest := []) rfl rfl rfl rfl rfl rfl ⟨by decide, Nat.le_of_ble_eq_true rfl, by decide, Nat.le_of_ble_eq_true rfl⟩ (gWp_imp h (fun μ31 r h => ?_))
        obtain ⟨v32, rfl, h⟩ := h
        refine Or.inl ⟨_, rfl, ?_⟩
        show gWp none 25 (41, [some (.ref 15), some (.int x1), some (.ref 13), some (.int x3), none, none, none, none, none], [.int v32], μ31) _ P
        refine gWp_sts gT_25 2 (f' := (44, [some (.ref 15), some (.int x1), some (.ref 13), some (.int x3), some (.int v32), none, none, none, none], [.int x3], μ31)) (cs := []) rfl trivial ?_
        refine gWp_if gT_25 (pc := 44) rfl ⟨fun c => ?_, fun c => ?_⟩
        · replace h := h.1 (of_decide_eq_true c)
          obtain ⟨c1, h⟩ := h
          refine gWp_sts gT_25 10 (f' := (67, [some (.ref 15), some (.int x1), some (.ref 13), some (.int x3), some (.int v32), some (.int (gI μ31 13 ((x3 - (1 : Int32)).toNatClampNeg))), none, none, none], [.int (gI μ31 9 5), .int v32], μ31)) (cs := [vp_in (x3 - (1 : Int32)) 50]) rfl c1 ?_
          refine gWp_icmp gT_25 (pc := 67) rfl ⟨fun c => ?_, fun c => ?_⟩
          · replace h := h.1 (of_decide_eq_true c)
            obtain ⟨c1, c2, h⟩ := h
            refine gWp_sts gT_25 11 (f' := (92, [some (.ref 15), some (.int x1), some (.ref 13), some (.int x3), some (.int v32), some (.int (gI μ31 13 ((x3 - (1 : Int32)).toNatClampNeg))), some (.int (gI μ31 13 v32.toNatClampNeg)), some (.int (gI μ31 13 x3.toNatClampNeg)), none], [.int (if (gI μ31 13 x3.toNatClampNeg) < (gI μ31 13 ((x3 - (1 : Int32)).toNatClampNeg)) then gI μ31 13 ((x3 - (1 : Int32)).toNatClampNeg) else gI μ31 13 x3.toNatClampNeg)], μ31)) (cs := [vp_in v32 50, vp_in x3 50, (([] : List Value).map fun v => v.category).sum ≤ 8]) rfl ⟨c1, c2, (Nat.le_of_ble_eq_true rfl)⟩ ?_
            refine gWp_stat gT_25 (pc := 92) (c01 := 0) (as := [.int (if (gI μ31 13 x3.toNatClampNeg) < (gI μ31 13 ((x3 - (1 : Int32)).toNatClampNeg)) then gI μ31 13 ((x3 - (1 : Int32)).toNatClampNeg) else gI μ31 13 x3.toNatClampNeg)]) (rest := []) rfl (Or.inl rfl) rfl rfl rfl ⟨by decide, Nat.le_of_ble_eq_true rfl, by decide, Nat.le_of_ble_eq_true rfl⟩ (gWp_imp h (fun μ33 r h => ?_))
            obtain ⟨v34, rfl, h⟩ := h
            refine Or.inl ⟨_, rfl, ?_⟩
            show gWp none 25 (95, [some (.ref 15), some (.int x1), some (.ref 13), some (.int x3), some (.int v32), some (.int (gI μ31 13 ((x3 - (1 : Int32)).toNatClampNeg))), some (.int (gI μ31 13 v32.toNatClampNeg)), some (.int (gI μ31 13 x3.toNatClampNeg)), none], [.int v34], μ33) _ P
            refine gWp_sts gT_25 5 (f' := (103, [some (.ref 15), some (.int x1), some (.ref 13), some (.int x3), some (.int v32), some (.int (gI μ31 13 ((x3 - (1 : Int32)).toNatClampNeg))), some (.int (gI μ31 13 v32.toNatClampNeg)), some (.int (gI μ31 13 x3.toNatClampNeg)), some (.int v34)], [.int v34, .int v32, .int x3, .ref 15], μ33)) (cs := []) rfl trivial ?_
            refine gWp_virt gT_25 (pc := 103) (q := 15) (as := [.ref 15, .int x3, .int v32, .int v34]) (rest := []) rfl rfl rfl rfl rfl rfl ⟨by decide, Nat.le_of_ble_eq_true rfl, by decide, Nat.le_of_ble_eq_true rfl⟩ (gWp_imp h (fun μ35 r h => ?_))
            obtain ⟨rfl, h⟩ := h
            refine Or.inl ⟨_, rfl, ?_⟩
            show gWp none 25 (106, [some (.ref 15), some (.int x1), some (.ref 13), some (.int x3), some (.int v32), some (.int (gI μ31 13 ((x3 - (1 : Int32)).toNatClampNeg))), some (.int (gI μ31 13 v32.toNatClampNeg)), some (.int (gI μ31 13 x3.toNatClampNeg)), some (.int v34)], [], μ35) _ P
            refine gWp_sts gT_25 7 (f' := (119, [some (.ref 15), some (.int x1), some (.ref 13), some (.int x3), some (.int v32), some (.int (gI μ31 13 ((x3 - (1 : Int32)).toNatClampNeg))), some (.int (gI μ31 13 v32.toNatClampNeg)), some (.int (gI μ31 13 x3.toNatClampNeg)), some (.int v34)], [.int (if (gI μ31 13 x3.toNatClampNeg) < (gI μ31 13 v32.toNatClampNeg) then gI μ31 13 v32.toNatClampNeg else gI μ31 13 x3.toNatClampNeg), .int v34, .int v32, .int x3, .ref 15], μ35)) (cs := [(([.int v34, .int v32, .int x3, .ref 15] : List Value).map fun v => v.category).sum ≤ 8]) rfl (Nat.le_of_ble_eq_true rfl) ?_
            refine gWp_stat gT_25 (pc := 119) (c01 := 0) (as := [.int (if (gI μ31 13 x3.toNatClampNeg) < (gI μ31 13 v32.toNatClampNeg) then gI μ31 13 v32.toNatClampNeg else gI μ31 13 x3.toNatClampNeg)]) (rest := [.int v34, .int v32, .int x3, .ref 15]) rfl (Or.inl rfl) rfl rfl rfl ⟨by decide, Nat.le_of_ble_eq_true rfl, by decide, Nat.le_of_ble_eq_true rfl⟩ (gWp_imp h (fun μ36 r h => ?_))
            obtain ⟨v37, rfl, h⟩ := h
            refine Or.inl ⟨_, rfl, ?_⟩
            show gWp none 25 (122, [some (.ref 15), some (.int x1), some (.ref 13), some (.int x3), some (.int v32), some (.int (gI μ31 13 ((x3 - (1 : Int32)).toNatClampNeg))), some (.int (gI μ31 13 v32.toNatClampNeg)), some (.int (gI μ31 13 x3.toNatClampNeg)), some (.int v34)], [.int v37, .int v34, .int v32, .int x3, .ref 15], μ36) _ P
            refine gWp_virt gT_25 (pc := 122) (q := 15) (as := [.ref 15, .int x3, .int v32, .int v34, .int v37]) (rest := []) rfl rfl rfl rfl rfl rfl ⟨by decide, Nat.le_of_ble_eq_true rfl, by decide, Nat.le_of_ble_eq_true rfl⟩ (gWp_imp h (fun μ38 r h => ?_))
            obtain ⟨rfl, h⟩ := h
            refine Or.inl ⟨_, rfl, ?_⟩
            show gWp none 25 (125, [some (.ref 15), some (.int x1), some (.ref 13), some (.int x3), some (.int v32), some (.int (gI μ31 13 ((x3 - (1 : Int32)).toNatClampNeg))), some (.int (gI μ31 13 v32.toNatClampNeg)), some (.int (gI μ31 13 x3.toNatClampNeg)), some (.int v34)], [], μ38) _ P
            refine gWp_sts gT_25 3 (f' := (129, [some (.ref 15), some (.int x1), some (.ref 13), some (.int x3), some (.int v32), some (.int (gI μ31 13 ((x3 - (1 : Int32)).toNatClampNeg))), some (.int (gI μ31 13 v32.toNatClampNeg)), some (.int (gI μ31 13 x3.toNatClampNeg)), some (.int v34)], [.int v32, .int x3, .ref 15], μ38)) (cs := []) rfl trivial ?_
            refine gWp_virt gT_25 (pc := 129) (q := 15) (as := [.ref 15, .int x3, .int v32]) (rest := []) rfl rfl rfl rfl rfl rfl ⟨by decide, Nat.le_of_ble_eq_true rfl, by decide, Nat.le_of_ble_eq_true rfl⟩ (gWp_imp h (fun μ39 r h => ?_))
            obtain ⟨rfl, h⟩ := h
            refine Or.inl ⟨_, rfl, ?_⟩
            show gWp none 25 (132, [some (.ref 15), some (.int x1), some (.ref 13), some (.int x3), some (.int v32), some (.int (gI μ31 13 ((x3 - (1 : Int32)).toNatClampNeg))), some (.int (gI μ31 13 v32.toNatClampNeg)), some (.int (gI μ31 13 x3.toNatClampNeg)), some (.int v34)], [], μ39) _ P
            refine gWp_sts gT_25 2 (f' := (10, [some (.ref 15), some (.int x1), some (.ref 13), some (.int (x3 + (1 : Int32))), some (.int v32), some (.int (gI μ31 13 ((x3 - (1 : Int32)).toNatClampNeg))), some (.int (gI μ31 13 v32.toNatClampNeg)), some (.int (gI μ31 13 x3.toNatClampNeg)), some (.int v34)], [], μ39)) (cs := []) rfl trivial ?_
            exact h
          · replace h := h.2 (Classical.not_not.mp (fun q => c (decide_eq_true q)))
            obtain ⟨c1, h⟩ := h
            refine gWp_sts gT_25 10 (f' := (92, [some (.ref 15), some (.int x1), some (.ref 13), some (.int x3), some (.int v32), some (.int (gI μ31 13 ((x3 - (1 : Int32)).toNatClampNeg))), some (.int x1), some (.int (gI μ31 13 x3.toNatClampNeg)), none], [.int (if (gI μ31 13 x3.toNatClampNeg) < (gI μ31 13 ((x3 - (1 : Int32)).toNatClampNeg)) then gI μ31 13 ((x3 - (1 : Int32)).toNatClampNeg) else gI μ31 13 x3.toNatClampNeg)], μ31)) (cs := [vp_in x3 50, (([] : List Value).map fun v => v.category).sum ≤ 8]) rfl ⟨c1, (Nat.le_of_ble_eq_true rfl)⟩ ?_
            refine gWp_stat gT_25 (pc := 92) (c01 := 0) (as := [.int (if (gI μ31 13 x3.toNatClampNeg) < (gI μ31 13 ((x3 - (1 : Int32)).toNatClampNeg)) then gI μ31 13 ((x3 - (1 : Int32)).toNatClampNeg) else gI μ31 13 x3.toNatClampNeg)]) (rest := []) rfl (Or.inl rfl) rfl rfl rfl ⟨by decide, Nat.le_of_ble_eq_true rfl, by decide, Nat.le_of_ble_eq_true rfl⟩ (gWp_imp h (fun μ40 r h => ?_))
            obtain ⟨v41, rfl, h⟩ := h
            refine Or.inl ⟨_, rfl, ?_⟩
            show gWp none 25 (95, [some (.ref 15), some (.int x1), some (.ref 13), some (.int x3), some (.int v32), some (.int (gI μ31 13 ((x3 - (1 : Int32)).toNatClampNeg))), some (.int x1), some (.int (gI μ31 13 x3.toNatClampNeg)), none], [.int v41], μ40) _ P
            refine gWp_sts gT_25 5 (f' := (103, [some (.ref 15), some (.int x1), some (.ref 13), some (.int x3), some (.int v32), some (.int (gI μ31 13 ((x3 - (1 : Int32)).toNatClampNeg))), some (.int x1), some (.int (gI μ31 13 x3.toNatClampNeg)), some (.int v41)], [.int v41, .int v32, .int x3, .ref 15], μ40)) (cs := []) rfl trivial ?_
            refine gWp_virt gT_25 (pc := 103) (q := 15) (as := [.ref 15, .int x3, .int v32, .int v41]) (rest := []) rfl rfl rfl rfl rfl rfl ⟨by decide, Nat.le_of_ble_eq_true rfl, by decide, Nat.le_of_ble_eq_true rfl⟩ (gWp_imp h (fun μ42 r h => ?_))
            obtain ⟨rfl, h⟩ := h
            refine Or.inl ⟨_, rfl, ?_⟩
            show gWp none 25 (106, [some (.ref 15), some (.int x1), some (.ref 13), some (.int x3), some (.int v32), some (.int (gI μ31 13 ((x3 - (1 : Int32)).toNatClampNeg))), some (.int x1), some (.int (gI μ31 13 x3.toNatClampNeg)), some (.int v41)], [], μ42) _ P
            refine gWp_sts gT_25 7 (f' := (119, [some (.ref 15), some (.int x1), some (.ref 13), some (.int x3), some (.int v32), some (.int (gI μ31 13 ((x3 - (1 : Int32)).toNatClampNeg))), some (.int x1), some (.int (gI μ31 13 x3.toNatClampNeg)), some (.int v41)], [.int (if (gI μ31 13 x3.toNatClampNeg) < x1 then x1 else gI μ31 13 x3.toNatClampNeg), .int v41, .int v32, .int x3, .ref 15], μ42)) (cs := [(([.int v41, .int v32, .int x3, .ref 15] : List Value).map fun v => v.category).sum ≤ 8]) rfl (Nat.le_of_ble_eq_true rfl) ?_
            refine gWp_stat gT_25 (pc := 119) (c01 := 0) (as := [.int (if (gI μ31 13 x3.toNatClampNeg) < x1 then x1 else gI μ31 13 x3.toNatClampNeg)]) (rest := [.int v41, .int v32, .int x3, .ref 15]) rfl (Or.inl rfl) rfl rfl rfl ⟨by decide, Nat.le_of_ble_eq_true rfl, by decide, Nat.le_of_ble_eq_true rfl⟩ (gWp_imp h (fun μ43 r h => ?_))
            obtain ⟨v44, rfl, h⟩ := h
            refine Or.inl ⟨_, rfl, ?_⟩
            show gWp none 25 (122, [some (.ref 15), some (.int x1), some (.ref 13), some (.int x3), some (.int v32), some (.int (gI μ31 13 ((x3 - (1 : Int32)).toNatClampNeg))), some (.int x1), some (.int (gI μ31 13 x3.toNatClampNeg)), some (.int v41)], [.int v44, .int v41, .int v32, .int x3, .ref 15], μ43) _ P
            refine gWp_virt gT_25 (pc := 122) (q := 15) (as := [.ref 15, .int x3, .int v32, .int v41, .int v44]) (rest := []) rfl rfl rfl rfl rfl rfl ⟨by decide, Nat.le_of_ble_eq_true rfl, by decide, Nat.le_of_ble_eq_true rfl⟩ (gWp_imp h (fun μ45 r h => ?_))
            obtain ⟨rfl, h⟩ := h
            refine Or.inl ⟨_, rfl, ?_⟩
            show gWp none 25 (125, [some (.ref 15), some (.int x1), some (.ref 13), some (.int x3), some (.int v32), some (.int (gI μ31 13 ((x3 - (1 : Int32)).toNatClampNeg))), some (.int x1), some (.int (gI μ31 13 x3.toNatClampNeg)), some (.int v41)], [], μ45) _ P
            refine gWp_sts gT_25 3 (f' := (129, [some (.ref 15), some (.int x1), some (.ref 13), some (.int x3), some (.int v32), some (.int (gI μ31 13 ((x3 - (1 : Int32)).toNatClampNeg))), some (.int x1), some (.int (gI μ31 13 x3.toNatClampNeg)), some (.int v41)], [.int v32, .int x3, .ref 15], μ45)) (cs := []) rfl trivial ?_
            refine gWp_virt gT_25 (pc := 129) (q := 15) (as := [.ref 15, .int x3, .int v32]) (rest := []) rfl rfl rfl rfl rfl rfl ⟨by decide, Nat.le_of_ble_eq_true rfl, by decide, Nat.le_of_ble_eq_true rfl⟩ (gWp_imp h (fun μ46 r h => ?_))
            obtain ⟨rfl, h⟩ := h
            refine Or.inl ⟨_, rfl, ?_⟩
            show gWp none 25 (132, [some (.ref 15), some (.int x1), some (.ref 13), some (.int x3), some (.int v32), some (.int (gI μ31 13 ((x3 - (1 : Int32)).toNatClampNeg))), some (.int x1), some (.int (gI μ31 13 x3.toNatClampNeg)), some (.int v41)], [], μ46) _ P
            refine gWp_sts gT_25 2 (f' := (10, [some (.ref 15), some (.int x1), some (.ref 13), some (.int (x3 + (1 : Int32))), some (.int v32), some (.int (gI μ31 13 ((x3 - (1 : Int32)).toNatClampNeg))), some (.int x1), some (.int (gI μ31 13 x3.toNatClampNeg)), some (.int v41)], [], μ46)) (cs := []) rfl trivial ?_
            exact h
        · replace h := h.2 (Classical.not_not.mp (fun q => c (decide_eq_true q)))
          refine gWp_sts gT_25 7 (f' := (67, [some (.ref 15), some (.int x1), some (.ref 13), some (.int x3), some (.int v32), some (.int x1), none, none, none], [.int (gI μ31 9 5), .int v32], μ31)) (cs := []) rfl trivial ?_
          refine gWp_icmp gT_25 (pc := 67) rfl ⟨fun c => ?_, fun c => ?_⟩
          · replace h := h.1 (of_decide_eq_true c)
            obtain ⟨c1, c2, h⟩ := h
            refine gWp_sts gT_25 11 (f' := (92, [some (.ref 15), some (.int x1), some (.ref 13), some (.int x3), some (.int v32), some (.int x1), some (.int (gI μ31 13 v32.toNatClampNeg)), some (.int (gI μ31 13 x3.toNatClampNeg)), none], [.int (if (gI μ31 13 x3.toNatClampNeg) < x1 then x1 else gI μ31 13 x3.toNatClampNeg)], μ31)) (cs := [vp_in v32 50, vp_in x3 50, (([] : List Value).map fun v => v.category).sum ≤ 8]) rfl ⟨c1, c2, (Nat.le_of_ble_eq_true rfl)⟩ ?_
            refine gWp_stat gT_25 (pc := 92) (c01 := 0) (as := [.int (if (gI μ31 13 x3.toNatClampNeg) < x1 then x1 else gI μ31 13 x3.toNatClampNeg)]) (rest := []) rfl (Or.inl rfl) rfl rfl rfl ⟨by decide, Nat.le_of_ble_eq_true rfl, by decide, Nat.le_of_ble_eq_true rfl⟩ (gWp_imp h (fun μ47 r h => ?_))
            obtain ⟨v48, rfl, h⟩ := h
            refine Or.inl ⟨_, rfl, ?_⟩
            show gWp none 25 (95, [some (.ref 15), some (.int x1), some (.ref 13), some (.int x3), some (.int v32), some (.int x1), some (.int (gI μ31 13 v32.toNatClampNeg)), some (.int (gI μ31 13 x3.toNatClampNeg)), none], [.int v48], μ47) _ P
            refine gWp_sts gT_25 5 (f' := (103, [some (.ref 15), some (.int x1), some (.ref 13), some (.int x3), some (.int v32), some (.int x1), some (.int (gI μ31 13 v32.toNatClampNeg)), some (.int (gI μ31 13 x3.toNatClampNeg)), some (.int v48)], [.int v48, .int v32, .int x3, .ref 15], μ47)) (cs := []) rfl trivial ?_
            refine gWp_virt gT_25 (pc := 103) (q := 15) (as := [.ref 15, .int x3, .int v32, .int v48]) (rest := []) rfl rfl rfl rfl rfl rfl ⟨by decide, Nat.le_of_ble_eq_true rfl, by decide, Nat.le_of_ble_eq_true rfl⟩ (gWp_imp h (fun μ49 r h => ?_))
            obtain ⟨rfl, h⟩ := h
            refine Or.inl ⟨_, rfl, ?_⟩
            show gWp none 25 (106, [some (.ref 15), some (.int x1), some (.ref 13), some (.int x3), some (.int v32), some (.int x1), some (.int (gI μ31 13 v32.toNatClampNeg)), some (.int (gI μ31 13 x3.toNatClampNeg)), some (.int v48)], [], μ49) _ P
            refine gWp_sts gT_25 7 (f' := (119, [some (.ref 15), some (.int x1), some (.ref 13), some (.int x3), some (.int v32), some (.int x1), some (.int (gI μ31 13 v32.toNatClampNeg)), some (.int (gI μ31 13 x3.toNatClampNeg)), some (.int v48)], [.int (if (gI μ31 13 x3.toNatClampNeg) < (gI μ31 13 v32.toNatClampNeg) then gI μ31 13 v32.toNatClampNeg else gI μ31 13 x3.toNatClampNeg), .int v48, .int v32, .int x3, .ref 15], μ49)) (cs := [(([.int v48, .int v32, .int x3, .ref 15] : List Value).map fun v => v.category).sum ≤ 8]) rfl (Nat.le_of_ble_eq_true rfl) ?_
            refine gWp_stat gT_25 (pc := 119) (c01 := 0) (as := [.int (if (gI μ31 13 x3.toNatClampNeg) < (gI μ31 13 v32.toNatClampNeg) then gI μ31 13 v32.toNatClampNeg else gI μ31 13 x3.toNatClampNeg)]) (rest := [.int v48, .int v32, .int x3, .ref 15]) rfl (Or.inl rfl) rfl rfl rfl ⟨by decide, Nat.le_of_ble_eq_true rfl, by decide, Nat.le_of_ble_eq_true rfl⟩ (gWp_imp h (fun μ50 r h => ?_))
            obtain ⟨v51, rfl, h⟩ := h
            refine Or.inl ⟨_, rfl, ?_⟩
            show gWp none 25 (122, [some (.ref 15), some (.int x1), some (.ref 13), some (.int x3), some (.int v32), some (.int x1), some (.int (gI μ31 13 v32.toNatClampNeg)), some (.int (gI μ31 13 x3.toNatClampNeg)), some (.int v48)], [.int v51, .int v48, .int v32, .int x3, .ref 15], μ50) _ P
            refine gWp_virt gT_25 (pc := 122) (q := 15) (as := [.ref 15, .int x3, .int v32, .int v48, .int v51]) (rest := []) rfl rfl rfl rfl rfl rfl ⟨by decide, Nat.le_of_ble_eq_true rfl, by decide, Nat.le_of_ble_eq_true rfl⟩ (gWp_imp h (fun μ52 r h => ?_))
            obtain ⟨rfl, h⟩ := h
            refine Or.inl ⟨_, rfl, ?_⟩
            show gWp none 25 (125, [some (.ref 15), some (.int x1), some (.ref 13), some (.int x3), some (.int v32), some (.int x1), some (.int (gI μ31 13 v32.toNatClampNeg)), some (.int (gI μ31 13 x3.toNatClampNeg)), some (.int v48)], [], μ52) _ P
            refine gWp_sts gT_25 3 (f' := (129, [some (.ref 15), some (.int x1), some (.ref 13), some (.int x3), some (.int v32), some (.int x1), some (.int (gI μ31 13 v32.toNatClampNeg)), some (.int (gI μ31 13 x3.toNatClampNeg)), some (.int v48)], [.int v32, .int x3, .ref 15], μ52)) (cs := []) rfl trivial ?_
            refine gWp_virt gT_25 (pc := 129) (q := 15) (as := [.ref 15, .int x3, .int v32]) (rest := []) rfl rfl rfl rfl rfl rfl ⟨by decide, Nat.le_of_ble_eq_true rfl, by decide, Nat.le_of_ble_eq_true rfl⟩ (gWp_imp h (fun μ53 r h => ?_))
            obtain ⟨rfl, h⟩ := h
            refine Or.inl ⟨_, rfl, ?_⟩
            show gWp none 25 (132, [some (.ref 15), some (.int x1), some (.ref 13), some (.int x3), some (.int v32), some (.int x1), some (.int (gI μ31 13 v32.toNatClampNeg)), some (.int (gI μ31 13 x3.toNatClampNeg)), some (.int v48)], [], μ53) _ P
            refine gWp_sts gT_25 2 (f' := (10, [some (.ref 15), some (.int x1), some (.ref 13), some (.int (x3 + (1 : Int32))), some (.int v32), some (.int x1), some (.int (gI μ31 13 v32.toNatClampNeg)), some (.int (gI μ31 13 x3.toNatClampNeg)), some (.int v48)], [], μ53)) (cs := []) rfl trivial ?_
            exact h
          · replace h := h.2 (Classical.not_not.mp (fun q => c (decide_eq_true q)))
            obtain ⟨c1, h⟩ := h
            refine gWp_sts gT_25 10 (f' := (92, [some (.ref 15), some (.int x1), some (.ref 13), some (.int x3), some (.int v32), some (.int x1), some (.int x1), some (.int (gI μ31 13 x3.toNatClampNeg)), none], [.int (if (gI μ31 13 x3.toNatClampNeg) < x1 then x1 else gI μ31 13 x3.toNatClampNeg)], μ31)) (cs := [vp_in x3 50, (([] : List Value).map fun v => v.category).sum ≤ 8]) rfl ⟨c1, (Nat.le_of_ble_eq_true rfl)⟩ ?_
            refine gWp_stat gT_25 (pc := 92) (c01 := 0) (as := [.int (if (gI μ31 13 x3.toNatClampNeg) < x1 then x1 else gI μ31 13 x3.toNatClampNeg)]) (rest := []) rfl (Or.inl rfl) rfl rfl rfl ⟨by decide, Nat.le_of_ble_eq_true rfl, by decide, Nat.le_of_ble_eq_true rfl⟩ (gWp_imp h (fun μ54 r h => ?_))
            obtain ⟨v55, rfl, h⟩ := h
            refine Or.inl ⟨_, rfl, ?_⟩
            show gWp none 25 (95, [some (.ref 15), some (.int x1), some (.ref 13), some (.int x3), some (.int v32), some (.int x1), some (.int x1), some (.int (gI μ31 13 x3.toNatClampNeg)), none], [.int v55], μ54) _ P
            refine gWp_sts gT_25 5 (f' := (103, [some (.ref 15), some (.int x1), some (.ref 13), some (.int x3), some (.int v32), some (.int x1), some (.int x1), some (.int (gI μ31 13 x3.toNatClampNeg)), some (.int v55)], [.int v55, .int v32, .int x3, .ref 15], μ54)) (cs := []) rfl trivial ?_
            refine gWp_virt gT_25 (pc := 103) (q := 15) (as := [.ref 15, .int x3, .int v32, .int v55]) (rest := []) rfl rfl rfl rfl rfl rfl ⟨by decide, Nat.le_of_ble_eq_true rfl, by decide, Nat.le_of_ble_eq_true rfl⟩ (gWp_imp h (fun μ56 r h => ?_))
            obtain ⟨rfl, h⟩ := h
            refine Or.inl ⟨_, rfl, ?_⟩
            show gWp none 25 (106, [some (.ref 15), some (.int x1), some (.ref 13), some (.int x3), some (.int v32), some (.int x1), some (.int x1), some (.int (gI μ31 13 x3.toNatClampNeg)), some (.int v55)], [], μ56) _ P
            refine gWp_sts gT_25 7 (f' := (119, [some (.ref 15), some (.int x1), some (.ref 13), some (.int x3), some (.int v32), some (.int x1), some (.int x1), some (.int (gI μ31 13 x3.toNatClampNeg)), some (.int v55)], [.int (if (gI μ31 13 x3.toNatClampNeg) < x1 then x1 else gI μ31 13 x3.toNatClampNeg), .int v55, .int v32, .int x3, .ref 15], μ56)) (cs := [(([.int v55, .int v32, .int x3, .ref 15] : List Value).map fun v => v.category).sum ≤ 8]) rfl (Nat.le_of_ble_eq_true rfl) ?_
            refine gWp_stat gT_25 (pc := 119) (c01 := 0) (as := [.int (if (gI μ31 13 x3.toNatClampNeg) < x1 then x1 else gI μ31 13 x3.toNatClampNeg)]) (rest := [.int v55, .int v32, .int x3, .ref 15]) rfl (Or.inl rfl) rfl rfl rfl ⟨by decide, Nat.le_of_ble_eq_true rfl, by decide, Nat.le_of_ble_eq_true rfl⟩ (gWp_imp h (fun μ57 r h => ?_))
            obtain ⟨v58, rfl, h⟩ := h
            refine Or.inl ⟨_, rfl, ?_⟩
            show gWp none 25 (122, [some (.ref 15), some (.int x1), some (.ref 13), some (.int x3), some (.int v32), some (.int x1), some (.int x1), some (.int (gI μ31 13 x3.toNatClampNeg)), some (.int v55)], [.int v58, .int v55, .int v32, .int x3, .ref 15], μ57) _ P
            refine gWp_virt gT_25 (pc := 122) (q := 15) (as := [.ref 15, .int x3, .int v32, .int v55, .int v58]) (rest := []) rfl rfl rfl rfl rfl rfl ⟨by decide, Nat.le_of_ble_eq_true rfl, by decide, Nat.le_of_ble_eq_true rfl⟩ (gWp_imp h (fun μ59 r h => ?_))
            obtain ⟨rfl, h⟩ := h
            refine Or.inl ⟨_, rfl, ?_⟩
            show gWp none 25 (125, [some (.ref 15), some (.int x1), some (.ref 13), some (.int x3), some (.int v32), some (.int x1), some (.int x1), some (.int (gI μ31 13 x3.toNatClampNeg)), some (.int v55)], [], μ59) _ P
            refine gWp_sts gT_25 3 (f' := (129, [some (.ref 15), some (.int x1), some (.ref 13), some (.int x3), some (.int v32), some (.int x1), some (.int x1), some (.int (gI μ31 13 x3.toNatClampNeg)), some (.int v55)], [.int v32, .int x3, .ref 15], μ59)) (cs := []) rfl trivial ?_
            refine gWp_virt gT_25 (pc := 129) (q := 15) (as := [.ref 15, .int x3, .int v32]) (rest := []) rfl rfl rfl rfl rfl rfl ⟨by decide, Nat.le_of_ble_eq_true rfl, by decide, Nat.le_of_ble_eq_true rfl⟩ (gWp_imp h (fun μ60 r h => ?_))
            obtain ⟨rfl, h⟩ := h
            refine Or.inl ⟨_, rfl, ?_⟩
            show gWp none 25 (132, [some (.ref 15), some (.int x1), some (.ref 13), some (.int x3), some (.int v32), some (.int x1), some (.int x1), some (.int (gI μ31 13 x3.toNatClampNeg)), some (.int v55)], [], μ60) _ P
            refine gWp_sts gT_25 2 (f' := (10, [some (.ref 15), some (.int x1), some (.ref 13), some (.int (x3 + (1 : Int32))), some (.int v32), some (.int x1), some (.int x1), some (.int (gI μ31 13 x3.toNatClampNeg)), some (.int v55)], [], μ60)) (cs := []) rfl trivial ?_
            exact h
set_option maxRecDepth 20000 in
theorem vc_25 {μ : gMu} {x1 : Int32} {P : gMu → gRes → Prop} (h : gWp none 25 (10, [some (.ref 15), some (.int x1), some (.ref 13), some (.int (0 : Int32)), none, none, none, none, none], [], μ) 0 P) : gWp none 25 (0, [some (.ref 15), some (.int x1), none, none, none, none, none, none, none], [], μ) 0 P := by
  refine gWp_sts gT_25 6 (f' := (10, [some (.ref 15), some (.int x1), some (.ref 13), some (.int (0 : Int32)), none, none, none, none, none], [], μ)) (cs := []) rfl trivial ?_
  exact h
/-! Glyphmill$Lines.arePossible -/
theorem gT_26 : gCode[26]? = some gC_26 := rfl
set_option maxRecDepth 20000 in
theorem vc_26 {μ : gMu} {P : gMu → gRes → Prop} (h : ((¬ (gI μ 32 7) = (-1 : Int32)) → (P μ (.inl (some (.int (0 : Int32)))))) ∧ (((gI μ 32 7) = (-1 : Int32)) → (P μ (.inl (some (.int (1 : Int32))))))) : gWp none 26 (0, [some (.ref 32)], [], μ) 0 P := by
  refine gWp_sts gT_26 3 (f' := (5, [some (.ref 32)], [.int (-1 : Int32), .int (gI μ 32 7)], μ)) (cs := []) rfl trivial ?_
  refine gWp_icmp gT_26 (pc := 5) rfl ⟨fun c => ?_, fun c => ?_⟩
  · replace h := h.1 (of_decide_eq_true c)
    refine gWp_sts gT_26 1 (f' := (13, [some (.ref 32)], [.int (0 : Int32)], μ)) (cs := []) rfl trivial ?_
    exact gWp_end gT_26 rfl (gEnd_int (show narrow .boolean (.int (0 : Int32)) = .int (0 : Int32) by decide)) h
  · replace h := h.2 (Classical.not_not.mp (fun q => c (decide_eq_true q)))
    refine gWp_sts gT_26 2 (f' := (13, [some (.ref 32)], [.int (1 : Int32)], μ)) (cs := []) rfl trivial ?_
    exact gWp_end gT_26 rfl (gEnd_int (show narrow .boolean (.int (1 : Int32)) = .int (1 : Int32) by decide)) h
/-! Glyphmill$Lines.bestBeginning -/
theorem gT_27 : gCode[27]? = some gC_27 := rfl
set_option maxRecDepth 20000 in
theorem vc_27_4 {μ : gMu} {x1 : Int32} {x2 : Int32} {P : gMu → gRes → Prop} (h : (((gI μ 29 3) ≤ x2) → (P μ (.inl (some (.int x1))))) ∧ ((¬ (gI μ 29 3) ≤ x2) → ((vp_in x2 51) ∧ (((¬ (gI μ 36 x2.toNatClampNeg) = 0) → (gWp none 27 (4, [some (.ref 32), some (.int x1), some (.int (x2 + (1 : Int32)))], [], μ) 0 P)) ∧ (((gI μ 36 x2.toNatClampNeg) = 0) → ((vp_in x2 51) ∧ ((((lg_cmp (gJ μ 33 x2.toNatClampNeg) (-1 : Int64)) = 0) → (gWp none 27 (4, [some (.ref 32), some (.int x1), some (.int (x2 + (1 : Int32)))], [], μ) 0 P)) ∧ ((¬ (lg_cmp (gJ μ 33 x2.toNatClampNeg) (-1 : Int64)) = 0) → (((x1 = (-1 : Int32)) → (gWp none 27 (4, [some (.ref 32), some (.int x2), some (.int (x2 + (1 : Int32)))], [], μ) 0 P)) ∧ ((¬ x1 = (-1 : Int32)) → ((vp_in x2 51) ∧ ((vp_in x1 51) ∧ (((0 ≤ (lg_cmp (gJ μ 33 x2.toNatClampNeg) (gJ μ 33 x1.toNatClampNeg))) → (gWp none 27 (4, [some (.ref 32), some (.int x1), some (.int (x2 + (1 : Int32)))], [], μ) 0 P)) ∧ ((¬ 0 ≤ (lg_cmp (gJ μ 33 x2.toNatClampNeg) (gJ μ 33 x1.toNatClampNeg))) → (gWp none 27 (4, [some (.ref 32), some (.int x2), some (.int (x2 + (1 : Int32)))], [], μ) 0 P))))))))))))))) : gWp none 27 (4, [some (.ref 32), some (.int x1), some (.int x2)], [], μ) 0 P := by
  refine gWp_sts gT_27 4 (f' := (12, [some (.ref 32), some (.int x1), some (.int x2)], [.int (gI μ 29 3), .int x2], μ)) (cs := []) rfl trivial ?_
  refine gWp_icmp gT_27 (pc := 12) rfl ⟨fun c => ?_, fun c => ?_⟩
  · replace h := h.1 (of_decide_eq_true c)
    refine gWp_sts gT_27 1 (f' := (67, [some (.ref 32), some (.int x1), some (.int x2)], [.int x1], μ)) (cs := []) rfl trivial ?_
    exact gWp_end gT_27 rfl (gEnd_int trivial) h
  · replace h := h.2 (fun q => c (decide_eq_true q))
    obtain ⟨c1, h⟩ := h
    refine gWp_sts gT_27 4 (f' := (21, [some (.ref 32), some (.int x1), some (.int x2)], [.int (gI μ 36 x2.toNatClampNeg)], μ)) (cs := [vp_in x2 51]) rfl c1 ?_
    refine gWp_if gT_27 (pc := 21) rfl ⟨fun c => ?_, fun c => ?_⟩
    · replace h := h.1 (of_decide_eq_true c)
      refine gWp_sts gT_27 2 (f' := (4, [some (.ref 32), some (.int x1), some (.int (x2 + (1 : Int32)))], [], μ)) (cs := []) rfl trivial ?_
      exact h
    · replace h := h.2 (Classical.not_not.mp (fun q => c (decide_eq_true q)))
      obtain ⟨c1, h⟩ := h
      refine gWp_sts gT_27 6 (f' := (34, [some (.ref 32), some (.int x1), some (.int x2)], [.int (lg_cmp (gJ μ 33 x2.toNatClampNeg) (-1 : Int64))], μ)) (cs := [vp_in x2 51]) rfl c1 ?_
      refine gWp_if gT_27 (pc := 34) rfl ⟨fun c => ?_, fun c => ?_⟩
      · replace h := h.1 (of_decide_eq_true c)
        refine gWp_sts gT_27 2 (f' := (4, [some (.ref 32), some (.int x1), some (.int (x2 + (1 : Int32)))], [], μ)) (cs := []) rfl trivial ?_
        exact h
      · replace h := h.2 (fun q => c (decide_eq_true q))
        refine gWp_sts gT_27 2 (f' := (39, [some (.ref 32), some (.int x1), some (.int x2)], [.int (-1 : Int32), .int x1], μ)) (cs := []) rfl trivial ?_
        refine gWp_icmp gT_27 (pc := 39) rfl ⟨fun c => ?_, fun c => ?_⟩
        · replace h := h.1 (of_decide_eq_true c)
          refine gWp_sts gT_27 4 (f' := (4, [some (.ref 32), some (.int x2), some (.int (x2 + (1 : Int32)))], [], μ)) (cs := []) rfl trivial ?_
          exact h
        · replace h := h.2 (fun q => c (decide_eq_true q))
          obtain ⟨c1, c2, h⟩ := h
          refine gWp_sts gT_27 9 (f' := (55, [some (.ref 32), some (.int x1), some (.int x2)], [.int (lg_cmp (gJ μ 33 x2.toNatClampNeg) (gJ μ 33 x1.toNatClampNeg))], μ)) (cs := [vp_in x2 51, vp_in x1 51]) rfl ⟨c1, c2⟩ ?_
          refine gWp_if gT_27 (pc := 55) rfl ⟨fun c => ?_, fun c => ?_⟩
          · replace h := h.1 (of_decide_eq_true c)
            refine gWp_sts gT_27 2 (f' := (4, [some (.ref 32), some (.int x1), some (.int (x2 + (1 : Int32)))], [], μ)) (cs := []) rfl trivial ?_
            exact h
          · replace h := h.2 (fun q => c (decide_eq_true q))
            refine gWp_sts gT_27 4 (f' := (4, [some (.ref 32), some (.int x2), some (.int (x2 + (1 : Int32)))], [], μ)) (cs := []) rfl trivial ?_
            exact h
set_option maxRecDepth 20000 in
theorem vc_27 {μ : gMu} {P : gMu → gRes → Prop} (h : gWp none 27 (4, [some (.ref 32), some (.int (-1 : Int32)), some (.int (0 : Int32))], [], μ) 0 P) : gWp none 27 (0, [some (.ref 32), none, none], [], μ) 0 P := by
  refine gWp_sts gT_27 4 (f' := (4, [some (.ref 32), some (.int (-1 : Int32)), some (.int (0 : Int32))], [], μ)) (cs := []) rfl trivial ?_
  exact h
/-! Glyphmill$Parts.naturalWidth -/
theorem gT_28 : gCode[28]? = some gC_28 := rfl
set_option maxRecDepth 20000 in
theorem vc_28 {μ : gMu} {x1 : Int32} {x2 : Int32} {P : gMu → gRes → Prop} (h : ((x2 ≤ 0) → (P μ (.inl (some (.int (0 : Int32)))))) ∧ ((¬ x2 ≤ 0) → ((vp_in (x2 - (1 : Int32)) 50) ∧ ((vp_in (gI μ 31 ((x2 - (1 : Int32)).toNatClampNeg)) 51) ∧ ((vp_in x1 51) ∧ ((vp_in (gI μ 30 x1.toNatClampNeg) 51) ∧ (P μ (.inl (some (.int ((gI μ 27 ((gI μ 31 ((x2 - (1 : Int32)).toNatClampNeg)).toNatClampNeg)) - (gI μ 27 ((gI μ 30 x1.toNatClampNeg).toNatClampNeg))))))))))))) : gWp none 28 (0, [some (.ref 29), some (.int x1), some (.int x2)], [], μ) 0 P := by
  refine gWp_sts gT_28 1 (f' := (1, [some (.ref 29), some (.int x1), some (.int x2)], [.int x2], μ)) (cs := []) rfl trivial ?_
  refine gWp_if gT_28 (pc := 1) rfl ⟨fun c => ?_, fun c => ?_⟩
  · replace h := h.1 (of_decide_eq_true c)
    refine gWp_sts gT_28 1 (f' := (39, [some (.ref 29), some (.int x1), some (.int x2)], [.int (0 : Int32)], μ)) (cs := []) rfl trivial ?_
    exact gWp_end gT_28 rfl (gEnd_int trivial) h
  · replace h := h.2 (fun q => c (decide_eq_true q))
    obtain ⟨c1, c2, c3, c4, h⟩ := h
    refine gWp_sts gT_28 20 (f' := (39, [some (.ref 29), some (.int x1), some (.int x2)], [.int ((gI μ 27 ((gI μ 31 ((x2 - (1 : Int32)).toNatClampNeg)).toNatClampNeg)) - (gI μ 27 ((gI μ 30 x1.toNatClampNeg).toNatClampNeg)))], μ)) (cs := [vp_in (x2 - (1 : Int32)) 50, vp_in (gI μ 31 ((x2 - (1 : Int32)).toNatClampNeg)) 51, vp_in x1 51, vp_in (gI μ 30 x1.toNatClampNeg) 51]) rfl ⟨c1, c2, c3, c4⟩ ?_
    exact gWp_end gT_28 rfl (gEnd_int trivial) h
/-! Glyphmill$Lines.difference -/
theorem gT_29 : gCode[29]? = some gC_29 := rfl
set_option maxRecDepth 20000 in
theorem vc_29 {μ : gMu} {x1 : Int32} {x2 : Int32} {P : gMu → gRes → Prop} (h : gCl' 28 [.ref 29, .int x1, .int x2] μ (fun μ1 r => (∃ v2, r = .inl (some (.int v2)) ∧ (P μ1 (.inl (some (.int ((gI μ 32 6) - v2)))))))) : gWp none 29 (0, [some (.ref 32), some (.int x1), some (.int x2)], [], μ) 0 P := by
  refine gWp_sts gT_29 6 (f' := (10, [some (.ref 32), some (.int x1), some (.int x2)], [.int x2, .int x1, .ref 29, .int (gI μ 32 6)], μ)) (cs := []) rfl trivial ?_
  refine gWp_virt gT_29 (pc := 10) (q := 29) (as := [.ref 29, .int x1, .int x2]) (rest := [.int (gI μ 32 6)]) rfl rfl rfl rfl rfl rfl ⟨by decide, Nat.le_of_ble_eq_true rfl, by decide, Nat.le_of_ble_eq_true rfl⟩ (gWp_imp h (fun μ1 r h => ?_))
  obtain ⟨v2, rfl, h⟩ := h
  refine Or.inl ⟨_, rfl, ?_⟩
  show gWp none 29 (13, [some (.ref 32), some (.int x1), some (.int x2)], [.int v2, .int (gI μ 32 6)], μ1) _ P
  refine gWp_sts gT_29 1 (f' := (14, [some (.ref 32), some (.int x1), some (.int x2)], [.int ((gI μ 32 6) - v2)], μ1)) (cs := []) rfl trivial ?_
  exact gWp_end gT_29 rfl (gEnd_int trivial) h
/-! Glyphmill$Parts.keptSpaces -/
theorem gT_30 : gCode[30]? = some gC_30 := rfl
set_option maxRecDepth 20000 in
theorem vc_30 {μ : gMu} {x1 : Int32} {x2 : Int32} {P : gMu → gRes → Prop} (h : ((x2 ≤ 0) → (P μ (.inl (some (.int (0 : Int32)))))) ∧ ((¬ x2 ≤ 0) → ((vp_in (x2 - (1 : Int32)) 50) ∧ ((vp_in (gI μ 31 ((x2 - (1 : Int32)).toNatClampNeg)) 51) ∧ ((vp_in x1 51) ∧ ((vp_in (gI μ 30 x1.toNatClampNeg) 51) ∧ (P μ (.inl (some (.int ((gI μ 28 ((gI μ 31 ((x2 - (1 : Int32)).toNatClampNeg)).toNatClampNeg)) - (gI μ 28 ((gI μ 30 x1.toNatClampNeg).toNatClampNeg))))))))))))) : gWp none 30 (0, [some (.ref 29), some (.int x1), some (.int x2)], [], μ) 0 P := by
  refine gWp_sts gT_30 1 (f' := (1, [some (.ref 29), some (.int x1), some (.int x2)], [.int x2], μ)) (cs := []) rfl trivial ?_
  refine gWp_if gT_30 (pc := 1) rfl ⟨fun c => ?_, fun c => ?_⟩
  · replace h := h.1 (of_decide_eq_true c)
    refine gWp_sts gT_30 1 (f' := (39, [some (.ref 29), some (.int x1), some (.int x2)], [.int (0 : Int32)], μ)) (cs := []) rfl trivial ?_
    exact gWp_end gT_30 rfl (gEnd_int trivial) h
  · replace h := h.2 (fun q => c (decide_eq_true q))
    obtain ⟨c1, c2, c3, c4, h⟩ := h
    refine gWp_sts gT_30 20 (f' := (39, [some (.ref 29), some (.int x1), some (.int x2)], [.int ((gI μ 28 ((gI μ 31 ((x2 - (1 : Int32)).toNatClampNeg)).toNatClampNeg)) - (gI μ 28 ((gI μ 30 x1.toNatClampNeg).toNatClampNeg)))], μ)) (cs := [vp_in (x2 - (1 : Int32)) 50, vp_in (gI μ 31 ((x2 - (1 : Int32)).toNatClampNeg)) 51, vp_in x1 51, vp_in (gI μ 30 x1.toNatClampNeg) 51]) rfl ⟨c1, c2, c3, c4⟩ ?_
    exact gWp_end gT_30 rfl (gEnd_int trivial) h
/-! Glyphmill$Lines.badness -/
theorem gT_31 : gCode[31]? = some gC_31 := rfl
set_option maxRecDepth 20000 in
theorem vc_31 {μ : gMu} {x1 : Int32} {x2 : Int32} {P : gMu → gRes → Prop} (h : gCl' 29 [.ref 32, .int x1, .int x2] μ (fun μ1 r => (∃ v2, r = .inl (some (.int v2)) ∧ (gCl' 30 [.ref 29, .int x1, .int x2] μ1 (fun μ3 r => (∃ v4, r = .inl (some (.int v4)) ∧ (((v2 = 0) → (P μ3 (.inl (some (.int (0 : Int32)))))) ∧ ((¬ v2 = 0) → (((v2 ≤ 0) → (((0 < v4) → (((v2 ≤ 0) → ((¬ ((v4.toInt64 * v4.toInt64) * v4.toInt64) = 0) ∧ (P μ3 (.inl (some (.int ((if (10000 : Int64) < (((((100 : Int64) * v2.toInt64) * v2.toInt64) * ((if 0 ≤ v2 then v2 else 0 - v2).toInt64)) / ((v4.toInt64 * v4.toInt64) * v4.toInt64)) then (10000 : Int64) else ((((100 : Int64) * v2.toInt64) * v2.toInt64) * ((if 0 ≤ v2 then v2 else 0 - v2).toInt64)) / ((v4.toInt64 * v4.toInt64) * v4.toInt64)).toInt32))))))) ∧ ((¬ v2 ≤ 0) → ((¬ ((((2 : Int64) * v4.toInt64) * ((2 : Int64) * v4.toInt64)) * ((2 : Int64) * v4.toInt64)) = 0) ∧ (P μ3 (.inl (some (.int ((if (10000 : Int64) < (((((100 : Int64) * v2.toInt64) * v2.toInt64) * ((if 0 ≤ v2 then v2 else 0 - v2).toInt64)) / ((((2 : Int64) * v4.toInt64) * ((2 : Int64) * v4.toInt64)) * ((2 : Int64) * v4.toInt64))) then (10000 : Int64) else ((((100 : Int64) * v2.toInt64) * v2.toInt64) * ((if 0 ≤ v2 then v2 else 0 - v2).toInt64)) / ((((2 : Int64) * v4.toInt64) * ((2 : Int64) * v4.toInt64)) * ((2 : Int64) * v4.toInt64))).toInt32))))))))) ∧ ((¬ 0 < v4) → (P μ3 (.inl (some (.int (10000 : Int32)))))))) ∧ ((¬ v2 ≤ 0) → (((¬ x2 = (gI μ3 29 3)) → (((0 < v4) → (((v2 ≤ 0) → ((¬ ((v4.toInt64 * v4.toInt64) * v4.toInt64) = 0) ∧ (P μ3 (.inl (some (.int ((if (10000 : Int64) < (((((100 : Int64) * v2.toInt64) * v2.toInt64) * ((if 0 ≤ v2 then v2 else 0 - v2).toInt64)) / ((v4.toInt64 * v4.toInt64) * v4.toInt64)) then (10000 : Int64) else ((((100 : Int64) * v2.toInt64) * v2.toInt64) * ((if 0 ≤ v2 then v2 else 0 - v2).toInt64)) / ((v4.toInt64 * v4.toInt64) * v4.toInt64)).toInt32))))))) ∧ ((¬ v2 ≤ 0) → ((¬ ((((2 : Int64) * v4.toInt64) * ((2 : Int64) * v4.toInt64)) * ((2 : Int64) * v4.toInt64)) = 0) ∧ (P μ3 (.inl (some (.int ((if (10000 : Int64) < (((((100 : Int64) * v2.toInt64) * v2.toInt64) * ((if 0 ≤ v2 then v2 else 0 - v2).toInt64)) / ((((2 : Int64) * v4.toInt64) * ((2 : Int64) * v4.toInt64)) * ((2 : Int64) * v4.toInt64))) then (10000 : Int64) else ((((100 : Int64) * v2.toInt64) * v2.toInt64) * ((if 0 ≤ v2 then v2 else 0 - v2).toInt64)) / ((((2 : Int64) * v4.toInt64) * ((2 : Int64) * v4.toInt64)) * ((2 : Int64) * v4.toInt64))).toInt32))))))))) ∧ ((¬ 0 < v4) → (P μ3 (.inl (some (.int (10000 : Int32)))))))) ∧ ((x2 = (gI μ3 29 3)) → (P μ3 (.inl (some (.int (0 : Int32))))))))))))))))) : gWp none 31 (0, [some (.ref 32), some (.int x1), some (.int x2), none, none, none, none, none, none], [], μ) 0 P := by
  refine gWp_sts gT_31 3 (f' := (3, [some (.ref 32), some (.int x1), some (.int x2), none, none, none, none, none, none], [.int x2, .int x1, .ref 32], μ)) (cs := []) rfl trivial ?_
  refine gWp_virt gT_31 (pc := 3) (q := 32) (as := [.ref 32, .int x1, .int x2]) (rest := []) rfl rfl rfl rfl rfl rfl ⟨by decide, Nat.le_of_ble_eq_true rfl, by decide, Nat.le_of_ble_eq_true rfl⟩ (gWp_imp h (fun μ1 r h => ?_))
  obtain ⟨v2, rfl, h⟩ := h
  refine Or.inl ⟨_, rfl, ?_⟩
  show gWp none 31 (6, [some (.ref 32), some (.int x1), some (.int x2), none, none, none, none, none, none], [.int v2], μ1) _ P
  refine gWp_sts gT_31 5 (f' := (13, [some (.ref 32), some (.int x1), some (.int x2), some (.int v2), none, none, none, none, none], [.int x2, .int x1, .ref 29], μ1)) (cs := []) rfl trivial ?_
  refine gWp_virt gT_31 (pc := 13) (q := 29) (as := [.ref 29, .int x1, .int x2]) (rest := []) rfl rfl rfl rfl rfl rfl ⟨by decide, Nat.le_of_ble_eq_true rfl, by decide, Nat.le_of_ble_eq_true rfl⟩ (gWp_imp h (fun μ3 r h => ?_))
  obtain ⟨v4, rfl, h⟩ := h
  refine Or.inl ⟨_, rfl, ?_⟩
  show gWp none 31 (16, [some (.ref 32), some (.int x1), some (.int x2), some (.int v2), none, none, none, none, none], [.int v4], μ3) _ P
  refine gWp_sts gT_31 2 (f' := (19, [some (.ref 32), some (.int x1), some (.int x2), some (.int v2), some (.int v4), none, none, none, none], [.int v2], μ3)) (cs := []) rfl trivial ?_
  refine gWp_if gT_31 (pc := 19) rfl ⟨fun c => ?_, fun c => ?_⟩
  · replace h := h.1 (of_decide_eq_true c)
    refine gWp_sts gT_31 1 (f' := (38, [some (.ref 32), some (.int x1), some (.int x2), some (.int v2), some (.int v4), none, none, none, none], [.int (0 : Int32)], μ3)) (cs := []) rfl trivial ?_
    exact gWp_end gT_31 rfl (gEnd_int trivial) h
  · replace h := h.2 (fun q => c (decide_eq_true q))
    refine gWp_sts gT_31 1 (f' := (23, [some (.ref 32), some (.int x1), some (.int x2), some (.int v2), some (.int v4), none, none, none, none], [.int v2], μ3)) (cs := []) rfl trivial ?_
    refine gWp_if gT_31 (pc := 23) rfl ⟨fun c => ?_, fun c => ?_⟩
    · replace h := h.1 (of_decide_eq_true c)
      refine gWp_sts gT_31 1 (f' := (41, [some (.ref 32), some (.int x1), some (.int x2), some (.int v2), some (.int v4), none, none, none, none], [.int v4], μ3)) (cs := []) rfl trivial ?_
      refine gWp_if gT_31 (pc := 41) rfl ⟨fun c => ?_, fun c => ?_⟩
      · replace h := h.1 (of_decide_eq_true c)
        refine gWp_sts gT_31 1 (f' := (49, [some (.ref 32), some (.int x1), some (.int x2), some (.int v2), some (.int v4), none, none, none, none], [.int v2], μ3)) (cs := []) rfl trivial ?_
        refine gWp_if gT_31 (pc := 49) rfl ⟨fun c => ?_, fun c => ?_⟩
        · replace h := h.1 (of_decide_eq_true c)
          obtain ⟨c1, h⟩ := h
          refine gWp_sts gT_31 25 (f' := (102, [some (.ref 32), some (.int x1), some (.int x2), some (.int v2), some (.int v4), some (.long v4.toInt64), none, some (.long (((((100 : Int64) * v2.toInt64) * v2.toInt64) * ((if 0 ≤ v2 then v2 else 0 - v2).toInt64)) / ((v4.toInt64 * v4.toInt64) * v4.toInt64))), none], [.int ((if (10000 : Int64) < (((((100 : Int64) * v2.toInt64) * v2.toInt64) * ((if 0 ≤ v2 then v2 else 0 - v2).toInt64)) / ((v4.toInt64 * v4.toInt64) * v4.toInt64)) then (10000 : Int64) else ((((100 : Int64) * v2.toInt64) * v2.toInt64) * ((if 0 ≤ v2 then v2 else 0 - v2).toInt64)) / ((v4.toInt64 * v4.toInt64) * v4.toInt64)).toInt32)], μ3)) (cs := [(([.long (((100 : Int64) * v2.toInt64) * v2.toInt64)] : List Value).map fun v => v.category).sum ≤ 8, ¬ ((v4.toInt64 * v4.toInt64) * v4.toInt64) = 0, (([] : List Value).map fun v => v.category).sum ≤ 8]) rfl ⟨(Nat.le_of_ble_eq_true rfl), c1, (Nat.le_of_ble_eq_true rfl)⟩ ?_
          exact gWp_end gT_31 rfl (gEnd_int trivial) h
        · replace h := h.2 (fun q => c (decide_eq_true q))
          obtain ⟨c1, h⟩ := h
          refine gWp_sts gT_31 28 (f' := (102, [some (.ref 32), some (.int x1), some (.int x2), some (.int v2), some (.int v4), some (.long ((2 : Int64) * v4.toInt64)), none, some (.long (((((100 : Int64) * v2.toInt64) * v2.toInt64) * ((if 0 ≤ v2 then v2 else 0 - v2).toInt64)) / ((((2 : Int64) * v4.toInt64) * ((2 : Int64) * v4.toInt64)) * ((2 : Int64) * v4.toInt64)))), none], [.int ((if (10000 : Int64) < (((((100 : Int64) * v2.toInt64) * v2.toInt64) * ((if 0 ≤ v2 then v2 else 0 - v2).toInt64)) / ((((2 : Int64) * v4.toInt64) * ((2 : Int64) * v4.toInt64)) * ((2 : Int64) * v4.toInt64))) then (10000 : Int64) else ((((100 : Int64) * v2.toInt64) * v2.toInt64) * ((if 0 ≤ v2 then v2 else 0 - v2).toInt64)) / ((((2 : Int64) * v4.toInt64) * ((2 : Int64) * v4.toInt64)) * ((2 : Int64) * v4.toInt64))).toInt32)], μ3)) (cs := [(([.long (((100 : Int64) * v2.toInt64) * v2.toInt64)] : List Value).map fun v => v.category).sum ≤ 8, ¬ ((((2 : Int64) * v4.toInt64) * ((2 : Int64) * v4.toInt64)) * ((2 : Int64) * v4.toInt64)) = 0, (([] : List Value).map fun v => v.category).sum ≤ 8]) rfl ⟨(Nat.le_of_ble_eq_true rfl), c1, (Nat.le_of_ble_eq_true rfl)⟩ ?_
          exact gWp_end gT_31 rfl (gEnd_int trivial) h
      · replace h := h.2 (fun q => c (decide_eq_true q))
        refine gWp_sts gT_31 1 (f' := (47, [some (.ref 32), some (.int x1), some (.int x2), some (.int v2), some (.int v4), none, none, none, none], [.int (10000 : Int32)], μ3)) (cs := []) rfl trivial ?_
        exact gWp_end gT_31 rfl (gEnd_int trivial) h
    · replace h := h.2 (fun q => c (decide_eq_true q))
      refine gWp_sts gT_31 4 (f' := (34, [some (.ref 32), some (.int x1), some (.int x2), some (.int v2), some (.int v4), none, none, none, none], [.int (gI μ3 29 3), .int x2], μ3)) (cs := []) rfl trivial ?_
      refine gWp_icmp gT_31 (pc := 34) rfl ⟨fun c => ?_, fun c => ?_⟩
      · replace h := h.1 (of_decide_eq_true c)
        refine gWp_sts gT_31 1 (f' := (41, [some (.ref 32), some (.int x1), some (.int x2), some (.int v2), some (.int v4), none, none, none, none], [.int v4], μ3)) (cs := []) rfl trivial ?_
        refine gWp_if gT_31 (pc := 41) rfl ⟨fun c => ?_, fun c => ?_⟩
        · replace h := h.1 (of_decide_eq_true c)
          refine gWp_sts gT_31 1 (f' := (49, [some (.ref 32), some (.int x1), some (.int x2), some (.int v2), some (.int v4), none, none, none, none], [.int v2], μ3)) (cs := []) rfl trivial ?_
          refine gWp_if gT_31 (pc := 49) rfl ⟨fun c => ?_, fun c => ?_⟩
          · replace h := h.1 (of_decide_eq_true c)
            obtain ⟨c1, h⟩ := h
            refine gWp_sts gT_31 25 (f' := (102, [some (.ref 32), some (.int x1), some (.int x2), some (.int v2), some (.int v4), some (.long v4.toInt64), none, some (.long (((((100 : Int64) * v2.toInt64) * v2.toInt64) * ((if 0 ≤ v2 then v2 else 0 - v2).toInt64)) / ((v4.toInt64 * v4.toInt64) * v4.toInt64))), none], [.int ((if (10000 : Int64) < (((((100 : Int64) * v2.toInt64) * v2.toInt64) * ((if 0 ≤ v2 then v2 else 0 - v2).toInt64)) / ((v4.toInt64 * v4.toInt64) * v4.toInt64)) then (10000 : Int64) else ((((100 : Int64) * v2.toInt64) * v2.toInt64) * ((if 0 ≤ v2 then v2 else 0 - v2).toInt64)) / ((v4.toInt64 * v4.toInt64) * v4.toInt64)).toInt32)], μ3)) (cs := [(([.long (((100 : Int64) * v2.toInt64) * v2.toInt64)] : List Value).map fun v => v.category).sum ≤ 8, ¬ ((v4.toInt64 * v4.toInt64) * v4.toInt64) = 0, (([] : List Value).map fun v => v.category).sum ≤ 8]) rfl ⟨(Nat.le_of_ble_eq_true rfl), c1, (Nat.le_of_ble_eq_true rfl)⟩ ?_
            exact gWp_end gT_31 rfl (gEnd_int trivial) h
          · replace h := h.2 (fun q => c (decide_eq_true q))
            obtain ⟨c1, h⟩ := h
            refine gWp_sts gT_31 28 (f' := (102, [some (.ref 32), some (.int x1), some (.int x2), some (.int v2), some (.int v4), some (.long ((2 : Int64) * v4.toInt64)), none, some (.long (((((100 : Int64) * v2.toInt64) * v2.toInt64) * ((if 0 ≤ v2 then v2 else 0 - v2).toInt64)) / ((((2 : Int64) * v4.toInt64) * ((2 : Int64) * v4.toInt64)) * ((2 : Int64) * v4.toInt64)))), none], [.int ((if (10000 : Int64) < (((((100 : Int64) * v2.toInt64) * v2.toInt64) * ((if 0 ≤ v2 then v2 else 0 - v2).toInt64)) / ((((2 : Int64) * v4.toInt64) * ((2 : Int64) * v4.toInt64)) * ((2 : Int64) * v4.toInt64))) then (10000 : Int64) else ((((100 : Int64) * v2.toInt64) * v2.toInt64) * ((if 0 ≤ v2 then v2 else 0 - v2).toInt64)) / ((((2 : Int64) * v4.toInt64) * ((2 : Int64) * v4.toInt64)) * ((2 : Int64) * v4.toInt64))).toInt32)], μ3)) (cs := [(([.long (((100 : Int64) * v2.toInt64) * v2.toInt64)] : List Value).map fun v => v.category).sum ≤ 8, ¬ ((((2 : Int64) * v4.toInt64) * ((2 : Int64) * v4.toInt64)) * ((2 : Int64) * v4.toInt64)) = 0, (([] : List Value).map fun v => v.category).sum ≤ 8]) rfl ⟨(Nat.le_of_ble_eq_true rfl), c1, (Nat.le_of_ble_eq_true rfl)⟩ ?_
            exact gWp_end gT_31 rfl (gEnd_int trivial) h
        · replace h := h.2 (fun q => c (decide_eq_true q))
          refine gWp_sts gT_31 1 (f' := (47, [some (.ref 32), some (.int x1), some (.int x2), some (.int v2), some (.int v4), none, none, none, none], [.int (10000 : Int32)], μ3)) (cs := []) rfl trivial ?_
          exact gWp_end gT_31 rfl (gEnd_int trivial) h
      · replace h := h.2 (Classical.not_not.mp (fun q => c (decide_eq_true q)))
        refine gWp_sts gT_31 1 (f' := (38, [some (.ref 32), some (.int x1), some (.int x2), some (.int v2), some (.int v4), none, none, none, none], [.int (0 : Int32)], μ3)) (cs := []) rfl trivial ?_
        exact gWp_end gT_31 rfl (gEnd_int trivial) h
/-! Glyphmill$Glyphs.isHyphen -/
theorem gT_32 : gCode[32]? = some gC_32 := rfl
set_option maxRecDepth 20000 in
theorem vc_32 {μ : gMu} {x1 : Int32} {P : gMu → gRes → Prop} (h : (vp_in x1 50) ∧ (((¬ (gI μ 23 x1.toNatClampNeg) = (45 : Int32)) → (P μ (.inl (some (.int (0 : Int32)))))) ∧ (((gI μ 23 x1.toNatClampNeg) = (45 : Int32)) → (P μ (.inl (some (.int (1 : Int32)))))))) : gWp none 32 (0, [some (.ref 21), some (.int x1)], [], μ) 0 P := by
  obtain ⟨c1, h⟩ := h
  refine gWp_sts gT_32 5 (f' := (8, [some (.ref 21), some (.int x1)], [.int (45 : Int32), .int (gI μ 23 x1.toNatClampNeg)], μ)) (cs := [vp_in x1 50]) rfl c1 ?_
  refine gWp_icmp gT_32 (pc := 8) rfl ⟨fun c => ?_, fun c => ?_⟩
  · replace h := h.1 (of_decide_eq_true c)
    refine gWp_sts gT_32 1 (f' := (16, [some (.ref 21), some (.int x1)], [.int (0 : Int32)], μ)) (cs := []) rfl trivial ?_
    exact gWp_end gT_32 rfl (gEnd_int (show narrow .boolean (.int (0 : Int32)) = .int (0 : Int32) by decide)) h
  · replace h := h.2 (Classical.not_not.mp (fun q => c (decide_eq_true q)))
    refine gWp_sts gT_32 2 (f' := (16, [some (.ref 21), some (.int x1)], [.int (1 : Int32)], μ)) (cs := []) rfl trivial ?_
    exact gWp_end gT_32 rfl (gEnd_int (show narrow .boolean (.int (1 : Int32)) = .int (1 : Int32) by decide)) h
/-! Glyphmill$Parts.isHyphenAhead -/
theorem gT_33 : gCode[33]? = some gC_33 := rfl
set_option maxRecDepth 20000 in
theorem vc_33 {μ : gMu} {x1 : Int32} {P : gMu → gRes → Prop} (h : (vp_in x1 51) ∧ ((((gI μ 30 x1.toNatClampNeg) ≤ 0) → (P μ (.inl (some (.int (0 : Int32)))))) ∧ ((¬ (gI μ 30 x1.toNatClampNeg) ≤ 0) → ((vp_in x1 51) ∧ (gCl' 32 [.ref 21, .int ((gI μ 30 x1.toNatClampNeg) - (1 : Int32))] μ (fun μ1 r => (∃ v2, r = .inl (some (.int v2)) ∧ (((v2 = 0) → (P μ1 (.inl (some (.int (0 : Int32)))))) ∧ ((¬ v2 = 0) → (P μ1 (.inl (some (.int (1 : Int32)))))))))))))) : gWp none 33 (0, [some (.ref 29), some (.int x1)], [], μ) 0 P := by
  obtain ⟨c1, h⟩ := h
  refine gWp_sts gT_33 4 (f' := (6, [some (.ref 29), some (.int x1)], [.int (gI μ 30 x1.toNatClampNeg)], μ)) (cs := [vp_in x1 51]) rfl c1 ?_
  refine gWp_if gT_33 (pc := 6) rfl ⟨fun c => ?_, fun c => ?_⟩
  · replace h := h.1 (of_decide_eq_true c)
    refine gWp_sts gT_33 1 (f' := (32, [some (.ref 29), some (.int x1)], [.int (0 : Int32)], μ)) (cs := []) rfl trivial ?_
    exact gWp_end gT_33 rfl (gEnd_int (show narrow .boolean (.int (0 : Int32)) = .int (0 : Int32) by decide)) h
  · replace h := h.2 (fun q => c (decide_eq_true q))
    obtain ⟨c1, h⟩ := h
    refine gWp_sts gT_33 8 (f' := (21, [some (.ref 29), some (.int x1)], [.int ((gI μ 30 x1.toNatClampNeg) - (1 : Int32)), .ref 21], μ)) (cs := [vp_in x1 51]) rfl c1 ?_
    refine gWp_virt gT_33 (pc := 21) (q := 21) (as := [.ref 21, .int ((gI μ 30 x1.toNatClampNeg) - (1 : Int32))]) (rest := []) rfl rfl rfl rfl rfl rfl ⟨by decide, Nat.le_of_ble_eq_true rfl, by decide, Nat.le_of_ble_eq_true rfl⟩ (gWp_imp h (fun μ1 r h => ?_))
    obtain ⟨v2, rfl, h⟩ := h
    refine Or.inl ⟨_, rfl, ?_⟩
    show gWp none 33 (24, [some (.ref 29), some (.int x1)], [.int v2], μ1) _ P
    refine gWp_if gT_33 (pc := 24) rfl ⟨fun c => ?_, fun c => ?_⟩
    · replace h := h.1 (of_decide_eq_true c)
      refine gWp_sts gT_33 1 (f' := (32, [some (.ref 29), some (.int x1)], [.int (0 : Int32)], μ1)) (cs := []) rfl trivial ?_
      exact gWp_end gT_33 rfl (gEnd_int (show narrow .boolean (.int (0 : Int32)) = .int (0 : Int32) by decide)) h
    · replace h := h.2 (fun q => c (decide_eq_true q))
      refine gWp_sts gT_33 2 (f' := (32, [some (.ref 29), some (.int x1)], [.int (1 : Int32)], μ1)) (cs := []) rfl trivial ?_
      exact gWp_end gT_33 rfl (gEnd_int (show narrow .boolean (.int (1 : Int32)) = .int (1 : Int32) by decide)) h
/-! Glyphmill$Lines.demeritsOf -/
theorem gT_34 : gCode[34]? = some gC_34 := rfl
set_option maxRecDepth 20000 in
theorem vc_34 {μ : gMu} {x1 : Int32} {x2 : Int32} {P : gMu → gRes → Prop} (h : gCl' 31 [.ref 32, .int x1, .int x2] μ (fun μ1 r => (∃ v2, r = .inl (some (.int v2)) ∧ ((((gI μ1 29 3) ≤ x2) → (P μ1 (.inl (some (.long (((1 : Int64) + v2.toInt64) * ((1 : Int64) + v2.toInt64))))))) ∧ ((¬ (gI μ1 29 3) ≤ x2) → (gCl' 33 [.ref 29, .int x2] μ1 (fun μ3 r => (∃ v4, r = .inl (some (.int v4)) ∧ (((v4 = 0) → (P μ3 (.inl (some (.long (((1 : Int64) + v2.toInt64) * ((1 : Int64) + v2.toInt64))))))) ∧ ((¬ v4 = 0) → (gCl' 33 [.ref 29, .int x1] μ3 (fun μ5 r => (∃ v6, r = .inl (some (.int v6)) ∧ (((v6 = 0) → (P μ5 (.inl (some (.long ((((1 : Int64) + v2.toInt64) * ((1 : Int64) + v2.toInt64)) + (2500 : Int64))))))) ∧ ((¬ v6 = 0) → (P μ5 (.inl (some (.long ((((1 : Int64) + v2.toInt64) * ((1 : Int64) + v2.toInt64)) + (5500 : Int64))))))))))))))))))))) : gWp none 34 (0, [some (.ref 32), some (.int x1), some (.int x2), none, none, none, none], [], μ) 0 P := by
  refine gWp_sts gT_34 4 (f' := (4, [some (.ref 32), some (.int x1), some (.int x2), none, none, none, none], [.int x2, .int x1, .ref 32, .long (1 : Int64)], μ)) (cs := []) rfl trivial ?_
  refine gWp_virt gT_34 (pc := 4) (q := 32) (as := [.ref 32, .int x1, .int x2]) (rest := [.long (1 : Int64)]) rfl rfl rfl rfl rfl rfl ⟨by decide, Nat.le_of_ble_eq_true rfl, by decide, Nat.le_of_ble_eq_true rfl⟩ (gWp_imp h (fun μ1 r h => ?_))
  obtain ⟨v2, rfl, h⟩ := h
  refine Or.inl ⟨_, rfl, ?_⟩
  show gWp none 34 (7, [some (.ref 32), some (.int x1), some (.int x2), none, none, none, none], [.int v2, .long (1 : Int64)], μ1) _ P
  refine gWp_sts gT_34 11 (f' := (23, [some (.ref 32), some (.int x1), some (.int x2), some (.long ((1 : Int64) + v2.toInt64)), none, some (.long (((1 : Int64) + v2.toInt64) * ((1 : Int64) + v2.toInt64))), none], [.int (gI μ1 29 3), .int x2], μ1)) (cs := []) rfl trivial ?_
  refine gWp_icmp gT_34 (pc := 23) rfl ⟨fun c => ?_, fun c => ?_⟩
  · replace h := h.1 (of_decide_eq_true c)
    refine gWp_sts gT_34 1 (f' := (64, [some (.ref 32), some (.int x1), some (.int x2), some (.long ((1 : Int64) + v2.toInt64)), none, some (.long (((1 : Int64) + v2.toInt64) * ((1 : Int64) + v2.toInt64))), none], [.long (((1 : Int64) + v2.toInt64) * ((1 : Int64) + v2.toInt64))], μ1)) (cs := []) rfl trivial ?_
    exact gWp_end gT_34 rfl rfl h
  · replace h := h.2 (fun q => c (decide_eq_true q))
    refine gWp_sts gT_34 3 (f' := (31, [some (.ref 32), some (.int x1), some (.int x2), some (.long ((1 : Int64) + v2.toInt64)), none, some (.long (((1 : Int64) + v2.toInt64) * ((1 : Int64) + v2.toInt64))), none], [.int x2, .ref 29], μ1)) (cs := []) rfl trivial ?_
    refine gWp_virt gT_34 (pc := 31) (q := 29) (as := [.ref 29, .int x2]) (rest := []) rfl rfl rfl rfl rfl rfl ⟨by decide, Nat.le_of_ble_eq_true rfl, by decide, Nat.le_of_ble_eq_true rfl⟩ (gWp_imp h (fun μ3 r h => ?_))
    obtain ⟨v4, rfl, h⟩ := h
    refine Or.inl ⟨_, rfl, ?_⟩
    show gWp none 34 (34, [some (.ref 32), some (.int x1), some (.int x2), some (.long ((1 : Int64) + v2.toInt64)), none, some (.long (((1 : Int64) + v2.toInt64) * ((1 : Int64) + v2.toInt64))), none], [.int v4], μ3) _ P
    refine gWp_if gT_34 (pc := 34) rfl ⟨fun c => ?_, fun c => ?_⟩
    · replace h := h.1 (of_decide_eq_true c)
      refine gWp_sts gT_34 1 (f' := (64, [some (.ref 32), some (.int x1), some (.int x2), some (.long ((1 : Int64) + v2.toInt64)), none, some (.long (((1 : Int64) + v2.toInt64) * ((1 : Int64) + v2.toInt64))), none], [.long (((1 : Int64) + v2.toInt64) * ((1 : Int64) + v2.toInt64))], μ3)) (cs := []) rfl trivial ?_
      exact gWp_end gT_34 rfl rfl h
    · replace h := h.2 (fun q => c (decide_eq_true q))
      refine gWp_sts gT_34 4 (f' := (44, [some (.ref 32), some (.int x1), some (.int x2), some (.long ((1 : Int64) + v2.toInt64)), none, some (.long (((1 : Int64) + v2.toInt64) * ((1 : Int64) + v2.toInt64))), none], [.int x1, .ref 29, .long (((1 : Int64) + v2.toInt64) * ((1 : Int64) + v2.toInt64))], μ3)) (cs := []) rfl trivial ?_
      refine gWp_virt gT_34 (pc := 44) (q := 29) (as := [.ref 29, .int x1]) (rest := [.long (((1 : Int64) + v2.toInt64) * ((1 : Int64) + v2.toInt64))]) rfl rfl rfl rfl rfl rfl ⟨by decide, Nat.le_of_ble_eq_true rfl, by decide, Nat.le_of_ble_eq_true rfl⟩ (gWp_imp h (fun μ5 r h => ?_))
      obtain ⟨v6, rfl, h⟩ := h
      refine Or.inl ⟨_, rfl, ?_⟩
      show gWp none 34 (47, [some (.ref 32), some (.int x1), some (.int x2), some (.long ((1 : Int64) + v2.toInt64)), none, some (.long (((1 : Int64) + v2.toInt64) * ((1 : Int64) + v2.toInt64))), none], [.int v6, .long (((1 : Int64) + v2.toInt64) * ((1 : Int64) + v2.toInt64))], μ5) _ P
      refine gWp_if gT_34 (pc := 47) rfl ⟨fun c => ?_, fun c => ?_⟩
      · replace h := h.1 (of_decide_eq_true c)
        refine gWp_sts gT_34 4 (f' := (64, [some (.ref 32), some (.int x1), some (.int x2), some (.long ((1 : Int64) + v2.toInt64)), none, some (.long ((((1 : Int64) + v2.toInt64) * ((1 : Int64) + v2.toInt64)) + (2500 : Int64))), none], [.long ((((1 : Int64) + v2.toInt64) * ((1 : Int64) + v2.toInt64)) + (2500 : Int64))], μ5)) (cs := []) rfl trivial ?_
        exact gWp_end gT_34 rfl rfl h
      · replace h := h.2 (fun q => c (decide_eq_true q))
        refine gWp_sts gT_34 5 (f' := (64, [some (.ref 32), some (.int x1), some (.int x2), some (.long ((1 : Int64) + v2.toInt64)), none, some (.long ((((1 : Int64) + v2.toInt64) * ((1 : Int64) + v2.toInt64)) + (5500 : Int64))), none], [.long ((((1 : Int64) + v2.toInt64) * ((1 : Int64) + v2.toInt64)) + (5500 : Int64))], μ5)) (cs := []) rfl trivial ?_
        exact gWp_end gT_34 rfl rfl h
/-! Glyphmill$Lines.differsEarlier -/
theorem gT_35 : gCode[35]? = some gC_35 := rfl
set_option maxRecDepth 20000 in
theorem vc_35_11 {μ : gMu} {x1 : Int32} {x2 : Int32} {x3 : Int32} {x4 : Int32} {x5 : Int32} {x6 : Int32} {P : gMu → gRes → Prop} (h : (((50 : Int32) ≤ x6) → ((narrow .boolean (.int x3) = .int x3) ∧ P μ (.inl (some (.int x3))))) ∧ ((¬ (50 : Int32) ≤ x6) → (((x4 = x5) → ((narrow .boolean (.int x3) = .int x3) ∧ P μ (.inl (some (.int x3))))) ∧ ((¬ x4 = x5) → (((x5 ≤ x4) → ((vp_in x4 51) ∧ ((vp_in x5 51) ∧ (gWp none 35 (11, [some (.ref 32), some (.int x1), some (.int x2), some (.int (0 : Int32)), some (.int (gI μ 35 x4.toNatClampNeg)), some (.int (gI μ 35 x5.toNatClampNeg)), some (.int (x6 + (1 : Int32)))], [], μ) 0 P)))) ∧ ((¬ x5 ≤ x4) → ((vp_in x4 51) ∧ ((vp_in x5 51) ∧ (gWp none 35 (11, [some (.ref 32), some (.int x1), some (.int x2), some (.int (1 : Int32)), some (.int (gI μ 35 x4.toNatClampNeg)), some (.int (gI μ 35 x5.toNatClampNeg)), some (.int (x6 + (1 : Int32)))], [], μ) 0 P))))))))) : gWp none 35 (11, [some (.ref 32), some (.int x1), some (.int x2), some (.int x3), some (.int x4), some (.int x5), some (.int x6)], [], μ) 0 P := by
  refine gWp_sts gT_35 2 (f' := (15, [some (.ref 32), some (.int x1), some (.int x2), some (.int x3), some (.int x4), some (.int x5), some (.int x6)], [.int (50 : Int32), .int x6], μ)) (cs := []) rfl trivial ?_
  refine gWp_icmp gT_35 (pc := 15) rfl ⟨fun c => ?_, fun c => ?_⟩
  · replace h := h.1 (of_decide_eq_true c)
    refine gWp_sts gT_35 1 (f' := (63, [some (.ref 32), some (.int x1), some (.int x2), some (.int x3), some (.int x4), some (.int x5), some (.int x6)], [.int x3], μ)) (cs := []) rfl trivial ?_
    exact gWp_end gT_35 rfl (gEnd_int h.1) h.2
  · replace h := h.2 (fun q => c (decide_eq_true q))
    refine gWp_sts gT_35 2 (f' := (22, [some (.ref 32), some (.int x1), some (.int x2), some (.int x3), some (.int x4), some (.int x5), some (.int x6)], [.int x5, .int x4], μ)) (cs := []) rfl trivial ?_
    refine gWp_icmp gT_35 (pc := 22) rfl ⟨fun c => ?_, fun c => ?_⟩
    · replace h := h.1 (of_decide_eq_true c)
      refine gWp_sts gT_35 1 (f' := (63, [some (.ref 32), some (.int x1), some (.int x2), some (.int x3), some (.int x4), some (.int x5), some (.int x6)], [.int x3], μ)) (cs := []) rfl trivial ?_
      exact gWp_end gT_35 rfl (gEnd_int h.1) h.2
    · replace h := h.2 (fun q => c (decide_eq_true q))
      refine gWp_sts gT_35 2 (f' := (29, [some (.ref 32), some (.int x1), some (.int x2), some (.int x3), some (.int x4), some (.int x5), some (.int x6)], [.int x5, .int x4], μ)) (cs := []) rfl trivial ?_
      refine gWp_icmp gT_35 (pc := 29) rfl ⟨fun c => ?_, fun c => ?_⟩
      · replace h := h.1 (of_decide_eq_true c)
        obtain ⟨c1, c2, h⟩ := h
        refine gWp_sts gT_35 14 (f' := (11, [some (.ref 32), some (.int x1), some (.int x2), some (.int (0 : Int32)), some (.int (gI μ 35 x4.toNatClampNeg)), some (.int (gI μ 35 x5.toNatClampNeg)), some (.int (x6 + (1 : Int32)))], [], μ)) (cs := [vp_in x4 51, vp_in x5 51]) rfl ⟨c1, c2⟩ ?_
        exact h
      · replace h := h.2 (fun q => c (decide_eq_true q))
        obtain ⟨c1, c2, h⟩ := h
        refine gWp_sts gT_35 15 (f' := (11, [some (.ref 32), some (.int x1), some (.int x2), some (.int (1 : Int32)), some (.int (gI μ 35 x4.toNatClampNeg)), some (.int (gI μ 35 x5.toNatClampNeg)), some (.int (x6 + (1 : Int32)))], [], μ)) (cs := [vp_in x4 51, vp_in x5 51]) rfl ⟨c1, c2⟩ ?_
        exact h
set_option maxRecDepth 20000 in
theorem vc_35 {μ : gMu} {x1 : Int32} {x2 : Int32} {P : gMu → gRes → Prop} (h : gWp none 35 (11, [some (.ref 32), some (.int x1), some (.int x2), some (.int (0 : Int32)), some (.int x1), some (.int x2), some (.int (0 : Int32))], [], μ) 0 P) : gWp none 35 (0, [some (.ref 32), some (.int x1), some (.int x2), none, none, none, none], [], μ) 0 P := by
  refine gWp_sts gT_35 8 (f' := (11, [some (.ref 32), some (.int x1), some (.int x2), some (.int (0 : Int32)), some (.int x1), some (.int x2), some (.int (0 : Int32))], [], μ)) (cs := []) rfl trivial ?_
  exact h
/-! Glyphmill$Lines.isBetter -/
theorem gT_36 : gCode[36]? = some gC_36 := rfl
set_option maxRecDepth 20000 in
theorem vc_36 {μ : gMu} {x1 : Int32} {x2 : Int32} {x3 : Int64} {P : gMu → gRes → Prop} (h : (vp_in x2 51) ∧ ((((lg_cmp (gJ μ 33 x2.toNatClampNeg) (-1 : Int64)) = 0) → ((vp_in x2 51) ∧ ((((lg_cmp (gJ μ 33 x2.toNatClampNeg) (-1 : Int64)) = 0) → (P μ (.inl (some (.int (1 : Int32)))))) ∧ ((¬ (lg_cmp (gJ μ 33 x2.toNatClampNeg) (-1 : Int64)) = 0) → ((vp_in x2 51) ∧ (((0 ≤ (lg_cmp x3 (gJ μ 33 x2.toNatClampNeg))) → (P μ (.inl (some (.int (0 : Int32)))))) ∧ ((¬ 0 ≤ (lg_cmp x3 (gJ μ 33 x2.toNatClampNeg))) → (P μ (.inl (some (.int (1 : Int32)))))))))))) ∧ ((¬ (lg_cmp (gJ μ 33 x2.toNatClampNeg) (-1 : Int64)) = 0) → ((vp_in x2 51) ∧ ((((lg_cmp x3 (gJ μ 33 x2.toNatClampNeg)) = 0) → ((vp_in x1 51) ∧ ((vp_in x2 51) ∧ (((((gI μ 34 x1.toNatClampNeg) + (1 : Int32)) = (gI μ 34 x2.toNatClampNeg)) → ((vp_in x2 51) ∧ (gCl' 35 [.ref 32, .int x1, .int (gI μ 35 x2.toNatClampNeg)] μ (fun μ1 r => (∃ v2, r = .inl (some (.int v2)) ∧ ((narrow .boolean (.int v2) = .int v2) ∧ P μ1 (.inl (some (.int v2))))))))) ∧ ((¬ ((gI μ 34 x1.toNatClampNeg) + (1 : Int32)) = (gI μ 34 x2.toNatClampNeg)) → ((vp_in x1 51) ∧ ((vp_in x2 51) ∧ ((((gI μ 34 x2.toNatClampNeg) ≤ ((gI μ 34 x1.toNatClampNeg) + (1 : Int32))) → (P μ (.inl (some (.int (0 : Int32)))))) ∧ ((¬ (gI μ 34 x2.toNatClampNeg) ≤ ((gI μ 34 x1.toNatClampNeg) + (1 : Int32))) → (P μ (.inl (some (.int (1 : Int32)))))))))))))) ∧ ((¬ (lg_cmp x3 (gJ μ 33 x2.toNatClampNeg)) = 0) → ((vp_in x2 51) ∧ ((((lg_cmp (gJ μ 33 x2.toNatClampNeg) (-1 : Int64)) = 0) → (P μ (.inl (some (.int (1 : Int32)))))) ∧ ((¬ (lg_cmp (gJ μ 33 x2.toNatClampNeg) (-1 : Int64)) = 0) → ((vp_in x2 51) ∧ (((0 ≤ (lg_cmp x3 (gJ μ 33 x2.toNatClampNeg))) → (P μ (.inl (some (.int (0 : Int32)))))) ∧ ((¬ 0 ≤ (lg_cmp x3 (gJ μ 33 x2.toNatClampNeg))) → (P μ (.inl (some (.int (1 : Int32))))))))))))))))) : gWp none 36 (0, [some (.ref 32), some (.int x1), some (.int x2), some (.long x3), none], [], μ) 0 P := by
  obtain ⟨c1, h⟩ := h
  refine gWp_sts gT_36 6 (f' := (10, [some (.ref 32), some (.int x1), some (.int x2), some (.long x3), none], [.int (lg_cmp (gJ μ 33 x2.toNatClampNeg) (-1 : Int64))], μ)) (cs := [vp_in x2 51]) rfl c1 ?_
  refine gWp_if gT_36 (pc := 10) rfl ⟨fun c => ?_, fun c => ?_⟩
  · replace h := h.1 (of_decide_eq_true c)
    obtain ⟨c1, h⟩ := h
    refine gWp_sts gT_36 6 (f' := (34, [some (.ref 32), some (.int x1), some (.int x2), some (.long x3), none], [.int (lg_cmp (gJ μ 33 x2.toNatClampNeg) (-1 : Int64))], μ)) (cs := [vp_in x2 51]) rfl c1 ?_
    refine gWp_if gT_36 (pc := 34) rfl ⟨fun c => ?_, fun c => ?_⟩
    · replace h := h.1 (of_decide_eq_true c)
      refine gWp_sts gT_36 2 (f' := (53, [some (.ref 32), some (.int x1), some (.int x2), some (.long x3), none], [.int (1 : Int32)], μ)) (cs := []) rfl trivial ?_
      exact gWp_end gT_36 rfl (gEnd_int (show narrow .boolean (.int (1 : Int32)) = .int (1 : Int32) by decide)) h
    · replace h := h.2 (fun q => c (decide_eq_true q))
      obtain ⟨c1, h⟩ := h
      refine gWp_sts gT_36 6 (f' := (45, [some (.ref 32), some (.int x1), some (.int x2), some (.long x3), none], [.int (lg_cmp x3 (gJ μ 33 x2.toNatClampNeg))], μ)) (cs := [vp_in x2 51]) rfl c1 ?_
      refine gWp_if gT_36 (pc := 45) rfl ⟨fun c => ?_, fun c => ?_⟩
      · replace h := h.1 (of_decide_eq_true c)
        refine gWp_sts gT_36 1 (f' := (53, [some (.ref 32), some (.int x1), some (.int x2), some (.long x3), none], [.int (0 : Int32)], μ)) (cs := []) rfl trivial ?_
        exact gWp_end gT_36 rfl (gEnd_int (show narrow .boolean (.int (0 : Int32)) = .int (0 : Int32) by decide)) h
      · replace h := h.2 (fun q => c (decide_eq_true q))
        refine gWp_sts gT_36 2 (f' := (53, [some (.ref 32), some (.int x1), some (.int x2), some (.long x3), none], [.int (1 : Int32)], μ)) (cs := []) rfl trivial ?_
        exact gWp_end gT_36 rfl (gEnd_int (show narrow .boolean (.int (1 : Int32)) = .int (1 : Int32) by decide)) h
  · replace h := h.2 (fun q => c (decide_eq_true q))
    obtain ⟨c1, h⟩ := h
    refine gWp_sts gT_36 6 (f' := (21, [some (.ref 32), some (.int x1), some (.int x2), some (.long x3), none], [.int (lg_cmp x3 (gJ μ 33 x2.toNatClampNeg))], μ)) (cs := [vp_in x2 51]) rfl c1 ?_
    refine gWp_if gT_36 (pc := 21) rfl ⟨fun c => ?_, fun c => ?_⟩
    · replace h := h.1 (of_decide_eq_true c)
      obtain ⟨c1, c2, h⟩ := h
      refine gWp_sts gT_36 10 (f' := (68, [some (.ref 32), some (.int x1), some (.int x2), some (.long x3), none], [.int (gI μ 34 x2.toNatClampNeg), .int ((gI μ 34 x1.toNatClampNeg) + (1 : Int32))], μ)) (cs := [vp_in x1 51, vp_in x2 51]) rfl ⟨c1, c2⟩ ?_
      refine gWp_icmp gT_36 (pc := 68) rfl ⟨fun c => ?_, fun c => ?_⟩
      · replace h := h.1 (of_decide_eq_true c)
        obtain ⟨c1, h⟩ := h
        refine gWp_sts gT_36 6 (f' := (102, [some (.ref 32), some (.int x1), some (.int x2), some (.long x3), none], [.int (gI μ 35 x2.toNatClampNeg), .int x1, .ref 32], μ)) (cs := [vp_in x2 51]) rfl c1 ?_
        refine gWp_virt gT_36 (pc := 102) (q := 32) (as := [.ref 32, .int x1, .int (gI μ 35 x2.toNatClampNeg)]) (rest := []) rfl rfl rfl rfl rfl rfl ⟨by decide, Nat.le_of_ble_eq_true rfl, by decide, Nat.le_of_ble_eq_true rfl⟩ (gWp_imp h (fun μ1 r h => ?_))
        obtain ⟨v2, rfl, h⟩ := h
        refine Or.inl ⟨_, rfl, ?_⟩
        show gWp none 36 (105, [some (.ref 32), some (.int x1), some (.int x2), some (.long x3), none], [.int v2], μ1) _ P
        exact gWp_end gT_36 rfl (gEnd_int h.1) h.2
      · replace h := h.2 (fun q => c (decide_eq_true q))
        obtain ⟨c1, c2, h⟩ := h
        refine gWp_sts gT_36 10 (f' := (85, [some (.ref 32), some (.int x1), some (.int x2), some (.long x3), none], [.int (gI μ 34 x2.toNatClampNeg), .int ((gI μ 34 x1.toNatClampNeg) + (1 : Int32))], μ)) (cs := [vp_in x1 51, vp_in x2 51]) rfl ⟨c1, c2⟩ ?_
        refine gWp_icmp gT_36 (pc := 85) rfl ⟨fun c => ?_, fun c => ?_⟩
        · replace h := h.1 (of_decide_eq_true c)
          refine gWp_sts gT_36 1 (f' := (93, [some (.ref 32), some (.int x1), some (.int x2), some (.long x3), none], [.int (0 : Int32)], μ)) (cs := []) rfl trivial ?_
          exact gWp_end gT_36 rfl (gEnd_int (show narrow .boolean (.int (0 : Int32)) = .int (0 : Int32) by decide)) h
        · replace h := h.2 (fun q => c (decide_eq_true q))
          refine gWp_sts gT_36 2 (f' := (93, [some (.ref 32), some (.int x1), some (.int x2), some (.long x3), none], [.int (1 : Int32)], μ)) (cs := []) rfl trivial ?_
          exact gWp_end gT_36 rfl (gEnd_int (show narrow .boolean (.int (1 : Int32)) = .int (1 : Int32) by decide)) h
    · replace h := h.2 (fun q => c (decide_eq_true q))
      obtain ⟨c1, h⟩ := h
      refine gWp_sts gT_36 6 (f' := (34, [some (.ref 32), some (.int x1), some (.int x2), some (.long x3), none], [.int (lg_cmp (gJ μ 33 x2.toNatClampNeg) (-1 : Int64))], μ)) (cs := [vp_in x2 51]) rfl c1 ?_
      refine gWp_if gT_36 (pc := 34) rfl ⟨fun c => ?_, fun c => ?_⟩
      · replace h := h.1 (of_decide_eq_true c)
        refine gWp_sts gT_36 2 (f' := (53, [some (.ref 32), some (.int x1), some (.int x2), some (.long x3), none], [.int (1 : Int32)], μ)) (cs := []) rfl trivial ?_
        exact gWp_end gT_36 rfl (gEnd_int (show narrow .boolean (.int (1 : Int32)) = .int (1 : Int32) by decide)) h
      · replace h := h.2 (fun q => c (decide_eq_true q))
        obtain ⟨c1, h⟩ := h
        refine gWp_sts gT_36 6 (f' := (45, [some (.ref 32), some (.int x1), some (.int x2), some (.long x3), none], [.int (lg_cmp x3 (gJ μ 33 x2.toNatClampNeg))], μ)) (cs := [vp_in x2 51]) rfl c1 ?_
        refine gWp_if gT_36 (pc := 45) rfl ⟨fun c => ?_, fun c => ?_⟩
        · replace h := h.1 (of_decide_eq_true c)
          refine gWp_sts gT_36 1 (f' := (53, [some (.ref 32), some (.int x1), some (.int x2), some (.long x3), none], [.int (0 : Int32)], μ)) (cs := []) rfl trivial ?_
          exact gWp_end gT_36 rfl (gEnd_int (show narrow .boolean (.int (0 : Int32)) = .int (0 : Int32) by decide)) h
        · replace h := h.2 (fun q => c (decide_eq_true q))
          refine gWp_sts gT_36 2 (f' := (53, [some (.ref 32), some (.int x1), some (.int x2), some (.long x3), none], [.int (1 : Int32)], μ)) (cs := []) rfl trivial ?_
          exact gWp_end gT_36 rfl (gEnd_int (show narrow .boolean (.int (1 : Int32)) = .int (1 : Int32) by decide)) h
/-! Glyphmill$Lines.isPossible -/
theorem gT_37 : gCode[37]? = some gC_37 := rfl
set_option maxRecDepth 20000 in
theorem vc_37 {μ : gMu} {x1 : Int32} {x2 : Int32} {P : gMu → gRes → Prop} (h : gCl' 29 [.ref 32, .int x1, .int x2] μ (fun μ1 r => (∃ v2, r = .inl (some (.int v2)) ∧ (gCl' 30 [.ref 29, .int x1, .int x2] μ1 (fun μ3 r => (∃ v4, r = .inl (some (.int v4)) ∧ (((v2 < (-v4)) → (P μ3 (.inl (some (.int (0 : Int32)))))) ∧ ((¬ v2 < (-v4)) → (P μ3 (.inl (some (.int (1 : Int32))))))))))))) : gWp none 37 (0, [some (.ref 32), some (.int x1), some (.int x2)], [], μ) 0 P := by
  refine gWp_sts gT_37 3 (f' := (3, [some (.ref 32), some (.int x1), some (.int x2)], [.int x2, .int x1, .ref 32], μ)) (cs := []) rfl trivial ?_
  refine gWp_virt gT_37 (pc := 3) (q := 32) (as := [.ref 32, .int x1, .int x2]) (rest := []) rfl rfl rfl rfl rfl rfl ⟨by decide, Nat.le_of_ble_eq_true rfl, by decide, Nat.le_of_ble_eq_true rfl⟩ (gWp_imp h (fun μ1 r h => ?_))
  obtain ⟨v2, rfl, h⟩ := h
  refine Or.inl ⟨_, rfl, ?_⟩
  show gWp none 37 (6, [some (.ref 32), some (.int x1), some (.int x2)], [.int v2], μ1) _ P
  refine gWp_sts gT_37 4 (f' := (12, [some (.ref 32), some (.int x1), some (.int x2)], [.int x2, .int x1, .ref 29, .int v2], μ1)) (cs := []) rfl trivial ?_
  refine gWp_virt gT_37 (pc := 12) (q := 29) (as := [.ref 29, .int x1, .int x2]) (rest := [.int v2]) rfl rfl rfl rfl rfl rfl ⟨by decide, Nat.le_of_ble_eq_true rfl, by decide, Nat.le_of_ble_eq_true rfl⟩ (gWp_imp h (fun μ3 r h => ?_))
  obtain ⟨v4, rfl, h⟩ := h
  refine Or.inl ⟨_, rfl, ?_⟩
  show gWp none 37 (15, [some (.ref 32), some (.int x1), some (.int x2)], [.int v4, .int v2], μ3) _ P
  refine gWp_sts gT_37 1 (f' := (16, [some (.ref 32), some (.int x1), some (.int x2)], [.int (-v4), .int v2], μ3)) (cs := []) rfl trivial ?_
  refine gWp_icmp gT_37 (pc := 16) rfl ⟨fun c => ?_, fun c => ?_⟩
  · replace h := h.1 (of_decide_eq_true c)
    refine gWp_sts gT_37 1 (f' := (24, [some (.ref 32), some (.int x1), some (.int x2)], [.int (0 : Int32)], μ3)) (cs := []) rfl trivial ?_
    exact gWp_end gT_37 rfl (gEnd_int (show narrow .boolean (.int (0 : Int32)) = .int (0 : Int32) by decide)) h
  · replace h := h.2 (fun q => c (decide_eq_true q))
    refine gWp_sts gT_37 2 (f' := (24, [some (.ref 32), some (.int x1), some (.int x2)], [.int (1 : Int32)], μ3)) (cs := []) rfl trivial ?_
    exact gWp_end gT_37 rfl (gEnd_int (show narrow .boolean (.int (1 : Int32)) = .int (1 : Int32) by decide)) h
/-! Glyphmill$Lines.extend -/
theorem gT_38 : gCode[38]? = some gC_38 := rfl
set_option maxRecDepth 20000 in
theorem vc_38_4 {μ : gMu} {x1 : Int32} {x2 : Int32} {P : gMu → gRes → Prop} (h : (((gI μ 29 3) < x2) → (P μ (.inl none))) ∧ ((¬ (gI μ 29 3) < x2) → (gCl' 37 [.ref 32, .int x1, .int x2] μ (fun μ1 r => (∃ v2, r = .inl (some (.int v2)) ∧ (((v2 = 0) → (gWp none 38 (4, [some (.ref 32), some (.int x1), some (.int (x2 + (1 : Int32))), none, none], [], μ1) 0 P)) ∧ ((¬ v2 = 0) → ((vp_in x1 51) ∧ (gCl' 34 [.ref 32, .int x1, .int x2] μ1 (fun μ3 r => (∃ v4, r = .inl (some (.long v4)) ∧ (gCl' 36 [.ref 32, .int x1, .int x2, .long ((gJ μ1 33 x1.toNatClampNeg) + v4)] μ3 (fun μ5 r => (∃ v6, r = .inl (some (.int v6)) ∧ (((v6 = 0) → (gWp none 38 (4, [some (.ref 32), some (.int x1), some (.int (x2 + (1 : Int32))), some (.long ((gJ μ1 33 x1.toNatClampNeg) + v4)), none], [], μ5) 0 P)) ∧ ((¬ v6 = 0) → ((vp_in x2 51) ∧ ((vp_in x1 51) ∧ ((vp_in x2 51) ∧ ((vp_in x2 51) ∧ (gWp none 38 (4, [some (.ref 32), some (.int x1), some (.int (x2 + (1 : Int32))), some (.long ((gJ μ1 33 x1.toNatClampNeg) + v4)), none], [], (gsI (gsI (gsJ μ5 33 x2.toNatClampNeg ((gJ μ1 33 x1.toNatClampNeg) + v4)) 34 x2.toNatClampNeg ((gI μ5 34 x1.toNatClampNeg) + (1 : Int32))) 35 x2.toNatClampNeg x1)) 0 P))))))))))))))))))))) : gWp none 38 (4, [some (.ref 32), some (.int x1), some (.int x2), none, none], [], μ) 0 P := by
  refine gWp_sts gT_38 4 (f' := (12, [some (.ref 32), some (.int x1), some (.int x2), none, none], [.int (gI μ 29 3), .int x2], μ)) (cs := []) rfl trivial ?_
  refine gWp_icmp gT_38 (pc := 12) rfl ⟨fun c => ?_, fun c => ?_⟩
  · replace h := h.1 (of_decide_eq_true c)
    exact gWp_end gT_38 rfl rfl h
  · replace h := h.2 (fun q => c (decide_eq_true q))
    refine gWp_sts gT_38 3 (f' := (18, [some (.ref 32), some (.int x1), some (.int x2), none, none], [.int x2, .int x1, .ref 32], μ)) (cs := []) rfl trivial ?_
    refine gWp_virt gT_38 (pc := 18) (q := 32) (as := [.ref 32, .int x1, .int x2]) (rest := []) rfl rfl rfl rfl rfl rfl ⟨by decide, Nat.le_of_ble_eq_true rfl, by decide, Nat.le_of_ble_eq_true rfl⟩ (gWp_imp h (fun μ1 r h => ?_))
    obtain ⟨v2, rfl, h⟩ := h
    refine Or.inl ⟨_, rfl, ?_⟩
    show gWp none 38 (21, [some (.ref 32), some (.int x1), some (.int x2), none, none], [.int v2], μ1) _ P
    refine gWp_if gT_38 (pc := 21) rfl ⟨fun c => ?_, fun c => ?_⟩
    · replace h := h.1 (of_decide_eq_true c)
      refine gWp_sts gT_38 2 (f' := (4, [some (.ref 32), some (.int x1), some (.int (x2 + (1 : Int32))), none, none], [], μ1)) (cs := []) rfl trivial ?_
      exact h
    · replace h := h.2 (fun q => c (decide_eq_true q))
      obtain ⟨c1, h⟩ := h
      refine gWp_sts gT_38 7 (f' := (33, [some (.ref 32), some (.int x1), some (.int x2), none, none], [.int x2, .int x1, .ref 32, .long (gJ μ1 33 x1.toNatClampNeg)], μ1)) (cs := [vp_in x1 51]) rfl c1 ?_
      refine gWp_virt gT_38 (pc := 33) (q := 32) (as := [.ref 32, .int x1, .int x2]) (rest := [.long (gJ μ1 33 x1.toNatClampNeg)]) rfl rfl rfl rfl rfl rfl ⟨by decide, Nat.le_of_ble_eq_true rfl, by decide, Nat.le_of_ble_eq_true rfl⟩ (gWp_imp h (fun μ3 r h => ?_))
      obtain ⟨v4, rfl, h⟩ := h
      refine Or.inl ⟨_, rfl, ?_⟩
      show gWp none 38 (36, [some (.ref 32), some (.int x1), some (.int x2), none, none], [.long v4, .long (gJ μ1 33 x1.toNatClampNeg)], μ3) _ P
      refine gWp_sts gT_38 6 (f' := (42, [some (.ref 32), some (.int x1), some (.int x2), some (.long ((gJ μ1 33 x1.toNatClampNeg) + v4)), none], [.long ((gJ μ1 33 x1.toNatClampNeg) + v4), .int x2, .int x1, .ref 32], μ3)) (cs := []) rfl trivial ?_
      refine gWp_virt gT_38 (pc := 42) (q := 32) (as := [.ref 32, .int x1, .int x2, .long ((gJ μ1 33 x1.toNatClampNeg) + v4)]) (rest := []) rfl rfl rfl rfl rfl rfl ⟨by decide, Nat.le_of_ble_eq_true rfl, by decide, Nat.le_of_ble_eq_true rfl⟩ (gWp_imp h (fun μ5 r h => ?_))
      obtain ⟨v6, rfl, h⟩ := h
      refine Or.inl ⟨_, rfl, ?_⟩
      show gWp none 38 (45, [some (.ref 32), some (.int x1), some (.int x2), some (.long ((gJ μ1 33 x1.toNatClampNeg) + v4)), none], [.int v6], μ5) _ P
      refine gWp_if gT_38 (pc := 45) rfl ⟨fun c => ?_, fun c => ?_⟩
      · replace h := h.1 (of_decide_eq_true c)
        refine gWp_sts gT_38 2 (f' := (4, [some (.ref 32), some (.int x1), some (.int (x2 + (1 : Int32))), some (.long ((gJ μ1 33 x1.toNatClampNeg) + v4)), none], [], μ5)) (cs := []) rfl trivial ?_
        exact h
      · replace h := h.2 (fun q => c (decide_eq_true q))
        obtain ⟨c1, c2, c3, c4, h⟩ := h
        refine gWp_sts gT_38 22 (f' := (4, [some (.ref 32), some (.int x1), some (.int (x2 + (1 : Int32))), some (.long ((gJ μ1 33 x1.toNatClampNeg) + v4)), none], [], (gsI (gsI (gsJ μ5 33 x2.toNatClampNeg ((gJ μ1 33 x1.toNatClampNeg) + v4)) 34 x2.toNatClampNeg ((gI μ5 34 x1.toNatClampNeg) + (1 : Int32))) 35 x2.toNatClampNeg x1))) (cs := [vp_in x2 51, vp_in x1 51, vp_in x2 51, vp_in x2 51]) rfl ⟨c1, c2, c3, c4⟩ ?_
        exact h
set_option maxRecDepth 20000 in
theorem vc_38 {μ : gMu} {x1 : Int32} {P : gMu → gRes → Prop} (h : gWp none 38 (4, [some (.ref 32), some (.int x1), some (.int (x1 + (1 : Int32))), none, none], [], μ) 0 P) : gWp none 38 (0, [some (.ref 32), some (.int x1), none, none, none], [], μ) 0 P := by
  refine gWp_sts gT_38 4 (f' := (4, [some (.ref 32), some (.int x1), some (.int (x1 + (1 : Int32))), none, none], [], μ)) (cs := []) rfl trivial ?_
  exact h
/-! java/util/Arrays.fill -/
theorem gT_39 : gCode[39]? = some gC_39 := rfl
set_option maxRecDepth 20000 in
theorem vc_39_6 {μ : gMu} {x1 : Int64} {x3 : Int32} {x4 : Int32} {P : gMu → gRes → Prop} {q n : Nat} (hq : gArr q = some (3, n)) (hsc : q ≠ gSC) (h : ((x4 ≤ x3) → (P μ (.inl none))) ∧ ((¬ x4 ≤ x3) → ((vp_in x3 n) ∧ (gWp none 39 (6, [some (.ref q), some (.long x1), none, some (.int (x3 + (1 : Int32))), some (.int x4)], [], (gsJ μ q x3.toNatClampNeg x1)) 0 P)))) : gWp none 39 (6, [some (.ref q), some (.long x1), none, some (.int x3), some (.int x4)], [], μ) 0 P := by
  refine gWp_sts gT_39 2 (f' := (9, [some (.ref q), some (.long x1), none, some (.int x3), some (.int x4)], [.int x4, .int x3], μ)) (cs := []) (by simp [gSts, gLk, gC_39, gStp, gLdA, gLdI, gLdJ, gPush, gALen, gIst, gJst, gSto, gSt1, gSt2, gKill, hq, hsc, Value.category]) trivial ?_
  refine gWp_icmp gT_39 (pc := 9) rfl ⟨fun c => ?_, fun c => ?_⟩
  · replace h := h.1 (of_decide_eq_true c)
    exact gWp_end gT_39 rfl rfl h
  · replace h := h.2 (fun q => c (decide_eq_true q))
    obtain ⟨c1, h⟩ := h
    refine gWp_sts gT_39 6 (f' := (6, [some (.ref q), some (.long x1), none, some (.int (x3 + (1 : Int32))), some (.int x4)], [], (gsJ μ q x3.toNatClampNeg x1))) (cs := [vp_in x3 n]) (by simp [gSts, gLk, gC_39, gStp, gLdA, gLdI, gLdJ, gPush, gALen, gIst, gJst, gSto, gSt1, gSt2, gKill, hq, hsc, Value.category]) c1 ?_
    exact h
set_option maxRecDepth 20000 in
theorem vc_39 {μ : gMu} {x1 : Int64} {P : gMu → gRes → Prop} {q n : Nat} (hq : gArr q = some (3, n)) (hsc : q ≠ gSC) (h : gWp none 39 (6, [some (.ref q), some (.long x1), none, some (.int (0 : Int32)), some (.int (Int32.ofNat n))], [], μ) 0 P) : gWp none 39 (0, [some (.ref q), some (.long x1), none, none, none], [], μ) 0 P := by
  refine gWp_sts gT_39 5 (f' := (6, [some (.ref q), some (.long x1), none, some (.int (0 : Int32)), some (.int (Int32.ofNat n))], [], μ)) (cs := []) (by simp [gSts, gLk, gC_39, gStp, gLdA, gLdI, gLdJ, gPush, gALen, gIst, gJst, gSto, gSt1, gSt2, gKill, hq, hsc, Value.category]) trivial ?_
  exact h
/-! Glyphmill$Lines.forgetBeginnings -/
theorem gT_40 : gCode[40]? = some gC_40 := rfl
set_option maxRecDepth 20000 in
theorem vc_40_28 {μ : gMu} {x1 : Int32} {P : gMu → gRes → Prop} (h : (((gI μ 29 3) < x1) → ((vp_in (0 : Int32) 51) ∧ (P (gsJ μ 33 ((0 : Int32).toNatClampNeg) (0 : Int64)) (.inl none)))) ∧ ((¬ (gI μ 29 3) < x1) → ((vp_in x1 51) ∧ (gWp none 40 (28, [some (.ref 32), some (.int (x1 + (1 : Int32)))], [], (gsI μ 36 x1.toNatClampNeg (vp_nar .boolean (0 : Int32)))) 0 P)))) : gWp none 40 (28, [some (.ref 32), some (.int x1)], [], μ) 0 P := by
  refine gWp_sts gT_40 4 (f' := (36, [some (.ref 32), some (.int x1)], [.int (gI μ 29 3), .int x1], μ)) (cs := []) rfl trivial ?_
  refine gWp_icmp gT_40 (pc := 36) rfl ⟨fun c => ?_, fun c => ?_⟩
  · replace h := h.1 (of_decide_eq_true c)
    obtain ⟨c1, h⟩ := h
    refine gWp_sts gT_40 5 (f' := (59, [some (.ref 32), some (.int x1)], [], (gsJ μ 33 ((0 : Int32).toNatClampNeg) (0 : Int64)))) (cs := [vp_in (0 : Int32) 51]) rfl c1 ?_
    exact gWp_end gT_40 rfl rfl h
  · replace h := h.2 (fun q => c (decide_eq_true q))
    obtain ⟨c1, h⟩ := h
    refine gWp_sts gT_40 7 (f' := (28, [some (.ref 32), some (.int (x1 + (1 : Int32)))], [], (gsI μ 36 x1.toNatClampNeg (vp_nar .boolean (0 : Int32))))) (cs := [vp_in x1 51]) rfl c1 ?_
    exact h
set_option maxRecDepth 20000 in
theorem vc_40 {μ : gMu} {P : gMu → gRes → Prop} (h : gCl' 39 [.ref 33, .long (-1 : Int64)] μ (fun μ1 r => (r = .inl none ∧ (gCl' 0 [.ref 34, .int (0 : Int32)] μ1 (fun μ2 r => (r = .inl none ∧ (gCl' 0 [.ref 35, .int (0 : Int32)] μ2 (fun μ3 r => (r = .inl none ∧ (gWp none 40 (28, [some (.ref 32), some (.int (0 : Int32))], [], μ3) 0 P)))))))))) : gWp none 40 (0, [some (.ref 32), none], [], μ) 0 P := by
  refine gWp_sts gT_40 3 (f' := (7, [some (.ref 32), none], [.long (-1 : Int64), .ref 33], μ)) (cs := []) rfl trivial ?_
  refine gWp_stat gT_40 (pc := 7) (c01 := 0) (as := [.ref 33, .long (-1 : Int64)]) (rest := []) rfl (Or.inl rfl) rfl rfl rfl ⟨by decide, Nat.le_of_ble_eq_true rfl, by decide, Nat.le_of_ble_eq_true rfl⟩ (gWp_imp h (fun μ1 r h => ?_))
  obtain ⟨rfl, h⟩ := h
  refine Or.inl ⟨_, rfl, ?_⟩
  show gWp none 40 (10, [some (.ref 32), none], [], μ1) _ P
  refine gWp_sts gT_40 3 (f' := (15, [some (.ref 32), none], [.int (0 : Int32), .ref 34], μ1)) (cs := []) rfl trivial ?_
  refine gWp_stat gT_40 (pc := 15) (c01 := 0) (as := [.ref 34, .int (0 : Int32)]) (rest := []) rfl (Or.inl rfl) rfl rfl rfl ⟨by decide, Nat.le_of_ble_eq_true rfl, by decide, Nat.le_of_ble_eq_true rfl⟩ (gWp_imp h (fun μ2 r h => ?_))
  obtain ⟨rfl, h⟩ := h
  refine Or.inl ⟨_, rfl, ?_⟩
  show gWp none 40 (18, [some (.ref 32), none], [], μ2) _ P
  refine gWp_sts gT_40 3 (f' := (23, [some (.ref 32), none], [.int (0 : Int32), .ref 35], μ2)) (cs := []) rfl trivial ?_
  refine gWp_stat gT_40 (pc := 23) (c01 := 0) (as := [.ref 35, .int (0 : Int32)]) (rest := []) rfl (Or.inl rfl) rfl rfl rfl ⟨by decide, Nat.le_of_ble_eq_true rfl, by decide, Nat.le_of_ble_eq_true rfl⟩ (gWp_imp h (fun μ3 r h => ?_))
  obtain ⟨rfl, h⟩ := h
  refine Or.inl ⟨_, rfl, ?_⟩
  show gWp none 40 (26, [some (.ref 32), none], [], μ3) _ P
  refine gWp_sts gT_40 2 (f' := (28, [some (.ref 32), some (.int (0 : Int32))], [], μ3)) (cs := []) rfl trivial ?_
  exact h
/-! Glyphmill$Lines.traceBack -/
theorem gT_41 : gCode[41]? = some gC_41 := rfl
set_option maxRecDepth 20000 in
theorem vc_41_13 {μ : gMu} {x1 : Int32} {x2 : Int32} {P : gMu → gRes → Prop} (h : ((x2 < 0) → (P μ (.inl none))) ∧ ((¬ x2 < 0) → ((vp_in x2 51) ∧ ((vp_in x1 51) ∧ (gWp none 41 (13, [some (.ref 32), some (.int (gI μ 35 x1.toNatClampNeg)), some (.int (x2 + (-1 : Int32)))], [], (gsI μ 37 x2.toNatClampNeg x1)) 0 P))))) : gWp none 41 (13, [some (.ref 32), some (.int x1), some (.int x2)], [], μ) 0 P := by
  refine gWp_sts gT_41 1 (f' := (14, [some (.ref 32), some (.int x1), some (.int x2)], [.int x2], μ)) (cs := []) rfl trivial ?_
  refine gWp_if gT_41 (pc := 14) rfl ⟨fun c => ?_, fun c => ?_⟩
  · replace h := h.1 (of_decide_eq_true c)
    exact gWp_end gT_41 rfl rfl h
  · replace h := h.2 (fun q => c (decide_eq_true q))
    obtain ⟨c1, c2, h⟩ := h
    refine gWp_sts gT_41 12 (f' := (13, [some (.ref 32), some (.int (gI μ 35 x1.toNatClampNeg)), some (.int (x2 + (-1 : Int32)))], [], (gsI μ 37 x2.toNatClampNeg x1))) (cs := [vp_in x2 51, vp_in x1 51]) rfl ⟨c1, c2⟩ ?_
    exact h
set_option maxRecDepth 20000 in
theorem vc_41 {μ : gMu} {P : gMu → gRes → Prop} (h : gWp none 41 (13, [some (.ref 32), some (.int (gI μ 29 3)), some (.int (gI μ 32 8))], [], μ) 0 P) : gWp none 41 (0, [some (.ref 32), none, none], [], μ) 0 P := by
  refine gWp_sts gT_41 7 (f' := (13, [some (.ref 32), some (.int (gI μ 29 3)), some (.int (gI μ 32 8))], [], μ)) (cs := []) rfl trivial ?_
  exact h
/-! Glyphmill$Lines.find -/
theorem gT_42 : gCode[42]? = some gC_42 := rfl
set_option maxRecDepth 20000 in
theorem vc_42_6 {μ : gMu} {x1 : Int32} {P : gMu → gRes → Prop} (h : (((gI μ 29 3) ≤ x1) → ((vp_in (gI μ 29 3) 51) ∧ ((vp_in (gI μ 29 3) 51) ∧ (((¬ (lg_cmp (gJ μ 33 ((gI μ 29 3).toNatClampNeg)) (-1 : Int64)) = 0) → ((vp_in (gI μ 29 3) 51) ∧ (gCl' 41 [.ref 32] (gsJ (gsI μ 32 8 (gI μ 34 ((gI μ 29 3).toNatClampNeg))) 32 9 (gJ μ 33 ((gI μ 29 3).toNatClampNeg))) (fun μ1 r => (r = .inl none ∧ (P μ1 (.inl none))))))) ∧ (((lg_cmp (gJ μ 33 ((gI μ 29 3).toNatClampNeg)) (-1 : Int64)) = 0) → (gCl' 41 [.ref 32] (gsJ (gsI μ 32 8 (gI μ 34 ((gI μ 29 3).toNatClampNeg))) 32 9 (0 : Int64)) (fun μ2 r => (r = .inl none ∧ (P μ2 (.inl none)))))))))) ∧ ((¬ (gI μ 29 3) ≤ x1) → (gCl' 26 [.ref 32] μ (fun μ3 r => (∃ v4, r = .inl (some (.int v4)) ∧ (((v4 = 0) → ((vp_in (gI μ3 29 3) 51) ∧ ((vp_in (gI μ3 29 3) 51) ∧ (((¬ (lg_cmp (gJ μ3 33 ((gI μ3 29 3).toNatClampNeg)) (-1 : Int64)) = 0) → ((vp_in (gI μ3 29 3) 51) ∧ (gCl' 41 [.ref 32] (gsJ (gsI μ3 32 8 (gI μ3 34 ((gI μ3 29 3).toNatClampNeg))) 32 9 (gJ μ3 33 ((gI μ3 29 3).toNatClampNeg))) (fun μ5 r => (r = .inl none ∧ (P μ5 (.inl none))))))) ∧ (((lg_cmp (gJ μ3 33 ((gI μ3 29 3).toNatClampNeg)) (-1 : Int64)) = 0) → (gCl' 41 [.ref 32] (gsJ (gsI μ3 32 8 (gI μ3 34 ((gI μ3 29 3).toNatClampNeg))) 32 9 (0 : Int64)) (fun μ6 r => (r = .inl none ∧ (P μ6 (.inl none)))))))))) ∧ ((¬ v4 = 0) → (((¬ (gI μ3 29 4) = 0) → ((vp_in (gI μ3 29 3) 51) ∧ ((vp_in (gI μ3 29 3) 51) ∧ (((¬ (lg_cmp (gJ μ3 33 ((gI μ3 29 3).toNatClampNeg)) (-1 : Int64)) = 0) → ((vp_in (gI μ3 29 3) 51) ∧ (gCl' 41 [.ref 32] (gsJ (gsI μ3 32 8 (gI μ3 34 ((gI μ3 29 3).toNatClampNeg))) 32 9 (gJ μ3 33 ((gI μ3 29 3).toNatClampNeg))) (fun μ7 r => (r = .inl none ∧ (P μ7 (.inl none))))))) ∧ (((lg_cmp (gJ μ3 33 ((gI μ3 29 3).toNatClampNeg)) (-1 : Int64)) = 0) → (gCl' 41 [.ref 32] (gsJ (gsI μ3 32 8 (gI μ3 34 ((gI μ3 29 3).toNatClampNeg))) 32 9 (0 : Int64)) (fun μ8 r => (r = .inl none ∧ (P μ8 (.inl none)))))))))) ∧ (((gI μ3 29 4) = 0) → (gCl' 27 [.ref 32] μ3 (fun μ9 r => (∃ v10, r = .inl (some (.int v10)) ∧ (((v10 = (-1 : Int32)) → (gWp none 42 (6, [some (.ref 32), some (.int (x1 + (1 : Int32))), some (.int v10)], [], μ9) 0 P)) ∧ ((¬ v10 = (-1 : Int32)) → ((vp_in v10 51) ∧ (gCl' 38 [.ref 32, .int v10] (gsI μ9 36 v10.toNatClampNeg (vp_nar .boolean (1 : Int32))) (fun μ11 r => (r = .inl none ∧ (gWp none 42 (6, [some (.ref 32), some (.int (x1 + (1 : Int32))), some (.int v10)], [], μ11) 0 P))))))))))))))))))) : gWp none 42 (6, [some (.ref 32), some (.int x1), none], [], μ) 0 P := by
  refine gWp_sts gT_42 4 (f' := (14, [some (.ref 32), some (.int x1), none], [.int (gI μ 29 3), .int x1], μ)) (cs := []) rfl trivial ?_
  refine gWp_icmp gT_42 (pc := 14) rfl ⟨fun c => ?_, fun c => ?_⟩
  · replace h := h.1 (of_decide_eq_true c)
    obtain ⟨c1, c2, h⟩ := h
    refine gWp_sts gT_42 17 (f' := (95, [some (.ref 32), some (.int x1), none], [.int (lg_cmp (gJ μ 33 ((gI μ 29 3).toNatClampNeg)) (-1 : Int64)), .ref 32], (gsI μ 32 8 (gI μ 34 ((gI μ 29 3).toNatClampNeg))))) (cs := [vp_in (gI μ 29 3) 51, vp_in (gI μ 29 3) 51]) rfl ⟨c1, c2⟩ ?_
    refine gWp_if gT_42 (pc := 95) rfl ⟨fun c => ?_, fun c => ?_⟩
    · replace h := h.1 (of_decide_eq_true c)
      obtain ⟨c1, h⟩ := h
      refine gWp_sts gT_42 8 (f' := (118, [some (.ref 32), some (.int x1), none], [.ref 32], (gsJ (gsI μ 32 8 (gI μ 34 ((gI μ 29 3).toNatClampNeg))) 32 9 (gJ μ 33 ((gI μ 29 3).toNatClampNeg))))) (cs := [vp_in (gI μ 29 3) 51]) rfl c1 ?_
      refine gWp_virt gT_42 (pc := 118) (q := 32) (as := [.ref 32]) (rest := []) rfl rfl rfl rfl rfl rfl ⟨by decide, Nat.le_of_ble_eq_true rfl, by decide, Nat.le_of_ble_eq_true rfl⟩ (gWp_imp h (fun μ1 r h => ?_))
      obtain ⟨rfl, h⟩ := h
      refine Or.inl ⟨_, rfl, ?_⟩
      show gWp none 42 (121, [some (.ref 32), some (.int x1), none], [], μ1) _ P
      exact gWp_end gT_42 rfl rfl h
    · replace h := h.2 (Classical.not_not.mp (fun q => c (decide_eq_true q)))
      refine gWp_sts gT_42 4 (f' := (118, [some (.ref 32), some (.int x1), none], [.ref 32], (gsJ (gsI μ 32 8 (gI μ 34 ((gI μ 29 3).toNatClampNeg))) 32 9 (0 : Int64)))) (cs := []) rfl trivial ?_
      refine gWp_virt gT_42 (pc := 118) (q := 32) (as := [.ref 32]) (rest := []) rfl rfl rfl rfl rfl rfl ⟨by decide, Nat.le_of_ble_eq_true rfl, by decide, Nat.le_of_ble_eq_true rfl⟩ (gWp_imp h (fun μ2 r h => ?_))
      obtain ⟨rfl, h⟩ := h
      refine Or.inl ⟨_, rfl, ?_⟩
      show gWp none 42 (121, [some (.ref 32), some (.int x1), none], [], μ2) _ P
      exact gWp_end gT_42 rfl rfl h
  · replace h := h.2 (fun q => c (decide_eq_true q))
    refine gWp_sts gT_42 1 (f' := (18, [some (.ref 32), some (.int x1), none], [.ref 32], μ)) (cs := []) rfl trivial ?_
    refine gWp_virt gT_42 (pc := 18) (q := 32) (as := [.ref 32]) (rest := []) rfl rfl rfl rfl rfl rfl ⟨by decide, Nat.le_of_ble_eq_true rfl, by decide, Nat.le_of_ble_eq_true rfl⟩ (gWp_imp h (fun μ3 r h => ?_))
    obtain ⟨v4, rfl, h⟩ := h
    refine Or.inl ⟨_, rfl, ?_⟩
    show gWp none 42 (21, [some (.ref 32), some (.int x1), none], [.int v4], μ3) _ P
    refine gWp_if gT_42 (pc := 21) rfl ⟨fun c => ?_, fun c => ?_⟩
    · replace h := h.1 (of_decide_eq_true c)
      obtain ⟨c1, c2, h⟩ := h
      refine gWp_sts gT_42 17 (f' := (95, [some (.ref 32), some (.int x1), none], [.int (lg_cmp (gJ μ3 33 ((gI μ3 29 3).toNatClampNeg)) (-1 : Int64)), .ref 32], (gsI μ3 32 8 (gI μ3 34 ((gI μ3 29 3).toNatClampNeg))))) (cs := [vp_in (gI μ3 29 3) 51, vp_in (gI μ3 29 3) 51]) rfl ⟨c1, c2⟩ ?_
      refine gWp_if gT_42 (pc := 95) rfl ⟨fun c => ?_, fun c => ?_⟩
      · replace h := h.1 (of_decide_eq_true c)
        obtain ⟨c1, h⟩ := h
        refine gWp_sts gT_42 8 (f' := (118, [some (.ref 32), some (.int x1), none], [.ref 32], (gsJ (gsI μ3 32 8 (gI μ3 34 ((gI μ3 29 3).toNatClampNeg))) 32 9 (gJ μ3 33 ((gI μ3 29 3).toNatClampNeg))))) (cs := [vp_in (gI μ3 29 3) 51]) rfl c1 ?_
        refine gWp_virt gT_42 (pc := 118) (q := 32) (as := [.ref 32]) (rest := []) rfl rfl rfl rfl rfl rfl ⟨by decide, Nat.le_of_ble_eq_true rfl, by decide, Nat.le_of_ble_eq_true rfl⟩ (gWp_imp h (fun μ5 r h => ?_))
        obtain ⟨rfl, h⟩ := h
        refine Or.inl ⟨_, rfl, ?_⟩
        show gWp none 42 (121, [some (.ref 32), some (.int x1), none], [], μ5) _ P
        exact gWp_end gT_42 rfl rfl h
      · replace h := h.2 (Classical.not_not.mp (fun q => c (decide_eq_true q)))
        refine gWp_sts gT_42 4 (f' := (118, [some (.ref 32), some (.int x1), none], [.ref 32], (gsJ (gsI μ3 32 8 (gI μ3 34 ((gI μ3 29 3).toNatClampNeg))) 32 9 (0 : Int64)))) (cs := []) rfl trivial ?_
        refine gWp_virt gT_42 (pc := 118) (q := 32) (as := [.ref 32]) (rest := []) rfl rfl rfl rfl rfl rfl ⟨by decide, Nat.le_of_ble_eq_true rfl, by decide, Nat.le_of_ble_eq_true rfl⟩ (gWp_imp h (fun μ6 r h => ?_))
        obtain ⟨rfl, h⟩ := h
        refine Or.inl ⟨_, rfl, ?_⟩
        show gWp none 42 (121, [some (.ref 32), some (.int x1), none], [], μ6) _ P
        exact gWp_end gT_42 rfl rfl h
    · replace h := h.2 (fun q => c (decide_eq_true q))
      refine gWp_sts gT_42 3 (f' := (31, [some (.ref 32), some (.int x1), none], [.int (gI μ3 29 4)], μ3)) (cs := []) rfl trivial ?_
      refine gWp_if gT_42 (pc := 31) rfl ⟨fun c => ?_, fun c => ?_⟩
      · replace h := h.1 (of_decide_eq_true c)
        obtain ⟨c1, c2, h⟩ := h
        refine gWp_sts gT_42 17 (f' := (95, [some (.ref 32), some (.int x1), none], [.int (lg_cmp (gJ μ3 33 ((gI μ3 29 3).toNatClampNeg)) (-1 : Int64)), .ref 32], (gsI μ3 32 8 (gI μ3 34 ((gI μ3 29 3).toNatClampNeg))))) (cs := [vp_in (gI μ3 29 3) 51, vp_in (gI μ3 29 3) 51]) rfl ⟨c1, c2⟩ ?_
        refine gWp_if gT_42 (pc := 95) rfl ⟨fun c => ?_, fun c => ?_⟩
        · replace h := h.1 (of_decide_eq_true c)
          obtain ⟨c1, h⟩ := h
          refine gWp_sts gT_42 8 (f' := (118, [some (.ref 32), some (.int x1), none], [.ref 32], (gsJ (gsI μ3 32 8 (gI μ3 34 ((gI μ3 29 3).toNatClampNeg))) 32 9 (gJ μ3 33 ((gI μ3 29 3).toNatClampNeg))))) (cs := [vp_in (gI μ3 29 3) 51]) rfl c1 ?_
          refine gWp_virt gT_42 (pc := 118) (q := 32) (as := [.ref 32]) (rest := []) rfl rfl rfl rfl rfl rfl ⟨by decide, Nat.le_of_ble_eq_true rfl, by decide, Nat.le_of_ble_eq_true rfl⟩ (gWp_imp h (fun μ7 r h => ?_))
          obtain ⟨rfl, h⟩ := h
          refine Or.inl ⟨_, rfl, ?_⟩
          show gWp none 42 (121, [some (.ref 32), some (.int x1), none], [], μ7) _ P
          exact gWp_end gT_42 rfl rfl h
        · replace h := h.2 (Classical.not_not.mp (fun q => c (decide_eq_true q)))
          refine gWp_sts gT_42 4 (f' := (118, [some (.ref 32), some (.int x1), none], [.ref 32], (gsJ (gsI μ3 32 8 (gI μ3 34 ((gI μ3 29 3).toNatClampNeg))) 32 9 (0 : Int64)))) (cs := []) rfl trivial ?_
          refine gWp_virt gT_42 (pc := 118) (q := 32) (as := [.ref 32]) (rest := []) rfl rfl rfl rfl rfl rfl ⟨by decide, Nat.le_of_ble_eq_true rfl, by decide, Nat.le_of_ble_eq_true rfl⟩ (gWp_imp h (fun μ8 r h => ?_))
          obtain ⟨rfl, h⟩ := h
          refine Or.inl ⟨_, rfl, ?_⟩
          show gWp none 42 (121, [some (.ref 32), some (.int x1), none], [], μ8) _ P
          exact gWp_end gT_42 rfl rfl h
      · replace h := h.2 (Classical.not_not.mp (fun q => c (decide_eq_true q)))
        refine gWp_sts gT_42 1 (f' := (35, [some (.ref 32), some (.int x1), none], [.ref 32], μ3)) (cs := []) rfl trivial ?_
        refine gWp_virt gT_42 (pc := 35) (q := 32) (as := [.ref 32]) (rest := []) rfl rfl rfl rfl rfl rfl ⟨by decide, Nat.le_of_ble_eq_true rfl, by decide, Nat.le_of_ble_eq_true rfl⟩ (gWp_imp h (fun μ9 r h => ?_))
        obtain ⟨v10, rfl, h⟩ := h
        refine Or.inl ⟨_, rfl, ?_⟩
        show gWp none 42 (38, [some (.ref 32), some (.int x1), none], [.int v10], μ9) _ P
        refine gWp_sts gT_42 3 (f' := (41, [some (.ref 32), some (.int x1), some (.int v10)], [.int (-1 : Int32), .int v10], μ9)) (cs := []) rfl trivial ?_
        refine gWp_icmp gT_42 (pc := 41) rfl ⟨fun c => ?_, fun c => ?_⟩
        · replace h := h.1 (of_decide_eq_true c)
          refine gWp_sts gT_42 2 (f' := (6, [some (.ref 32), some (.int (x1 + (1 : Int32))), some (.int v10)], [], μ9)) (cs := []) rfl trivial ?_
          exact h
        · replace h := h.2 (fun q => c (decide_eq_true q))
          obtain ⟨c1, h⟩ := h
          refine gWp_sts gT_42 7 (f' := (53, [some (.ref 32), some (.int x1), some (.int v10)], [.int v10, .ref 32], (gsI μ9 36 v10.toNatClampNeg (vp_nar .boolean (1 : Int32))))) (cs := [vp_in v10 51]) rfl c1 ?_
          refine gWp_virt gT_42 (pc := 53) (q := 32) (as := [.ref 32, .int v10]) (rest := []) rfl rfl rfl rfl rfl rfl ⟨by decide, Nat.le_of_ble_eq_true rfl, by decide, Nat.le_of_ble_eq_true rfl⟩ (gWp_imp h (fun μ11 r h => ?_))
          obtain ⟨rfl, h⟩ := h
          refine Or.inl ⟨_, rfl, ?_⟩
          show gWp none 42 (56, [some (.ref 32), some (.int x1), some (.int v10)], [], μ11) _ P
          refine gWp_sts gT_42 2 (f' := (6, [some (.ref 32), some (.int (x1 + (1 : Int32))), some (.int v10)], [], μ11)) (cs := []) rfl trivial ?_
          exact h
set_option maxRecDepth 20000 in
theorem vc_42 {μ : gMu} {P : gMu → gRes → Prop} (h : gCl' 40 [.ref 32] μ (fun μ1 r => (r = .inl none ∧ (gWp none 42 (6, [some (.ref 32), some (.int (0 : Int32)), none], [], μ1) 0 P)))) : gWp none 42 (0, [some (.ref 32), none, none], [], μ) 0 P := by
  refine gWp_sts gT_42 1 (f' := (1, [some (.ref 32), none, none], [.ref 32], μ)) (cs := []) rfl trivial ?_
  refine gWp_virt gT_42 (pc := 1) (q := 32) (as := [.ref 32]) (rest := []) rfl rfl rfl rfl rfl rfl ⟨by decide, Nat.le_of_ble_eq_true rfl, by decide, Nat.le_of_ble_eq_true rfl⟩ (gWp_imp h (fun μ1 r h => ?_))
  obtain ⟨rfl, h⟩ := h
  refine Or.inl ⟨_, rfl, ?_⟩
  show gWp none 42 (4, [some (.ref 32), none, none], [], μ1) _ P
  refine gWp_sts gT_42 2 (f' := (6, [some (.ref 32), some (.int (0 : Int32)), none], [], μ1)) (cs := []) rfl trivial ?_
  exact h
/-! Glyphmill$Lines.firstTooWide -/
theorem gT_43 : gCode[43]? = some gC_43 := rfl
set_option maxRecDepth 20000 in
theorem vc_43_2 {μ : gMu} {x1 : Int32} {P : gMu → gRes → Prop} (h : (((gI μ 29 3) ≤ x1) → (P μ (.inl (some (.int (-1 : Int32)))))) ∧ ((¬ (gI μ 29 3) ≤ x1) → (gCl' 37 [.ref 32, .int x1, .int (x1 + (1 : Int32))] μ (fun μ1 r => (∃ v2, r = .inl (some (.int v2)) ∧ (((¬ v2 = 0) → (gWp none 43 (2, [some (.ref 32), some (.int (x1 + (1 : Int32)))], [], μ1) 0 P)) ∧ ((v2 = 0) → (P μ1 (.inl (some (.int x1))))))))))) : gWp none 43 (2, [some (.ref 32), some (.int x1)], [], μ) 0 P := by
  refine gWp_sts gT_43 4 (f' := (10, [some (.ref 32), some (.int x1)], [.int (gI μ 29 3), .int x1], μ)) (cs := []) rfl trivial ?_
  refine gWp_icmp gT_43 (pc := 10) rfl ⟨fun c => ?_, fun c => ?_⟩
  · replace h := h.1 (of_decide_eq_true c)
    refine gWp_sts gT_43 1 (f' := (33, [some (.ref 32), some (.int x1)], [.int (-1 : Int32)], μ)) (cs := []) rfl trivial ?_
    exact gWp_end gT_43 rfl (gEnd_int trivial) h
  · replace h := h.2 (fun q => c (decide_eq_true q))
    refine gWp_sts gT_43 5 (f' := (18, [some (.ref 32), some (.int x1)], [.int (x1 + (1 : Int32)), .int x1, .ref 32], μ)) (cs := []) rfl trivial ?_
    refine gWp_virt gT_43 (pc := 18) (q := 32) (as := [.ref 32, .int x1, .int (x1 + (1 : Int32))]) (rest := []) rfl rfl rfl rfl rfl rfl ⟨by decide, Nat.le_of_ble_eq_true rfl, by decide, Nat.le_of_ble_eq_true rfl⟩ (gWp_imp h (fun μ1 r h => ?_))
    obtain ⟨v2, rfl, h⟩ := h
    refine Or.inl ⟨_, rfl, ?_⟩
    show gWp none 43 (21, [some (.ref 32), some (.int x1)], [.int v2], μ1) _ P
    refine gWp_if gT_43 (pc := 21) rfl ⟨fun c => ?_, fun c => ?_⟩
    · replace h := h.1 (of_decide_eq_true c)
      refine gWp_sts gT_43 2 (f' := (2, [some (.ref 32), some (.int (x1 + (1 : Int32)))], [], μ1)) (cs := []) rfl trivial ?_
      exact h
    · replace h := h.2 (Classical.not_not.mp (fun q => c (decide_eq_true q)))
      refine gWp_sts gT_43 1 (f' := (25, [some (.ref 32), some (.int x1)], [.int x1], μ1)) (cs := []) rfl trivial ?_
      exact gWp_end gT_43 rfl (gEnd_int trivial) h
set_option maxRecDepth 20000 in
theorem vc_43 {μ : gMu} {P : gMu → gRes → Prop} (h : gWp none 43 (2, [some (.ref 32), some (.int (0 : Int32))], [], μ) 0 P) : gWp none 43 (0, [some (.ref 32), none], [], μ) 0 P := by
  refine gWp_sts gT_43 2 (f' := (2, [some (.ref 32), some (.int (0 : Int32))], [], μ)) (cs := []) rfl trivial ?_
  exact h
/-! Glyphmill$Lines.fit -/
theorem gT_44 : gCode[44]? = some gC_44 := rfl
set_option maxRecDepth 20000 in
theorem vc_44 {μ : gMu} {x1 : Int32} {P : gMu → gRes → Prop} (h : (((gI μ 29 4) = 0) → (gCl' 43 [.ref 32] (gsI μ 32 6 x1) (fun μ1 r => (∃ v2, r = .inl (some (.int v2)) ∧ (P (gsI μ1 32 7 v2) (.inl none)))))) ∧ ((¬ (gI μ 29 4) = 0) → (P (gsI (gsI μ 32 6 x1) 32 7 (-1 : Int32)) (.inl none)))) : gWp none 44 (0, [some (.ref 32), some (.int x1)], [], μ) 0 P := by
  refine gWp_sts gT_44 7 (f' := (13, [some (.ref 32), some (.int x1)], [.int (gI μ 29 4), .ref 32], (gsI μ 32 6 x1))) (cs := []) rfl trivial ?_
  refine gWp_if gT_44 (pc := 13) rfl ⟨fun c => ?_, fun c => ?_⟩
  · replace h := h.1 (of_decide_eq_true c)
    refine gWp_sts gT_44 1 (f' := (21, [some (.ref 32), some (.int x1)], [.ref 32, .ref 32], (gsI μ 32 6 x1))) (cs := []) rfl trivial ?_
    refine gWp_virt gT_44 (pc := 21) (q := 32) (as := [.ref 32]) (rest := [.ref 32]) rfl rfl rfl rfl rfl rfl ⟨by decide, Nat.le_of_ble_eq_true rfl, by decide, Nat.le_of_ble_eq_true rfl⟩ (gWp_imp h (fun μ1 r h => ?_))
    obtain ⟨v2, rfl, h⟩ := h
    refine Or.inl ⟨_, rfl, ?_⟩
    show gWp none 44 (24, [some (.ref 32), some (.int x1)], [.int v2, .ref 32], μ1) _ P
    refine gWp_sts gT_44 1 (f' := (27, [some (.ref 32), some (.int x1)], [], (gsI μ1 32 7 v2))) (cs := []) rfl trivial ?_
    exact gWp_end gT_44 rfl rfl h
  · replace h := h.2 (fun q => c (decide_eq_true q))
    refine gWp_sts gT_44 3 (f' := (27, [some (.ref 32), some (.int x1)], [], (gsI (gsI μ 32 6 x1) 32 7 (-1 : Int32)))) (cs := []) rfl trivial ?_
    exact gWp_end gT_44 rfl rfl h
/-! Glyphmill$Parts.isBreakAhead -/
theorem gT_45 : gCode[45]? = some gC_45 := rfl
set_option maxRecDepth 20000 in
theorem vc_45 {μ : gMu} {x1 : Int32} {P : gMu → gRes → Prop} (h : ((x1 ≤ 0) → (P μ (.inl (some (.int (0 : Int32)))))) ∧ ((¬ x1 ≤ 0) → (gCl' 10 [.ref 21, .int x1] μ (fun μ1 r => (∃ v2, r = .inl (some (.int v2)) ∧ (((¬ v2 = 0) → (P μ1 (.inl (some (.int (0 : Int32)))))) ∧ ((v2 = 0) → (gCl' 10 [.ref 21, .int (x1 - (1 : Int32))] μ1 (fun μ3 r => (∃ v4, r = .inl (some (.int v4)) ∧ (((¬ v4 = 0) → (P μ3 (.inl (some (.int (1 : Int32)))))) ∧ ((v4 = 0) → (gCl' 32 [.ref 21, .int (x1 - (1 : Int32))] μ3 (fun μ5 r => (∃ v6, r = .inl (some (.int v6)) ∧ (((v6 = 0) → (P μ5 (.inl (some (.int (0 : Int32)))))) ∧ ((¬ v6 = 0) → (P μ5 (.inl (some (.int (1 : Int32)))))))))))))))))))))) : gWp none 45 (0, [some (.ref 29), some (.int x1)], [], μ) 0 P := by
  refine gWp_sts gT_45 1 (f' := (1, [some (.ref 29), some (.int x1)], [.int x1], μ)) (cs := []) rfl trivial ?_
  refine gWp_if gT_45 (pc := 1) rfl ⟨fun c => ?_, fun c => ?_⟩
  · replace h := h.1 (of_decide_eq_true c)
    refine gWp_sts gT_45 1 (f' := (46, [some (.ref 29), some (.int x1)], [.int (0 : Int32)], μ)) (cs := []) rfl trivial ?_
    exact gWp_end gT_45 rfl (gEnd_int (show narrow .boolean (.int (0 : Int32)) = .int (0 : Int32) by decide)) h
  · replace h := h.2 (fun q => c (decide_eq_true q))
    refine gWp_sts gT_45 3 (f' := (9, [some (.ref 29), some (.int x1)], [.int x1, .ref 21], μ)) (cs := []) rfl trivial ?_
    refine gWp_virt gT_45 (pc := 9) (q := 21) (as := [.ref 21, .int x1]) (rest := []) rfl rfl rfl rfl rfl rfl ⟨by decide, Nat.le_of_ble_eq_true rfl, by decide, Nat.le_of_ble_eq_true rfl⟩ (gWp_imp h (fun μ1 r h => ?_))
    obtain ⟨v2, rfl, h⟩ := h
    refine Or.inl ⟨_, rfl, ?_⟩
    show gWp none 45 (12, [some (.ref 29), some (.int x1)], [.int v2], μ1) _ P
    refine gWp_if gT_45 (pc := 12) rfl ⟨fun c => ?_, fun c => ?_⟩
    · replace h := h.1 (of_decide_eq_true c)
      refine gWp_sts gT_45 1 (f' := (46, [some (.ref 29), some (.int x1)], [.int (0 : Int32)], μ1)) (cs := []) rfl trivial ?_
      exact gWp_end gT_45 rfl (gEnd_int (show narrow .boolean (.int (0 : Int32)) = .int (0 : Int32) by decide)) h
    · replace h := h.2 (Classical.not_not.mp (fun q => c (decide_eq_true q)))
      refine gWp_sts gT_45 5 (f' := (22, [some (.ref 29), some (.int x1)], [.int (x1 - (1 : Int32)), .ref 21], μ1)) (cs := []) rfl trivial ?_
      refine gWp_virt gT_45 (pc := 22) (q := 21) (as := [.ref 21, .int (x1 - (1 : Int32))]) (rest := []) rfl rfl rfl rfl rfl rfl ⟨by decide, Nat.le_of_ble_eq_true rfl, by decide, Nat.le_of_ble_eq_true rfl⟩ (gWp_imp h (fun μ3 r h => ?_))
      obtain ⟨v4, rfl, h⟩ := h
      refine Or.inl ⟨_, rfl, ?_⟩
      show gWp none 45 (25, [some (.ref 29), some (.int x1)], [.int v4], μ3) _ P
      refine gWp_if gT_45 (pc := 25) rfl ⟨fun c => ?_, fun c => ?_⟩
      · replace h := h.1 (of_decide_eq_true c)
        refine gWp_sts gT_45 2 (f' := (46, [some (.ref 29), some (.int x1)], [.int (1 : Int32)], μ3)) (cs := []) rfl trivial ?_
        exact gWp_end gT_45 rfl (gEnd_int (show narrow .boolean (.int (1 : Int32)) = .int (1 : Int32) by decide)) h
      · replace h := h.2 (Classical.not_not.mp (fun q => c (decide_eq_true q)))
        refine gWp_sts gT_45 5 (f' := (35, [some (.ref 29), some (.int x1)], [.int (x1 - (1 : Int32)), .ref 21], μ3)) (cs := []) rfl trivial ?_
        refine gWp_virt gT_45 (pc := 35) (q := 21) (as := [.ref 21, .int (x1 - (1 : Int32))]) (rest := []) rfl rfl rfl rfl rfl rfl ⟨by decide, Nat.le_of_ble_eq_true rfl, by decide, Nat.le_of_ble_eq_true rfl⟩ (gWp_imp h (fun μ5 r h => ?_))
        obtain ⟨v6, rfl, h⟩ := h
        refine Or.inl ⟨_, rfl, ?_⟩
        show gWp none 45 (38, [some (.ref 29), some (.int x1)], [.int v6], μ5) _ P
        refine gWp_if gT_45 (pc := 38) rfl ⟨fun c => ?_, fun c => ?_⟩
        · replace h := h.1 (of_decide_eq_true c)
          refine gWp_sts gT_45 1 (f' := (46, [some (.ref 29), some (.int x1)], [.int (0 : Int32)], μ5)) (cs := []) rfl trivial ?_
          exact gWp_end gT_45 rfl (gEnd_int (show narrow .boolean (.int (0 : Int32)) = .int (0 : Int32) by decide)) h
        · replace h := h.2 (fun q => c (decide_eq_true q))
          refine gWp_sts gT_45 2 (f' := (46, [some (.ref 29), some (.int x1)], [.int (1 : Int32)], μ5)) (cs := []) rfl trivial ?_
          exact gWp_end gT_45 rfl (gEnd_int (show narrow .boolean (.int (1 : Int32)) = .int (1 : Int32) by decide)) h
/-! Glyphmill$Parts.cut -/
theorem gT_46 : gCode[46]? = some gC_46 := rfl
set_option maxRecDepth 20000 in
theorem vc_46_12 {μ : gMu} {x1 : Int32} {P : gMu → gRes → Prop} (h : (((gI μ 21 10) ≤ x1) → ((vp_in (gI μ 29 3) 51) ∧ (P (gsI μ 30 ((gI μ 29 3).toNatClampNeg) (gI μ 21 10)) (.inl none)))) ∧ ((¬ (gI μ 21 10) ≤ x1) → (((x1 = 0) → ((vp_in (gI μ 29 3) 51) ∧ ((vp_in (gI μ 29 3) 50) ∧ (gCl' 10 [.ref 21, .int x1] (gsI (gsI (gsI μ 30 ((gI μ 29 3).toNatClampNeg) x1) 31 ((gI μ 29 3).toNatClampNeg) x1) 29 3 ((gI μ 29 3) + (1 : Int32))) (fun μ1 r => (∃ v2, r = .inl (some (.int v2)) ∧ (((¬ v2 = 0) → (gWp none 46 (12, [some (.ref 29), some (.int (x1 + (1 : Int32)))], [], μ1) 0 P)) ∧ ((v2 = 0) → ((vp_in ((gI μ1 29 3) - (1 : Int32)) 50) ∧ (gWp none 46 (12, [some (.ref 29), some (.int (x1 + (1 : Int32)))], [], (gsI (gsI μ1 31 (((gI μ1 29 3) - (1 : Int32)).toNatClampNeg) (x1 + (1 : Int32))) 29 4 (0 : Int32))) 0 P)))))))))) ∧ ((¬ x1 = 0) → (gCl' 45 [.ref 29, .int x1] μ (fun μ3 r => (∃ v4, r = .inl (some (.int v4)) ∧ (((v4 = 0) → (gCl' 10 [.ref 21, .int x1] μ3 (fun μ5 r => (∃ v6, r = .inl (some (.int v6)) ∧ (((¬ v6 = 0) → (gWp none 46 (12, [some (.ref 29), some (.int (x1 + (1 : Int32)))], [], μ5) 0 P)) ∧ ((v6 = 0) → ((vp_in ((gI μ5 29 3) - (1 : Int32)) 50) ∧ (gWp none 46 (12, [some (.ref 29), some (.int (x1 + (1 : Int32)))], [], (gsI (gsI μ5 31 (((gI μ5 29 3) - (1 : Int32)).toNatClampNeg) (x1 + (1 : Int32))) 29 4 (0 : Int32))) 0 P)))))))) ∧ ((¬ v4 = 0) → ((vp_in (gI μ3 29 3) 51) ∧ ((vp_in (gI μ3 29 3) 50) ∧ (gCl' 10 [.ref 21, .int x1] (gsI (gsI (gsI μ3 30 ((gI μ3 29 3).toNatClampNeg) x1) 31 ((gI μ3 29 3).toNatClampNeg) x1) 29 3 ((gI μ3 29 3) + (1 : Int32))) (fun μ7 r => (∃ v8, r = .inl (some (.int v8)) ∧ (((¬ v8 = 0) → (gWp none 46 (12, [some (.ref 29), some (.int (x1 + (1 : Int32)))], [], μ7) 0 P)) ∧ ((v8 = 0) → ((vp_in ((gI μ7 29 3) - (1 : Int32)) 50) ∧ (gWp none 46 (12, [some (.ref 29), some (.int (x1 + (1 : Int32)))], [], (gsI (gsI μ7 31 (((gI μ7 29 3) - (1 : Int32)).toNatClampNeg) (x1 + (1 : Int32))) 29 4 (0 : Int32))) 0 P)))))))))))))))))) : gWp none 46 (12, [some (.ref 29), some (.int x1)], [], μ) 0 P := by
  refine gWp_sts gT_46 4 (f' := (20, [some (.ref 29), some (.int x1)], [.int (gI μ 21 10), .int x1], μ)) (cs := []) rfl trivial ?_
  refine gWp_icmp gT_46 (pc := 20) rfl ⟨fun c => ?_, fun c => ?_⟩
  · replace h := h.1 (of_decide_eq_true c)
    obtain ⟨c1, h⟩ := h
    refine gWp_sts gT_46 8 (f' := (117, [some (.ref 29), some (.int x1)], [], (gsI μ 30 ((gI μ 29 3).toNatClampNeg) (gI μ 21 10)))) (cs := [vp_in (gI μ 29 3) 51]) rfl c1 ?_
    exact gWp_end gT_46 rfl rfl h
  · replace h := h.2 (fun q => c (decide_eq_true q))
    refine gWp_sts gT_46 1 (f' := (24, [some (.ref 29), some (.int x1)], [.int x1], μ)) (cs := []) rfl trivial ?_
    refine gWp_if gT_46 (pc := 24) rfl ⟨fun c => ?_, fun c => ?_⟩
    · replace h := h.1 (of_decide_eq_true c)
      obtain ⟨c1, c2, h⟩ := h
      refine gWp_sts gT_46 21 (f' := (70, [some (.ref 29), some (.int x1)], [.int x1, .ref 21], (gsI (gsI (gsI μ 30 ((gI μ 29 3).toNatClampNeg) x1) 31 ((gI μ 29 3).toNatClampNeg) x1) 29 3 ((gI μ 29 3) + (1 : Int32))))) (cs := [vp_in (gI μ 29 3) 51, vp_in (gI μ 29 3) 50, (Value.ref 29 : Value).category = 1]) rfl ⟨c1, c2, rfl⟩ ?_
      refine gWp_virt gT_46 (pc := 70) (q := 21) (as := [.ref 21, .int x1]) (rest := []) rfl rfl rfl rfl rfl rfl ⟨by decide, Nat.le_of_ble_eq_true rfl, by decide, Nat.le_of_ble_eq_true rfl⟩ (gWp_imp h (fun μ1 r h => ?_))
      obtain ⟨v2, rfl, h⟩ := h
      refine Or.inl ⟨_, rfl, ?_⟩
      show gWp none 46 (73, [some (.ref 29), some (.int x1)], [.int v2], μ1) _ P
      refine gWp_if gT_46 (pc := 73) rfl ⟨fun c => ?_, fun c => ?_⟩
      · replace h := h.1 (of_decide_eq_true c)
        refine gWp_sts gT_46 2 (f' := (12, [some (.ref 29), some (.int (x1 + (1 : Int32)))], [], μ1)) (cs := []) rfl trivial ?_
        exact h
      · replace h := h.2 (Classical.not_not.mp (fun q => c (decide_eq_true q)))
        obtain ⟨c1, h⟩ := h
        refine gWp_sts gT_46 15 (f' := (12, [some (.ref 29), some (.int (x1 + (1 : Int32)))], [], (gsI (gsI μ1 31 (((gI μ1 29 3) - (1 : Int32)).toNatClampNeg) (x1 + (1 : Int32))) 29 4 (0 : Int32)))) (cs := [vp_in ((gI μ1 29 3) - (1 : Int32)) 50, (0 : Int32) = 0 ∨ (0 : Int32) = 1]) rfl ⟨c1, (Or.inl rfl)⟩ ?_
        exact h
    · replace h := h.2 (fun q => c (decide_eq_true q))
      refine gWp_sts gT_46 2 (f' := (29, [some (.ref 29), some (.int x1)], [.int x1, .ref 29], μ)) (cs := []) rfl trivial ?_
      refine gWp_virt gT_46 (pc := 29) (q := 29) (as := [.ref 29, .int x1]) (rest := []) rfl rfl rfl rfl rfl rfl ⟨by decide, Nat.le_of_ble_eq_true rfl, by decide, Nat.le_of_ble_eq_true rfl⟩ (gWp_imp h (fun μ3 r h => ?_))
      obtain ⟨v4, rfl, h⟩ := h
      refine Or.inl ⟨_, rfl, ?_⟩
      show gWp none 46 (32, [some (.ref 29), some (.int x1)], [.int v4], μ3) _ P
      refine gWp_if gT_46 (pc := 32) rfl ⟨fun c => ?_, fun c => ?_⟩
      · replace h := h.1 (of_decide_eq_true c)
        refine gWp_sts gT_46 3 (f' := (70, [some (.ref 29), some (.int x1)], [.int x1, .ref 21], μ3)) (cs := []) rfl trivial ?_
        refine gWp_virt gT_46 (pc := 70) (q := 21) (as := [.ref 21, .int x1]) (rest := []) rfl rfl rfl rfl rfl rfl ⟨by decide, Nat.le_of_ble_eq_true rfl, by decide, Nat.le_of_ble_eq_true rfl⟩ (gWp_imp h (fun μ5 r h => ?_))
        obtain ⟨v6, rfl, h⟩ := h
        refine Or.inl ⟨_, rfl, ?_⟩
        show gWp none 46 (73, [some (.ref 29), some (.int x1)], [.int v6], μ5) _ P
        refine gWp_if gT_46 (pc := 73) rfl ⟨fun c => ?_, fun c => ?_⟩
        · replace h := h.1 (of_decide_eq_true c)
          refine gWp_sts gT_46 2 (f' := (12, [some (.ref 29), some (.int (x1 + (1 : Int32)))], [], μ5)) (cs := []) rfl trivial ?_
          exact h
        · replace h := h.2 (Classical.not_not.mp (fun q => c (decide_eq_true q)))
          obtain ⟨c1, h⟩ := h
          refine gWp_sts gT_46 15 (f' := (12, [some (.ref 29), some (.int (x1 + (1 : Int32)))], [], (gsI (gsI μ5 31 (((gI μ5 29 3) - (1 : Int32)).toNatClampNeg) (x1 + (1 : Int32))) 29 4 (0 : Int32)))) (cs := [vp_in ((gI μ5 29 3) - (1 : Int32)) 50, (0 : Int32) = 0 ∨ (0 : Int32) = 1]) rfl ⟨c1, (Or.inl rfl)⟩ ?_
          exact h
      · replace h := h.2 (fun q => c (decide_eq_true q))
        obtain ⟨c1, c2, h⟩ := h
        refine gWp_sts gT_46 21 (f' := (70, [some (.ref 29), some (.int x1)], [.int x1, .ref 21], (gsI (gsI (gsI μ3 30 ((gI μ3 29 3).toNatClampNeg) x1) 31 ((gI μ3 29 3).toNatClampNeg) x1) 29 3 ((gI μ3 29 3) + (1 : Int32))))) (cs := [vp_in (gI μ3 29 3) 51, vp_in (gI μ3 29 3) 50, (Value.ref 29 : Value).category = 1]) rfl ⟨c1, c2, rfl⟩ ?_
        refine gWp_virt gT_46 (pc := 70) (q := 21) (as := [.ref 21, .int x1]) (rest := []) rfl rfl rfl rfl rfl rfl ⟨by decide, Nat.le_of_ble_eq_true rfl, by decide, Nat.le_of_ble_eq_true rfl⟩ (gWp_imp h (fun μ7 r h => ?_))
        obtain ⟨v8, rfl, h⟩ := h
        refine Or.inl ⟨_, rfl, ?_⟩
        show gWp none 46 (73, [some (.ref 29), some (.int x1)], [.int v8], μ7) _ P
        refine gWp_if gT_46 (pc := 73) rfl ⟨fun c => ?_, fun c => ?_⟩
        · replace h := h.1 (of_decide_eq_true c)
          refine gWp_sts gT_46 2 (f' := (12, [some (.ref 29), some (.int (x1 + (1 : Int32)))], [], μ7)) (cs := []) rfl trivial ?_
          exact h
        · replace h := h.2 (Classical.not_not.mp (fun q => c (decide_eq_true q)))
          obtain ⟨c1, h⟩ := h
          refine gWp_sts gT_46 15 (f' := (12, [some (.ref 29), some (.int (x1 + (1 : Int32)))], [], (gsI (gsI μ7 31 (((gI μ7 29 3) - (1 : Int32)).toNatClampNeg) (x1 + (1 : Int32))) 29 4 (0 : Int32)))) (cs := [vp_in ((gI μ7 29 3) - (1 : Int32)) 50, (0 : Int32) = 0 ∨ (0 : Int32) = 1]) rfl ⟨c1, (Or.inl rfl)⟩ ?_
          exact h
set_option maxRecDepth 20000 in
theorem vc_46 {μ : gMu} {P : gMu → gRes → Prop} (h : gWp none 46 (12, [some (.ref 29), some (.int (0 : Int32))], [], (gsI (gsI μ 29 3 (0 : Int32)) 29 4 (1 : Int32))) 0 P) : gWp none 46 (0, [some (.ref 29), none], [], μ) 0 P := by
  refine gWp_sts gT_46 8 (f' := (12, [some (.ref 29), some (.int (0 : Int32))], [], (gsI (gsI μ 29 3 (0 : Int32)) 29 4 (1 : Int32)))) (cs := [(1 : Int32) = 0 ∨ (1 : Int32) = 1]) rfl (Or.inr rfl) ?_
  exact h
/-! Glyphmill$Rows.endOf -/
theorem gT_47 : gCode[47]? = some gC_47 := rfl
set_option maxRecDepth 20000 in
theorem vc_47 {μ : gMu} {x1 : Int32} {P : gMu → gRes → Prop} (h : (vp_in (x1 + (1 : Int32)) 51) ∧ ((((gI μ 37 ((x1 + (1 : Int32)).toNatClampNeg)) ≤ 0) → (P μ (.inl (some (.int (0 : Int32)))))) ∧ ((¬ (gI μ 37 ((x1 + (1 : Int32)).toNatClampNeg)) ≤ 0) → ((vp_in ((gI μ 37 ((x1 + (1 : Int32)).toNatClampNeg)) - (1 : Int32)) 50) ∧ (P μ (.inl (some (.int (gI μ 31 (((gI μ 37 ((x1 + (1 : Int32)).toNatClampNeg)) - (1 : Int32)).toNatClampNeg)))))))))) : gWp none 47 (0, [some (.ref 38), some (.int x1), none], [], μ) 0 P := by
  obtain ⟨c1, h⟩ := h
  refine gWp_sts gT_47 9 (f' := (13, [some (.ref 38), some (.int x1), some (.int (gI μ 37 ((x1 + (1 : Int32)).toNatClampNeg)))], [.int (gI μ 37 ((x1 + (1 : Int32)).toNatClampNeg))], μ)) (cs := [vp_in (x1 + (1 : Int32)) 51]) rfl c1 ?_
  refine gWp_if gT_47 (pc := 13) rfl ⟨fun c => ?_, fun c => ?_⟩
  · replace h := h.1 (of_decide_eq_true c)
    refine gWp_sts gT_47 1 (f' := (31, [some (.ref 38), some (.int x1), some (.int (gI μ 37 ((x1 + (1 : Int32)).toNatClampNeg)))], [.int (0 : Int32)], μ)) (cs := []) rfl trivial ?_
    exact gWp_end gT_47 rfl (gEnd_int trivial) h
  · replace h := h.2 (fun q => c (decide_eq_true q))
    obtain ⟨c1, h⟩ := h
    refine gWp_sts gT_47 8 (f' := (31, [some (.ref 38), some (.int x1), some (.int (gI μ 37 ((x1 + (1 : Int32)).toNatClampNeg)))], [.int (gI μ 31 (((gI μ 37 ((x1 + (1 : Int32)).toNatClampNeg)) - (1 : Int32)).toNatClampNeg))], μ)) (cs := [vp_in ((gI μ 37 ((x1 + (1 : Int32)).toNatClampNeg)) - (1 : Int32)) 50]) rfl c1 ?_
    exact gWp_end gT_47 rfl (gEnd_int trivial) h
/-! Glyphmill$Rows.reverse -/
theorem gT_48 : gCode[48]? = some gC_48 := rfl
set_option maxRecDepth 20000 in
theorem vc_48_5 {μ : gMu} {x1 : Int32} {x2 : Int32} {x3 : Int32} {x4 : Int32} {P : gMu → gRes → Prop} (h : ((x4 ≤ x3) → (P μ (.inl none))) ∧ ((¬ x4 ≤ x3) → ((vp_in x3 50) ∧ ((vp_in x4 50) ∧ ((vp_in x3 50) ∧ ((vp_in x4 50) ∧ (gWp none 48 (5, [some (.ref 38), some (.int x1), some (.int x2), some (.int (x3 + (1 : Int32))), some (.int (x4 + (-1 : Int32))), some (.int (gI μ 40 x3.toNatClampNeg))], [], (gsI (gsI μ 40 x3.toNatClampNeg (gI μ 40 x4.toNatClampNeg)) 40 x4.toNatClampNeg (gI μ 40 x3.toNatClampNeg))) 0 P))))))) : gWp none 48 (5, [some (.ref 38), some (.int x1), some (.int x2), some (.int x3), some (.int x4), none], [], μ) 0 P := by
  refine gWp_sts gT_48 2 (f' := (8, [some (.ref 38), some (.int x1), some (.int x2), some (.int x3), some (.int x4), none], [.int x4, .int x3], μ)) (cs := []) rfl trivial ?_
  refine gWp_icmp gT_48 (pc := 8) rfl ⟨fun c => ?_, fun c => ?_⟩
  · replace h := h.1 (of_decide_eq_true c)
    exact gWp_end gT_48 rfl rfl h
  · replace h := h.2 (fun q => c (decide_eq_true q))
    obtain ⟨c1, c2, c3, c4, h⟩ := h
    refine gWp_sts gT_48 21 (f' := (5, [some (.ref 38), some (.int x1), some (.int x2), some (.int (x3 + (1 : Int32))), some (.int (x4 + (-1 : Int32))), some (.int (gI μ 40 x3.toNatClampNeg))], [], (gsI (gsI μ 40 x3.toNatClampNeg (gI μ 40 x4.toNatClampNeg)) 40 x4.toNatClampNeg (gI μ 40 x3.toNatClampNeg)))) (cs := [vp_in x3 50, vp_in x4 50, vp_in x3 50, vp_in x4 50]) rfl ⟨c1, c2, c3, c4⟩ ?_
    exact h
set_option maxRecDepth 20000 in
theorem vc_48 {μ : gMu} {x1 : Int32} {x2 : Int32} {P : gMu → gRes → Prop} (h : gWp none 48 (5, [some (.ref 38), some (.int x1), some (.int x2), some (.int x1), some (.int x2), none], [], μ) 0 P) : gWp none 48 (0, [some (.ref 38), some (.int x1), some (.int x2), none, none, none], [], μ) 0 P := by
  refine gWp_sts gT_48 4 (f' := (5, [some (.ref 38), some (.int x1), some (.int x2), some (.int x1), some (.int x2), none], [], μ)) (cs := []) rfl trivial ?_
  exact h
/-! Glyphmill$Rows.reverseFrom -/
theorem gT_49 : gCode[49]? = some gC_49 := rfl
set_option maxRecDepth 20000 in
theorem vc_49_6 {μ : gMu} {x1 : Int32} {x2 : Int32} {x3 : Int32} {x4 : Int32} {x5 : Int32} {P : gMu → gRes → Prop} (h : ((x3 < x5) → (P μ (.inl none))) ∧ ((¬ x3 < x5) → (((x5 = x3) → (gCl' 48 [.ref 38, .int x4, .int (x5 - (1 : Int32))] μ (fun μ1 r => (r = .inl none ∧ (gWp none 49 (6, [some (.ref 38), some (.int x1), some (.int x2), some (.int x3), some (.int (x5 + (1 : Int32))), some (.int (x5 + (1 : Int32)))], [], μ1) 0 P))))) ∧ ((¬ x5 = x3) → ((vp_in x5 50) ∧ ((vp_in (gI μ 40 x5.toNatClampNeg) 50) ∧ (((x1 ≤ (gI μ 25 ((gI μ 40 x5.toNatClampNeg).toNatClampNeg))) → (gWp none 49 (6, [some (.ref 38), some (.int x1), some (.int x2), some (.int x3), some (.int x4), some (.int (x5 + (1 : Int32)))], [], μ) 0 P)) ∧ ((¬ x1 ≤ (gI μ 25 ((gI μ 40 x5.toNatClampNeg).toNatClampNeg))) → (gCl' 48 [.ref 38, .int x4, .int (x5 - (1 : Int32))] μ (fun μ2 r => (r = .inl none ∧ (gWp none 49 (6, [some (.ref 38), some (.int x1), some (.int x2), some (.int x3), some (.int (x5 + (1 : Int32))), some (.int (x5 + (1 : Int32)))], [], μ2) 0 P)))))))))))) : gWp none 49 (6, [some (.ref 38), some (.int x1), some (.int x2), some (.int x3), some (.int x4), some (.int x5)], [], μ) 0 P := by
  refine gWp_sts gT_49 2 (f' := (9, [some (.ref 38), some (.int x1), some (.int x2), some (.int x3), some (.int x4), some (.int x5)], [.int x3, .int x5], μ)) (cs := []) rfl trivial ?_
  refine gWp_icmp gT_49 (pc := 9) rfl ⟨fun c => ?_, fun c => ?_⟩
  · replace h := h.1 (of_decide_eq_true c)
    exact gWp_end gT_49 rfl rfl h
  · replace h := h.2 (fun q => c (decide_eq_true q))
    refine gWp_sts gT_49 2 (f' := (15, [some (.ref 38), some (.int x1), some (.int x2), some (.int x3), some (.int x4), some (.int x5)], [.int x3, .int x5], μ)) (cs := []) rfl trivial ?_
    refine gWp_icmp gT_49 (pc := 15) rfl ⟨fun c => ?_, fun c => ?_⟩
    · replace h := h.1 (of_decide_eq_true c)
      refine gWp_sts gT_49 5 (f' := (44, [some (.ref 38), some (.int x1), some (.int x2), some (.int x3), some (.int x4), some (.int x5)], [.int (x5 - (1 : Int32)), .int x4, .ref 38], μ)) (cs := []) rfl trivial ?_
      refine gWp_virt gT_49 (pc := 44) (q := 38) (as := [.ref 38, .int x4, .int (x5 - (1 : Int32))]) (rest := []) rfl rfl rfl rfl rfl rfl ⟨by decide, Nat.le_of_ble_eq_true rfl, by decide, Nat.le_of_ble_eq_true rfl⟩ (gWp_imp h (fun μ1 r h => ?_))
      obtain ⟨rfl, h⟩ := h
      refine Or.inl ⟨_, rfl, ?_⟩
      show gWp none 49 (47, [some (.ref 38), some (.int x1), some (.int x2), some (.int x3), some (.int x4), some (.int x5)], [], μ1) _ P
      refine gWp_sts gT_49 6 (f' := (6, [some (.ref 38), some (.int x1), some (.int x2), some (.int x3), some (.int (x5 + (1 : Int32))), some (.int (x5 + (1 : Int32)))], [], μ1)) (cs := []) rfl trivial ?_
      exact h
    · replace h := h.2 (fun q => c (decide_eq_true q))
      obtain ⟨c1, c2, h⟩ := h
      refine gWp_sts gT_49 9 (f' := (34, [some (.ref 38), some (.int x1), some (.int x2), some (.int x3), some (.int x4), some (.int x5)], [.int x1, .int (gI μ 25 ((gI μ 40 x5.toNatClampNeg).toNatClampNeg))], μ)) (cs := [vp_in x5 50, vp_in (gI μ 40 x5.toNatClampNeg) 50]) rfl ⟨c1, c2⟩ ?_
      refine gWp_icmp gT_49 (pc := 34) rfl ⟨fun c => ?_, fun c => ?_⟩
      · replace h := h.1 (of_decide_eq_true c)
        refine gWp_sts gT_49 2 (f' := (6, [some (.ref 38), some (.int x1), some (.int x2), some (.int x3), some (.int x4), some (.int (x5 + (1 : Int32)))], [], μ)) (cs := []) rfl trivial ?_
        exact h
      · replace h := h.2 (fun q => c (decide_eq_true q))
        refine gWp_sts gT_49 5 (f' := (44, [some (.ref 38), some (.int x1), some (.int x2), some (.int x3), some (.int x4), some (.int x5)], [.int (x5 - (1 : Int32)), .int x4, .ref 38], μ)) (cs := []) rfl trivial ?_
        refine gWp_virt gT_49 (pc := 44) (q := 38) (as := [.ref 38, .int x4, .int (x5 - (1 : Int32))]) (rest := []) rfl rfl rfl rfl rfl rfl ⟨by decide, Nat.le_of_ble_eq_true rfl, by decide, Nat.le_of_ble_eq_true rfl⟩ (gWp_imp h (fun μ2 r h => ?_))
        obtain ⟨rfl, h⟩ := h
        refine Or.inl ⟨_, rfl, ?_⟩
        show gWp none 49 (47, [some (.ref 38), some (.int x1), some (.int x2), some (.int x3), some (.int x4), some (.int x5)], [], μ2) _ P
        refine gWp_sts gT_49 6 (f' := (6, [some (.ref 38), some (.int x1), some (.int x2), some (.int x3), some (.int (x5 + (1 : Int32))), some (.int (x5 + (1 : Int32)))], [], μ2)) (cs := []) rfl trivial ?_
        exact h
set_option maxRecDepth 20000 in
theorem vc_49 {μ : gMu} {x1 : Int32} {x2 : Int32} {x3 : Int32} {P : gMu → gRes → Prop} (h : gWp none 49 (6, [some (.ref 38), some (.int x1), some (.int x2), some (.int x3), some (.int x2), some (.int x2)], [], μ) 0 P) : gWp none 49 (0, [some (.ref 38), some (.int x1), some (.int x2), some (.int x3), none, none], [], μ) 0 P := by
  refine gWp_sts gT_49 4 (f' := (6, [some (.ref 38), some (.int x1), some (.int x2), some (.int x3), some (.int x2), some (.int x2)], [], μ)) (cs := []) rfl trivial ?_
  exact h
/-! Glyphmill$Rows.orderLine -/
theorem gT_50 : gCode[50]? = some gC_50 := rfl
set_option maxRecDepth 20000 in
theorem vc_50_66 {μ : gMu} {x1 : Int32} {x2 : Int32} {x3 : Int32} {x4 : Int32} {P : gMu → gRes → Prop} (h : ((x2 ≤ x4) → (P μ (.inl none))) ∧ ((¬ x2 ≤ x4) → ((vp_in x4 50) ∧ ((vp_in (gI μ 40 x4.toNatClampNeg) 50) ∧ (gWp none 50 (66, [some (.ref 38), some (.int x1), some (.int x2), some (.int x3), some (.int (x4 + (1 : Int32)))], [], (gsI μ 41 ((gI μ 40 x4.toNatClampNeg).toNatClampNeg) (x4 - x1))) 0 P))))) : gWp none 50 (66, [some (.ref 38), some (.int x1), some (.int x2), some (.int x3), some (.int x4)], [], μ) 0 P := by
  refine gWp_sts gT_50 2 (f' := (69, [some (.ref 38), some (.int x1), some (.int x2), some (.int x3), some (.int x4)], [.int x2, .int x4], μ)) (cs := []) rfl trivial ?_
  refine gWp_icmp gT_50 (pc := 69) rfl ⟨fun c => ?_, fun c => ?_⟩
  · replace h := h.1 (of_decide_eq_true c)
    exact gWp_end gT_50 rfl rfl h
  · replace h := h.2 (fun q => c (decide_eq_true q))
    obtain ⟨c1, c2, h⟩ := h
    refine gWp_sts gT_50 12 (f' := (66, [some (.ref 38), some (.int x1), some (.int x2), some (.int x3), some (.int (x4 + (1 : Int32)))], [], (gsI μ 41 ((gI μ 40 x4.toNatClampNeg).toNatClampNeg) (x4 - x1)))) (cs := [vp_in x4 50, vp_in (gI μ 40 x4.toNatClampNeg) 50]) rfl ⟨c1, c2⟩ ?_
    exact h
set_option maxRecDepth 20000 in
theorem vc_50_44 {μ : gMu} {x1 : Int32} {x2 : Int32} {x3 : Int32} {x4 : Int32} {P : gMu → gRes → Prop} (h : ((x4 ≤ 0) → (gWp none 50 (66, [some (.ref 38), some (.int x1), some (.int x2), some (.int x3), some (.int x1)], [], μ) 0 P)) ∧ ((¬ x4 ≤ 0) → (gCl' 49 [.ref 38, .int x4, .int x1, .int x2] μ (fun μ1 r => (r = .inl none ∧ (gWp none 50 (44, [some (.ref 38), some (.int x1), some (.int x2), some (.int x3), some (.int (x4 + (-1 : Int32)))], [], μ1) 0 P)))))) : gWp none 50 (44, [some (.ref 38), some (.int x1), some (.int x2), some (.int x3), some (.int x4)], [], μ) 0 P := by
  refine gWp_sts gT_50 1 (f' := (46, [some (.ref 38), some (.int x1), some (.int x2), some (.int x3), some (.int x4)], [.int x4], μ)) (cs := []) rfl trivial ?_
  refine gWp_if gT_50 (pc := 46) rfl ⟨fun c => ?_, fun c => ?_⟩
  · replace h := h.1 (of_decide_eq_true c)
    refine gWp_sts gT_50 2 (f' := (66, [some (.ref 38), some (.int x1), some (.int x2), some (.int x3), some (.int x1)], [], μ)) (cs := []) rfl trivial ?_
    exact h
  · replace h := h.2 (fun q => c (decide_eq_true q))
    refine gWp_sts gT_50 4 (f' := (54, [some (.ref 38), some (.int x1), some (.int x2), some (.int x3), some (.int x4)], [.int x2, .int x1, .int x4, .ref 38], μ)) (cs := []) rfl trivial ?_
    refine gWp_virt gT_50 (pc := 54) (q := 38) (as := [.ref 38, .int x4, .int x1, .int x2]) (rest := []) rfl rfl rfl rfl rfl rfl ⟨by decide, Nat.le_of_ble_eq_true rfl, by decide, Nat.le_of_ble_eq_true rfl⟩ (gWp_imp h (fun μ1 r h => ?_))
    obtain ⟨rfl, h⟩ := h
    refine Or.inl ⟨_, rfl, ?_⟩
    show gWp none 50 (57, [some (.ref 38), some (.int x1), some (.int x2), some (.int x3), some (.int x4)], [], μ1) _ P
    refine gWp_sts gT_50 2 (f' := (44, [some (.ref 38), some (.int x1), some (.int x2), some (.int x3), some (.int (x4 + (-1 : Int32)))], [], μ1)) (cs := []) rfl trivial ?_
    exact h
set_option maxRecDepth 20000 in
theorem vc_50_5 {μ : gMu} {x1 : Int32} {x2 : Int32} {x3 : Int32} {x4 : Int32} {P : gMu → gRes → Prop} (h : ((x2 ≤ x4) → (gWp none 50 (44, [some (.ref 38), some (.int x1), some (.int x2), some (.int x3), some (.int x3)], [], μ) 0 P)) ∧ ((¬ x2 ≤ x4) → ((vp_in x4 50) ∧ ((vp_in x4 50) ∧ (gWp none 50 (5, [some (.ref 38), some (.int x1), some (.int x2), some (.int (if x3 < (gI μ 25 x4.toNatClampNeg) then gI μ 25 x4.toNatClampNeg else x3)), some (.int (x4 + (1 : Int32)))], [], (gsI μ 40 x4.toNatClampNeg x4)) 0 P))))) : gWp none 50 (5, [some (.ref 38), some (.int x1), some (.int x2), some (.int x3), some (.int x4)], [], μ) 0 P := by
  refine gWp_sts gT_50 2 (f' := (8, [some (.ref 38), some (.int x1), some (.int x2), some (.int x3), some (.int x4)], [.int x2, .int x4], μ)) (cs := []) rfl trivial ?_
  refine gWp_icmp gT_50 (pc := 8) rfl ⟨fun c => ?_, fun c => ?_⟩
  · replace h := h.1 (of_decide_eq_true c)
    refine gWp_sts gT_50 2 (f' := (44, [some (.ref 38), some (.int x1), some (.int x2), some (.int x3), some (.int x3)], [], μ)) (cs := []) rfl trivial ?_
    exact h
  · replace h := h.2 (fun q => c (decide_eq_true q))
    obtain ⟨c1, c2, h⟩ := h
    refine gWp_sts gT_50 15 (f' := (5, [some (.ref 38), some (.int x1), some (.int x2), some (.int (if x3 < (gI μ 25 x4.toNatClampNeg) then gI μ 25 x4.toNatClampNeg else x3)), some (.int (x4 + (1 : Int32)))], [], (gsI μ 40 x4.toNatClampNeg x4))) (cs := [vp_in x4 50, vp_in x4 50, (([] : List Value).map fun v => v.category).sum ≤ 8]) rfl ⟨c1, c2, (Nat.le_of_ble_eq_true rfl)⟩ ?_
    exact h
set_option maxRecDepth 20000 in
theorem vc_50 {μ : gMu} {x1 : Int32} {x2 : Int32} {P : gMu → gRes → Prop} (h : gWp none 50 (5, [some (.ref 38), some (.int x1), some (.int x2), some (.int (0 : Int32)), some (.int x1)], [], μ) 0 P) : gWp none 50 (0, [some (.ref 38), some (.int x1), some (.int x2), none, none], [], μ) 0 P := by
  refine gWp_sts gT_50 4 (f' := (5, [some (.ref 38), some (.int x1), some (.int x2), some (.int (0 : Int32)), some (.int x1)], [], μ)) (cs := []) rfl trivial ?_
  exact h
/-! Glyphmill$Rows.startOf -/
theorem gT_51 : gCode[51]? = some gC_51 := rfl
set_option maxRecDepth 20000 in
theorem vc_51 {μ : gMu} {x1 : Int32} {P : gMu → gRes → Prop} (h : (vp_in x1 51) ∧ ((vp_in (gI μ 37 x1.toNatClampNeg) 51) ∧ (P μ (.inl (some (.int (gI μ 30 ((gI μ 37 x1.toNatClampNeg).toNatClampNeg)))))))) : gWp none 51 (0, [some (.ref 38), some (.int x1)], [], μ) 0 P := by
  obtain ⟨c1, c2, h⟩ := h
  refine gWp_sts gT_51 9 (f' := (17, [some (.ref 38), some (.int x1)], [.int (gI μ 30 ((gI μ 37 x1.toNatClampNeg).toNatClampNeg))], μ)) (cs := [vp_in x1 51, vp_in (gI μ 37 x1.toNatClampNeg) 51]) rfl ⟨c1, c2⟩ ?_
  exact gWp_end gT_51 rfl (gEnd_int trivial) h
/-! Glyphmill$Rows.justify -/
theorem gT_52 : gCode[52]? = some gC_52 := rfl
set_option maxRecDepth 20000 in
theorem vc_52_36 {μ : gMu} {x1 : Int32} {x2 : Int32} {x3 : Int32} {x4 : Int32} {x5 : Int32} {x6 : Int32} {x7 : Int32} {P : gMu → gRes → Prop} (h : gCl' 47 [.ref 38, .int x1] μ (fun μ1 r => (∃ v2, r = .inl (some (.int v2)) ∧ (((v2 ≤ x7) → (P μ1 (.inl none))) ∧ ((¬ v2 ≤ x7) → ((vp_in x7 50) ∧ (gCl' 10 [.ref 21, .int (gI μ1 40 x7.toNatClampNeg)] μ1 (fun μ3 r => (∃ v4, r = .inl (some (.int v4)) ∧ (((v4 = 0) → (gWp none 52 (36, [some (.ref 38), some (.int x1), some (.int x2), some (.int x3), some (.int x4), some (.int x5), some (.int x6), some (.int (x7 + (1 : Int32)))], [], μ3) 0 P)) ∧ ((¬ v4 = 0) → ((vp_in x7 50) ∧ ((vp_in (gI μ3 40 x7.toNatClampNeg) 50) ∧ (((x6 ≤ 0) → ((vp_in (gI μ3 40 x7.toNatClampNeg) 50) ∧ (gWp none 52 (36, [some (.ref 38), some (.int x1), some (.int x2), some (.int x3), some (.int x4), some (.int x5), some (.int (x6 + (-1 : Int32))), some (.int (x7 + (1 : Int32)))], [], (gsI μ3 1 ((gI μ3 40 x7.toNatClampNeg).toNatClampNeg) ((gI μ3 1 ((gI μ3 40 x7.toNatClampNeg).toNatClampNeg)) + x4))) 0 P))) ∧ ((¬ x6 ≤ 0) → ((vp_in (gI μ3 40 x7.toNatClampNeg) 50) ∧ (gWp none 52 (36, [some (.ref 38), some (.int x1), some (.int x2), some (.int x3), some (.int x4), some (.int x5), some (.int (x6 + (-1 : Int32))), some (.int (x7 + (1 : Int32)))], [], (gsI μ3 1 ((gI μ3 40 x7.toNatClampNeg).toNatClampNeg) ((gI μ3 1 ((gI μ3 40 x7.toNatClampNeg).toNatClampNeg)) + (x4 + x5)))) 0 P))))))))))))))))) : gWp none 52 (36, [some (.ref 38), some (.int x1), some (.int x2), some (.int x3), some (.int x4), some (.int x5), some (.int x6), some (.int x7)], [], μ) 0 P := by
  refine gWp_sts gT_52 3 (f' := (40, [some (.ref 38), some (.int x1), some (.int x2), some (.int x3), some (.int x4), some (.int x5), some (.int x6), some (.int x7)], [.int x1, .ref 38, .int x7], μ)) (cs := []) rfl trivial ?_
  refine gWp_virt gT_52 (pc := 40) (q := 38) (as := [.ref 38, .int x1]) (rest := [.int x7]) rfl rfl rfl rfl rfl rfl ⟨by decide, Nat.le_of_ble_eq_true rfl, by decide, Nat.le_of_ble_eq_true rfl⟩ (gWp_imp h (fun μ1 r h => ?_))
  obtain ⟨v2, rfl, h⟩ := h
  refine Or.inl ⟨_, rfl, ?_⟩
  show gWp none 52 (43, [some (.ref 38), some (.int x1), some (.int x2), some (.int x3), some (.int x4), some (.int x5), some (.int x6), some (.int x7)], [.int v2, .int x7], μ1) _ P
  refine gWp_icmp gT_52 (pc := 43) rfl ⟨fun c => ?_, fun c => ?_⟩
  · replace h := h.1 (of_decide_eq_true c)
    exact gWp_end gT_52 rfl rfl h
  · replace h := h.2 (fun q => c (decide_eq_true q))
    obtain ⟨c1, h⟩ := h
    refine gWp_sts gT_52 6 (f' := (57, [some (.ref 38), some (.int x1), some (.int x2), some (.int x3), some (.int x4), some (.int x5), some (.int x6), some (.int x7)], [.int (gI μ1 40 x7.toNatClampNeg), .ref 21], μ1)) (cs := [vp_in x7 50]) rfl c1 ?_
    refine gWp_virt gT_52 (pc := 57) (q := 21) (as := [.ref 21, .int (gI μ1 40 x7.toNatClampNeg)]) (rest := []) rfl rfl rfl rfl rfl rfl ⟨by decide, Nat.le_of_ble_eq_true rfl, by decide, Nat.le_of_ble_eq_true rfl⟩ (gWp_imp h (fun μ3 r h => ?_))
    obtain ⟨v4, rfl, h⟩ := h
    refine Or.inl ⟨_, rfl, ?_⟩
    show gWp none 52 (60, [some (.ref 38), some (.int x1), some (.int x2), some (.int x3), some (.int x4), some (.int x5), some (.int x6), some (.int x7)], [.int v4], μ3) _ P
    refine gWp_if gT_52 (pc := 60) rfl ⟨fun c => ?_, fun c => ?_⟩
    · replace h := h.1 (of_decide_eq_true c)
      refine gWp_sts gT_52 2 (f' := (36, [some (.ref 38), some (.int x1), some (.int x2), some (.int x3), some (.int x4), some (.int x5), some (.int x6), some (.int (x7 + (1 : Int32)))], [], μ3)) (cs := []) rfl trivial ?_
      exact h
    · replace h := h.2 (fun q => c (decide_eq_true q))
      obtain ⟨c1, c2, h⟩ := h
      refine gWp_sts gT_52 9 (f' := (78, [some (.ref 38), some (.int x1), some (.int x2), some (.int x3), some (.int x4), some (.int x5), some (.int x6), some (.int x7)], [.int x6, .int (gI μ3 1 ((gI μ3 40 x7.toNatClampNeg).toNatClampNeg)), .int (gI μ3 40 x7.toNatClampNeg), .ref 1], μ3)) (cs := [vp_in x7 50, (Value.int (gI μ3 40 x7.toNatClampNeg) : Value).category = 1, (Value.ref 1 : Value).category = 1, vp_in (gI μ3 40 x7.toNatClampNeg) 50]) rfl ⟨c1, rfl, rfl, c2⟩ ?_
      refine gWp_if gT_52 (pc := 78) rfl ⟨fun c => ?_, fun c => ?_⟩
      · replace h := h.1 (of_decide_eq_true c)
        obtain ⟨c1, h⟩ := h
        refine gWp_sts gT_52 6 (f' := (36, [some (.ref 38), some (.int x1), some (.int x2), some (.int x3), some (.int x4), some (.int x5), some (.int (x6 + (-1 : Int32))), some (.int (x7 + (1 : Int32)))], [], (gsI μ3 1 ((gI μ3 40 x7.toNatClampNeg).toNatClampNeg) ((gI μ3 1 ((gI μ3 40 x7.toNatClampNeg).toNatClampNeg)) + x4)))) (cs := [vp_in (gI μ3 40 x7.toNatClampNeg) 50]) rfl c1 ?_
        exact h
      · replace h := h.2 (fun q => c (decide_eq_true q))
        obtain ⟨c1, h⟩ := h
        refine gWp_sts gT_52 9 (f' := (36, [some (.ref 38), some (.int x1), some (.int x2), some (.int x3), some (.int x4), some (.int x5), some (.int (x6 + (-1 : Int32))), some (.int (x7 + (1 : Int32)))], [], (gsI μ3 1 ((gI μ3 40 x7.toNatClampNeg).toNatClampNeg) ((gI μ3 1 ((gI μ3 40 x7.toNatClampNeg).toNatClampNeg)) + (x4 + x5))))) (cs := [vp_in (gI μ3 40 x7.toNatClampNeg) 50]) rfl c1 ?_
        exact h
set_option maxRecDepth 20000 in
theorem vc_52 {μ : gMu} {x1 : Int32} {x2 : Int32} {x3 : Int32} {P : gMu → gRes → Prop} (h : ((0 < x3) → ((¬ x3 = 0) ∧ (((0 ≤ x2) → ((¬ x3 = 0) ∧ (gCl' 51 [.ref 38, .int x1] μ (fun μ1 r => (∃ v2, r = .inl (some (.int v2)) ∧ (gWp none 52 (36, [some (.ref 38), some (.int x1), some (.int x2), some (.int x3), some (.int (x2 / x3)), some (.int (1 : Int32)), some (.int (if 0 ≤ (x2 - x2 / x3 * x3) then x2 - x2 / x3 * x3 else 0 - (x2 - x2 / x3 * x3))), some (.int v2)], [], μ1) 0 P)))))) ∧ ((¬ 0 ≤ x2) → ((¬ x3 = 0) ∧ (gCl' 51 [.ref 38, .int x1] μ (fun μ3 r => (∃ v4, r = .inl (some (.int v4)) ∧ (gWp none 52 (36, [some (.ref 38), some (.int x1), some (.int x2), some (.int x3), some (.int (x2 / x3)), some (.int (-1 : Int32)), some (.int (if 0 ≤ (x2 - x2 / x3 * x3) then x2 - x2 / x3 * x3 else 0 - (x2 - x2 / x3 * x3))), some (.int v4)], [], μ3) 0 P))))))))) ∧ ((¬ 0 < x3) → (P μ (.inl none)))) : gWp none 52 (0, [some (.ref 38), some (.int x1), some (.int x2), some (.int x3), none, none, none, none], [], μ) 0 P := by
  refine gWp_sts gT_52 1 (f' := (1, [some (.ref 38), some (.int x1), some (.int x2), some (.int x3), none, none, none, none], [.int x3], μ)) (cs := []) rfl trivial ?_
  refine gWp_if gT_52 (pc := 1) rfl ⟨fun c => ?_, fun c => ?_⟩
  · replace h := h.1 (of_decide_eq_true c)
    obtain ⟨c1, h⟩ := h
    refine gWp_sts gT_52 5 (f' := (11, [some (.ref 38), some (.int x1), some (.int x2), some (.int x3), some (.int (x2 / x3)), none, none, none], [.int x2], μ)) (cs := [¬ x3 = 0]) rfl c1 ?_
    refine gWp_if gT_52 (pc := 11) rfl ⟨fun c => ?_, fun c => ?_⟩
    · replace h := h.1 (of_decide_eq_true c)
      obtain ⟨c1, h⟩ := h
      refine gWp_sts gT_52 9 (f' := (31, [some (.ref 38), some (.int x1), some (.int x2), some (.int x3), some (.int (x2 / x3)), some (.int (1 : Int32)), some (.int (if 0 ≤ (x2 - x2 / x3 * x3) then x2 - x2 / x3 * x3 else 0 - (x2 - x2 / x3 * x3))), none], [.int x1, .ref 38], μ)) (cs := [¬ x3 = 0, (([] : List Value).map fun v => v.category).sum ≤ 8]) rfl ⟨c1, (Nat.le_of_ble_eq_true rfl)⟩ ?_
      refine gWp_virt gT_52 (pc := 31) (q := 38) (as := [.ref 38, .int x1]) (rest := []) rfl rfl rfl rfl rfl rfl ⟨by decide, Nat.le_of_ble_eq_true rfl, by decide, Nat.le_of_ble_eq_true rfl⟩ (gWp_imp h (fun μ1 r h => ?_))
      obtain ⟨v2, rfl, h⟩ := h
      refine Or.inl ⟨_, rfl, ?_⟩
      show gWp none 52 (34, [some (.ref 38), some (.int x1), some (.int x2), some (.int x3), some (.int (x2 / x3)), some (.int (1 : Int32)), some (.int (if 0 ≤ (x2 - x2 / x3 * x3) then x2 - x2 / x3 * x3 else 0 - (x2 - x2 / x3 * x3))), none], [.int v2], μ1) _ P
      refine gWp_sts gT_52 1 (f' := (36, [some (.ref 38), some (.int x1), some (.int x2), some (.int x3), some (.int (x2 / x3)), some (.int (1 : Int32)), some (.int (if 0 ≤ (x2 - x2 / x3 * x3) then x2 - x2 / x3 * x3 else 0 - (x2 - x2 / x3 * x3))), some (.int v2)], [], μ1)) (cs := []) rfl trivial ?_
      exact h
    · replace h := h.2 (fun q => c (decide_eq_true q))
      obtain ⟨c1, h⟩ := h
      refine gWp_sts gT_52 10 (f' := (31, [some (.ref 38), some (.int x1), some (.int x2), some (.int x3), some (.int (x2 / x3)), some (.int (-1 : Int32)), some (.int (if 0 ≤ (x2 - x2 / x3 * x3) then x2 - x2 / x3 * x3 else 0 - (x2 - x2 / x3 * x3))), none], [.int x1, .ref 38], μ)) (cs := [¬ x3 = 0, (([] : List Value).map fun v => v.category).sum ≤ 8]) rfl ⟨c1, (Nat.le_of_ble_eq_true rfl)⟩ ?_
      refine gWp_virt gT_52 (pc := 31) (q := 38) (as := [.ref 38, .int x1]) (rest := []) rfl rfl rfl rfl rfl rfl ⟨by decide, Nat.le_of_ble_eq_true rfl, by decide, Nat.le_of_ble_eq_true rfl⟩ (gWp_imp h (fun μ3 r h => ?_))
      obtain ⟨v4, rfl, h⟩ := h
      refine Or.inl ⟨_, rfl, ?_⟩
      show gWp none 52 (34, [some (.ref 38), some (.int x1), some (.int x2), some (.int x3), some (.int (x2 / x3)), some (.int (-1 : Int32)), some (.int (if 0 ≤ (x2 - x2 / x3 * x3) then x2 - x2 / x3 * x3 else 0 - (x2 - x2 / x3 * x3))), none], [.int v4], μ3) _ P
      refine gWp_sts gT_52 1 (f' := (36, [some (.ref 38), some (.int x1), some (.int x2), some (.int x3), some (.int (x2 / x3)), some (.int (-1 : Int32)), some (.int (if 0 ≤ (x2 - x2 / x3 * x3) then x2 - x2 / x3 * x3 else 0 - (x2 - x2 / x3 * x3))), some (.int v4)], [], μ3)) (cs := []) rfl trivial ?_
      exact h
  · replace h := h.2 (fun q => c (decide_eq_true q))
    exact gWp_end gT_52 rfl rfl h
/-! Glyphmill$Rows.takeWidths -/
theorem gT_53 : gCode[53]? = some gC_53 := rfl
set_option maxRecDepth 20000 in
theorem vc_53_6 {μ : gMu} {x1 : Int32} {x2 : Int32} {P : gMu → gRes → Prop} (h : gCl' 47 [.ref 38, .int x1] μ (fun μ1 r => (∃ v2, r = .inl (some (.int v2)) ∧ (((v2 ≤ x2) → (P μ1 (.inl none))) ∧ ((¬ v2 ≤ x2) → ((vp_in x2 50) ∧ ((vp_in x2 50) ∧ (gWp none 53 (6, [some (.ref 38), some (.int x1), some (.int (x2 + (1 : Int32)))], [], (gsI μ1 1 x2.toNatClampNeg (gI μ1 26 x2.toNatClampNeg))) 0 P)))))))) : gWp none 53 (6, [some (.ref 38), some (.int x1), some (.int x2)], [], μ) 0 P := by
  refine gWp_sts gT_53 3 (f' := (9, [some (.ref 38), some (.int x1), some (.int x2)], [.int x1, .ref 38, .int x2], μ)) (cs := []) rfl trivial ?_
  refine gWp_virt gT_53 (pc := 9) (q := 38) (as := [.ref 38, .int x1]) (rest := [.int x2]) rfl rfl rfl rfl rfl rfl ⟨by decide, Nat.le_of_ble_eq_true rfl, by decide, Nat.le_of_ble_eq_true rfl⟩ (gWp_imp h (fun μ1 r h => ?_))
  obtain ⟨v2, rfl, h⟩ := h
  refine Or.inl ⟨_, rfl, ?_⟩
  show gWp none 53 (12, [some (.ref 38), some (.int x1), some (.int x2)], [.int v2, .int x2], μ1) _ P
  refine gWp_icmp gT_53 (pc := 12) rfl ⟨fun c => ?_, fun c => ?_⟩
  · replace h := h.1 (of_decide_eq_true c)
    exact gWp_end gT_53 rfl rfl h
  · replace h := h.2 (fun q => c (decide_eq_true q))
    obtain ⟨c1, c2, h⟩ := h
    refine gWp_sts gT_53 11 (f' := (6, [some (.ref 38), some (.int x1), some (.int (x2 + (1 : Int32)))], [], (gsI μ1 1 x2.toNatClampNeg (gI μ1 26 x2.toNatClampNeg)))) (cs := [vp_in x2 50, vp_in x2 50]) rfl ⟨c1, c2⟩ ?_
    exact h
set_option maxRecDepth 20000 in
theorem vc_53 {μ : gMu} {x1 : Int32} {P : gMu → gRes → Prop} (h : gCl' 51 [.ref 38, .int x1] μ (fun μ1 r => (∃ v2, r = .inl (some (.int v2)) ∧ (gWp none 53 (6, [some (.ref 38), some (.int x1), some (.int v2)], [], μ1) 0 P)))) : gWp none 53 (0, [some (.ref 38), some (.int x1), none], [], μ) 0 P := by
  refine gWp_sts gT_53 2 (f' := (2, [some (.ref 38), some (.int x1), none], [.int x1, .ref 38], μ)) (cs := []) rfl trivial ?_
  refine gWp_virt gT_53 (pc := 2) (q := 38) (as := [.ref 38, .int x1]) (rest := []) rfl rfl rfl rfl rfl rfl ⟨by decide, Nat.le_of_ble_eq_true rfl, by decide, Nat.le_of_ble_eq_true rfl⟩ (gWp_imp h (fun μ1 r h => ?_))
  obtain ⟨v2, rfl, h⟩ := h
  refine Or.inl ⟨_, rfl, ?_⟩
  show gWp none 53 (5, [some (.ref 38), some (.int x1), none], [.int v2], μ1) _ P
  refine gWp_sts gT_53 1 (f' := (6, [some (.ref 38), some (.int x1), some (.int v2)], [], μ1)) (cs := []) rfl trivial ?_
  exact h
/-! Glyphmill$Rows.placeLine -/
theorem gT_54 : gCode[54]? = some gC_54 := rfl
set_option maxRecDepth 20000 in
theorem vc_54_119 {μ : gMu} {x1 : Int32} {x2 : Int32} {x3 : Int32} {x4 : Int32} {x5 : Int32} {x6 : Int32} {x7 : Int32} {x8 : Int32} {x9 : Int32} {P : gMu → gRes → Prop} (h : gCl' 47 [.ref 38, .int x1] μ (fun μ1 r => (∃ v2, r = .inl (some (.int v2)) ∧ (((v2 ≤ x9) → (P μ1 (.inl none))) ∧ ((¬ v2 ≤ x9) → ((vp_in x9 50) ∧ ((vp_in (gI μ1 40 x9.toNatClampNeg) 50) ∧ ((vp_in x9 50) ∧ ((vp_in (gI μ1 40 x9.toNatClampNeg) 50) ∧ (gWp none 54 (119, [some (.ref 38), some (.int x1), some (.int x2), some (.int x3), some (.int x4), some (.int x5), some (.int x6), some (.int x7), some (.int (x8 + (gI μ1 1 ((gI μ1 40 x9.toNatClampNeg).toNatClampNeg)))), some (.int (x9 + (1 : Int32)))], [], (gsI μ1 42 ((gI μ1 40 x9.toNatClampNeg).toNatClampNeg) x8)) 0 P)))))))))) : gWp none 54 (119, [some (.ref 38), some (.int x1), some (.int x2), some (.int x3), some (.int x4), some (.int x5), some (.int x6), some (.int x7), some (.int x8), some (.int x9)], [], μ) 0 P := by
  refine gWp_sts gT_54 3 (f' := (123, [some (.ref 38), some (.int x1), some (.int x2), some (.int x3), some (.int x4), some (.int x5), some (.int x6), some (.int x7), some (.int x8), some (.int x9)], [.int x1, .ref 38, .int x9], μ)) (cs := []) rfl trivial ?_
  refine gWp_virt gT_54 (pc := 123) (q := 38) (as := [.ref 38, .int x1]) (rest := [.int x9]) rfl rfl rfl rfl rfl rfl ⟨by decide, Nat.le_of_ble_eq_true rfl, by decide, Nat.le_of_ble_eq_true rfl⟩ (gWp_imp h (fun μ1 r h => ?_))
  obtain ⟨v2, rfl, h⟩ := h
  refine Or.inl ⟨_, rfl, ?_⟩
  show gWp none 54 (126, [some (.ref 38), some (.int x1), some (.int x2), some (.int x3), some (.int x4), some (.int x5), some (.int x6), some (.int x7), some (.int x8), some (.int x9)], [.int v2, .int x9], μ1) _ P
  refine gWp_icmp gT_54 (pc := 126) rfl ⟨fun c => ?_, fun c => ?_⟩
  · replace h := h.1 (of_decide_eq_true c)
    exact gWp_end gT_54 rfl rfl h
  · replace h := h.2 (fun q => c (decide_eq_true q))
    obtain ⟨c1, c2, c3, c4, h⟩ := h
    refine gWp_sts gT_54 20 (f' := (119, [some (.ref 38), some (.int x1), some (.int x2), some (.int x3), some (.int x4), some (.int x5), some (.int x6), some (.int x7), some (.int (x8 + (gI μ1 1 ((gI μ1 40 x9.toNatClampNeg).toNatClampNeg)))), some (.int (x9 + (1 : Int32)))], [], (gsI μ1 42 ((gI μ1 40 x9.toNatClampNeg).toNatClampNeg) x8))) (cs := [vp_in x9 50, vp_in (gI μ1 40 x9.toNatClampNeg) 50, vp_in x9 50, vp_in (gI μ1 40 x9.toNatClampNeg) 50]) rfl ⟨c1, c2, c3, c4⟩ ?_
    exact h
set_option maxRecDepth 20000 in
theorem vc_54 {μ : gMu} {x1 : Int32} {x2 : Int32} {P : gMu → gRes → Prop} (h : (vp_in x1 51) ∧ ((vp_in (x1 + (1 : Int32)) 51) ∧ (gCl' 29 [.ref 32, .int (gI μ 37 x1.toNatClampNeg), .int (gI μ 37 ((x1 + (1 : Int32)).toNatClampNeg))] μ (fun μ1 r => (∃ v2, r = .inl (some (.int v2)) ∧ (gCl' 30 [.ref 29, .int (gI μ 37 x1.toNatClampNeg), .int (gI μ 37 ((x1 + (1 : Int32)).toNatClampNeg))] μ1 (fun μ3 r => (∃ v4, r = .inl (some (.int v4)) ∧ (((v4 ≤ 0) → (gCl' 53 [.ref 38, .int x1] μ3 (fun μ5 r => (r = .inl none ∧ ((((0 : Int32) = 0) → (((¬ (0 : Int32) = 0) → (gCl' 51 [.ref 38, .int x1] μ5 (fun μ6 r => (∃ v7, r = .inl (some (.int v7)) ∧ (gWp none 54 (119, [some (.ref 38), some (.int x1), some (.int x2), some (.int (gI μ 37 x1.toNatClampNeg)), some (.int (gI μ 37 ((x1 + (1 : Int32)).toNatClampNeg))), some (.int v2), some (.int v4), some (.int (0 : Int32)), some (.int (0 : Int32)), some (.int v7)], [], μ6) 0 P))))) ∧ (((0 : Int32) = 0) → (((¬ x2 = 0) → (gCl' 51 [.ref 38, .int x1] μ5 (fun μ8 r => (∃ v9, r = .inl (some (.int v9)) ∧ (gWp none 54 (119, [some (.ref 38), some (.int x1), some (.int x2), some (.int (gI μ 37 x1.toNatClampNeg)), some (.int (gI μ 37 ((x1 + (1 : Int32)).toNatClampNeg))), some (.int v2), some (.int v4), some (.int (0 : Int32)), some (.int v2), some (.int v9)], [], μ8) 0 P))))) ∧ ((x2 = 0) → (gCl' 51 [.ref 38, .int x1] μ5 (fun μ10 r => (∃ v11, r = .inl (some (.int v11)) ∧ (gWp none 54 (119, [some (.ref 38), some (.int x1), some (.int x2), some (.int (gI μ 37 x1.toNatClampNeg)), some (.int (gI μ 37 ((x1 + (1 : Int32)).toNatClampNeg))), some (.int v2), some (.int v4), some (.int (0 : Int32)), some (.int (0 : Int32)), some (.int v11)], [], μ10) 0 P))))))))) ∧ ((¬ (0 : Int32) = 0) → (gCl' 52 [.ref 38, .int x1, .int v2, .int v4] μ5 (fun μ12 r => (r = .inl none ∧ (((¬ (0 : Int32) = 0) → (gCl' 51 [.ref 38, .int x1] μ12 (fun μ13 r => (∃ v14, r = .inl (some (.int v14)) ∧ (gWp none 54 (119, [some (.ref 38), some (.int x1), some (.int x2), some (.int (gI μ 37 x1.toNatClampNeg)), some (.int (gI μ 37 ((x1 + (1 : Int32)).toNatClampNeg))), some (.int v2), some (.int v4), some (.int (0 : Int32)), some (.int (0 : Int32)), some (.int v14)], [], μ13) 0 P))))) ∧ (((0 : Int32) = 0) → (((¬ x2 = 0) → (gCl' 51 [.ref 38, .int x1] μ12 (fun μ15 r => (∃ v16, r = .inl (some (.int v16)) ∧ (gWp none 54 (119, [some (.ref 38), some (.int x1), some (.int x2), some (.int (gI μ 37 x1.toNatClampNeg)), some (.int (gI μ 37 ((x1 + (1 : Int32)).toNatClampNeg))), some (.int v2), some (.int v4), some (.int (0 : Int32)), some (.int v2), some (.int v16)], [], μ15) 0 P))))) ∧ ((x2 = 0) → (gCl' 51 [.ref 38, .int x1] μ12 (fun μ17 r => (∃ v18, r = .inl (some (.int v18)) ∧ (gWp none 54 (119, [some (.ref 38), some (.int x1), some (.int x2), some (.int (gI μ 37 x1.toNatClampNeg)), some (.int (gI μ 37 ((x1 + (1 : Int32)).toNatClampNeg))), some (.int v2), some (.int v4), some (.int (0 : Int32)), some (.int (0 : Int32)), some (.int v18)], [], μ17) 0 P))))))))))))))))) ∧ ((¬ v4 ≤ 0) → (((v2 < 0) → (gCl' 53 [.ref 38, .int x1] μ3 (fun μ19 r => (r = .inl none ∧ ((((1 : Int32) = 0) → (((¬ (1 : Int32) = 0) → (gCl' 51 [.ref 38, .int x1] μ19 (fun μ20 r => (∃ v21, r = .inl (some (.int v21)) ∧ (gWp none 54 (119, [some (.ref 38), some (.int x1), some (.int x2), some (.int (gI μ 37 x1.toNatClampNeg)), some (.int (gI μ 37 ((x1 + (1 : Int32)).toNatClampNeg))), some (.int v2), some (.int v4), some (.int (1 : Int32)), some (.int (0 : Int32)), some (.int v21)], [], μ20) 0 P))))) ∧ (((1 : Int32) = 0) → (((¬ x2 = 0) → (gCl' 51 [.ref 38, .int x1] μ19 (fun μ22 r => (∃ v23, r = .inl (some (.int v23)) ∧ (gWp none 54 (119, [some (.ref 38), some (.int x1), some (.int x2), some (.int (gI μ 37 x1.toNatClampNeg)), some (.int (gI μ 37 ((x1 + (1 : Int32)).toNatClampNeg))), some (.int v2), some (.int v4), some (.int (1 : Int32)), some (.int v2), some (.int v23)], [], μ22) 0 P))))) ∧ ((x2 = 0) → (gCl' 51 [.ref 38, .int x1] μ19 (fun μ24 r => (∃ v25, r = .inl (some (.int v25)) ∧ (gWp none 54 (119, [some (.ref 38), some (.int x1), some (.int x2), some (.int (gI μ 37 x1.toNatClampNeg)), some (.int (gI μ 37 ((x1 + (1 : Int32)).toNatClampNeg))), some (.int v2), some (.int v4), some (.int (1 : Int32)), some (.int (0 : Int32)), some (.int v25)], [], μ24) 0 P))))))))) ∧ ((¬ (1 : Int32) = 0) → (gCl' 52 [.ref 38, .int x1, .int v2, .int v4] μ19 (fun μ26 r => (r = .inl none ∧ (((¬ (1 : Int32) = 0) → (gCl' 51 [.ref 38, .int x1] μ26 (fun μ27 r => (∃ v28, r = .inl (some (.int v28)) ∧ (gWp none 54 (119, [some (.ref 38), some (.int x1), some (.int x2), some (.int (gI μ 37 x1.toNatClampNeg)), some (.int (gI μ 37 ((x1 + (1 : Int32)).toNatClampNeg))), some (.int v2), some (.int v4), some (.int (1 : Int32)), some (.int (0 : Int32)), some (.int v28)], [], μ27) 0 P))))) ∧ (((1 : Int32) = 0) → (((¬ x2 = 0) → (gCl' 51 [.ref 38, .int x1] μ26 (fun μ29 r => (∃ v30, r = .inl (some (.int v30)) ∧ (gWp none 54 (119, [some (.ref 38), some (.int x1), some (.int x2), some (.int (gI μ 37 x1.toNatClampNeg)), some (.int (gI μ 37 ((x1 + (1 : Int32)).toNatClampNeg))), some (.int v2), some (.int v4), some (.int (1 : Int32)), some (.int v2), some (.int v30)], [], μ29) 0 P))))) ∧ ((x2 = 0) → (gCl' 51 [.ref 38, .int x1] μ26 (fun μ31 r => (∃ v32, r = .inl (some (.int v32)) ∧ (gWp none 54 (119, [some (.ref 38), some (.int x1), some (.int x2), some (.int (gI μ 37 x1.toNatClampNeg)), some (.int (gI μ 37 ((x1 + (1 : Int32)).toNatClampNeg))), some (.int v2), some (.int v4), some (.int (1 : Int32)), some (.int (0 : Int32)), some (.int v32)], [], μ31) 0 P))))))))))))))))) ∧ ((¬ v2 < 0) → ((((gI μ3 29 3) ≤ (gI μ 37 ((x1 + (1 : Int32)).toNatClampNeg))) → (gCl' 53 [.ref 38, .int x1] μ3 (fun μ33 r => (r = .inl none ∧ ((((0 : Int32) = 0) → (((¬ (0 : Int32) = 0) → (gCl' 51 [.ref 38, .int x1] μ33 (fun μ34 r => (∃ v35, r = .inl (some (.int v35)) ∧ (gWp none 54 (119, [some (.ref 38), some (.int x1), some (.int x2), some (.int (gI μ 37 x1.toNatClampNeg)), some (.int (gI μ 37 ((x1 + (1 : Int32)).toNatClampNeg))), some (.int v2), some (.int v4), some (.int (0 : Int32)), some (.int (0 : Int32)), some (.int v35)], [], μ34) 0 P))))) ∧ (((0 : Int32) = 0) → (((¬ x2 = 0) → (gCl' 51 [.ref 38, .int x1] μ33 (fun μ36 r => (∃ v37, r = .inl (some (.int v37)) ∧ (gWp none 54 (119, [some (.ref 38), some (.int x1), some (.int x2), some (.int (gI μ 37 x1.toNatClampNeg)), some (.int (gI μ 37 ((x1 + (1 : Int32)).toNatClampNeg))), some (.int v2), some (.int v4), some (.int (0 : Int32)), some (.int v2), some (.int v37)], [], μ36) 0 P))))) ∧ ((x2 = 0) → (gCl' 51 [.ref 38, .int x1] μ33 (fun μ38 r => (∃ v39, r = .inl (some (.int v39)) ∧ (gWp none 54 (119, [some (.ref 38), some (.int x1), some (.int x2), some (.int (gI μ 37 x1.toNatClampNeg)), some (.int (gI μ 37 ((x1 + (1 : Int32)).toNatClampNeg))), some (.int v2), some (.int v4), some (.int (0 : Int32)), some (.int (0 : Int32)), some (.int v39)], [], μ38) 0 P))))))))) ∧ ((¬ (0 : Int32) = 0) → (gCl' 52 [.ref 38, .int x1, .int v2, .int v4] μ33 (fun μ40 r => (r = .inl none ∧ (((¬ (0 : Int32) = 0) → (gCl' 51 [.ref 38, .int x1] μ40 (fun μ41 r => (∃ v42, r = .inl (some (.int v42)) ∧ (gWp none 54 (119, [some (.ref 38), some (.int x1), some (.int x2), some (.int (gI μ 37 x1.toNatClampNeg)), some (.int (gI μ 37 ((x1 + (1 : Int32)).toNatClampNeg))), some (.int v2), some (.int v4), some (.int (0 : Int32)), some (.int (0 : Int32)), some (.int v42)], [], μ41) 0 P))))) ∧ (((0 : Int32) = 0) → (((¬ x2 = 0) → (gCl' 51 [.ref 38, .int x1] μ40 (fun μ43 r => (∃ v44, r = .inl (some (.int v44)) ∧ (gWp none 54 (119, [some (.ref 38), some (.int x1), some (.int x2), some (.int (gI μ 37 x1.toNatClampNeg)), some (.int (gI μ 37 ((x1 + (1 : Int32)).toNatClampNeg))), some (.int v2), some (.int v4), some (.int (0 : Int32)), some (.int v2), some (.int v44)], [], μ43) 0 P))))) ∧ ((x2 = 0) → (gCl' 51 [.ref 38, .int x1] μ40 (fun μ45 r => (∃ v46, r = .inl (some (.int v46)) ∧ (gWp none 54 (119, [some (.ref 38), some (.int x1), some (.int x2), some (.int (gI μ 37 x1.toNatClampNeg)), some (.int (gI μ 37 ((x1 + (1 : Int32)).toNatClampNeg))), some (.int v2), some (.int v4), some (.int (0 : Int32)), some (.int (0 : Int32)), some (.int v46)], [], μ45) 0 P))))))))))))))))) ∧ ((¬ (gI μ3 29 3) ≤ (gI μ 37 ((x1 + (1 : Int32)).toNatClampNeg))) → (gCl' 53 [.ref 38, .int x1] μ3 (fun μ47 r => (r = .inl none ∧ ((((1 : Int32) = 0) → (((¬ (1 : Int32) = 0) → (gCl' 51 [.ref 38, .int x1] μ47 (fun μ48 r => (∃ v49, r = .inl (some (.int v49)) ∧ (gWp none 54 (119, [some (.ref 38), some (.int x1), some (.int x2), some (.int (gI μ 37 x1.toNatClampNeg)), some (.int (gI μ 37 ((x1 + (1 : Int32)).toNatClampNeg))), some (.int v2), some (.int v4), some (.int (1 : Int32)), some (.int (0 : Int32)), some (.int v49)], [], μ48) 0 P))))) ∧ (((1 : Int32) = 0) → (((¬ x2 = 0) → (gCl' 51 [.ref 38, .int x1] μ47 (fun μ50 r => (∃ v51, r = .inl (some (.int v51)) ∧ (gWp none 54 (119, [some (.ref 38), some (.int x1), some (.int x2), some (.int (gI μ 37 x1.toNatClampNeg)), some (.int (gI μ 37 ((x1 + (1 : Int32)).toNatClampNeg))), some (.int v2), some (.int v4), some (.int (1 : Int32)), some (.int v2), some (.int v51)], [], μ50) 0 P))))) ∧ ((x2 = 0) → (gCl' 51 [.ref 38, .int x1] μ47 (fun μ52 r => (∃ v53, r = .inl (some (.int v53)) ∧ (gWp none 54 (119, [some (.ref 38), some (.int x1), some (.int x2), some (.int (gI μ 37 x1.toNatClampNeg)), some (.int (gI μ 37 ((x1 + (1 : Int32)).toNatClampNeg))), some (.int v2), some (.int v4), some (.int (1 : Int32)), some (.int (0 : Int32)), some (.int v53)], [], μ52) 0 P))))))))) ∧ ((¬ (1 : Int32) = 0) → (gCl' 52 [.ref 38, .int x1, .int v2, .int v4] μ47 (fun μ54 r => (r = .inl none ∧ (((¬ (1 : Int32) = 0) → (gCl' 51 [.ref 38, .int x1] μ54 (fun μ55 r => (∃ v56, r = .inl (some (.int v56)) ∧ (gWp none 54 (119, [some (.ref 38), some (.int x1), some (.int x2), some (.int (gI μ 37 x1.toNatClampNeg)), some (.int (gI μ 37 ((x1 + (1 : Int32)).toNatClampNeg))), some (.int v2), some (.int v4), some (.int (1 : Int32)), some (.int (0 : Int32)), some (.int v56)], [], μ55) 0 P))))) ∧ (((1 : Int32) = 0) → (((¬ x2 = 0) → (gCl' 51 [.ref 38, .int x1] μ54 (fun μ57 r => (∃ v58, r = .inl (some (.int v58)) ∧ (gWp none 54 (119, [some (.ref 38), some (.int x1), some (.int x2), some (.int (gI μ 37 x1.toNatClampNeg)), some (.int (gI μ 37 ((x1 + (1 : Int32)).toNatClampNeg))), some (.int v2), some (.int v4), some (.int (1 : Int32)), some (.int v2), some (.int v58)], [], μ57) 0 P))))) ∧ ((x2 = 0) → (gCl' 51 [.ref 38, .int x1] μ54 (fun μ59 r => (∃ v60, r = .inl (some (.int v60)) ∧ (gWp none 54 (119, [some (.ref 38), some (.int x1), some (.int x2), some (.int (gI μ 37 x1.toNatClampNeg)), some (.int (gI μ 37 ((x1 + (1 : Int32)).toNatClampNeg))), some (.int v2), some (.int v4), some (.int (1 : Int32)), some (.int (0 : Int32)), some (.int v60)], [], μ59) 0 P)))))))))))))))))))))))))))))) : gWp none 54 (0, [some (.ref 38), some (.int x1), some (.int x2), none, none, none, none, none, none, none], [], μ) 0 P := by
  obtain ⟨c1, c2, h⟩ := h
  refine gWp_sts gT_54 18 (f' := (30, [some (.ref 38), some (.int x1), some (.int x2), some (.int (gI μ 37 x1.toNatClampNeg)), some (.int (gI μ 37 ((x1 + (1 : Int32)).toNatClampNeg))), none, none, none, none, none], [.int (gI μ 37 ((x1 + (1 : Int32)).toNatClampNeg)), .int (gI μ 37 x1.toNatClampNeg), .ref 32], μ)) (cs := [vp_in x1 51, vp_in (x1 + (1 : Int32)) 51]) rfl ⟨c1, c2⟩ ?_
  refine gWp_virt gT_54 (pc := 30) (q := 32) (as := [.ref 32, .int (gI μ 37 x1.toNatClampNeg), .int (gI μ 37 ((x1 + (1 : Int32)).toNatClampNeg))]) (rest := []) rfl rfl rfl rfl rfl rfl ⟨by decide, Nat.le_of_ble_eq_true rfl, by decide, Nat.le_of_ble_eq_true rfl⟩ (gWp_imp h (fun μ1 r h => ?_))
  obtain ⟨v2, rfl, h⟩ := h
  refine Or.inl ⟨_, rfl, ?_⟩
  show gWp none 54 (33, [some (.ref 38), some (.int x1), some (.int x2), some (.int (gI μ 37 x1.toNatClampNeg)), some (.int (gI μ 37 ((x1 + (1 : Int32)).toNatClampNeg))), none, none, none, none, none], [.int v2], μ1) _ P
  refine gWp_sts gT_54 5 (f' := (42, [some (.ref 38), some (.int x1), some (.int x2), some (.int (gI μ 37 x1.toNatClampNeg)), some (.int (gI μ 37 ((x1 + (1 : Int32)).toNatClampNeg))), some (.int v2), none, none, none, none], [.int (gI μ 37 ((x1 + (1 : Int32)).toNatClampNeg)), .int (gI μ 37 x1.toNatClampNeg), .ref 29], μ1)) (cs := []) rfl trivial ?_
  refine gWp_virt gT_54 (pc := 42) (q := 29) (as := [.ref 29, .int (gI μ 37 x1.toNatClampNeg), .int (gI μ 37 ((x1 + (1 : Int32)).toNatClampNeg))]) (rest := []) rfl rfl rfl rfl rfl rfl ⟨by decide, Nat.le_of_ble_eq_true rfl, by decide, Nat.le_of_ble_eq_true rfl⟩ (gWp_imp h (fun μ3 r h => ?_))
  obtain ⟨v4, rfl, h⟩ := h
  refine Or.inl ⟨_, rfl, ?_⟩
  show gWp none 54 (45, [some (.ref 38), some (.int x1), some (.int x2), some (.int (gI μ 37 x1.toNatClampNeg)), some (.int (gI μ 37 ((x1 + (1 : Int32)).toNatClampNeg))), some (.int v2), none, none, none, none], [.int v4], μ3) _ P
  refine gWp_sts gT_54 2 (f' := (49, [some (.ref 38), some (.int x1), some (.int x2), some (.int (gI μ 37 x1.toNatClampNeg)), some (.int (gI μ 37 ((x1 + (1 : Int32)).toNatClampNeg))), some (.int v2), some (.int v4), none, none, none], [.int v4], μ3)) (cs := []) rfl trivial ?_
  refine gWp_if gT_54 (pc := 49) rfl ⟨fun c => ?_, fun c => ?_⟩
  · replace h := h.1 (of_decide_eq_true c)
    refine gWp_sts gT_54 4 (f' := (78, [some (.ref 38), some (.int x1), some (.int x2), some (.int (gI μ 37 x1.toNatClampNeg)), some (.int (gI μ 37 ((x1 + (1 : Int32)).toNatClampNeg))), some (.int v2), some (.int v4), some (.int (0 : Int32)), none, none], [.int x1, .ref 38], μ3)) (cs := []) rfl trivial ?_
    refine gWp_virt gT_54 (pc := 78) (q := 38) (as := [.ref 38, .int x1]) (rest := []) rfl rfl rfl rfl rfl rfl ⟨by decide, Nat.le_of_ble_eq_true rfl, by decide, Nat.le_of_ble_eq_true rfl⟩ (gWp_imp h (fun μ5 r h => ?_))
    obtain ⟨rfl, h⟩ := h
    refine Or.inl ⟨_, rfl, ?_⟩
    show gWp none 54 (81, [some (.ref 38), some (.int x1), some (.int x2), some (.int (gI μ 37 x1.toNatClampNeg)), some (.int (gI μ 37 ((x1 + (1 : Int32)).toNatClampNeg))), some (.int v2), some (.int v4), some (.int (0 : Int32)), none, none], [], μ5) _ P
    refine gWp_sts gT_54 1 (f' := (83, [some (.ref 38), some (.int x1), some (.int x2), some (.int (gI μ 37 x1.toNatClampNeg)), some (.int (gI μ 37 ((x1 + (1 : Int32)).toNatClampNeg))), some (.int v2), some (.int v4), some (.int (0 : Int32)), none, none], [.int (0 : Int32)], μ5)) (cs := []) rfl trivial ?_
    refine gWp_if gT_54 (pc := 83) rfl ⟨fun c => ?_, fun c => ?_⟩
    · replace h := h.1 (of_decide_eq_true c)
      refine gWp_sts gT_54 1 (f' := (97, [some (.ref 38), some (.int x1), some (.int x2), some (.int (gI μ 37 x1.toNatClampNeg)), some (.int (gI μ 37 ((x1 + (1 : Int32)).toNatClampNeg))), some (.int v2), some (.int v4), some (.int (0 : Int32)), none, none], [.int (0 : Int32)], μ5)) (cs := []) rfl trivial ?_
      refine gWp_if gT_54 (pc := 97) rfl ⟨fun c => ?_, fun c => ?_⟩
      · replace h := h.1 (of_decide_eq_true c)
        refine gWp_sts gT_54 5 (f' := (114, [some (.ref 38), some (.int x1), some (.int x2), some (.int (gI μ 37 x1.toNatClampNeg)), some (.int (gI μ 37 ((x1 + (1 : Int32)).toNatClampNeg))), some (.int v2), some (.int v4), some (.int (0 : Int32)), some (.int (0 : Int32)), none], [.int x1, .ref 38], μ5)) (cs := []) rfl trivial ?_
        refine gWp_virt gT_54 (pc := 114) (q := 38) (as := [.ref 38, .int x1]) (rest := []) rfl rfl rfl rfl rfl rfl ⟨by decide, Nat.le_of_ble_eq_true rfl, by decide, Nat.le_of_ble_eq_true rfl⟩ (gWp_imp h (fun μ6 r h => ?_))
        obtain ⟨v7, rfl, h⟩ := h
        refine Or.inl ⟨_, rfl, ?_⟩
        show gWp none 54 (117, [some (.ref 38), some (.int x1), some (.int x2), some (.int (gI μ 37 x1.toNatClampNeg)), some (.int (gI μ 37 ((x1 + (1 : Int32)).toNatClampNeg))), some (.int v2), some (.int v4), some (.int (0 : Int32)), some (.int (0 : Int32)), none], [.int v7], μ6) _ P
        refine gWp_sts gT_54 1 (f' := (119, [some (.ref 38), some (.int x1), some (.int x2), some (.int (gI μ 37 x1.toNatClampNeg)), some (.int (gI μ 37 ((x1 + (1 : Int32)).toNatClampNeg))), some (.int v2), some (.int v4), some (.int (0 : Int32)), some (.int (0 : Int32)), some (.int v7)], [], μ6)) (cs := []) rfl trivial ?_
        exact h
      · replace h := h.2 (Classical.not_not.mp (fun q => c (decide_eq_true q)))
        refine gWp_sts gT_54 1 (f' := (101, [some (.ref 38), some (.int x1), some (.int x2), some (.int (gI μ 37 x1.toNatClampNeg)), some (.int (gI μ 37 ((x1 + (1 : Int32)).toNatClampNeg))), some (.int v2), some (.int v4), some (.int (0 : Int32)), none, none], [.int x2], μ5)) (cs := []) rfl trivial ?_
        refine gWp_if gT_54 (pc := 101) rfl ⟨fun c => ?_, fun c => ?_⟩
        · replace h := h.1 (of_decide_eq_true c)
          refine gWp_sts gT_54 4 (f' := (114, [some (.ref 38), some (.int x1), some (.int x2), some (.int (gI μ 37 x1.toNatClampNeg)), some (.int (gI μ 37 ((x1 + (1 : Int32)).toNatClampNeg))), some (.int v2), some (.int v4), some (.int (0 : Int32)), some (.int v2), none], [.int x1, .ref 38], μ5)) (cs := []) rfl trivial ?_
          refine gWp_virt gT_54 (pc := 114) (q := 38) (as := [.ref 38, .int x1]) (rest := []) rfl rfl rfl rfl rfl rfl ⟨by decide, Nat.le_of_ble_eq_true rfl, by decide, Nat.le_of_ble_eq_true rfl⟩ (gWp_imp h (fun μ8 r h => ?_))
          obtain ⟨v9, rfl, h⟩ := h
          refine Or.inl ⟨_, rfl, ?_⟩
          show gWp none 54 (117, [some (.ref 38), some (.int x1), some (.int x2), some (.int (gI μ 37 x1.toNatClampNeg)), some (.int (gI μ 37 ((x1 + (1 : Int32)).toNatClampNeg))), some (.int v2), some (.int v4), some (.int (0 : Int32)), some (.int v2), none], [.int v9], μ8) _ P
          refine gWp_sts gT_54 1 (f' := (119, [some (.ref 38), some (.int x1), some (.int x2), some (.int (gI μ 37 x1.toNatClampNeg)), some (.int (gI μ 37 ((x1 + (1 : Int32)).toNatClampNeg))), some (.int v2), some (.int v4), some (.int (0 : Int32)), some (.int v2), some (.int v9)], [], μ8)) (cs := []) rfl trivial ?_
          exact h
        · replace h := h.2 (Classical.not_not.mp (fun q => c (decide_eq_true q)))
          refine gWp_sts gT_54 5 (f' := (114, [some (.ref 38), some (.int x1), some (.int x2), some (.int (gI μ 37 x1.toNatClampNeg)), some (.int (gI μ 37 ((x1 + (1 : Int32)).toNatClampNeg))), some (.int v2), some (.int v4), some (.int (0 : Int32)), some (.int (0 : Int32)), none], [.int x1, .ref 38], μ5)) (cs := []) rfl trivial ?_
          refine gWp_virt gT_54 (pc := 114) (q := 38) (as := [.ref 38, .int x1]) (rest := []) rfl rfl rfl rfl rfl rfl ⟨by decide, Nat.le_of_ble_eq_true rfl, by decide, Nat.le_of_ble_eq_true rfl⟩ (gWp_imp h (fun μ10 r h => ?_))
          obtain ⟨v11, rfl, h⟩ := h
          refine Or.inl ⟨_, rfl, ?_⟩
          show gWp none 54 (117, [some (.ref 38), some (.int x1), some (.int x2), some (.int (gI μ 37 x1.toNatClampNeg)), some (.int (gI μ 37 ((x1 + (1 : Int32)).toNatClampNeg))), some (.int v2), some (.int v4), some (.int (0 : Int32)), some (.int (0 : Int32)), none], [.int v11], μ10) _ P
          refine gWp_sts gT_54 1 (f' := (119, [some (.ref 38), some (.int x1), some (.int x2), some (.int (gI μ 37 x1.toNatClampNeg)), some (.int (gI μ 37 ((x1 + (1 : Int32)).toNatClampNeg))), some (.int v2), some (.int v4), some (.int (0 : Int32)), some (.int (0 : Int32)), some (.int v11)], [], μ10)) (cs := []) rfl trivial ?_
          exact h
    · replace h := h.2 (fun q => c (decide_eq_true q))
      refine gWp_sts gT_54 4 (f' := (92, [some (.ref 38), some (.int x1), some (.int x2), some (.int (gI μ 37 x1.toNatClampNeg)), some (.int (gI μ 37 ((x1 + (1 : Int32)).toNatClampNeg))), some (.int v2), some (.int v4), some (.int (0 : Int32)), none, none], [.int v4, .int v2, .int x1, .ref 38], μ5)) (cs := []) rfl trivial ?_
      refine gWp_virt gT_54 (pc := 92) (q := 38) (as := [.ref 38, .int x1, .int v2, .int v4]) (rest := []) rfl rfl rfl rfl rfl rfl ⟨by decide, Nat.le_of_ble_eq_true rfl, by decide, Nat.le_of_ble_eq_true rfl⟩ (gWp_imp h (fun μ12 r h => ?_))
      obtain ⟨rfl, h⟩ := h
      refine Or.inl ⟨_, rfl, ?_⟩
      show gWp none 54 (95, [some (.ref 38), some (.int x1), some (.int x2), some (.int (gI μ 37 x1.toNatClampNeg)), some (.int (gI μ 37 ((x1 + (1 : Int32)).toNatClampNeg))), some (.int v2), some (.int v4), some (.int (0 : Int32)), none, none], [], μ12) _ P
      refine gWp_sts gT_54 1 (f' := (97, [some (.ref 38), some (.int x1), some (.int x2), some (.int (gI μ 37 x1.toNatClampNeg)), some (.int (gI μ 37 ((x1 + (1 : Int32)).toNatClampNeg))), some (.int v2), some (.int v4), some (.int (0 : Int32)), none, none], [.int (0 : Int32)], μ12)) (cs := []) rfl trivial ?_
      refine gWp_if gT_54 (pc := 97) rfl ⟨fun c => ?_, fun c => ?_⟩
      · replace h := h.1 (of_decide_eq_true c)
        refine gWp_sts gT_54 5 (f' := (114, [some (.ref 38), some (.int x1), some (.int x2), some (.int (gI μ 37 x1.toNatClampNeg)), some (.int (gI μ 37 ((x1 + (1 : Int32)).toNatClampNeg))), some (.int v2), some (.int v4), some (.int (0 : Int32)), some (.int (0 : Int32)), none], [.int x1, .ref 38], μ12)) (cs := []) rfl trivial ?_
        refine gWp_virt gT_54 (pc := 114) (q := 38) (as := [.ref 38, .int x1]) (rest := []) rfl rfl rfl rfl rfl rfl ⟨by decide, Nat.le_of_ble_eq_true rfl, by decide, Nat.le_of_ble_eq_true rfl⟩ (gWp_imp h (fun μ13 r h => ?_))
        obtain ⟨v14, rfl, h⟩ := h
        refine Or.inl ⟨_, rfl, ?_⟩
        show gWp none 54 (117, [some (.ref 38), some (.int x1), some (.int x2), some (.int (gI μ 37 x1.toNatClampNeg)), some (.int (gI μ 37 ((x1 + (1 : Int32)).toNatClampNeg))), some (.int v2), some (.int v4), some (.int (0 : Int32)), some (.int (0 : Int32)), none], [.int v14], μ13) _ P
        refine gWp_sts gT_54 1 (f' := (119, [some (.ref 38), some (.int x1), some (.int x2), some (.int (gI μ 37 x1.toNatClampNeg)), some (.int (gI μ 37 ((x1 + (1 : Int32)).toNatClampNeg))), some (.int v2), some (.int v4), some (.int (0 : Int32)), some (.int (0 : Int32)), some (.int v14)], [], μ13)) (cs := []) rfl trivial ?_
        exact h
      · replace h := h.2 (Classical.not_not.mp (fun q => c (decide_eq_true q)))
        refine gWp_sts gT_54 1 (f' := (101, [some (.ref 38), some (.int x1), some (.int x2), some (.int (gI μ 37 x1.toNatClampNeg)), some (.int (gI μ 37 ((x1 + (1 : Int32)).toNatClampNeg))), some (.int v2), some (.int v4), some (.int (0 : Int32)), none, none], [.int x2], μ12)) (cs := []) rfl trivial ?_
        refine gWp_if gT_54 (pc := 101) rfl ⟨fun c => ?_, fun c => ?_⟩
        · replace h := h.1 (of_decide_eq_true c)
          refine gWp_sts gT_54 4 (f' := (114, [some (.ref 38), some (.int x1), some (.int x2), some (.int (gI μ 37 x1.toNatClampNeg)), some (.int (gI μ 37 ((x1 + (1 : Int32)).toNatClampNeg))), some (.int v2), some (.int v4), some (.int (0 : Int32)), some (.int v2), none], [.int x1, .ref 38], μ12)) (cs := []) rfl trivial ?_
          refine gWp_virt gT_54 (pc := 114) (q := 38) (as := [.ref 38, .int x1]) (rest := []) rfl rfl rfl rfl rfl rfl ⟨by decide, Nat.le_of_ble_eq_true rfl, by decide, Nat.le_of_ble_eq_true rfl⟩ (gWp_imp h (fun μ15 r h => ?_))
          obtain ⟨v16, rfl, h⟩ := h
          refine Or.inl ⟨_, rfl, ?_⟩
          show gWp none 54 (117, [some (.ref 38), some (.int x1), some (.int x2), some (.int (gI μ 37 x1.toNatClampNeg)), some (.int (gI μ 37 ((x1 + (1 : Int32)).toNatClampNeg))), some (.int v2), some (.int v4), some (.int (0 : Int32)), some (.int v2), none], [.int v16], μ15) _ P
          refine gWp_sts gT_54 1 (f' := (119, [some (.ref 38), some (.int x1), some (.int x2), some (.int (gI μ 37 x1.toNatClampNeg)), some (.int (gI μ 37 ((x1 + (1 : Int32)).toNatClampNeg))), some (.int v2), some (.int v4), some (.int (0 : Int32)), some (.int v2), some (.int v16)], [], μ15)) (cs := []) rfl trivial ?_
          exact h
        · replace h := h.2 (Classical.not_not.mp (fun q => c (decide_eq_true q)))
          refine gWp_sts gT_54 5 (f' := (114, [some (.ref 38), some (.int x1), some (.int x2), some (.int (gI μ 37 x1.toNatClampNeg)), some (.int (gI μ 37 ((x1 + (1 : Int32)).toNatClampNeg))), some (.int v2), some (.int v4), some (.int (0 : Int32)), some (.int (0 : Int32)), none], [.int x1, .ref 38], μ12)) (cs := []) rfl trivial ?_
          refine gWp_virt gT_54 (pc := 114) (q := 38) (as := [.ref 38, .int x1]) (rest := []) rfl rfl rfl rfl rfl rfl ⟨by decide, Nat.le_of_ble_eq_true rfl, by decide, Nat.le_of_ble_eq_true rfl⟩ (gWp_imp h (fun μ17 r h => ?_))
          obtain ⟨v18, rfl, h⟩ := h
          refine Or.inl ⟨_, rfl, ?_⟩
          show gWp none 54 (117, [some (.ref 38), some (.int x1), some (.int x2), some (.int (gI μ 37 x1.toNatClampNeg)), some (.int (gI μ 37 ((x1 + (1 : Int32)).toNatClampNeg))), some (.int v2), some (.int v4), some (.int (0 : Int32)), some (.int (0 : Int32)), none], [.int v18], μ17) _ P
          refine gWp_sts gT_54 1 (f' := (119, [some (.ref 38), some (.int x1), some (.int x2), some (.int (gI μ 37 x1.toNatClampNeg)), some (.int (gI μ 37 ((x1 + (1 : Int32)).toNatClampNeg))), some (.int v2), some (.int v4), some (.int (0 : Int32)), some (.int (0 : Int32)), some (.int v18)], [], μ17)) (cs := []) rfl trivial ?_
          exact h
  · replace h := h.2 (fun q => c (decide_eq_true q))
    refine gWp_sts gT_54 1 (f' := (54, [some (.ref 38), some (.int x1), some (.int x2), some (.int (gI μ 37 x1.toNatClampNeg)), some (.int (gI μ 37 ((x1 + (1 : Int32)).toNatClampNeg))), some (.int v2), some (.int v4), none, none, none], [.int v2], μ3)) (cs := []) rfl trivial ?_
    refine gWp_if gT_54 (pc := 54) rfl ⟨fun c => ?_, fun c => ?_⟩
    · replace h := h.1 (of_decide_eq_true c)
      refine gWp_sts gT_54 5 (f' := (78, [some (.ref 38), some (.int x1), some (.int x2), some (.int (gI μ 37 x1.toNatClampNeg)), some (.int (gI μ 37 ((x1 + (1 : Int32)).toNatClampNeg))), some (.int v2), some (.int v4), some (.int (1 : Int32)), none, none], [.int x1, .ref 38], μ3)) (cs := []) rfl trivial ?_
      refine gWp_virt gT_54 (pc := 78) (q := 38) (as := [.ref 38, .int x1]) (rest := []) rfl rfl rfl rfl rfl rfl ⟨by decide, Nat.le_of_ble_eq_true rfl, by decide, Nat.le_of_ble_eq_true rfl⟩ (gWp_imp h (fun μ19 r h => ?_))
      obtain ⟨rfl, h⟩ := h
      refine Or.inl ⟨_, rfl, ?_⟩
      show gWp none 54 (81, [some (.ref 38), some (.int x1), some (.int x2), some (.int (gI μ 37 x1.toNatClampNeg)), some (.int (gI μ 37 ((x1 + (1 : Int32)).toNatClampNeg))), some (.int v2), some (.int v4), some (.int (1 : Int32)), none, none], [], μ19) _ P
      refine gWp_sts gT_54 1 (f' := (83, [some (.ref 38), some (.int x1), some (.int x2), some (.int (gI μ 37 x1.toNatClampNeg)), some (.int (gI μ 37 ((x1 + (1 : Int32)).toNatClampNeg))), some (.int v2), some (.int v4), some (.int (1 : Int32)), none, none], [.int (1 : Int32)], μ19)) (cs := []) rfl trivial ?_
      refine gWp_if gT_54 (pc := 83) rfl ⟨fun c => ?_, fun c => ?_⟩
      · replace h := h.1 (of_decide_eq_true c)
        refine gWp_sts gT_54 1 (f' := (97, [some (.ref 38), some (.int x1), some (.int x2), some (.int (gI μ 37 x1.toNatClampNeg)), some (.int (gI μ 37 ((x1 + (1 : Int32)).toNatClampNeg))), some (.int v2), some (.int v4), some (.int (1 : Int32)), none, none], [.int (1 : Int32)], μ19)) (cs := []) rfl trivial ?_
        refine gWp_if gT_54 (pc := 97) rfl ⟨fun c => ?_, fun c => ?_⟩
        · replace h := h.1 (of_decide_eq_true c)
          refine gWp_sts gT_54 5 (f' := (114, [some (.ref 38), some (.int x1), some (.int x2), some (.int (gI μ 37 x1.toNatClampNeg)), some (.int (gI μ 37 ((x1 + (1 : Int32)).toNatClampNeg))), some (.int v2), some (.int v4), some (.int (1 : Int32)), some (.int (0 : Int32)), none], [.int x1, .ref 38], μ19)) (cs := []) rfl trivial ?_
          refine gWp_virt gT_54 (pc := 114) (q := 38) (as := [.ref 38, .int x1]) (rest := []) rfl rfl rfl rfl rfl rfl ⟨by decide, Nat.le_of_ble_eq_true rfl, by decide, Nat.le_of_ble_eq_true rfl⟩ (gWp_imp h (fun μ20 r h => ?_))
          obtain ⟨v21, rfl, h⟩ := h
          refine Or.inl ⟨_, rfl, ?_⟩
          show gWp none 54 (117, [some (.ref 38), some (.int x1), some (.int x2), some (.int (gI μ 37 x1.toNatClampNeg)), some (.int (gI μ 37 ((x1 + (1 : Int32)).toNatClampNeg))), some (.int v2), some (.int v4), some (.int (1 : Int32)), some (.int (0 : Int32)), none], [.int v21], μ20) _ P
          refine gWp_sts gT_54 1 (f' := (119, [some (.ref 38), some (.int x1), some (.int x2), some (.int (gI μ 37 x1.toNatClampNeg)), some (.int (gI μ 37 ((x1 + (1 : Int32)).toNatClampNeg))), some (.int v2), some (.int v4), some (.int (1 : Int32)), some (.int (0 : Int32)), some (.int v21)], [], μ20)) (cs := []) rfl trivial ?_
          exact h
        · replace h := h.2 (Classical.not_not.mp (fun q => c (decide_eq_true q)))
          refine gWp_sts gT_54 1 (f' := (101, [some (.ref 38), some (.int x1), some (.int x2), some (.int (gI μ 37 x1.toNatClampNeg)), some (.int (gI μ 37 ((x1 + (1 : Int32)).toNatClampNeg))), some (.int v2), some (.int v4), some (.int (1 : Int32)), none, none], [.int x2], μ19)) (cs := []) rfl trivial ?_
          refine gWp_if gT_54 (pc := 101) rfl ⟨fun c => ?_, fun c => ?_⟩
          · replace h := h.1 (of_decide_eq_true c)
            refine gWp_sts gT_54 4 (f' := (114, [some (.ref 38), some (.int x1), some (.int x2), some (.int (gI μ 37 x1.toNatClampNeg)), some (.int (gI μ 37 ((x1 + (1 : Int32)).toNatClampNeg))), some (.int v2), some (.int v4), some (.int (1 : Int32)), some (.int v2), none], [.int x1, .ref 38], μ19)) (cs := []) rfl trivial ?_
            refine gWp_virt gT_54 (pc := 114) (q := 38) (as := [.ref 38, .int x1]) (rest := []) rfl rfl rfl rfl rfl rfl ⟨by decide, Nat.le_of_ble_eq_true rfl, by decide, Nat.le_of_ble_eq_true rfl⟩ (gWp_imp h (fun μ22 r h => ?_))
            obtain ⟨v23, rfl, h⟩ := h
            refine Or.inl ⟨_, rfl, ?_⟩
            show gWp none 54 (117, [some (.ref 38), some (.int x1), some (.int x2), some (.int (gI μ 37 x1.toNatClampNeg)), some (.int (gI μ 37 ((x1 + (1 : Int32)).toNatClampNeg))), some (.int v2), some (.int v4), some (.int (1 : Int32)), some (.int v2), none], [.int v23], μ22) _ P
            refine gWp_sts gT_54 1 (f' := (119, [some (.ref 38), some (.int x1), some (.int x2), some (.int (gI μ 37 x1.toNatClampNeg)), some (.int (gI μ 37 ((x1 + (1 : Int32)).toNatClampNeg))), some (.int v2), some (.int v4), some (.int (1 : Int32)), some (.int v2), some (.int v23)], [], μ22)) (cs := []) rfl trivial ?_
            exact h
          · replace h := h.2 (Classical.not_not.mp (fun q => c (decide_eq_true q)))
            refine gWp_sts gT_54 5 (f' := (114, [some (.ref 38), some (.int x1), some (.int x2), some (.int (gI μ 37 x1.toNatClampNeg)), some (.int (gI μ 37 ((x1 + (1 : Int32)).toNatClampNeg))), some (.int v2), some (.int v4), some (.int (1 : Int32)), some (.int (0 : Int32)), none], [.int x1, .ref 38], μ19)) (cs := []) rfl trivial ?_
            refine gWp_virt gT_54 (pc := 114) (q := 38) (as := [.ref 38, .int x1]) (rest := []) rfl rfl rfl rfl rfl rfl ⟨by decide, Nat.le_of_ble_eq_true rfl, by decide, Nat.le_of_ble_eq_true rfl⟩ (gWp_imp h (fun μ24 r h => ?_))
            obtain ⟨v25, rfl, h⟩ := h
            refine Or.inl ⟨_, rfl, ?_⟩
            show gWp none 54 (117, [some (.ref 38), some (.int x1), some (.int x2), some (.int (gI μ 37 x1.toNatClampNeg)), some (.int (gI μ 37 ((x1 + (1 : Int32)).toNatClampNeg))), some (.int v2), some (.int v4), some (.int (1 : Int32)), some (.int (0 : Int32)), none], [.int v25], μ24) _ P
            refine gWp_sts gT_54 1 (f' := (119, [some (.ref 38), some (.int x1), some (.int x2), some (.int (gI μ 37 x1.toNatClampNeg)), some (.int (gI μ 37 ((x1 + (1 : Int32)).toNatClampNeg))), some (.int v2), some (.int v4), some (.int (1 : Int32)), some (.int (0 : Int32)), some (.int v25)], [], μ24)) (cs := []) rfl trivial ?_
            exact h
      · replace h := h.2 (fun q => c (decide_eq_true q))
        refine gWp_sts gT_54 4 (f' := (92, [some (.ref 38), some (.int x1), some (.int x2), some (.int (gI μ 37 x1.toNatClampNeg)), some (.int (gI μ 37 ((x1 + (1 : Int32)).toNatClampNeg))), some (.int v2), some (.int v4), some (.int (1 : Int32)), none, none], [.int v4, .int v2, .int x1, .ref 38], μ19)) (cs := []) rfl trivial ?_
        refine gWp_virt gT_54 (pc := 92) (q := 38) (as := [.ref 38, .int x1, .int v2, .int v4]) (rest := []) rfl rfl rfl rfl rfl rfl ⟨by decide, Nat.le_of_ble_eq_true rfl, by decide, Nat.le_of_ble_eq_true rfl⟩ (gWp_imp h (fun μ26 r h => ?_))
        obtain ⟨rfl, h⟩ := h
        refine Or.inl ⟨_, rfl, ?_⟩
        show gWp none 54 (95, [some (.ref 38), some (.int x1), some (.int x2), some (.int (gI μ 37 x1.toNatClampNeg)), some (.int (gI μ 37 ((x1 + (1 : Int32)).toNatClampNeg))), some (.int v2), some (.int v4), some (.int (1 : Int32)), none, none], [], μ26) _ P
        refine gWp_sts gT_54 1 (f' := (97, [some (.ref 38), some (.int x1), some (.int x2), some (.int (gI μ 37 x1.toNatClampNeg)), some (.int (gI μ 37 ((x1 + (1 : Int32)).toNatClampNeg))), some (.int v2), some (.int v4), some (.int (1 : Int32)), none, none], [.int (1 : Int32)], μ26)) (cs := []) rfl trivial ?_
        refine gWp_if gT_54 (pc := 97) rfl ⟨fun c => ?_, fun c => ?_⟩
        · replace h := h.1 (of_decide_eq_true c)
          refine gWp_sts gT_54 5 (f' := (114, [some (.ref 38), some (.int x1), some (.int x2), some (.int (gI μ 37 x1.toNatClampNeg)), some (.int (gI μ 37 ((x1 + (1 : Int32)).toNatClampNeg))), some (.int v2), some (.int v4), some (.int (1 : Int32)), some (.int (0 : Int32)), none], [.int x1, .ref 38], μ26)) (cs := []) rfl trivial ?_
          refine gWp_virt gT_54 (pc := 114) (q := 38) (as := [.ref 38, .int x1]) (rest := []) rfl rfl rfl rfl rfl rfl ⟨by decide, Nat.le_of_ble_eq_true rfl, by decide, Nat.le_of_ble_eq_true rfl⟩ (gWp_imp h (fun μ27 r h => ?_))
          obtain ⟨v28, rfl, h⟩ := h
          refine Or.inl ⟨_, rfl, ?_⟩
          show gWp none 54 (117, [some (.ref 38), some (.int x1), some (.int x2), some (.int (gI μ 37 x1.toNatClampNeg)), some (.int (gI μ 37 ((x1 + (1 : Int32)).toNatClampNeg))), some (.int v2), some (.int v4), some (.int (1 : Int32)), some (.int (0 : Int32)), none], [.int v28], μ27) _ P
          refine gWp_sts gT_54 1 (f' := (119, [some (.ref 38), some (.int x1), some (.int x2), some (.int (gI μ 37 x1.toNatClampNeg)), some (.int (gI μ 37 ((x1 + (1 : Int32)).toNatClampNeg))), some (.int v2), some (.int v4), some (.int (1 : Int32)), some (.int (0 : Int32)), some (.int v28)], [], μ27)) (cs := []) rfl trivial ?_
          exact h
        · replace h := h.2 (Classical.not_not.mp (fun q => c (decide_eq_true q)))
          refine gWp_sts gT_54 1 (f' := (101, [some (.ref 38), some (.int x1), some (.int x2), some (.int (gI μ 37 x1.toNatClampNeg)), some (.int (gI μ 37 ((x1 + (1 : Int32)).toNatClampNeg))), some (.int v2), some (.int v4), some (.int (1 : Int32)), none, none], [.int x2], μ26)) (cs := []) rfl trivial ?_
          refine gWp_if gT_54 (pc := 101) rfl ⟨fun c => ?_, fun c => ?_⟩
          · replace h := h.1 (of_decide_eq_true c)
            refine gWp_sts gT_54 4 (f' := (114, [some (.ref 38), some (.int x1), some (.int x2), some (.int (gI μ 37 x1.toNatClampNeg)), some (.int (gI μ 37 ((x1 + (1 : Int32)).toNatClampNeg))), some (.int v2), some (.int v4), some (.int (1 : Int32)), some (.int v2), none], [.int x1, .ref 38], μ26)) (cs := []) rfl trivial ?_
            refine gWp_virt gT_54 (pc := 114) (q := 38) (as := [.ref 38, .int x1]) (rest := []) rfl rfl rfl rfl rfl rfl ⟨by decide, Nat.le_of_ble_eq_true rfl, by decide, Nat.le_of_ble_eq_true rfl⟩ (gWp_imp h (fun μ29 r h => ?_))
            obtain ⟨v30, rfl, h⟩ := h
            refine Or.inl ⟨_, rfl, ?_⟩
            show gWp none 54 (117, [some (.ref 38), some (.int x1), some (.int x2), some (.int (gI μ 37 x1.toNatClampNeg)), some (.int (gI μ 37 ((x1 + (1 : Int32)).toNatClampNeg))), some (.int v2), some (.int v4), some (.int (1 : Int32)), some (.int v2), none], [.int v30], μ29) _ P
            refine gWp_sts gT_54 1 (f' := (119, [some (.ref 38), some (.int x1), some (.int x2), some (.int (gI μ 37 x1.toNatClampNeg)), some (.int (gI μ 37 ((x1 + (1 : Int32)).toNatClampNeg))), some (.int v2), some (.int v4), some (.int (1 : Int32)), some (.int v2), some (.int v30)], [], μ29)) (cs := []) rfl trivial ?_
            exact h
          · replace h := h.2 (Classical.not_not.mp (fun q => c (decide_eq_true q)))
            refine gWp_sts gT_54 5 (f' := (114, [some (.ref 38), some (.int x1), some (.int x2), some (.int (gI μ 37 x1.toNatClampNeg)), some (.int (gI μ 37 ((x1 + (1 : Int32)).toNatClampNeg))), some (.int v2), some (.int v4), some (.int (1 : Int32)), some (.int (0 : Int32)), none], [.int x1, .ref 38], μ26)) (cs := []) rfl trivial ?_
            refine gWp_virt gT_54 (pc := 114) (q := 38) (as := [.ref 38, .int x1]) (rest := []) rfl rfl rfl rfl rfl rfl ⟨by decide, Nat.le_of_ble_eq_true rfl, by decide, Nat.le_of_ble_eq_true rfl⟩ (gWp_imp h (fun μ31 r h => ?_))
            obtain ⟨v32, rfl, h⟩ := h
            refine Or.inl ⟨_, rfl, ?_⟩
            show gWp none 54 (117, [some (.ref 38), some (.int x1), some (.int x2), some (.int (gI μ 37 x1.toNatClampNeg)), some (.int (gI μ 37 ((x1 + (1 : Int32)).toNatClampNeg))), some (.int v2), some (.int v4), some (.int (1 : Int32)), some (.int (0 : Int32)), none], [.int v32], μ31) _ P
            refine gWp_sts gT_54 1 (f' := (119, [some (.ref 38), some (.int x1), some (.int x2), some (.int (gI μ 37 x1.toNatClampNeg)), some (.int (gI μ 37 ((x1 + (1 : Int32)).toNatClampNeg))), some (.int v2), some (.int v4), some (.int (1 : Int32)), some (.int (0 : Int32)), some (.int v32)], [], μ31)) (cs := []) rfl trivial ?_
            exact h
    · replace h := h.2 (fun q => c (decide_eq_true q))
      refine gWp_sts gT_54 4 (f' := (66, [some (.ref 38), some (.int x1), some (.int x2), some (.int (gI μ 37 x1.toNatClampNeg)), some (.int (gI μ 37 ((x1 + (1 : Int32)).toNatClampNeg))), some (.int v2), some (.int v4), none, none, none], [.int (gI μ3 29 3), .int (gI μ 37 ((x1 + (1 : Int32)).toNatClampNeg))], μ3)) (cs := []) rfl trivial ?_
      refine gWp_icmp gT_54 (pc := 66) rfl ⟨fun c => ?_, fun c => ?_⟩
      · replace h := h.1 (of_decide_eq_true c)
        refine gWp_sts gT_54 4 (f' := (78, [some (.ref 38), some (.int x1), some (.int x2), some (.int (gI μ 37 x1.toNatClampNeg)), some (.int (gI μ 37 ((x1 + (1 : Int32)).toNatClampNeg))), some (.int v2), some (.int v4), some (.int (0 : Int32)), none, none], [.int x1, .ref 38], μ3)) (cs := []) rfl trivial ?_
        refine gWp_virt gT_54 (pc := 78) (q := 38) (as := [.ref 38, .int x1]) (rest := []) rfl rfl rfl rfl rfl rfl ⟨by decide, Nat.le_of_ble_eq_true rfl, by decide, Nat.le_of_ble_eq_true rfl⟩ (gWp_imp h (fun μ33 r h => ?_))
        obtain ⟨rfl, h⟩ := h
        refine Or.inl ⟨_, rfl, ?_⟩
        show gWp none 54 (81, [some (.ref 38), some (.int x1), some (.int x2), some (.int (gI μ 37 x1.toNatClampNeg)), some (.int (gI μ 37 ((x1 + (1 : Int32)).toNatClampNeg))), some (.int v2), some (.int v4), some (.int (0 : Int32)), none, none], [], μ33) _ P
        refine gWp_sts gT_54 1 (f' := (83, [some (.ref 38), some (.int x1), some (.int x2), some (.int (gI μ 37 x1.toNatClampNeg)), some (.int (gI μ 37 ((x1 + (1 : Int32)).toNatClampNeg))), some (.int v2), some (.int v4), some (.int (0 : Int32)), none, none], [.int (0 : Int32)], μ33)) (cs := []) rfl trivial ?_
        refine gWp_if gT_54 (pc := 83) rfl ⟨fun c => ?_, fun c => ?_⟩
        · replace h := h.1 (of_decide_eq_true c)
          refine gWp_sts gT_54 1 (f' := (97, [some (.ref 38), some (.int x1), some (.int x2), some (.int (gI μ 37 x1.toNatClampNeg)), some (.int (gI μ 37 ((x1 + (1 : Int32)).toNatClampNeg))), some (.int v2), some (.int v4), some (.int (0 : Int32)), none, none], [.int (0 : Int32)], μ33)) (cs := []) rfl trivial ?_
          refine gWp_if gT_54 (pc := 97) rfl ⟨fun c => ?_, fun c => ?_⟩
          · replace h := h.1 (of_decide_eq_true c)
            refine gWp_sts gT_54 5 (f' := (114, [some (.ref 38), some (.int x1), some (.int x2), some (.int (gI μ 37 x1.toNatClampNeg)), some (.int (gI μ 37 ((x1 + (1 : Int32)).toNatClampNeg))), some (.int v2), some (.int v4), some (.int (0 : Int32)), some (.int (0 : Int32)), none], [.int x1, .ref 38], μ33)) (cs := []) rfl trivial ?_
            refine gWp_virt gT_54 (pc := 114) (q := 38) (as := [.ref 38, .int x1]) (rest := []) rfl rfl rfl rfl rfl rfl ⟨by decide, Nat.le_of_ble_eq_true rfl, by decide, Nat.le_of_ble_eq_true rfl⟩ (gWp_imp h (fun μ34 r h => ?_))
            obtain ⟨v35, rfl, h⟩ := h
            refine Or.inl ⟨_, rfl, ?_⟩
            show gWp none 54 (117, [some (.ref 38), some (.int x1), some (.int x2), some (.int (gI μ 37 x1.toNatClampNeg)), some (.int (gI μ 37 ((x1 + (1 : Int32)).toNatClampNeg))), some (.int v2), some (.int v4), some (.int (0 : Int32)), some (.int (0 : Int32)), none], [.int v35], μ34) _ P
            refine gWp_sts gT_54 1 (f' := (119, [some (.ref 38), some (.int x1), some (.int x2), some (.int (gI μ 37 x1.toNatClampNeg)), some (.int (gI μ 37 ((x1 + (1 : Int32)).toNatClampNeg))), some (.int v2), some (.int v4), some (.int (0 : Int32)), some (.int (0 : Int32)), some (.int v35)], [], μ34)) (cs := []) rfl trivial ?_
            exact h
          · replace h := h.2 (Classical.not_not.mp (fun q => c (decide_eq_true q)))
            refine gWp_sts gT_54 1 (f' := (101, [some (.ref 38), some (.int x1), some (.int x2), some (.int (gI μ 37 x1.toNatClampNeg)), some (.int (gI μ 37 ((x1 + (1 : Int32)).toNatClampNeg))), some (.int v2), some (.int v4), some (.int (0 : Int32)), none, none], [.int x2], μ33)) (cs := []) rfl trivial ?_
            refine gWp_if gT_54 (pc := 101) rfl ⟨fun c => ?_, fun c => ?_⟩
            · replace h := h.1 (of_decide_eq_true c)
              refine gWp_sts gT_54 4 (f' := (114, [some (.ref 38), some (.int x1), some (.int x2), some (.int (gI μ 37 x1.toNatClampNeg)), some (.int (gI μ 37 ((x1 + (1 : Int32)).toNatClampNeg))), some (.int v2), some (.int v4), some (.int (0 : Int32)), some (.int v2), none], [.int x1, .ref 38], μ33)) (cs := []) rfl trivial ?_
              refine gWp_virt gT_54 (pc := 114) (q := 38) (as := [.ref 38, .int x1]) (rest := []) rfl rfl rfl rfl rfl rfl ⟨by decide, Nat.le_of_ble_eq_true rfl, by decide, Nat.le_of_ble_eq_true rfl⟩ (gWp_imp h (fun μ36 r h => ?_))
              obtain ⟨v37, rfl, h⟩ := h
              refine Or.inl ⟨_, rfl, ?_⟩
              show gWp none 54 (117, [some (.ref 38), some (.int x1), some (.int x2), some (.int (gI μ 37 x1.toNatClampNeg)), some (.int (gI μ 37 ((x1 + (1 : Int32)).toNatClampNeg))), some (.int v2), some (.int v4), some (.int (0 : Int32)), some (.int v2), none], [.int v37], μ36) _ P
              refine gWp_sts gT_54 1 (f' := (119, [some (.ref 38), some (.int x1), some (.int x2), some (.int (gI μ 37 x1.toNatClampNeg)), some (.int (gI μ 37 ((x1 + (1 : Int32)).toNatClampNeg))), some (.int v2), some (.int v4), some (.int (0 : Int32)), some (.int v2), some (.int v37)], [], μ36)) (cs := []) rfl trivial ?_
              exact h
            · replace h := h.2 (Classical.not_not.mp (fun q => c (decide_eq_true q)))
              refine gWp_sts gT_54 5 (f' := (114, [some (.ref 38), some (.int x1), some (.int x2), some (.int (gI μ 37 x1.toNatClampNeg)), some (.int (gI μ 37 ((x1 + (1 : Int32)).toNatClampNeg))), some (.int v2), some (.int v4), some (.int (0 : Int32)), some (.int (0 : Int32)), none], [.int x1, .ref 38], μ33)) (cs := []) rfl trivial ?_
              refine gWp_virt gT_54 (pc := 114) (q := 38) (as := [.ref 38, .int x1]) (rest := []) rfl rfl rfl rfl rfl rfl ⟨by decide, Nat.le_of_ble_eq_true rfl, by decide, Nat.le_of_ble_eq_true rfl⟩ (gWp_imp h (fun μ38 r h => ?_))
              obtain ⟨v39, rfl, h⟩ := h
              refine Or.inl ⟨_, rfl, ?_⟩
              show gWp none 54 (117, [some (.ref 38), some (.int x1), some (.int x2), some (.int (gI μ 37 x1.toNatClampNeg)), some (.int (gI μ 37 ((x1 + (1 : Int32)).toNatClampNeg))), some (.int v2), some (.int v4), some (.int (0 : Int32)), some (.int (0 : Int32)), none], [.int v39], μ38) _ P
              refine gWp_sts gT_54 1 (f' := (119, [some (.ref 38), some (.int x1), some (.int x2), some (.int (gI μ 37 x1.toNatClampNeg)), some (.int (gI μ 37 ((x1 + (1 : Int32)).toNatClampNeg))), some (.int v2), some (.int v4), some (.int (0 : Int32)), some (.int (0 : Int32)), some (.int v39)], [], μ38)) (cs := []) rfl trivial ?_
              exact h
        · replace h := h.2 (fun q => c (decide_eq_true q))
          refine gWp_sts gT_54 4 (f' := (92, [some (.ref 38), some (.int x1), some (.int x2), some (.int (gI μ 37 x1.toNatClampNeg)), some (.int (gI μ 37 ((x1 + (1 : Int32)).toNatClampNeg))), some (.int v2), some (.int v4), some (.int (0 : Int32)), none, none], [.int v4, .int v2, .int x1, .ref 38], μ33)) (cs := []) rfl trivial ?_
          refine gWp_virt gT_54 (pc := 92) (q := 38) (as := [.ref 38, .int x1, .int v2, .int v4]) (rest := []) rfl rfl rfl rfl rfl rfl ⟨by decide, Nat.le_of_ble_eq_true rfl, by decide, Nat.le_of_ble_eq_true rfl⟩ (gWp_imp h (fun μ40 r h => ?_))
          obtain ⟨rfl, h⟩ := h
          refine Or.inl ⟨_, rfl, ?_⟩
          show gWp none 54 (95, [some (.ref 38), some (.int x1), some (.int x2), some (.int (gI μ 37 x1.toNatClampNeg)), some (.int (gI μ 37 ((x1 + (1 : Int32)).toNatClampNeg))), some (.int v2), some (.int v4), some (.int (0 : Int32)), none, none], [], μ40) _ P
          refine gWp_sts gT_54 1 (f' := (97, [some (.ref 38), some (.int x1), some (.int x2), some (.int (gI μ 37 x1.toNatClampNeg)), some (.int (gI μ 37 ((x1 + (1 : Int32)).toNatClampNeg))), some (.int v2), some (.int v4), some (.int (0 : Int32)), none, none], [.int (0 : Int32)], μ40)) (cs := []) rfl trivial ?_
          refine gWp_if gT_54 (pc := 97) rfl ⟨fun c => ?_, fun c => ?_⟩
          · replace h := h.1 (of_decide_eq_true c)
            refine gWp_sts gT_54 5 (f' := (114, [some (.ref 38), some (.int x1), some (.int x2), some (.int (gI μ 37 x1.toNatClampNeg)), some (.int (gI μ 37 ((x1 + (1 : Int32)).toNatClampNeg))), some (.int v2), some (.int v4), some (.int (0 : Int32)), some (.int (0 : Int32)), none], [.int x1, .ref 38], μ40)) (cs := []) rfl trivial ?_
            refine gWp_virt gT_54 (pc := 114) (q := 38) (as := [.ref 38, .int x1]) (rest := []) rfl rfl rfl rfl rfl rfl ⟨by decide, Nat.le_of_ble_eq_true rfl, by decide, Nat.le_of_ble_eq_true rfl⟩ (gWp_imp h (fun μ41 r h => ?_))
            obtain ⟨v42, rfl, h⟩ := h
            refine Or.inl ⟨_, rfl, ?_⟩
            show gWp none 54 (117, [some (.ref 38), some (.int x1), some (.int x2), some (.int (gI μ 37 x1.toNatClampNeg)), some (.int (gI μ 37 ((x1 + (1 : Int32)).toNatClampNeg))), some (.int v2), some (.int v4), some (.int (0 : Int32)), some (.int (0 : Int32)), none], [.int v42], μ41) _ P
            refine gWp_sts gT_54 1 (f' := (119, [some (.ref 38), some (.int x1), some (.int x2), some (.int (gI μ 37 x1.toNatClampNeg)), some (.int (gI μ 37 ((x1 + (1 : Int32)).toNatClampNeg))), some (.int v2), some (.int v4), some (.int (0 : Int32)), some (.int (0 : Int32)), some (.int v42)], [], μ41)) (cs := []) rfl trivial ?_
            exact h
          · replace h := h.2 (Classical.not_not.mp (fun q => c (decide_eq_true q)))
            refine gWp_sts gT_54 1 (f' := (101, [some (.ref 38), some (.int x1), some (.int x2), some (.int (gI μ 37 x1.toNatClampNeg)), some (.int (gI μ 37 ((x1 + (1 : Int32)).toNatClampNeg))), some (.int v2), some (.int v4), some (.int (0 : Int32)), none, none], [.int x2], μ40)) (cs := []) rfl trivial ?_
            refine gWp_if gT_54 (pc := 101) rfl ⟨fun c => ?_, fun c => ?_⟩
            · replace h := h.1 (of_decide_eq_true c)
              refine gWp_sts gT_54 4 (f' := (114, [some (.ref 38), some (.int x1), some (.int x2), some (.int (gI μ 37 x1.toNatClampNeg)), some (.int (gI μ 37 ((x1 + (1 : Int32)).toNatClampNeg))), some (.int v2), some (.int v4), some (.int (0 : Int32)), some (.int v2), none], [.int x1, .ref 38], μ40)) (cs := []) rfl trivial ?_
              refine gWp_virt gT_54 (pc := 114) (q := 38) (as := [.ref 38, .int x1]) (rest := []) rfl rfl rfl rfl rfl rfl ⟨by decide, Nat.le_of_ble_eq_true rfl, by decide, Nat.le_of_ble_eq_true rfl⟩ (gWp_imp h (fun μ43 r h => ?_))
              obtain ⟨v44, rfl, h⟩ := h
              refine Or.inl ⟨_, rfl, ?_⟩
              show gWp none 54 (117, [some (.ref 38), some (.int x1), some (.int x2), some (.int (gI μ 37 x1.toNatClampNeg)), some (.int (gI μ 37 ((x1 + (1 : Int32)).toNatClampNeg))), some (.int v2), some (.int v4), some (.int (0 : Int32)), some (.int v2), none], [.int v44], μ43) _ P
              refine gWp_sts gT_54 1 (f' := (119, [some (.ref 38), some (.int x1), some (.int x2), some (.int (gI μ 37 x1.toNatClampNeg)), some (.int (gI μ 37 ((x1 + (1 : Int32)).toNatClampNeg))), some (.int v2), some (.int v4), some (.int (0 : Int32)), some (.int v2), some (.int v44)], [], μ43)) (cs := []) rfl trivial ?_
              exact h
            · replace h := h.2 (Classical.not_not.mp (fun q => c (decide_eq_true q)))
              refine gWp_sts gT_54 5 (f' := (114, [some (.ref 38), some (.int x1), some (.int x2), some (.int (gI μ 37 x1.toNatClampNeg)), some (.int (gI μ 37 ((x1 + (1 : Int32)).toNatClampNeg))), some (.int v2), some (.int v4), some (.int (0 : Int32)), some (.int (0 : Int32)), none], [.int x1, .ref 38], μ40)) (cs := []) rfl trivial ?_
              refine gWp_virt gT_54 (pc := 114) (q := 38) (as := [.ref 38, .int x1]) (rest := []) rfl rfl rfl rfl rfl rfl ⟨by decide, Nat.le_of_ble_eq_true rfl, by decide, Nat.le_of_ble_eq_true rfl⟩ (gWp_imp h (fun μ45 r h => ?_))
              obtain ⟨v46, rfl, h⟩ := h
              refine Or.inl ⟨_, rfl, ?_⟩
              show gWp none 54 (117, [some (.ref 38), some (.int x1), some (.int x2), some (.int (gI μ 37 x1.toNatClampNeg)), some (.int (gI μ 37 ((x1 + (1 : Int32)).toNatClampNeg))), some (.int v2), some (.int v4), some (.int (0 : Int32)), some (.int (0 : Int32)), none], [.int v46], μ45) _ P
              refine gWp_sts gT_54 1 (f' := (119, [some (.ref 38), some (.int x1), some (.int x2), some (.int (gI μ 37 x1.toNatClampNeg)), some (.int (gI μ 37 ((x1 + (1 : Int32)).toNatClampNeg))), some (.int v2), some (.int v4), some (.int (0 : Int32)), some (.int (0 : Int32)), some (.int v46)], [], μ45)) (cs := []) rfl trivial ?_
              exact h
      · replace h := h.2 (fun q => c (decide_eq_true q))
        refine gWp_sts gT_54 5 (f' := (78, [some (.ref 38), some (.int x1), some (.int x2), some (.int (gI μ 37 x1.toNatClampNeg)), some (.int (gI μ 37 ((x1 + (1 : Int32)).toNatClampNeg))), some (.int v2), some (.int v4), some (.int (1 : Int32)), none, none], [.int x1, .ref 38], μ3)) (cs := []) rfl trivial ?_
        refine gWp_virt gT_54 (pc := 78) (q := 38) (as := [.ref 38, .int x1]) (rest := []) rfl rfl rfl rfl rfl rfl ⟨by decide, Nat.le_of_ble_eq_true rfl, by decide, Nat.le_of_ble_eq_true rfl⟩ (gWp_imp h (fun μ47 r h => ?_))
        obtain ⟨rfl, h⟩ := h
        refine Or.inl ⟨_, rfl, ?_⟩
        show gWp none 54 (81, [some (.ref 38), some (.int x1), some (.int x2), some (.int (gI μ 37 x1.toNatClampNeg)), some (.int (gI μ 37 ((x1 + (1 : Int32)).toNatClampNeg))), some (.int v2), some (.int v4), some (.int (1 : Int32)), none, none], [], μ47) _ P
        refine gWp_sts gT_54 1 (f' := (83, [some (.ref 38), some (.int x1), some (.int x2), some (.int (gI μ 37 x1.toNatClampNeg)), some (.int (gI μ 37 ((x1 + (1 : Int32)).toNatClampNeg))), some (.int v2), some (.int v4), some (.int (1 : Int32)), none, none], [.int (1 : Int32)], μ47)) (cs := []) rfl trivial ?_
        refine gWp_if gT_54 (pc := 83) rfl ⟨fun c => ?_, fun c => ?_⟩
        · replace h := h.1 (of_decide_eq_true c)
          refine gWp_sts gT_54 1 (f' := (97, [some (.ref 38), some (.int x1), some (.int x2), some (.int (gI μ 37 x1.toNatClampNeg)), some (.int (gI μ 37 ((x1 + (1 : Int32)).toNatClampNeg))), some (.int v2), some (.int v4), some (.int (1 : Int32)), none, none], [.int (1 : Int32)], μ47)) (cs := []) rfl trivial ?_
          refine gWp_if gT_54 (pc := 97) rfl ⟨fun c => ?_, fun c => ?_⟩
          · replace h := h.1 (of_decide_eq_true c)
            refine gWp_sts gT_54 5 (f' := (114, [some (.ref 38), some (.int x1), some (.int x2), some (.int (gI μ 37 x1.toNatClampNeg)), some (.int (gI μ 37 ((x1 + (1 : Int32)).toNatClampNeg))), some (.int v2), some (.int v4), some (.int (1 : Int32)), some (.int (0 : Int32)), none], [.int x1, .ref 38], μ47)) (cs := []) rfl trivial ?_
            refine gWp_virt gT_54 (pc := 114) (q := 38) (as := [.ref 38, .int x1]) (rest := []) rfl rfl rfl rfl rfl rfl ⟨by decide, Nat.le_of_ble_eq_true rfl, by decide, Nat.le_of_ble_eq_true rfl⟩ (gWp_imp h (fun μ48 r h => ?_))
            obtain ⟨v49, rfl, h⟩ := h
            refine Or.inl ⟨_, rfl, ?_⟩
            show gWp none 54 (117, [some (.ref 38), some (.int x1), some (.int x2), some (.int (gI μ 37 x1.toNatClampNeg)), some (.int (gI μ 37 ((x1 + (1 : Int32)).toNatClampNeg))), some (.int v2), some (.int v4), some (.int (1 : Int32)), some (.int (0 : Int32)), none], [.int v49], μ48) _ P
            refine gWp_sts gT_54 1 (f' := (119, [some (.ref 38), some (.int x1), some (.int x2), some (.int (gI μ 37 x1.toNatClampNeg)), some (.int (gI μ 37 ((x1 + (1 : Int32)).toNatClampNeg))), some (.int v2), some (.int v4), some (.int (1 : Int32)), some (.int (0 : Int32)), some (.int v49)], [], μ48)) (cs := []) rfl trivial ?_
            exact h
          · replace h := h.2 (Classical.not_not.mp (fun q => c (decide_eq_true q)))
            refine gWp_sts gT_54 1 (f' := (101, [some (.ref 38), some (.int x1), some (.int x2), some (.int (gI μ 37 x1.toNatClampNeg)), some (.int (gI μ 37 ((x1 + (1 : Int32)).toNatClampNeg))), some (.int v2), some (.int v4), some (.int (1 : Int32)), none, none], [.int x2], μ47)) (cs := []) rfl trivial ?_
            refine gWp_if gT_54 (pc := 101) rfl ⟨fun c => ?_, fun c => ?_⟩
            · replace h := h.1 (of_decide_eq_true c)
              refine gWp_sts gT_54 4 (f' := (114, [some (.ref 38), some (.int x1), some (.int x2), some (.int (gI μ 37 x1.toNatClampNeg)), some (.int (gI μ 37 ((x1 + (1 : Int32)).toNatClampNeg))), some (.int v2), some (.int v4), some (.int (1 : Int32)), some (.int v2), none], [.int x1, .ref 38], μ47)) (cs := []) rfl trivial ?_
              refine gWp_virt gT_54 (pc := 114) (q := 38) (as := [.ref 38, .int x1]) (rest := []) rfl rfl rfl rfl rfl rfl ⟨by decide, Nat.le_of_ble_eq_true rfl, by decide, Nat.le_of_ble_eq_true rfl⟩ (gWp_imp h (fun μ50 r h => ?_))
              obtain ⟨v51, rfl, h⟩ := h
              refine Or.inl ⟨_, rfl, ?_⟩
              show gWp none 54 (117, [some (.ref 38), some (.int x1), some (.int x2), some (.int (gI μ 37 x1.toNatClampNeg)), some (.int (gI μ 37 ((x1 + (1 : Int32)).toNatClampNeg))), some (.int v2), some (.int v4), some (.int (1 : Int32)), some (.int v2), none], [.int v51], μ50) _ P
              refine gWp_sts gT_54 1 (f' := (119, [some (.ref 38), some (.int x1), some (.int x2), some (.int (gI μ 37 x1.toNatClampNeg)), some (.int (gI μ 37 ((x1 + (1 : Int32)).toNatClampNeg))), some (.int v2), some (.int v4), some (.int (1 : Int32)), some (.int v2), some (.int v51)], [], μ50)) (cs := []) rfl trivial ?_
              exact h
            · replace h := h.2 (Classical.not_not.mp (fun q => c (decide_eq_true q)))
              refine gWp_sts gT_54 5 (f' := (114, [some (.ref 38), some (.int x1), some (.int x2), some (.int (gI μ 37 x1.toNatClampNeg)), some (.int (gI μ 37 ((x1 + (1 : Int32)).toNatClampNeg))), some (.int v2), some (.int v4), some (.int (1 : Int32)), some (.int (0 : Int32)), none], [.int x1, .ref 38], μ47)) (cs := []) rfl trivial ?_
              refine gWp_virt gT_54 (pc := 114) (q := 38) (as := [.ref 38, .int x1]) (rest := []) rfl rfl rfl rfl rfl rfl ⟨by decide, Nat.le_of_ble_eq_true rfl, by decide, Nat.le_of_ble_eq_true rfl⟩ (gWp_imp h (fun μ52 r h => ?_))
              obtain ⟨v53, rfl, h⟩ := h
              refine Or.inl ⟨_, rfl, ?_⟩
              show gWp none 54 (117, [some (.ref 38), some (.int x1), some (.int x2), some (.int (gI μ 37 x1.toNatClampNeg)), some (.int (gI μ 37 ((x1 + (1 : Int32)).toNatClampNeg))), some (.int v2), some (.int v4), some (.int (1 : Int32)), some (.int (0 : Int32)), none], [.int v53], μ52) _ P
              refine gWp_sts gT_54 1 (f' := (119, [some (.ref 38), some (.int x1), some (.int x2), some (.int (gI μ 37 x1.toNatClampNeg)), some (.int (gI μ 37 ((x1 + (1 : Int32)).toNatClampNeg))), some (.int v2), some (.int v4), some (.int (1 : Int32)), some (.int (0 : Int32)), some (.int v53)], [], μ52)) (cs := []) rfl trivial ?_
              exact h
        · replace h := h.2 (fun q => c (decide_eq_true q))
          refine gWp_sts gT_54 4 (f' := (92, [some (.ref 38), some (.int x1), some (.int x2), some (.int (gI μ 37 x1.toNatClampNeg)), some (.int (gI μ 37 ((x1 + (1 : Int32)).toNatClampNeg))), some (.int v2), some (.int v4), some (.int (1 : Int32)), none, none], [.int v4, .int v2, .int x1, .ref 38], μ47)) (cs := []) rfl trivial ?_
          refine gWp_virt gT_54 (pc := 92) (q := 38) (as := [.ref 38, .int x1, .int v2, .int v4]) (rest := []) rfl rfl rfl rfl rfl rfl ⟨by decide, Nat.le_of_ble_eq_true rfl, by decide, Nat.le_of_ble_eq_true rfl⟩ (gWp_imp h (fun μ54 r h => ?_))
          obtain ⟨rfl, h⟩ := h
          refine Or.inl ⟨_, rfl, ?_⟩
          show gWp none 54 (95, [some (.ref 38), some (.int x1), some (.int x2), some (.int (gI μ 37 x1.toNatClampNeg)), some (.int (gI μ 37 ((x1 + (1 : Int32)).toNatClampNeg))), some (.int v2), some (.int v4), some (.int (1 : Int32)), none, none], [], μ54) _ P
          refine gWp_sts gT_54 1 (f' := (97, [some (.ref 38), some (.int x1), some (.int x2), some (.int (gI μ 37 x1.toNatClampNeg)), some (.int (gI μ 37 ((x1 + (1 : Int32)).toNatClampNeg))), some (.int v2), some (.int v4), some (.int (1 : Int32)), none, none], [.int (1 : Int32)], μ54)) (cs := []) rfl trivial ?_
          refine gWp_if gT_54 (pc := 97) rfl ⟨fun c => ?_, fun c => ?_⟩
          · replace h := h.1 (of_decide_eq_true c)
            refine gWp_sts gT_54 5 (f' := (114, [some (.ref 38), some (.int x1), some (.int x2), some (.int (gI μ 37 x1.toNatClampNeg)), some (.int (gI μ 37 ((x1 + (1 : Int32)).toNatClampNeg))), some (.int v2), some (.int v4), some (.int (1 : Int32)), some (.int (0 : Int32)), none], [.int x1, .ref 38], μ54)) (cs := []) rfl trivial ?_
            refine gWp_virt gT_54 (pc := 114) (q := 38) (as := [.ref 38, .int x1]) (rest := []) rfl rfl rfl rfl rfl rfl ⟨by decide, Nat.le_of_ble_eq_true rfl, by decide, Nat.le_of_ble_eq_true rfl⟩ (gWp_imp h (fun μ55 r h => ?_))
            obtain ⟨v56, rfl, h⟩ := h
            refine Or.inl ⟨_, rfl, ?_⟩
            show gWp none 54 (117, [some (.ref 38), some (.int x1), some (.int x2), some (.int (gI μ 37 x1.toNatClampNeg)), some (.int (gI μ 37 ((x1 + (1 : Int32)).toNatClampNeg))), some (.int v2), some (.int v4), some (.int (1 : Int32)), some (.int (0 : Int32)), none], [.int v56], μ55) _ P
            refine gWp_sts gT_54 1 (f' := (119, [some (.ref 38), some (.int x1), some (.int x2), some (.int (gI μ 37 x1.toNatClampNeg)), some (.int (gI μ 37 ((x1 + (1 : Int32)).toNatClampNeg))), some (.int v2), some (.int v4), some (.int (1 : Int32)), some (.int (0 : Int32)), some (.int v56)], [], μ55)) (cs := []) rfl trivial ?_
            exact h
          · replace h := h.2 (Classical.not_not.mp (fun q => c (decide_eq_true q)))
            refine gWp_sts gT_54 1 (f' := (101, [some (.ref 38), some (.int x1), some (.int x2), some (.int (gI μ 37 x1.toNatClampNeg)), some (.int (gI μ 37 ((x1 + (1 : Int32)).toNatClampNeg))), some (.int v2), some (.int v4), some (.int (1 : Int32)), none, none], [.int x2], μ54)) (cs := []) rfl trivial ?_
            refine gWp_if gT_54 (pc := 101) rfl ⟨fun c => ?_, fun c => ?_⟩
            · replace h := h.1 (of_decide_eq_true c)
              refine gWp_sts gT_54 4 (f' := (114, [some (.ref 38), some (.int x1), some (.int x2), some (.int (gI μ 37 x1.toNatClampNeg)), some (.int (gI μ 37 ((x1 + (1 : Int32)).toNatClampNeg))), some (.int v2), some (.int v4), some (.int (1 : Int32)), some (.int v2), none], [.int x1, .ref 38], μ54)) (cs := []) rfl trivial ?_
              refine gWp_virt gT_54 (pc := 114) (q := 38) (as := [.ref 38, .int x1]) (rest := []) rfl rfl rfl rfl rfl rfl ⟨by decide, Nat.le_of_ble_eq_true rfl, by decide, Nat.le_of_ble_eq_true rfl⟩ (gWp_imp h (fun μ57 r h => ?_))
              obtain ⟨v58, rfl, h⟩ := h
              refine Or.inl ⟨_, rfl, ?_⟩
              show gWp none 54 (117, [some (.ref 38), some (.int x1), some (.int x2), some (.int (gI μ 37 x1.toNatClampNeg)), some (.int (gI μ 37 ((x1 + (1 : Int32)).toNatClampNeg))), some (.int v2), some (.int v4), some (.int (1 : Int32)), some (.int v2), none], [.int v58], μ57) _ P
              refine gWp_sts gT_54 1 (f' := (119, [some (.ref 38), some (.int x1), some (.int x2), some (.int (gI μ 37 x1.toNatClampNeg)), some (.int (gI μ 37 ((x1 + (1 : Int32)).toNatClampNeg))), some (.int v2), some (.int v4), some (.int (1 : Int32)), some (.int v2), some (.int v58)], [], μ57)) (cs := []) rfl trivial ?_
              exact h
            · replace h := h.2 (Classical.not_not.mp (fun q => c (decide_eq_true q)))
              refine gWp_sts gT_54 5 (f' := (114, [some (.ref 38), some (.int x1), some (.int x2), some (.int (gI μ 37 x1.toNatClampNeg)), some (.int (gI μ 37 ((x1 + (1 : Int32)).toNatClampNeg))), some (.int v2), some (.int v4), some (.int (1 : Int32)), some (.int (0 : Int32)), none], [.int x1, .ref 38], μ54)) (cs := []) rfl trivial ?_
              refine gWp_virt gT_54 (pc := 114) (q := 38) (as := [.ref 38, .int x1]) (rest := []) rfl rfl rfl rfl rfl rfl ⟨by decide, Nat.le_of_ble_eq_true rfl, by decide, Nat.le_of_ble_eq_true rfl⟩ (gWp_imp h (fun μ59 r h => ?_))
              obtain ⟨v60, rfl, h⟩ := h
              refine Or.inl ⟨_, rfl, ?_⟩
              show gWp none 54 (117, [some (.ref 38), some (.int x1), some (.int x2), some (.int (gI μ 37 x1.toNatClampNeg)), some (.int (gI μ 37 ((x1 + (1 : Int32)).toNatClampNeg))), some (.int v2), some (.int v4), some (.int (1 : Int32)), some (.int (0 : Int32)), none], [.int v60], μ59) _ P
              refine gWp_sts gT_54 1 (f' := (119, [some (.ref 38), some (.int x1), some (.int x2), some (.int (gI μ 37 x1.toNatClampNeg)), some (.int (gI μ 37 ((x1 + (1 : Int32)).toNatClampNeg))), some (.int v2), some (.int v4), some (.int (1 : Int32)), some (.int (0 : Int32)), some (.int v60)], [], μ59)) (cs := []) rfl trivial ?_
              exact h
/-! Glyphmill$Rows.arrange -/
theorem gT_55 : gCode[55]? = some gC_55 := rfl
set_option maxRecDepth 20000 in
theorem vc_55_27 {μ : gMu} {x1 : Int32} {x2 : Int32} {x3 : Int32} {P : gMu → gRes → Prop} (h : gCl' 51 [.ref 38, .int (x2 + (1 : Int32))] μ (fun μ1 r => (∃ v2, r = .inl (some (.int v2)) ∧ (((v2 ≤ x3) → (gCl' 51 [.ref 38, .int x2] μ1 (fun μ3 r => (∃ v4, r = .inl (some (.int v4)) ∧ (gCl' 47 [.ref 38, .int x2] μ3 (fun μ5 r => (∃ v6, r = .inl (some (.int v6)) ∧ (gCl' 50 [.ref 38, .int v4, .int v6] μ5 (fun μ7 r => (r = .inl none ∧ (gCl' 54 [.ref 38, .int x2, .int x1] μ7 (fun μ8 r => (r = .inl none ∧ (gWp none 55 (10, [some (.ref 38), some (.int x1), some (.int (x2 + (1 : Int32))), some (.int x3)], [], μ8) 0 P)))))))))))))) ∧ ((¬ v2 ≤ x3) → ((vp_in x3 50) ∧ (gWp none 55 (27, [some (.ref 38), some (.int x1), some (.int x2), some (.int (x3 + (1 : Int32)))], [], (gsI μ1 39 x3.toNatClampNeg x2)) 0 P))))))) : gWp none 55 (27, [some (.ref 38), some (.int x1), some (.int x2), some (.int x3)], [], μ) 0 P := by
  refine gWp_sts gT_55 5 (f' := (32, [some (.ref 38), some (.int x1), some (.int x2), some (.int x3)], [.int (x2 + (1 : Int32)), .ref 38, .int x3], μ)) (cs := []) rfl trivial ?_
  refine gWp_virt gT_55 (pc := 32) (q := 38) (as := [.ref 38, .int (x2 + (1 : Int32))]) (rest := [.int x3]) rfl rfl rfl rfl rfl rfl ⟨by decide, Nat.le_of_ble_eq_true rfl, by decide, Nat.le_of_ble_eq_true rfl⟩ (gWp_imp h (fun μ1 r h => ?_))
  obtain ⟨v2, rfl, h⟩ := h
  refine Or.inl ⟨_, rfl, ?_⟩
  show gWp none 55 (35, [some (.ref 38), some (.int x1), some (.int x2), some (.int x3)], [.int v2, .int x3], μ1) _ P
  refine gWp_icmp gT_55 (pc := 35) rfl ⟨fun c => ?_, fun c => ?_⟩
  · replace h := h.1 (of_decide_eq_true c)
    refine gWp_sts gT_55 3 (f' := (54, [some (.ref 38), some (.int x1), some (.int x2), some (.int x3)], [.int x2, .ref 38, .ref 38], μ1)) (cs := []) rfl trivial ?_
    refine gWp_virt gT_55 (pc := 54) (q := 38) (as := [.ref 38, .int x2]) (rest := [.ref 38]) rfl rfl rfl rfl rfl rfl ⟨by decide, Nat.le_of_ble_eq_true rfl, by decide, Nat.le_of_ble_eq_true rfl⟩ (gWp_imp h (fun μ3 r h => ?_))
    obtain ⟨v4, rfl, h⟩ := h
    refine Or.inl ⟨_, rfl, ?_⟩
    show gWp none 55 (57, [some (.ref 38), some (.int x1), some (.int x2), some (.int x3)], [.int v4, .ref 38], μ3) _ P
    refine gWp_sts gT_55 2 (f' := (59, [some (.ref 38), some (.int x1), some (.int x2), some (.int x3)], [.int x2, .ref 38, .int v4, .ref 38], μ3)) (cs := []) rfl trivial ?_
    refine gWp_virt gT_55 (pc := 59) (q := 38) (as := [.ref 38, .int x2]) (rest := [.int v4, .ref 38]) rfl rfl rfl rfl rfl rfl ⟨by decide, Nat.le_of_ble_eq_true rfl, by decide, Nat.le_of_ble_eq_true rfl⟩ (gWp_imp h (fun μ5 r h => ?_))
    obtain ⟨v6, rfl, h⟩ := h
    refine Or.inl ⟨_, rfl, ?_⟩
    show gWp none 55 (62, [some (.ref 38), some (.int x1), some (.int x2), some (.int x3)], [.int v6, .int v4, .ref 38], μ5) _ P
    refine gWp_virt gT_55 (pc := 62) (q := 38) (as := [.ref 38, .int v4, .int v6]) (rest := []) rfl rfl rfl rfl rfl rfl ⟨by decide, Nat.le_of_ble_eq_true rfl, by decide, Nat.le_of_ble_eq_true rfl⟩ (gWp_imp h (fun μ7 r h => ?_))
    obtain ⟨rfl, h⟩ := h
    refine Or.inl ⟨_, rfl, ?_⟩
    show gWp none 55 (65, [some (.ref 38), some (.int x1), some (.int x2), some (.int x3)], [], μ7) _ P
    refine gWp_sts gT_55 3 (f' := (68, [some (.ref 38), some (.int x1), some (.int x2), some (.int x3)], [.int x1, .int x2, .ref 38], μ7)) (cs := []) rfl trivial ?_
    refine gWp_virt gT_55 (pc := 68) (q := 38) (as := [.ref 38, .int x2, .int x1]) (rest := []) rfl rfl rfl rfl rfl rfl ⟨by decide, Nat.le_of_ble_eq_true rfl, by decide, Nat.le_of_ble_eq_true rfl⟩ (gWp_imp h (fun μ8 r h => ?_))
    obtain ⟨rfl, h⟩ := h
    refine Or.inl ⟨_, rfl, ?_⟩
    show gWp none 55 (71, [some (.ref 38), some (.int x1), some (.int x2), some (.int x3)], [], μ8) _ P
    refine gWp_sts gT_55 2 (f' := (10, [some (.ref 38), some (.int x1), some (.int (x2 + (1 : Int32))), some (.int x3)], [], μ8)) (cs := []) rfl trivial ?_
    exact h
  · replace h := h.2 (fun q => c (decide_eq_true q))
    obtain ⟨c1, h⟩ := h
    refine gWp_sts gT_55 7 (f' := (27, [some (.ref 38), some (.int x1), some (.int x2), some (.int (x3 + (1 : Int32)))], [], (gsI μ1 39 x3.toNatClampNeg x2))) (cs := [vp_in x3 50]) rfl c1 ?_
    exact h
set_option maxRecDepth 20000 in
theorem vc_55_10 {μ : gMu} {x1 : Int32} {x2 : Int32} {P : gMu → gRes → Prop} (h : (((gI μ 32 8) ≤ x2) → (P μ (.inl none))) ∧ ((¬ (gI μ 32 8) ≤ x2) → (gCl' 51 [.ref 38, .int x2] μ (fun μ1 r => (∃ v2, r = .inl (some (.int v2)) ∧ (gWp none 55 (27, [some (.ref 38), some (.int x1), some (.int x2), some (.int v2)], [], μ1) 0 P)))))) : gWp none 55 (10, [some (.ref 38), some (.int x1), some (.int x2), none], [], μ) 0 P := by
  refine gWp_sts gT_55 4 (f' := (18, [some (.ref 38), some (.int x1), some (.int x2), none], [.int (gI μ 32 8), .int x2], μ)) (cs := []) rfl trivial ?_
  refine gWp_icmp gT_55 (pc := 18) rfl ⟨fun c => ?_, fun c => ?_⟩
  · replace h := h.1 (of_decide_eq_true c)
    exact gWp_end gT_55 rfl rfl h
  · replace h := h.2 (fun q => c (decide_eq_true q))
    refine gWp_sts gT_55 2 (f' := (23, [some (.ref 38), some (.int x1), some (.int x2), none], [.int x2, .ref 38], μ)) (cs := []) rfl trivial ?_
    refine gWp_virt gT_55 (pc := 23) (q := 38) (as := [.ref 38, .int x2]) (rest := []) rfl rfl rfl rfl rfl rfl ⟨by decide, Nat.le_of_ble_eq_true rfl, by decide, Nat.le_of_ble_eq_true rfl⟩ (gWp_imp h (fun μ1 r h => ?_))
    obtain ⟨v2, rfl, h⟩ := h
    refine Or.inl ⟨_, rfl, ?_⟩
    show gWp none 55 (26, [some (.ref 38), some (.int x1), some (.int x2), none], [.int v2], μ1) _ P
    refine gWp_sts gT_55 1 (f' := (27, [some (.ref 38), some (.int x1), some (.int x2), some (.int v2)], [], μ1)) (cs := []) rfl trivial ?_
    exact h
set_option maxRecDepth 20000 in
theorem vc_55 {μ : gMu} {x1 : Int32} {P : gMu → gRes → Prop} (h : gCl' 0 [.ref 41, .int (-1 : Int32)] μ (fun μ1 r => (r = .inl none ∧ (gWp none 55 (10, [some (.ref 38), some (.int x1), some (.int (0 : Int32)), none], [], μ1) 0 P)))) : gWp none 55 (0, [some (.ref 38), some (.int x1), none, none], [], μ) 0 P := by
  refine gWp_sts gT_55 3 (f' := (5, [some (.ref 38), some (.int x1), none, none], [.int (-1 : Int32), .ref 41], μ)) (cs := []) rfl trivial ?_
  refine gWp_stat gT_55 (pc := 5) (c01 := 0) (as := [.ref 41, .int (-1 : Int32)]) (rest := []) rfl (Or.inl rfl) rfl rfl rfl ⟨by decide, Nat.le_of_ble_eq_true rfl, by decide, Nat.le_of_ble_eq_true rfl⟩ (gWp_imp h (fun μ1 r h => ?_))
  obtain ⟨rfl, h⟩ := h
  refine Or.inl ⟨_, rfl, ?_⟩
  show gWp none 55 (8, [some (.ref 38), some (.int x1), none, none], [], μ1) _ P
  refine gWp_sts gT_55 2 (f' := (10, [some (.ref 38), some (.int x1), some (.int (0 : Int32)), none], [], μ1)) (cs := []) rfl trivial ?_
  exact h
/-! Glyphmill$Runs.letterScript -/
theorem gT_56 : gCode[56]? = some gC_56 := rfl
set_option maxRecDepth 20000 in
theorem vc_56 {μ : gMu} {x0 : Int32} {P : gMu → gRes → Prop} (h : gCl' 21 [.int x0] μ (fun μ1 r => (∃ v2, r = .inl (some (.int v2)) ∧ (((v2 = 0) → ((((109 : Int32) < x0) → (P μ1 (.inl (some (.int (1 : Int32)))))) ∧ ((¬ (109 : Int32) < x0) → (P μ1 (.inl (some (.int (0 : Int32)))))))) ∧ ((¬ v2 = 0) → (P μ1 (.inl (some (.int (2 : Int32)))))))))) : gWp none 56 (0, [some (.int x0)], [], μ) 0 P := by
  refine gWp_sts gT_56 1 (f' := (1, [some (.int x0)], [.int x0], μ)) (cs := []) rfl trivial ?_
  refine gWp_stat gT_56 (pc := 1) (c01 := 1) (as := [.int x0]) (rest := []) rfl (Or.inr rfl) rfl rfl rfl ⟨by decide, Nat.le_of_ble_eq_true rfl, by decide, Nat.le_of_ble_eq_true rfl⟩ (gWp_imp h (fun μ1 r h => ?_))
  obtain ⟨v2, rfl, h⟩ := h
  refine Or.inl ⟨_, rfl, ?_⟩
  show gWp none 56 (4, [some (.int x0)], [.int v2], μ1) _ P
  refine gWp_if gT_56 (pc := 4) rfl ⟨fun c => ?_, fun c => ?_⟩
  · replace h := h.1 (of_decide_eq_true c)
    refine gWp_sts gT_56 2 (f' := (12, [some (.int x0)], [.int (109 : Int32), .int x0], μ1)) (cs := []) rfl trivial ?_
    refine gWp_icmp gT_56 (pc := 12) rfl ⟨fun c => ?_, fun c => ?_⟩
    · replace h := h.1 (of_decide_eq_true c)
      refine gWp_sts gT_56 1 (f' := (20, [some (.int x0)], [.int (1 : Int32)], μ1)) (cs := []) rfl trivial ?_
      exact gWp_end gT_56 rfl (gEnd_int trivial) h
    · replace h := h.2 (fun q => c (decide_eq_true q))
      refine gWp_sts gT_56 2 (f' := (20, [some (.int x0)], [.int (0 : Int32)], μ1)) (cs := []) rfl trivial ?_
      exact gWp_end gT_56 rfl (gEnd_int trivial) h
  · replace h := h.2 (fun q => c (decide_eq_true q))
    refine gWp_sts gT_56 1 (f' := (8, [some (.int x0)], [.int (2 : Int32)], μ1)) (cs := []) rfl trivial ?_
    exact gWp_end gT_56 rfl (gEnd_int trivial) h
/-! Glyphmill$Runs.firstScript -/
theorem gT_57 : gCode[57]? = some gC_57 := rfl
set_option maxRecDepth 20000 in
theorem vc_57_2 {μ : gMu} {x1 : Int32} {P : gMu → gRes → Prop} (h : (((gI μ 9 5) ≤ x1) → (P μ (.inl (some (.int (0 : Int32)))))) ∧ ((¬ (gI μ 9 5) ≤ x1) → ((vp_in x1 50) ∧ (gCl' 22 [.int (gI μ 12 x1.toNatClampNeg)] μ (fun μ1 r => (∃ v2, r = .inl (some (.int v2)) ∧ (((v2 = 0) → (gWp none 57 (2, [some (.ref 18), some (.int (x1 + (1 : Int32)))], [], μ1) 0 P)) ∧ ((¬ v2 = 0) → ((vp_in x1 50) ∧ (gCl' 56 [.int (gI μ1 12 x1.toNatClampNeg)] μ1 (fun μ3 r => (∃ v4, r = .inl (some (.int v4)) ∧ (P μ3 (.inl (some (.int v4)))))))))))))))) : gWp none 57 (2, [some (.ref 18), some (.int x1)], [], μ) 0 P := by
  refine gWp_sts gT_57 4 (f' := (10, [some (.ref 18), some (.int x1)], [.int (gI μ 9 5), .int x1], μ)) (cs := []) rfl trivial ?_
  refine gWp_icmp gT_57 (pc := 10) rfl ⟨fun c => ?_, fun c => ?_⟩
  · replace h := h.1 (of_decide_eq_true c)
    refine gWp_sts gT_57 1 (f' := (48, [some (.ref 18), some (.int x1)], [.int (0 : Int32)], μ)) (cs := []) rfl trivial ?_
    exact gWp_end gT_57 rfl (gEnd_int trivial) h
  · replace h := h.2 (fun q => c (decide_eq_true q))
    obtain ⟨c1, h⟩ := h
    refine gWp_sts gT_57 5 (f' := (22, [some (.ref 18), some (.int x1)], [.int (gI μ 12 x1.toNatClampNeg)], μ)) (cs := [vp_in x1 50]) rfl c1 ?_
    refine gWp_stat gT_57 (pc := 22) (c01 := 1) (as := [.int (gI μ 12 x1.toNatClampNeg)]) (rest := []) rfl (Or.inr rfl) rfl rfl rfl ⟨by decide, Nat.le_of_ble_eq_true rfl, by decide, Nat.le_of_ble_eq_true rfl⟩ (gWp_imp h (fun μ1 r h => ?_))
    obtain ⟨v2, rfl, h⟩ := h
    refine Or.inl ⟨_, rfl, ?_⟩
    show gWp none 57 (25, [some (.ref 18), some (.int x1)], [.int v2], μ1) _ P
    refine gWp_if gT_57 (pc := 25) rfl ⟨fun c => ?_, fun c => ?_⟩
    · replace h := h.1 (of_decide_eq_true c)
      refine gWp_sts gT_57 2 (f' := (2, [some (.ref 18), some (.int (x1 + (1 : Int32)))], [], μ1)) (cs := []) rfl trivial ?_
      exact h
    · replace h := h.2 (fun q => c (decide_eq_true q))
      obtain ⟨c1, h⟩ := h
      refine gWp_sts gT_57 5 (f' := (37, [some (.ref 18), some (.int x1)], [.int (gI μ1 12 x1.toNatClampNeg)], μ1)) (cs := [vp_in x1 50]) rfl c1 ?_
      refine gWp_stat gT_57 (pc := 37) (c01 := 0) (as := [.int (gI μ1 12 x1.toNatClampNeg)]) (rest := []) rfl (Or.inl rfl) rfl rfl rfl ⟨by decide, Nat.le_of_ble_eq_true rfl, by decide, Nat.le_of_ble_eq_true rfl⟩ (gWp_imp h (fun μ3 r h => ?_))
      obtain ⟨v4, rfl, h⟩ := h
      refine Or.inl ⟨_, rfl, ?_⟩
      show gWp none 57 (40, [some (.ref 18), some (.int x1)], [.int v4], μ3) _ P
      exact gWp_end gT_57 rfl (gEnd_int trivial) h
set_option maxRecDepth 20000 in
theorem vc_57 {μ : gMu} {P : gMu → gRes → Prop} (h : gWp none 57 (2, [some (.ref 18), some (.int (0 : Int32))], [], μ) 0 P) : gWp none 57 (0, [some (.ref 18), none], [], μ) 0 P := by
  refine gWp_sts gT_57 2 (f' := (2, [some (.ref 18), some (.int (0 : Int32))], [], μ)) (cs := []) rfl trivial ?_
  exact h
/-! Glyphmill$Runs.divide -/
theorem gT_58 : gCode[58]? = some gC_58 := rfl
set_option maxRecDepth 20000 in
theorem vc_58_12 {μ : gMu} {x1 : Int32} {x2 : Int32} {P : gMu → gRes → Prop} (h : (((gI μ 9 5) ≤ x2) → (P μ (.inl none))) ∧ ((¬ (gI μ 9 5) ≤ x2) → ((vp_in x2 50) ∧ (gCl' 22 [.int (gI μ 12 x2.toNatClampNeg)] μ (fun μ1 r => (∃ v2, r = .inl (some (.int v2)) ∧ (((v2 = 0) → ((vp_in x2 50) ∧ (((x2 = 0) → ((vp_in x2 50) ∧ (gWp none 58 (12, [some (.ref 18), some (.int x1), some (.int (x2 + (1 : Int32)))], [], (gsI (gsI (gsI μ1 19 x2.toNatClampNeg x1) 18 4 ((gI μ1 18 4) + (1 : Int32))) 20 x2.toNatClampNeg (((gI μ1 18 4) + (1 : Int32)) - (1 : Int32)))) 0 P))) ∧ ((¬ x2 = 0) → ((vp_in x2 50) ∧ ((vp_in (x2 - (1 : Int32)) 50) ∧ (((¬ (gI (gsI μ1 19 x2.toNatClampNeg x1) 19 x2.toNatClampNeg) = (gI (gsI μ1 19 x2.toNatClampNeg x1) 19 ((x2 - (1 : Int32)).toNatClampNeg))) → ((vp_in x2 50) ∧ (gWp none 58 (12, [some (.ref 18), some (.int x1), some (.int (x2 + (1 : Int32)))], [], (gsI (gsI (gsI μ1 19 x2.toNatClampNeg x1) 18 4 ((gI μ1 18 4) + (1 : Int32))) 20 x2.toNatClampNeg (((gI μ1 18 4) + (1 : Int32)) - (1 : Int32)))) 0 P))) ∧ (((gI (gsI μ1 19 x2.toNatClampNeg x1) 19 x2.toNatClampNeg) = (gI (gsI μ1 19 x2.toNatClampNeg x1) 19 ((x2 - (1 : Int32)).toNatClampNeg))) → ((vp_in x2 50) ∧ ((vp_in (x2 - (1 : Int32)) 50) ∧ ((((gI μ1 17 x2.toNatClampNeg) = (gI μ1 17 ((x2 - (1 : Int32)).toNatClampNeg))) → ((vp_in x2 50) ∧ (gWp none 58 (12, [some (.ref 18), some (.int x1), some (.int (x2 + (1 : Int32)))], [], (gsI (gsI μ1 19 x2.toNatClampNeg x1) 20 x2.toNatClampNeg ((gI μ1 18 4) - (1 : Int32)))) 0 P))) ∧ ((¬ (gI μ1 17 x2.toNatClampNeg) = (gI μ1 17 ((x2 - (1 : Int32)).toNatClampNeg))) → ((vp_in x2 50) ∧ (gWp none 58 (12, [some (.ref 18), some (.int x1), some (.int (x2 + (1 : Int32)))], [], (gsI (gsI (gsI μ1 19 x2.toNatClampNeg x1) 18 4 ((gI μ1 18 4) + (1 : Int32))) 20 x2.toNatClampNeg (((gI μ1 18 4) + (1 : Int32)) - (1 : Int32)))) 0 P)))))))))))))) ∧ ((¬ v2 = 0) → ((vp_in x2 50) ∧ (gCl' 56 [.int (gI μ1 12 x2.toNatClampNeg)] μ1 (fun μ3 r => (∃ v4, r = .inl (some (.int v4)) ∧ ((vp_in x2 50) ∧ (((x2 = 0) → ((vp_in x2 50) ∧ (gWp none 58 (12, [some (.ref 18), some (.int v4), some (.int (x2 + (1 : Int32)))], [], (gsI (gsI (gsI μ3 19 x2.toNatClampNeg v4) 18 4 ((gI μ3 18 4) + (1 : Int32))) 20 x2.toNatClampNeg (((gI μ3 18 4) + (1 : Int32)) - (1 : Int32)))) 0 P))) ∧ ((¬ x2 = 0) → ((vp_in x2 50) ∧ ((vp_in (x2 - (1 : Int32)) 50) ∧ (((¬ (gI (gsI μ3 19 x2.toNatClampNeg v4) 19 x2.toNatClampNeg) = (gI (gsI μ3 19 x2.toNatClampNeg v4) 19 ((x2 - (1 : Int32)).toNatClampNeg))) → ((vp_in x2 50) ∧ (gWp none 58 (12, [some (.ref 18), some (.int v4), some (.int (x2 + (1 : Int32)))], [], (gsI (gsI (gsI μ3 19 x2.toNatClampNeg v4) 18 4 ((gI μ3 18 4) + (1 : Int32))) 20 x2.toNatClampNeg (((gI μ3 18 4) + (1 : Int32)) - (1 : Int32)))) 0 P))) ∧ (((gI (gsI μ3 19 x2.toNatClampNeg v4) 19 x2.toNatClampNeg) = (gI (gsI μ3 19 x2.toNatClampNeg v4) 19 ((x2 - (1 : Int32)).toNatClampNeg))) → ((vp_in x2 50) ∧ ((vp_in (x2 - (1 : Int32)) 50) ∧ ((((gI μ3 17 x2.toNatClampNeg) = (gI μ3 17 ((x2 - (1 : Int32)).toNatClampNeg))) → ((vp_in x2 50) ∧ (gWp none 58 (12, [some (.ref 18), some (.int v4), some (.int (x2 + (1 : Int32)))], [], (gsI (gsI μ3 19 x2.toNatClampNeg v4) 20 x2.toNatClampNeg ((gI μ3 18 4) - (1 : Int32)))) 0 P))) ∧ ((¬ (gI μ3 17 x2.toNatClampNeg) = (gI μ3 17 ((x2 - (1 : Int32)).toNatClampNeg))) → ((vp_in x2 50) ∧ (gWp none 58 (12, [some (.ref 18), some (.int v4), some (.int (x2 + (1 : Int32)))], [], (gsI (gsI (gsI μ3 19 x2.toNatClampNeg v4) 18 4 ((gI μ3 18 4) + (1 : Int32))) 20 x2.toNatClampNeg (((gI μ3 18 4) + (1 : Int32)) - (1 : Int32)))) 0 P))))))))))))))))))))))))) : gWp none 58 (12, [some (.ref 18), some (.int x1), some (.int x2)], [], μ) 0 P := by
  refine gWp_sts gT_58 4 (f' := (20, [some (.ref 18), some (.int x1), some (.int x2)], [.int (gI μ 9 5), .int x2], μ)) (cs := []) rfl trivial ?_
  refine gWp_icmp gT_58 (pc := 20) rfl ⟨fun c => ?_, fun c => ?_⟩
  · replace h := h.1 (of_decide_eq_true c)
    exact gWp_end gT_58 rfl rfl h
  · replace h := h.2 (fun q => c (decide_eq_true q))
    obtain ⟨c1, h⟩ := h
    refine gWp_sts gT_58 5 (f' := (32, [some (.ref 18), some (.int x1), some (.int x2)], [.int (gI μ 12 x2.toNatClampNeg)], μ)) (cs := [vp_in x2 50]) rfl c1 ?_
    refine gWp_stat gT_58 (pc := 32) (c01 := 1) (as := [.int (gI μ 12 x2.toNatClampNeg)]) (rest := []) rfl (Or.inr rfl) rfl rfl rfl ⟨by decide, Nat.le_of_ble_eq_true rfl, by decide, Nat.le_of_ble_eq_true rfl⟩ (gWp_imp h (fun μ1 r h => ?_))
    obtain ⟨v2, rfl, h⟩ := h
    refine Or.inl ⟨_, rfl, ?_⟩
    show gWp none 58 (35, [some (.ref 18), some (.int x1), some (.int x2)], [.int v2], μ1) _ P
    refine gWp_if gT_58 (pc := 35) rfl ⟨fun c => ?_, fun c => ?_⟩
    · replace h := h.1 (of_decide_eq_true c)
      obtain ⟨c1, h⟩ := h
      refine gWp_sts gT_58 8 (f' := (63, [some (.ref 18), some (.int x1), some (.int x2)], [.int x2], (gsI μ1 19 x2.toNatClampNeg x1))) (cs := [vp_in x2 50]) rfl c1 ?_
      refine gWp_if gT_58 (pc := 63) rfl ⟨fun c => ?_, fun c => ?_⟩
      · replace h := h.1 (of_decide_eq_true c)
        obtain ⟨c1, h⟩ := h
        refine gWp_sts gT_58 16 (f' := (12, [some (.ref 18), some (.int x1), some (.int (x2 + (1 : Int32)))], [], (gsI (gsI (gsI μ1 19 x2.toNatClampNeg x1) 18 4 ((gI μ1 18 4) + (1 : Int32))) 20 x2.toNatClampNeg (((gI μ1 18 4) + (1 : Int32)) - (1 : Int32))))) (cs := [(Value.ref 18 : Value).category = 1, vp_in x2 50]) rfl ⟨rfl, c1⟩ ?_
        exact h
      · replace h := h.2 (fun q => c (decide_eq_true q))
        obtain ⟨c1, c2, h⟩ := h
        refine gWp_sts gT_58 10 (f' := (80, [some (.ref 18), some (.int x1), some (.int x2)], [.int (gI (gsI μ1 19 x2.toNatClampNeg x1) 19 ((x2 - (1 : Int32)).toNatClampNeg)), .int (gI (gsI μ1 19 x2.toNatClampNeg x1) 19 x2.toNatClampNeg)], (gsI μ1 19 x2.toNatClampNeg x1))) (cs := [vp_in x2 50, vp_in (x2 - (1 : Int32)) 50]) rfl ⟨c1, c2⟩ ?_
        refine gWp_icmp gT_58 (pc := 80) rfl ⟨fun c => ?_, fun c => ?_⟩
        · replace h := h.1 (of_decide_eq_true c)
          obtain ⟨c1, h⟩ := h
          refine gWp_sts gT_58 16 (f' := (12, [some (.ref 18), some (.int x1), some (.int (x2 + (1 : Int32)))], [], (gsI (gsI (gsI μ1 19 x2.toNatClampNeg x1) 18 4 ((gI μ1 18 4) + (1 : Int32))) 20 x2.toNatClampNeg (((gI μ1 18 4) + (1 : Int32)) - (1 : Int32))))) (cs := [(Value.ref 18 : Value).category = 1, vp_in x2 50]) rfl ⟨rfl, c1⟩ ?_
          exact h
        · replace h := h.2 (Classical.not_not.mp (fun q => c (decide_eq_true q)))
          obtain ⟨c1, c2, h⟩ := h
          refine gWp_sts gT_58 12 (f' := (103, [some (.ref 18), some (.int x1), some (.int x2)], [.int (gI μ1 17 ((x2 - (1 : Int32)).toNatClampNeg)), .int (gI μ1 17 x2.toNatClampNeg)], (gsI μ1 19 x2.toNatClampNeg x1))) (cs := [vp_in x2 50, vp_in (x2 - (1 : Int32)) 50]) rfl ⟨c1, c2⟩ ?_
          refine gWp_icmp gT_58 (pc := 103) rfl ⟨fun c => ?_, fun c => ?_⟩
          · replace h := h.1 (of_decide_eq_true c)
            obtain ⟨c1, h⟩ := h
            refine gWp_sts gT_58 10 (f' := (12, [some (.ref 18), some (.int x1), some (.int (x2 + (1 : Int32)))], [], (gsI (gsI μ1 19 x2.toNatClampNeg x1) 20 x2.toNatClampNeg ((gI μ1 18 4) - (1 : Int32))))) (cs := [vp_in x2 50]) rfl c1 ?_
            exact h
          · replace h := h.2 (fun q => c (decide_eq_true q))
            obtain ⟨c1, h⟩ := h
            refine gWp_sts gT_58 16 (f' := (12, [some (.ref 18), some (.int x1), some (.int (x2 + (1 : Int32)))], [], (gsI (gsI (gsI μ1 19 x2.toNatClampNeg x1) 18 4 ((gI μ1 18 4) + (1 : Int32))) 20 x2.toNatClampNeg (((gI μ1 18 4) + (1 : Int32)) - (1 : Int32))))) (cs := [(Value.ref 18 : Value).category = 1, vp_in x2 50]) rfl ⟨rfl, c1⟩ ?_
            exact h
    · replace h := h.2 (fun q => c (decide_eq_true q))
      obtain ⟨c1, h⟩ := h
      refine gWp_sts gT_58 5 (f' := (47, [some (.ref 18), some (.int x1), some (.int x2)], [.int (gI μ1 12 x2.toNatClampNeg)], μ1)) (cs := [vp_in x2 50]) rfl c1 ?_
      refine gWp_stat gT_58 (pc := 47) (c01 := 0) (as := [.int (gI μ1 12 x2.toNatClampNeg)]) (rest := []) rfl (Or.inl rfl) rfl rfl rfl ⟨by decide, Nat.le_of_ble_eq_true rfl, by decide, Nat.le_of_ble_eq_true rfl⟩ (gWp_imp h (fun μ3 r h => ?_))
      obtain ⟨v4, rfl, h⟩ := h
      refine Or.inl ⟨_, rfl, ?_⟩
      show gWp none 58 (50, [some (.ref 18), some (.int x1), some (.int x2)], [.int v4], μ3) _ P
      obtain ⟨c1, h⟩ := h
      refine gWp_sts gT_58 8 (f' := (63, [some (.ref 18), some (.int v4), some (.int x2)], [.int x2], (gsI μ3 19 x2.toNatClampNeg v4))) (cs := [vp_in x2 50]) rfl c1 ?_
      refine gWp_if gT_58 (pc := 63) rfl ⟨fun c => ?_, fun c => ?_⟩
      · replace h := h.1 (of_decide_eq_true c)
        obtain ⟨c1, h⟩ := h
        refine gWp_sts gT_58 16 (f' := (12, [some (.ref 18), some (.int v4), some (.int (x2 + (1 : Int32)))], [], (gsI (gsI (gsI μ3 19 x2.toNatClampNeg v4) 18 4 ((gI μ3 18 4) + (1 : Int32))) 20 x2.toNatClampNeg (((gI μ3 18 4) + (1 : Int32)) - (1 : Int32))))) (cs := [(Value.ref 18 : Value).category = 1, vp_in x2 50]) rfl ⟨rfl, c1⟩ ?_
        exact h
      · replace h := h.2 (fun q => c (decide_eq_true q))
        obtain ⟨c1, c2, h⟩ := h
        refine gWp_sts gT_58 10 (f' := (80, [some (.ref 18), some (.int v4), some (.int x2)], [.int (gI (gsI μ3 19 x2.toNatClampNeg v4) 19 ((x2 - (1 : Int32)).toNatClampNeg)), .int (gI (gsI μ3 19 x2.toNatClampNeg v4) 19 x2.toNatClampNeg)], (gsI μ3 19 x2.toNatClampNeg v4))) (cs := [vp_in x2 50, vp_in (x2 - (1 : Int32)) 50]) rfl ⟨c1, c2⟩ ?_
        refine gWp_icmp gT_58 (pc := 80) rfl ⟨fun c => ?_, fun c => ?_⟩
        · replace h := h.1 (of_decide_eq_true c)
          obtain ⟨c1, h⟩ := h
          refine gWp_sts gT_58 16 (f' := (12, [some (.ref 18), some (.int v4), some (.int (x2 + (1 : Int32)))], [], (gsI (gsI (gsI μ3 19 x2.toNatClampNeg v4) 18 4 ((gI μ3 18 4) + (1 : Int32))) 20 x2.toNatClampNeg (((gI μ3 18 4) + (1 : Int32)) - (1 : Int32))))) (cs := [(Value.ref 18 : Value).category = 1, vp_in x2 50]) rfl ⟨rfl, c1⟩ ?_
          exact h
        · replace h := h.2 (Classical.not_not.mp (fun q => c (decide_eq_true q)))
          obtain ⟨c1, c2, h⟩ := h
          refine gWp_sts gT_58 12 (f' := (103, [some (.ref 18), some (.int v4), some (.int x2)], [.int (gI μ3 17 ((x2 - (1 : Int32)).toNatClampNeg)), .int (gI μ3 17 x2.toNatClampNeg)], (gsI μ3 19 x2.toNatClampNeg v4))) (cs := [vp_in x2 50, vp_in (x2 - (1 : Int32)) 50]) rfl ⟨c1, c2⟩ ?_
          refine gWp_icmp gT_58 (pc := 103) rfl ⟨fun c => ?_, fun c => ?_⟩
          · replace h := h.1 (of_decide_eq_true c)
            obtain ⟨c1, h⟩ := h
            refine gWp_sts gT_58 10 (f' := (12, [some (.ref 18), some (.int v4), some (.int (x2 + (1 : Int32)))], [], (gsI (gsI μ3 19 x2.toNatClampNeg v4) 20 x2.toNatClampNeg ((gI μ3 18 4) - (1 : Int32))))) (cs := [vp_in x2 50]) rfl c1 ?_
            exact h
          · replace h := h.2 (fun q => c (decide_eq_true q))
            obtain ⟨c1, h⟩ := h
            refine gWp_sts gT_58 16 (f' := (12, [some (.ref 18), some (.int v4), some (.int (x2 + (1 : Int32)))], [], (gsI (gsI (gsI μ3 19 x2.toNatClampNeg v4) 18 4 ((gI μ3 18 4) + (1 : Int32))) 20 x2.toNatClampNeg (((gI μ3 18 4) + (1 : Int32)) - (1 : Int32))))) (cs := [(Value.ref 18 : Value).category = 1, vp_in x2 50]) rfl ⟨rfl, c1⟩ ?_
            exact h
set_option maxRecDepth 20000 in
theorem vc_58 {μ : gMu} {P : gMu → gRes → Prop} (h : gCl' 57 [.ref 18] μ (fun μ1 r => (∃ v2, r = .inl (some (.int v2)) ∧ (gWp none 58 (12, [some (.ref 18), some (.int v2), some (.int (0 : Int32))], [], (gsI μ1 18 4 (0 : Int32))) 0 P)))) : gWp none 58 (0, [some (.ref 18), none, none], [], μ) 0 P := by
  refine gWp_sts gT_58 1 (f' := (1, [some (.ref 18), none, none], [.ref 18], μ)) (cs := []) rfl trivial ?_
  refine gWp_virt gT_58 (pc := 1) (q := 18) (as := [.ref 18]) (rest := []) rfl rfl rfl rfl rfl rfl ⟨by decide, Nat.le_of_ble_eq_true rfl, by decide, Nat.le_of_ble_eq_true rfl⟩ (gWp_imp h (fun μ1 r h => ?_))
  obtain ⟨v2, rfl, h⟩ := h
  refine Or.inl ⟨_, rfl, ?_⟩
  show gWp none 58 (4, [some (.ref 18), none, none], [.int v2], μ1) _ P
  refine gWp_sts gT_58 6 (f' := (12, [some (.ref 18), some (.int v2), some (.int (0 : Int32))], [], (gsI μ1 18 4 (0 : Int32)))) (cs := []) rfl trivial ?_
  exact h
/-! Glyphmill$Sequence.levelInside -/
theorem gT_59 : gCode[59]? = some gC_59 := rfl
set_option maxRecDepth 20000 in
theorem vc_59 {μ : gMu} {x0 : Int32} {x1 : Int32} {P : gMu → gRes → Prop} (h : gCl' 13 [.int (x0 + (1 : Int32))] μ (fun μ1 r => (∃ v2, r = .inl (some (.int v2)) ∧ (((¬ v2 = x1) → (P μ1 (.inl (some (.int (x0 + (2 : Int32))))))) ∧ ((v2 = x1) → (P μ1 (.inl (some (.int (x0 + (1 : Int32))))))))))) : gWp none 59 (0, [some (.int x0), some (.int x1)], [], μ) 0 P := by
  refine gWp_sts gT_59 3 (f' := (3, [some (.int x0), some (.int x1)], [.int (x0 + (1 : Int32))], μ)) (cs := []) rfl trivial ?_
  refine gWp_stat gT_59 (pc := 3) (c01 := 1) (as := [.int (x0 + (1 : Int32))]) (rest := []) rfl (Or.inr rfl) rfl rfl rfl ⟨by decide, Nat.le_of_ble_eq_true rfl, by decide, Nat.le_of_ble_eq_true rfl⟩ (gWp_imp h (fun μ1 r h => ?_))
  obtain ⟨v2, rfl, h⟩ := h
  refine Or.inl ⟨_, rfl, ?_⟩
  show gWp none 59 (6, [some (.int x0), some (.int x1)], [.int v2], μ1) _ P
  refine gWp_sts gT_59 1 (f' := (7, [some (.int x0), some (.int x1)], [.int x1, .int v2], μ1)) (cs := []) rfl trivial ?_
  refine gWp_icmp gT_59 (pc := 7) rfl ⟨fun c => ?_, fun c => ?_⟩
  · replace h := h.1 (of_decide_eq_true c)
    refine gWp_sts gT_59 3 (f' := (19, [some (.int x0), some (.int x1)], [.int (x0 + (2 : Int32))], μ1)) (cs := []) rfl trivial ?_
    exact gWp_end gT_59 rfl (gEnd_int trivial) h
  · replace h := h.2 (Classical.not_not.mp (fun q => c (decide_eq_true q)))
    refine gWp_sts gT_59 4 (f' := (19, [some (.int x0), some (.int x1)], [.int (x0 + (1 : Int32))], μ1)) (cs := []) rfl trivial ?_
    exact gWp_end gT_59 rfl (gEnd_int trivial) h
