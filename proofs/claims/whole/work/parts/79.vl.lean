/-! WHAT THE LAW OWES: from the head of its loop, at its switch, from each of its cases; written by wip/whole/law.py -/
theorem gT_230 : gCode[230]? = some gC_230 := rfl
def gTg (v : Nat) : Nat := match v with
  | 0 => 212
  | 1 => 270
  | 2 => 314
  | 3 => 384
  | 4 => 440
  | 5 => 481
  | 6 => 563
  | 7 => 576
  | 8 => 632
  | 9 => 645
  | 10 => 701
  | 11 => 757
  | 12 => 813
  | 13 => 869
  | 14 => 882
  | 15 => 938
  | 16 => 994
  | 17 => 1007
  | 18 => 1020
  | 19 => 1076
  | 20 => 1089
  | 21 => 1102
  | 22 => 1146
  | 23 => 1190
  | 24 => 1246
  | 25 => 1302
  | 26 => 1358
  | 27 => 1414
  | 28 => 1457
  | 29 => 1500
  | 30 => 1544
  | 31 => 1600
  | 32 => 1668
  | 33 => 1724
  | 34 => 1780
  | 35 => 1836
  | 36 => 1892
  | 37 => 1958
  | _ => 2023
theorem gTg_ok (scr : gScr) (l : gL) (st : List Value) (μ : gMu) : ∀ v, v < 64 → ∃ o : Int, gSts gC_230 scr 1 (44, l, .int (nI v) :: st, μ) = some ((gTg v, l, st, μ), [0 ≤ ((44 : Nat) : Int) + o]) ∧ 0 ≤ ((44 : Nat) : Int) + o
  | 0, _ => ⟨168, rfl, by decide⟩
  | 1, _ => ⟨226, rfl, by decide⟩
  | 2, _ => ⟨270, rfl, by decide⟩
  | 3, _ => ⟨340, rfl, by decide⟩
  | 4, _ => ⟨396, rfl, by decide⟩
  | 5, _ => ⟨437, rfl, by decide⟩
  | 6, _ => ⟨519, rfl, by decide⟩
  | 7, _ => ⟨532, rfl, by decide⟩
  | 8, _ => ⟨588, rfl, by decide⟩
  | 9, _ => ⟨601, rfl, by decide⟩
  | 10, _ => ⟨657, rfl, by decide⟩
  | 11, _ => ⟨713, rfl, by decide⟩
  | 12, _ => ⟨769, rfl, by decide⟩
  | 13, _ => ⟨825, rfl, by decide⟩
  | 14, _ => ⟨838, rfl, by decide⟩
  | 15, _ => ⟨894, rfl, by decide⟩
  | 16, _ => ⟨950, rfl, by decide⟩
  | 17, _ => ⟨963, rfl, by decide⟩
  | 18, _ => ⟨976, rfl, by decide⟩
  | 19, _ => ⟨1032, rfl, by decide⟩
  | 20, _ => ⟨1045, rfl, by decide⟩
  | 21, _ => ⟨1058, rfl, by decide⟩
  | 22, _ => ⟨1102, rfl, by decide⟩
  | 23, _ => ⟨1146, rfl, by decide⟩
  | 24, _ => ⟨1202, rfl, by decide⟩
  | 25, _ => ⟨1258, rfl, by decide⟩
  | 26, _ => ⟨1314, rfl, by decide⟩
  | 27, _ => ⟨1370, rfl, by decide⟩
  | 28, _ => ⟨1413, rfl, by decide⟩
  | 29, _ => ⟨1456, rfl, by decide⟩
  | 30, _ => ⟨1500, rfl, by decide⟩
  | 31, _ => ⟨1556, rfl, by decide⟩
  | 32, _ => ⟨1624, rfl, by decide⟩
  | 33, _ => ⟨1680, rfl, by decide⟩
  | 34, _ => ⟨1736, rfl, by decide⟩
  | 35, _ => ⟨1792, rfl, by decide⟩
  | 36, _ => ⟨1848, rfl, by decide⟩
  | 37, _ => ⟨1914, rfl, by decide⟩
  | 38, _ => ⟨1979, rfl, by decide⟩
  | 39, _ => ⟨1979, rfl, by decide⟩
  | 40, _ => ⟨1979, rfl, by decide⟩
  | 41, _ => ⟨1979, rfl, by decide⟩
  | 42, _ => ⟨1979, rfl, by decide⟩
  | 43, _ => ⟨1979, rfl, by decide⟩
  | 44, _ => ⟨1979, rfl, by decide⟩
  | 45, _ => ⟨1979, rfl, by decide⟩
  | 46, _ => ⟨1979, rfl, by decide⟩
  | 47, _ => ⟨1979, rfl, by decide⟩
  | 48, _ => ⟨1979, rfl, by decide⟩
  | 49, _ => ⟨1979, rfl, by decide⟩
  | 50, _ => ⟨1979, rfl, by decide⟩
  | 51, _ => ⟨1979, rfl, by decide⟩
  | 52, _ => ⟨1979, rfl, by decide⟩
  | 53, _ => ⟨1979, rfl, by decide⟩
  | 54, _ => ⟨1979, rfl, by decide⟩
  | 55, _ => ⟨1979, rfl, by decide⟩
  | 56, _ => ⟨1979, rfl, by decide⟩
  | 57, _ => ⟨1979, rfl, by decide⟩
  | 58, _ => ⟨1979, rfl, by decide⟩
  | 59, _ => ⟨1979, rfl, by decide⟩
  | 60, _ => ⟨1979, rfl, by decide⟩
  | 61, _ => ⟨1979, rfl, by decide⟩
  | 62, _ => ⟨1979, rfl, by decide⟩
  | 63, _ => ⟨1979, rfl, by decide⟩
  | v + 64, h => absurd h (by omega)
theorem gWp_tsw {SL : Nat} {xs : Nat → Int32} {l : gL} {μ : gMu} {cnt v : Nat} {P : gMu → gRes → Prop} (hv : v < 64) (h : gWp (some (SL, xs)) 230 (gTg v, l, [], μ) cnt P) : gWp (some (SL, xs)) 230 (44, l, [.int (nI v)], μ) cnt P := by
  obtain ⟨o, h1, h2⟩ := gTg_ok (some (SL, xs)) l [] μ v hv
  exact gWp_sts gT_230 1 h1 h2 h
set_option maxRecDepth 20000 in
theorem vl_28 {SL cnt : Nat} {xs : Nat → Int32} {μ : gMu} {x5 : Int32} {P : gMu → gRes → Prop} (h : ((((Int32.ofNat SL) - (4 : Int32)) < x5) → (P μ (.inl (some (.int (1 : Int32)))))) ∧ ((¬ ((Int32.ofNat SL) - (4 : Int32)) < x5) → ((vp_in x5 SL) ∧ (gWp (some (SL, xs)) 230 (44, [some (.ref 1000), some (.ref 0), some (.ref 1), some (.ref 64), some (.ref 65), some (.int x5), none, none, none], [.int ((xs (x5).toNatClampNeg) &&& (63 : Int32))], μ) cnt P)))) : gWp (some (SL, xs)) 230 (28, [some (.ref 1000), some (.ref 0), some (.ref 1), some (.ref 64), some (.ref 65), some (.int x5), none, none, none], [], μ) cnt P := by
  refine gWp_sts gT_230 5 (f' := (34, [some (.ref 1000), some (.ref 0), some (.ref 1), some (.ref 64), some (.ref 65), some (.int x5), none, none, none], [.int ((Int32.ofNat SL) - (4 : Int32)), .int x5], μ)) (cs := []) rfl trivial ?_
  refine gWp_icmp gT_230 (pc := 34) rfl ⟨fun c => ?_, fun c => ?_⟩
  · replace h := h.1 (of_decide_eq_true c)
    refine gWp_sts gT_230 1 (f' := (2030, [some (.ref 1000), some (.ref 0), some (.ref 1), some (.ref 64), some (.ref 65), some (.int x5), none, none, none], [.int (1 : Int32)], μ)) (cs := []) rfl trivial ?_
    exact gWp_end gT_230 rfl (gEnd_int (show narrow .boolean (.int (1 : Int32)) = .int (1 : Int32) by decide)) h
  · replace h := h.2 (fun q => c (decide_eq_true q))
    obtain ⟨c1, h⟩ := h
    refine gWp_sts gT_230 5 (f' := (44, [some (.ref 1000), some (.ref 0), some (.ref 1), some (.ref 64), some (.ref 65), some (.int x5), none, none, none], [.int ((xs (x5).toNatClampNeg) &&& (63 : Int32))], μ)) (cs := [vp_in x5 SL]) rfl c1 ?_
    exact h
set_option maxRecDepth 20000 in
theorem vl_212 {SL cnt : Nat} {xs : Nat → Int32} {μ : gMu} {x5 : Int32} {P : gMu → gRes → Prop} (hcnt : cnt + 5 ≤ 2560) (h : (vp_in (x5 + (1 : Int32)) SL) ∧ (gCl' 75 [.ref 0, .int (((xs (x5 + (1 : Int32)).toNatClampNeg).toUInt32 % 65536).toInt32), .ref 64] μ (fun μ1 r => (∃ v2, r = .inl (some (.int v2)) ∧ ((vp_in (x5 + (1 : Int32)) SL) ∧ (gCl' 162 [.ref 1, .int (((xs (x5 + (1 : Int32)).toNatClampNeg).toUInt32 % 65536).toInt32)] μ1 (fun μ3 r => (∃ v4, r = .inl (some (.int v4)) ∧ (gCl' 152 [.ref 1] μ3 (fun μ5 r => (∃ v6, r = .inl (some (.int v6)) ∧ (((v6 = v2) → (((¬ v2 = 0) → (gWp (some (SL, xs)) 230 (2023, [some (.ref 1000), some (.ref 0), some (.ref 1), some (.ref 64), some (.ref 65), some (.int x5), some (.int v2), some (.int v4), none], [], μ5) (cnt + 1) P)) ∧ ((v2 = 0) → ((vp_in (0 : Int32) 1) ∧ ((((lg_cmp (gJ μ5 64 ((0 : Int32).toNatClampNeg)) v4.toInt64) = 0) → (gWp (some (SL, xs)) 230 (2023, [some (.ref 1000), some (.ref 0), some (.ref 1), some (.ref 64), some (.ref 65), some (.int x5), some (.int v2), some (.int v4), none], [], μ5) (cnt + 1) P)) ∧ ((¬ (lg_cmp (gJ μ5 64 ((0 : Int32).toNatClampNeg)) v4.toInt64) = 0) → (P μ5 (.inl (some (.int (0 : Int32))))))))))) ∧ ((¬ v6 = v2) → (P μ5 (.inl (some (.int (0 : Int32))))))))))))))) ∨ (∃ y, r = .inr y ∧ P μ1 (.inr y))))) : gWp (some (SL, xs)) 230 (212, [some (.ref 1000), some (.ref 0), some (.ref 1), some (.ref 64), some (.ref 65), some (.int x5), none, none, none], [], μ) cnt P := by
  obtain ⟨c1, h⟩ := h
  refine gWp_sts gT_230 8 (f' := (221, [some (.ref 1000), some (.ref 0), some (.ref 1), some (.ref 64), some (.ref 65), some (.int x5), none, none, none], [.ref 64, .int (((xs (x5 + (1 : Int32)).toNatClampNeg).toUInt32 % 65536).toInt32), .ref 0], μ)) (cs := [vp_in (x5 + (1 : Int32)) SL]) rfl c1 ?_
  refine gWp_stat gT_230 (pc := 221) (c01 := 0) (as := [.ref 0, .int (((xs (x5 + (1 : Int32)).toNatClampNeg).toUInt32 % 65536).toInt32), .ref 64]) (rest := []) rfl (Or.inl rfl) rfl rfl rfl ⟨by have := hcnt; show cnt + 1 ≤ 2560; omega, Nat.le_of_ble_eq_true rfl, by decide, Nat.le_of_ble_eq_true rfl⟩ (gWp_imp h (fun μ1 r h => ?_))
  rcases h with h | h
  · obtain ⟨v2, rfl, h⟩ := h
    refine Or.inl ⟨_, rfl, ?_⟩
    show gWp (some (SL, xs)) 230 (224, [some (.ref 1000), some (.ref 0), some (.ref 1), some (.ref 64), some (.ref 65), some (.int x5), none, none, none], [.int v2], μ1) _ P
    obtain ⟨c1, h⟩ := h
    refine gWp_sts gT_230 8 (f' := (234, [some (.ref 1000), some (.ref 0), some (.ref 1), some (.ref 64), some (.ref 65), some (.int x5), some (.int v2), none, none], [.int (((xs (x5 + (1 : Int32)).toNatClampNeg).toUInt32 % 65536).toInt32), .ref 1], μ1)) (cs := [vp_in (x5 + (1 : Int32)) SL]) rfl c1 ?_
    refine gWp_virt gT_230 (pc := 234) (q := 1) (as := [.ref 1, .int (((xs (x5 + (1 : Int32)).toNatClampNeg).toUInt32 % 65536).toInt32)]) (rest := []) rfl rfl rfl rfl rfl rfl ⟨by have := hcnt; show (cnt + 1) + 0 ≤ 2560; omega, Nat.le_of_ble_eq_true rfl, by decide, Nat.le_of_ble_eq_true rfl⟩ (gWp_imp h (fun μ3 r h => ?_))
    obtain ⟨v4, rfl, h⟩ := h
    refine Or.inl ⟨_, rfl, ?_⟩
    show gWp (some (SL, xs)) 230 (237, [some (.ref 1000), some (.ref 0), some (.ref 1), some (.ref 64), some (.ref 65), some (.int x5), some (.int v2), none, none], [.int v4], μ3) _ P
    refine gWp_sts gT_230 2 (f' := (240, [some (.ref 1000), some (.ref 0), some (.ref 1), some (.ref 64), some (.ref 65), some (.int x5), some (.int v2), some (.int v4), none], [.ref 1], μ3)) (cs := []) rfl trivial ?_
    refine gWp_virt gT_230 (pc := 240) (q := 1) (as := [.ref 1]) (rest := []) rfl rfl rfl rfl rfl rfl ⟨by have := hcnt; show (cnt + 1) + 0 ≤ 2560; omega, Nat.le_of_ble_eq_true rfl, by decide, Nat.le_of_ble_eq_true rfl⟩ (gWp_imp h (fun μ5 r h => ?_))
    obtain ⟨v6, rfl, h⟩ := h
    refine Or.inl ⟨_, rfl, ?_⟩
    show gWp (some (SL, xs)) 230 (243, [some (.ref 1000), some (.ref 0), some (.ref 1), some (.ref 64), some (.ref 65), some (.int x5), some (.int v2), some (.int v4), none], [.int v6], μ5) _ P
    refine gWp_sts gT_230 1 (f' := (245, [some (.ref 1000), some (.ref 0), some (.ref 1), some (.ref 64), some (.ref 65), some (.int x5), some (.int v2), some (.int v4), none], [.int v2, .int v6], μ5)) (cs := []) rfl trivial ?_
    refine gWp_icmp gT_230 (pc := 245) rfl ⟨fun c => ?_, fun c => ?_⟩
    · replace h := h.1 (of_decide_eq_true c)
      refine gWp_sts gT_230 1 (f' := (252, [some (.ref 1000), some (.ref 0), some (.ref 1), some (.ref 64), some (.ref 65), some (.int x5), some (.int v2), some (.int v4), none], [.int v2], μ5)) (cs := []) rfl trivial ?_
      refine gWp_if gT_230 (pc := 252) rfl ⟨fun c => ?_, fun c => ?_⟩
      · replace h := h.1 (of_decide_eq_true c)
        refine gWp_sts gT_230 1 (f' := (2023, [some (.ref 1000), some (.ref 0), some (.ref 1), some (.ref 64), some (.ref 65), some (.int x5), some (.int v2), some (.int v4), none], [], μ5)) (cs := []) rfl trivial ?_
        exact h
      · replace h := h.2 (Classical.not_not.mp (fun q => c (decide_eq_true q)))
        obtain ⟨c1, h⟩ := h
        refine gWp_sts gT_230 6 (f' := (262, [some (.ref 1000), some (.ref 0), some (.ref 1), some (.ref 64), some (.ref 65), some (.int x5), some (.int v2), some (.int v4), none], [.int (lg_cmp (gJ μ5 64 ((0 : Int32).toNatClampNeg)) v4.toInt64)], μ5)) (cs := [vp_in (0 : Int32) 1]) rfl c1 ?_
        refine gWp_if gT_230 (pc := 262) rfl ⟨fun c => ?_, fun c => ?_⟩
        · replace h := h.1 (of_decide_eq_true c)
          refine gWp_sts gT_230 1 (f' := (2023, [some (.ref 1000), some (.ref 0), some (.ref 1), some (.ref 64), some (.ref 65), some (.int x5), some (.int v2), some (.int v4), none], [], μ5)) (cs := []) rfl trivial ?_
          exact h
        · replace h := h.2 (fun q => c (decide_eq_true q))
          refine gWp_sts gT_230 1 (f' := (266, [some (.ref 1000), some (.ref 0), some (.ref 1), some (.ref 64), some (.ref 65), some (.int x5), some (.int v2), some (.int v4), none], [.int (0 : Int32)], μ5)) (cs := []) rfl trivial ?_
          exact gWp_end gT_230 rfl (gEnd_int (show narrow .boolean (.int (0 : Int32)) = .int (0 : Int32) by decide)) h
    · replace h := h.2 (fun q => c (decide_eq_true q))
      refine gWp_sts gT_230 1 (f' := (249, [some (.ref 1000), some (.ref 0), some (.ref 1), some (.ref 64), some (.ref 65), some (.int x5), some (.int v2), some (.int v4), none], [.int (0 : Int32)], μ5)) (cs := []) rfl trivial ?_
      exact gWp_end gT_230 rfl (gEnd_int (show narrow .boolean (.int (0 : Int32)) = .int (0 : Int32) by decide)) h
  · obtain ⟨y, rfl, h⟩ := h
    exact Or.inr (Or.inl ⟨y, rfl, rfl, h⟩)
set_option maxRecDepth 20000 in
theorem vl_270 {SL cnt : Nat} {xs : Nat → Int32} {μ : gMu} {x5 : Int32} {P : gMu → gRes → Prop} (hcnt : cnt + 5 ≤ 2560) (h : gCl' 78 [.ref 0, .ref 64] μ (fun μ1 r => (∃ v2, r = .inl (some (.int v2)) ∧ (gCl' 163 [.ref 1] μ1 (fun μ3 r => (∃ v4, r = .inl (some (.int v4)) ∧ (gCl' 152 [.ref 1] μ3 (fun μ5 r => (∃ v6, r = .inl (some (.int v6)) ∧ (((v6 = v2) → (((¬ v2 = 0) → (gWp (some (SL, xs)) 230 (2023, [some (.ref 1000), some (.ref 0), some (.ref 1), some (.ref 64), some (.ref 65), some (.int x5), some (.int v2), some (.int v4), none], [], μ5) (cnt + 1) P)) ∧ ((v2 = 0) → ((vp_in (0 : Int32) 1) ∧ ((((lg_cmp (gJ μ5 64 ((0 : Int32).toNatClampNeg)) v4.toInt64) = 0) → (gWp (some (SL, xs)) 230 (2023, [some (.ref 1000), some (.ref 0), some (.ref 1), some (.ref 64), some (.ref 65), some (.int x5), some (.int v2), some (.int v4), none], [], μ5) (cnt + 1) P)) ∧ ((¬ (lg_cmp (gJ μ5 64 ((0 : Int32).toNatClampNeg)) v4.toInt64) = 0) → (P μ5 (.inl (some (.int (0 : Int32))))))))))) ∧ ((¬ v6 = v2) → (P μ5 (.inl (some (.int (0 : Int32)))))))))))))) ∨ (∃ y, r = .inr y ∧ P μ1 (.inr y)))) : gWp (some (SL, xs)) 230 (270, [some (.ref 1000), some (.ref 0), some (.ref 1), some (.ref 64), some (.ref 65), some (.int x5), none, none, none], [], μ) cnt P := by
  refine gWp_sts gT_230 2 (f' := (272, [some (.ref 1000), some (.ref 0), some (.ref 1), some (.ref 64), some (.ref 65), some (.int x5), none, none, none], [.ref 64, .ref 0], μ)) (cs := []) rfl trivial ?_
  refine gWp_stat gT_230 (pc := 272) (c01 := 0) (as := [.ref 0, .ref 64]) (rest := []) rfl (Or.inl rfl) rfl rfl rfl ⟨by have := hcnt; show cnt + 1 ≤ 2560; omega, Nat.le_of_ble_eq_true rfl, by decide, Nat.le_of_ble_eq_true rfl⟩ (gWp_imp h (fun μ1 r h => ?_))
  rcases h with h | h
  · obtain ⟨v2, rfl, h⟩ := h
    refine Or.inl ⟨_, rfl, ?_⟩
    show gWp (some (SL, xs)) 230 (275, [some (.ref 1000), some (.ref 0), some (.ref 1), some (.ref 64), some (.ref 65), some (.int x5), none, none, none], [.int v2], μ1) _ P
    refine gWp_sts gT_230 2 (f' := (278, [some (.ref 1000), some (.ref 0), some (.ref 1), some (.ref 64), some (.ref 65), some (.int x5), some (.int v2), none, none], [.ref 1], μ1)) (cs := []) rfl trivial ?_
    refine gWp_virt gT_230 (pc := 278) (q := 1) (as := [.ref 1]) (rest := []) rfl rfl rfl rfl rfl rfl ⟨by have := hcnt; show (cnt + 1) + 0 ≤ 2560; omega, Nat.le_of_ble_eq_true rfl, by decide, Nat.le_of_ble_eq_true rfl⟩ (gWp_imp h (fun μ3 r h => ?_))
    obtain ⟨v4, rfl, h⟩ := h
    refine Or.inl ⟨_, rfl, ?_⟩
    show gWp (some (SL, xs)) 230 (281, [some (.ref 1000), some (.ref 0), some (.ref 1), some (.ref 64), some (.ref 65), some (.int x5), some (.int v2), none, none], [.int v4], μ3) _ P
    refine gWp_sts gT_230 2 (f' := (284, [some (.ref 1000), some (.ref 0), some (.ref 1), some (.ref 64), some (.ref 65), some (.int x5), some (.int v2), some (.int v4), none], [.ref 1], μ3)) (cs := []) rfl trivial ?_
    refine gWp_virt gT_230 (pc := 284) (q := 1) (as := [.ref 1]) (rest := []) rfl rfl rfl rfl rfl rfl ⟨by have := hcnt; show (cnt + 1) + 0 ≤ 2560; omega, Nat.le_of_ble_eq_true rfl, by decide, Nat.le_of_ble_eq_true rfl⟩ (gWp_imp h (fun μ5 r h => ?_))
    obtain ⟨v6, rfl, h⟩ := h
    refine Or.inl ⟨_, rfl, ?_⟩
    show gWp (some (SL, xs)) 230 (287, [some (.ref 1000), some (.ref 0), some (.ref 1), some (.ref 64), some (.ref 65), some (.int x5), some (.int v2), some (.int v4), none], [.int v6], μ5) _ P
    refine gWp_sts gT_230 1 (f' := (289, [some (.ref 1000), some (.ref 0), some (.ref 1), some (.ref 64), some (.ref 65), some (.int x5), some (.int v2), some (.int v4), none], [.int v2, .int v6], μ5)) (cs := []) rfl trivial ?_
    refine gWp_icmp gT_230 (pc := 289) rfl ⟨fun c => ?_, fun c => ?_⟩
    · replace h := h.1 (of_decide_eq_true c)
      refine gWp_sts gT_230 1 (f' := (296, [some (.ref 1000), some (.ref 0), some (.ref 1), some (.ref 64), some (.ref 65), some (.int x5), some (.int v2), some (.int v4), none], [.int v2], μ5)) (cs := []) rfl trivial ?_
      refine gWp_if gT_230 (pc := 296) rfl ⟨fun c => ?_, fun c => ?_⟩
      · replace h := h.1 (of_decide_eq_true c)
        refine gWp_sts gT_230 1 (f' := (2023, [some (.ref 1000), some (.ref 0), some (.ref 1), some (.ref 64), some (.ref 65), some (.int x5), some (.int v2), some (.int v4), none], [], μ5)) (cs := []) rfl trivial ?_
        exact h
      · replace h := h.2 (Classical.not_not.mp (fun q => c (decide_eq_true q)))
        obtain ⟨c1, h⟩ := h
        refine gWp_sts gT_230 6 (f' := (306, [some (.ref 1000), some (.ref 0), some (.ref 1), some (.ref 64), some (.ref 65), some (.int x5), some (.int v2), some (.int v4), none], [.int (lg_cmp (gJ μ5 64 ((0 : Int32).toNatClampNeg)) v4.toInt64)], μ5)) (cs := [vp_in (0 : Int32) 1]) rfl c1 ?_
        refine gWp_if gT_230 (pc := 306) rfl ⟨fun c => ?_, fun c => ?_⟩
        · replace h := h.1 (of_decide_eq_true c)
          refine gWp_sts gT_230 1 (f' := (2023, [some (.ref 1000), some (.ref 0), some (.ref 1), some (.ref 64), some (.ref 65), some (.int x5), some (.int v2), some (.int v4), none], [], μ5)) (cs := []) rfl trivial ?_
          exact h
        · replace h := h.2 (fun q => c (decide_eq_true q))
          refine gWp_sts gT_230 1 (f' := (310, [some (.ref 1000), some (.ref 0), some (.ref 1), some (.ref 64), some (.ref 65), some (.int x5), some (.int v2), some (.int v4), none], [.int (0 : Int32)], μ5)) (cs := []) rfl trivial ?_
          exact gWp_end gT_230 rfl (gEnd_int (show narrow .boolean (.int (0 : Int32)) = .int (0 : Int32) by decide)) h
    · replace h := h.2 (fun q => c (decide_eq_true q))
      refine gWp_sts gT_230 1 (f' := (293, [some (.ref 1000), some (.ref 0), some (.ref 1), some (.ref 64), some (.ref 65), some (.int x5), some (.int v2), some (.int v4), none], [.int (0 : Int32)], μ5)) (cs := []) rfl trivial ?_
      exact gWp_end gT_230 rfl (gEnd_int (show narrow .boolean (.int (0 : Int32)) = .int (0 : Int32) by decide)) h
  · obtain ⟨y, rfl, h⟩ := h
    exact Or.inr (Or.inl ⟨y, rfl, rfl, h⟩)
set_option maxRecDepth 20000 in
theorem vl_314 {SL cnt : Nat} {xs : Nat → Int32} {μ : gMu} {x5 : Int32} {P : gMu → gRes → Prop} (hcnt : cnt + 5 ≤ 2560) (h : (vp_in (x5 + (1 : Int32)) SL) ∧ ((vp_in (x5 + (2 : Int32)) SL) ∧ (gCl' 81 [.ref 0, .int (((xs (x5 + (1 : Int32)).toNatClampNeg).toUInt32 % 65536).toInt32), .int (xs (x5 + (2 : Int32)).toNatClampNeg), .ref 64] μ (fun μ1 r => (∃ v2, r = .inl (some (.int v2)) ∧ ((vp_in (x5 + (1 : Int32)) SL) ∧ ((vp_in (x5 + (2 : Int32)) SL) ∧ (gCl' 164 [.ref 1, .int (((xs (x5 + (1 : Int32)).toNatClampNeg).toUInt32 % 65536).toInt32), .int (xs (x5 + (2 : Int32)).toNatClampNeg)] μ1 (fun μ3 r => (∃ v4, r = .inl (some (.int v4)) ∧ (gCl' 152 [.ref 1] μ3 (fun μ5 r => (∃ v6, r = .inl (some (.int v6)) ∧ (((v6 = v2) → (((¬ v2 = 0) → (gWp (some (SL, xs)) 230 (2023, [some (.ref 1000), some (.ref 0), some (.ref 1), some (.ref 64), some (.ref 65), some (.int x5), some (.int v2), some (.int v4), none], [], μ5) (cnt + 1) P)) ∧ ((v2 = 0) → ((vp_in (0 : Int32) 1) ∧ ((((lg_cmp (gJ μ5 64 ((0 : Int32).toNatClampNeg)) v4.toInt64) = 0) → (gWp (some (SL, xs)) 230 (2023, [some (.ref 1000), some (.ref 0), some (.ref 1), some (.ref 64), some (.ref 65), some (.int x5), some (.int v2), some (.int v4), none], [], μ5) (cnt + 1) P)) ∧ ((¬ (lg_cmp (gJ μ5 64 ((0 : Int32).toNatClampNeg)) v4.toInt64) = 0) → (P μ5 (.inl (some (.int (0 : Int32))))))))))) ∧ ((¬ v6 = v2) → (P μ5 (.inl (some (.int (0 : Int32)))))))))))))))) ∨ (∃ y, r = .inr y ∧ P μ1 (.inr y)))))) : gWp (some (SL, xs)) 230 (314, [some (.ref 1000), some (.ref 0), some (.ref 1), some (.ref 64), some (.ref 65), some (.int x5), none, none, none], [], μ) cnt P := by
  obtain ⟨c1, c2, h⟩ := h
  refine gWp_sts gT_230 13 (f' := (329, [some (.ref 1000), some (.ref 0), some (.ref 1), some (.ref 64), some (.ref 65), some (.int x5), none, none, none], [.ref 64, .int (xs (x5 + (2 : Int32)).toNatClampNeg), .int (((xs (x5 + (1 : Int32)).toNatClampNeg).toUInt32 % 65536).toInt32), .ref 0], μ)) (cs := [vp_in (x5 + (1 : Int32)) SL, vp_in (x5 + (2 : Int32)) SL]) rfl ⟨c1, c2⟩ ?_
  refine gWp_stat gT_230 (pc := 329) (c01 := 0) (as := [.ref 0, .int (((xs (x5 + (1 : Int32)).toNatClampNeg).toUInt32 % 65536).toInt32), .int (xs (x5 + (2 : Int32)).toNatClampNeg), .ref 64]) (rest := []) rfl (Or.inl rfl) rfl rfl rfl ⟨by have := hcnt; show cnt + 1 ≤ 2560; omega, Nat.le_of_ble_eq_true rfl, by decide, Nat.le_of_ble_eq_true rfl⟩ (gWp_imp h (fun μ1 r h => ?_))
  rcases h with h | h
  · obtain ⟨v2, rfl, h⟩ := h
    refine Or.inl ⟨_, rfl, ?_⟩
    show gWp (some (SL, xs)) 230 (332, [some (.ref 1000), some (.ref 0), some (.ref 1), some (.ref 64), some (.ref 65), some (.int x5), none, none, none], [.int v2], μ1) _ P
    obtain ⟨c1, c2, h⟩ := h
    refine gWp_sts gT_230 13 (f' := (348, [some (.ref 1000), some (.ref 0), some (.ref 1), some (.ref 64), some (.ref 65), some (.int x5), some (.int v2), none, none], [.int (xs (x5 + (2 : Int32)).toNatClampNeg), .int (((xs (x5 + (1 : Int32)).toNatClampNeg).toUInt32 % 65536).toInt32), .ref 1], μ1)) (cs := [vp_in (x5 + (1 : Int32)) SL, vp_in (x5 + (2 : Int32)) SL]) rfl ⟨c1, c2⟩ ?_
    refine gWp_virt gT_230 (pc := 348) (q := 1) (as := [.ref 1, .int (((xs (x5 + (1 : Int32)).toNatClampNeg).toUInt32 % 65536).toInt32), .int (xs (x5 + (2 : Int32)).toNatClampNeg)]) (rest := []) rfl rfl rfl rfl rfl rfl ⟨by have := hcnt; show (cnt + 1) + 0 ≤ 2560; omega, Nat.le_of_ble_eq_true rfl, by decide, Nat.le_of_ble_eq_true rfl⟩ (gWp_imp h (fun μ3 r h => ?_))
    obtain ⟨v4, rfl, h⟩ := h
    refine Or.inl ⟨_, rfl, ?_⟩
    show gWp (some (SL, xs)) 230 (351, [some (.ref 1000), some (.ref 0), some (.ref 1), some (.ref 64), some (.ref 65), some (.int x5), some (.int v2), none, none], [.int v4], μ3) _ P
    refine gWp_sts gT_230 2 (f' := (354, [some (.ref 1000), some (.ref 0), some (.ref 1), some (.ref 64), some (.ref 65), some (.int x5), some (.int v2), some (.int v4), none], [.ref 1], μ3)) (cs := []) rfl trivial ?_
    refine gWp_virt gT_230 (pc := 354) (q := 1) (as := [.ref 1]) (rest := []) rfl rfl rfl rfl rfl rfl ⟨by have := hcnt; show (cnt + 1) + 0 ≤ 2560; omega, Nat.le_of_ble_eq_true rfl, by decide, Nat.le_of_ble_eq_true rfl⟩ (gWp_imp h (fun μ5 r h => ?_))
    obtain ⟨v6, rfl, h⟩ := h
    refine Or.inl ⟨_, rfl, ?_⟩
    show gWp (some (SL, xs)) 230 (357, [some (.ref 1000), some (.ref 0), some (.ref 1), some (.ref 64), some (.ref 65), some (.int x5), some (.int v2), some (.int v4), none], [.int v6], μ5) _ P
    refine gWp_sts gT_230 1 (f' := (359, [some (.ref 1000), some (.ref 0), some (.ref 1), some (.ref 64), some (.ref 65), some (.int x5), some (.int v2), some (.int v4), none], [.int v2, .int v6], μ5)) (cs := []) rfl trivial ?_
    refine gWp_icmp gT_230 (pc := 359) rfl ⟨fun c => ?_, fun c => ?_⟩
    · replace h := h.1 (of_decide_eq_true c)
      refine gWp_sts gT_230 1 (f' := (366, [some (.ref 1000), some (.ref 0), some (.ref 1), some (.ref 64), some (.ref 65), some (.int x5), some (.int v2), some (.int v4), none], [.int v2], μ5)) (cs := []) rfl trivial ?_
      refine gWp_if gT_230 (pc := 366) rfl ⟨fun c => ?_, fun c => ?_⟩
      · replace h := h.1 (of_decide_eq_true c)
        refine gWp_sts gT_230 1 (f' := (2023, [some (.ref 1000), some (.ref 0), some (.ref 1), some (.ref 64), some (.ref 65), some (.int x5), some (.int v2), some (.int v4), none], [], μ5)) (cs := []) rfl trivial ?_
        exact h
      · replace h := h.2 (Classical.not_not.mp (fun q => c (decide_eq_true q)))
        obtain ⟨c1, h⟩ := h
        refine gWp_sts gT_230 6 (f' := (376, [some (.ref 1000), some (.ref 0), some (.ref 1), some (.ref 64), some (.ref 65), some (.int x5), some (.int v2), some (.int v4), none], [.int (lg_cmp (gJ μ5 64 ((0 : Int32).toNatClampNeg)) v4.toInt64)], μ5)) (cs := [vp_in (0 : Int32) 1]) rfl c1 ?_
        refine gWp_if gT_230 (pc := 376) rfl ⟨fun c => ?_, fun c => ?_⟩
        · replace h := h.1 (of_decide_eq_true c)
          refine gWp_sts gT_230 1 (f' := (2023, [some (.ref 1000), some (.ref 0), some (.ref 1), some (.ref 64), some (.ref 65), some (.int x5), some (.int v2), some (.int v4), none], [], μ5)) (cs := []) rfl trivial ?_
          exact h
        · replace h := h.2 (fun q => c (decide_eq_true q))
          refine gWp_sts gT_230 1 (f' := (380, [some (.ref 1000), some (.ref 0), some (.ref 1), some (.ref 64), some (.ref 65), some (.int x5), some (.int v2), some (.int v4), none], [.int (0 : Int32)], μ5)) (cs := []) rfl trivial ?_
          exact gWp_end gT_230 rfl (gEnd_int (show narrow .boolean (.int (0 : Int32)) = .int (0 : Int32) by decide)) h
    · replace h := h.2 (fun q => c (decide_eq_true q))
      refine gWp_sts gT_230 1 (f' := (363, [some (.ref 1000), some (.ref 0), some (.ref 1), some (.ref 64), some (.ref 65), some (.int x5), some (.int v2), some (.int v4), none], [.int (0 : Int32)], μ5)) (cs := []) rfl trivial ?_
      exact gWp_end gT_230 rfl (gEnd_int (show narrow .boolean (.int (0 : Int32)) = .int (0 : Int32) by decide)) h
  · obtain ⟨y, rfl, h⟩ := h
    exact Or.inr (Or.inl ⟨y, rfl, rfl, h⟩)
set_option maxRecDepth 20000 in
theorem vl_384 {SL cnt : Nat} {xs : Nat → Int32} {μ : gMu} {x5 : Int32} {P : gMu → gRes → Prop} (hcnt : cnt + 5 ≤ 2560) (h : (vp_in (x5 + (1 : Int32)) SL) ∧ (gCl' 83 [.ref 0, .int (xs (x5 + (1 : Int32)).toNatClampNeg), .ref 64] μ (fun μ1 r => (∃ v2, r = .inl (some (.int v2)) ∧ ((vp_in (x5 + (1 : Int32)) SL) ∧ (gCl' 165 [.ref 1, .int (xs (x5 + (1 : Int32)).toNatClampNeg)] μ1 (fun μ3 r => (∃ v4, r = .inl (some (.int v4)) ∧ (gCl' 152 [.ref 1] μ3 (fun μ5 r => (∃ v6, r = .inl (some (.int v6)) ∧ (((v6 = v2) → (((¬ v2 = 0) → (gWp (some (SL, xs)) 230 (2023, [some (.ref 1000), some (.ref 0), some (.ref 1), some (.ref 64), some (.ref 65), some (.int x5), some (.int v2), some (.int v4), none], [], μ5) (cnt + 1) P)) ∧ ((v2 = 0) → ((vp_in (0 : Int32) 1) ∧ ((((lg_cmp (gJ μ5 64 ((0 : Int32).toNatClampNeg)) v4.toInt64) = 0) → (gWp (some (SL, xs)) 230 (2023, [some (.ref 1000), some (.ref 0), some (.ref 1), some (.ref 64), some (.ref 65), some (.int x5), some (.int v2), some (.int v4), none], [], μ5) (cnt + 1) P)) ∧ ((¬ (lg_cmp (gJ μ5 64 ((0 : Int32).toNatClampNeg)) v4.toInt64) = 0) → (P μ5 (.inl (some (.int (0 : Int32))))))))))) ∧ ((¬ v6 = v2) → (P μ5 (.inl (some (.int (0 : Int32))))))))))))))) ∨ (∃ y, r = .inr y ∧ P μ1 (.inr y))))) : gWp (some (SL, xs)) 230 (384, [some (.ref 1000), some (.ref 0), some (.ref 1), some (.ref 64), some (.ref 65), some (.int x5), none, none, none], [], μ) cnt P := by
  obtain ⟨c1, h⟩ := h
  refine gWp_sts gT_230 7 (f' := (392, [some (.ref 1000), some (.ref 0), some (.ref 1), some (.ref 64), some (.ref 65), some (.int x5), none, none, none], [.ref 64, .int (xs (x5 + (1 : Int32)).toNatClampNeg), .ref 0], μ)) (cs := [vp_in (x5 + (1 : Int32)) SL]) rfl c1 ?_
  refine gWp_stat gT_230 (pc := 392) (c01 := 0) (as := [.ref 0, .int (xs (x5 + (1 : Int32)).toNatClampNeg), .ref 64]) (rest := []) rfl (Or.inl rfl) rfl rfl rfl ⟨by have := hcnt; show cnt + 1 ≤ 2560; omega, Nat.le_of_ble_eq_true rfl, by decide, Nat.le_of_ble_eq_true rfl⟩ (gWp_imp h (fun μ1 r h => ?_))
  rcases h with h | h
  · obtain ⟨v2, rfl, h⟩ := h
    refine Or.inl ⟨_, rfl, ?_⟩
    show gWp (some (SL, xs)) 230 (395, [some (.ref 1000), some (.ref 0), some (.ref 1), some (.ref 64), some (.ref 65), some (.int x5), none, none, none], [.int v2], μ1) _ P
    obtain ⟨c1, h⟩ := h
    refine gWp_sts gT_230 7 (f' := (404, [some (.ref 1000), some (.ref 0), some (.ref 1), some (.ref 64), some (.ref 65), some (.int x5), some (.int v2), none, none], [.int (xs (x5 + (1 : Int32)).toNatClampNeg), .ref 1], μ1)) (cs := [vp_in (x5 + (1 : Int32)) SL]) rfl c1 ?_
    refine gWp_virt gT_230 (pc := 404) (q := 1) (as := [.ref 1, .int (xs (x5 + (1 : Int32)).toNatClampNeg)]) (rest := []) rfl rfl rfl rfl rfl rfl ⟨by have := hcnt; show (cnt + 1) + 0 ≤ 2560; omega, Nat.le_of_ble_eq_true rfl, by decide, Nat.le_of_ble_eq_true rfl⟩ (gWp_imp h (fun μ3 r h => ?_))
    obtain ⟨v4, rfl, h⟩ := h
    refine Or.inl ⟨_, rfl, ?_⟩
    show gWp (some (SL, xs)) 230 (407, [some (.ref 1000), some (.ref 0), some (.ref 1), some (.ref 64), some (.ref 65), some (.int x5), some (.int v2), none, none], [.int v4], μ3) _ P
    refine gWp_sts gT_230 2 (f' := (410, [some (.ref 1000), some (.ref 0), some (.ref 1), some (.ref 64), some (.ref 65), some (.int x5), some (.int v2), some (.int v4), none], [.ref 1], μ3)) (cs := []) rfl trivial ?_
    refine gWp_virt gT_230 (pc := 410) (q := 1) (as := [.ref 1]) (rest := []) rfl rfl rfl rfl rfl rfl ⟨by have := hcnt; show (cnt + 1) + 0 ≤ 2560; omega, Nat.le_of_ble_eq_true rfl, by decide, Nat.le_of_ble_eq_true rfl⟩ (gWp_imp h (fun μ5 r h => ?_))
    obtain ⟨v6, rfl, h⟩ := h
    refine Or.inl ⟨_, rfl, ?_⟩
    show gWp (some (SL, xs)) 230 (413, [some (.ref 1000), some (.ref 0), some (.ref 1), some (.ref 64), some (.ref 65), some (.int x5), some (.int v2), some (.int v4), none], [.int v6], μ5) _ P
    refine gWp_sts gT_230 1 (f' := (415, [some (.ref 1000), some (.ref 0), some (.ref 1), some (.ref 64), some (.ref 65), some (.int x5), some (.int v2), some (.int v4), none], [.int v2, .int v6], μ5)) (cs := []) rfl trivial ?_
    refine gWp_icmp gT_230 (pc := 415) rfl ⟨fun c => ?_, fun c => ?_⟩
    · replace h := h.1 (of_decide_eq_true c)
      refine gWp_sts gT_230 1 (f' := (422, [some (.ref 1000), some (.ref 0), some (.ref 1), some (.ref 64), some (.ref 65), some (.int x5), some (.int v2), some (.int v4), none], [.int v2], μ5)) (cs := []) rfl trivial ?_
      refine gWp_if gT_230 (pc := 422) rfl ⟨fun c => ?_, fun c => ?_⟩
      · replace h := h.1 (of_decide_eq_true c)
        refine gWp_sts gT_230 1 (f' := (2023, [some (.ref 1000), some (.ref 0), some (.ref 1), some (.ref 64), some (.ref 65), some (.int x5), some (.int v2), some (.int v4), none], [], μ5)) (cs := []) rfl trivial ?_
        exact h
      · replace h := h.2 (Classical.not_not.mp (fun q => c (decide_eq_true q)))
        obtain ⟨c1, h⟩ := h
        refine gWp_sts gT_230 6 (f' := (432, [some (.ref 1000), some (.ref 0), some (.ref 1), some (.ref 64), some (.ref 65), some (.int x5), some (.int v2), some (.int v4), none], [.int (lg_cmp (gJ μ5 64 ((0 : Int32).toNatClampNeg)) v4.toInt64)], μ5)) (cs := [vp_in (0 : Int32) 1]) rfl c1 ?_
        refine gWp_if gT_230 (pc := 432) rfl ⟨fun c => ?_, fun c => ?_⟩
        · replace h := h.1 (of_decide_eq_true c)
          refine gWp_sts gT_230 1 (f' := (2023, [some (.ref 1000), some (.ref 0), some (.ref 1), some (.ref 64), some (.ref 65), some (.int x5), some (.int v2), some (.int v4), none], [], μ5)) (cs := []) rfl trivial ?_
          exact h
        · replace h := h.2 (fun q => c (decide_eq_true q))
          refine gWp_sts gT_230 1 (f' := (436, [some (.ref 1000), some (.ref 0), some (.ref 1), some (.ref 64), some (.ref 65), some (.int x5), some (.int v2), some (.int v4), none], [.int (0 : Int32)], μ5)) (cs := []) rfl trivial ?_
          exact gWp_end gT_230 rfl (gEnd_int (show narrow .boolean (.int (0 : Int32)) = .int (0 : Int32) by decide)) h
    · replace h := h.2 (fun q => c (decide_eq_true q))
      refine gWp_sts gT_230 1 (f' := (419, [some (.ref 1000), some (.ref 0), some (.ref 1), some (.ref 64), some (.ref 65), some (.int x5), some (.int v2), some (.int v4), none], [.int (0 : Int32)], μ5)) (cs := []) rfl trivial ?_
      exact gWp_end gT_230 rfl (gEnd_int (show narrow .boolean (.int (0 : Int32)) = .int (0 : Int32) by decide)) h
  · obtain ⟨y, rfl, h⟩ := h
    exact Or.inr (Or.inl ⟨y, rfl, rfl, h⟩)
set_option maxRecDepth 20000 in
theorem vl_440 {SL cnt : Nat} {xs : Nat → Int32} {μ : gMu} {x5 : Int32} {P : gMu → gRes → Prop} (hcnt : cnt + 5 ≤ 2560) (h : (vp_in (x5 + (1 : Int32)) SL) ∧ ((((xs (x5 + (1 : Int32)).toNatClampNeg) = 0) → (gCl' 1 [.ref 0, .int (0 : Int32)] μ (fun μ1 r => (∃ v2, r = .inl (some (.int v2)) ∧ ((vp_in (x5 + (1 : Int32)) SL) ∧ ((((xs (x5 + (1 : Int32)).toNatClampNeg) = 0) → (gCl' 166 [.ref 1, .int (0 : Int32)] μ1 (fun μ3 r => (∃ v4, r = .inl (some (.int v4)) ∧ (((v2 = v4) → (gWp (some (SL, xs)) 230 (2023, [some (.ref 1000), some (.ref 0), some (.ref 1), some (.ref 64), some (.ref 65), some (.int x5), none, none, none], [], μ3) cnt P)) ∧ ((¬ v2 = v4) → (P μ3 (.inl (some (.int (0 : Int32))))))))))) ∧ ((¬ (xs (x5 + (1 : Int32)).toNatClampNeg) = 0) → (gCl' 166 [.ref 1, .int (1 : Int32)] μ1 (fun μ5 r => (∃ v6, r = .inl (some (.int v6)) ∧ (((v2 = v6) → (gWp (some (SL, xs)) 230 (2023, [some (.ref 1000), some (.ref 0), some (.ref 1), some (.ref 64), some (.ref 65), some (.int x5), none, none, none], [], μ5) cnt P)) ∧ ((¬ v2 = v6) → (P μ5 (.inl (some (.int (0 : Int32))))))))))))))))) ∧ ((¬ (xs (x5 + (1 : Int32)).toNatClampNeg) = 0) → (gCl' 1 [.ref 0, .int (1 : Int32)] μ (fun μ7 r => (∃ v8, r = .inl (some (.int v8)) ∧ ((vp_in (x5 + (1 : Int32)) SL) ∧ ((((xs (x5 + (1 : Int32)).toNatClampNeg) = 0) → (gCl' 166 [.ref 1, .int (0 : Int32)] μ7 (fun μ9 r => (∃ v10, r = .inl (some (.int v10)) ∧ (((v8 = v10) → (gWp (some (SL, xs)) 230 (2023, [some (.ref 1000), some (.ref 0), some (.ref 1), some (.ref 64), some (.ref 65), some (.int x5), none, none, none], [], μ9) cnt P)) ∧ ((¬ v8 = v10) → (P μ9 (.inl (some (.int (0 : Int32))))))))))) ∧ ((¬ (xs (x5 + (1 : Int32)).toNatClampNeg) = 0) → (gCl' 166 [.ref 1, .int (1 : Int32)] μ7 (fun μ11 r => (∃ v12, r = .inl (some (.int v12)) ∧ (((v8 = v12) → (gWp (some (SL, xs)) 230 (2023, [some (.ref 1000), some (.ref 0), some (.ref 1), some (.ref 64), some (.ref 65), some (.int x5), none, none, none], [], μ11) cnt P)) ∧ ((¬ v8 = v12) → (P μ11 (.inl (some (.int (0 : Int32))))))))))))))))))) : gWp (some (SL, xs)) 230 (440, [some (.ref 1000), some (.ref 0), some (.ref 1), some (.ref 64), some (.ref 65), some (.int x5), none, none, none], [], μ) cnt P := by
  obtain ⟨c1, h⟩ := h
  refine gWp_sts gT_230 6 (f' := (447, [some (.ref 1000), some (.ref 0), some (.ref 1), some (.ref 64), some (.ref 65), some (.int x5), none, none, none], [.int (xs (x5 + (1 : Int32)).toNatClampNeg), .ref 0], μ)) (cs := [vp_in (x5 + (1 : Int32)) SL]) rfl c1 ?_
  refine gWp_if gT_230 (pc := 447) rfl ⟨fun c => ?_, fun c => ?_⟩
  · replace h := h.1 (of_decide_eq_true c)
    refine gWp_sts gT_230 1 (f' := (455, [some (.ref 1000), some (.ref 0), some (.ref 1), some (.ref 64), some (.ref 65), some (.int x5), none, none, none], [.int (0 : Int32), .ref 0], μ)) (cs := []) rfl trivial ?_
    refine gWp_virt gT_230 (pc := 455) (q := 0) (as := [.ref 0, .int (0 : Int32)]) (rest := []) rfl rfl rfl rfl rfl rfl ⟨by have := hcnt; show cnt + 0 ≤ 2560; omega, Nat.le_of_ble_eq_true rfl, by decide, Nat.le_of_ble_eq_true rfl⟩ (gWp_imp h (fun μ1 r h => ?_))
    obtain ⟨v2, rfl, h⟩ := h
    refine Or.inl ⟨_, rfl, ?_⟩
    show gWp (some (SL, xs)) 230 (458, [some (.ref 1000), some (.ref 0), some (.ref 1), some (.ref 64), some (.ref 65), some (.int x5), none, none, none], [.int v2], μ1) _ P
    obtain ⟨c1, h⟩ := h
    refine gWp_sts gT_230 6 (f' := (465, [some (.ref 1000), some (.ref 0), some (.ref 1), some (.ref 64), some (.ref 65), some (.int x5), none, none, none], [.int (xs (x5 + (1 : Int32)).toNatClampNeg), .ref 1, .int v2], μ1)) (cs := [vp_in (x5 + (1 : Int32)) SL]) rfl c1 ?_
    refine gWp_if gT_230 (pc := 465) rfl ⟨fun c => ?_, fun c => ?_⟩
    · replace h := h.1 (of_decide_eq_true c)
      refine gWp_sts gT_230 1 (f' := (473, [some (.ref 1000), some (.ref 0), some (.ref 1), some (.ref 64), some (.ref 65), some (.int x5), none, none, none], [.int (0 : Int32), .ref 1, .int v2], μ1)) (cs := []) rfl trivial ?_
      refine gWp_virt gT_230 (pc := 473) (q := 1) (as := [.ref 1, .int (0 : Int32)]) (rest := [.int v2]) rfl rfl rfl rfl rfl rfl ⟨by have := hcnt; show cnt + 0 ≤ 2560; omega, Nat.le_of_ble_eq_true rfl, by decide, Nat.le_of_ble_eq_true rfl⟩ (gWp_imp h (fun μ3 r h => ?_))
      obtain ⟨v4, rfl, h⟩ := h
      refine Or.inl ⟨_, rfl, ?_⟩
      show gWp (some (SL, xs)) 230 (476, [some (.ref 1000), some (.ref 0), some (.ref 1), some (.ref 64), some (.ref 65), some (.int x5), none, none, none], [.int v4, .int v2], μ3) _ P
      refine gWp_icmp gT_230 (pc := 476) rfl ⟨fun c => ?_, fun c => ?_⟩
      · replace h := h.1 (of_decide_eq_true c)
        exact h
      · replace h := h.2 (fun q => c (decide_eq_true q))
        refine gWp_sts gT_230 1 (f' := (480, [some (.ref 1000), some (.ref 0), some (.ref 1), some (.ref 64), some (.ref 65), some (.int x5), none, none, none], [.int (0 : Int32)], μ3)) (cs := []) rfl trivial ?_
        exact gWp_end gT_230 rfl (gEnd_int (show narrow .boolean (.int (0 : Int32)) = .int (0 : Int32) by decide)) h
    · replace h := h.2 (fun q => c (decide_eq_true q))
      refine gWp_sts gT_230 2 (f' := (473, [some (.ref 1000), some (.ref 0), some (.ref 1), some (.ref 64), some (.ref 65), some (.int x5), none, none, none], [.int (1 : Int32), .ref 1, .int v2], μ1)) (cs := []) rfl trivial ?_
      refine gWp_virt gT_230 (pc := 473) (q := 1) (as := [.ref 1, .int (1 : Int32)]) (rest := [.int v2]) rfl rfl rfl rfl rfl rfl ⟨by have := hcnt; show cnt + 0 ≤ 2560; omega, Nat.le_of_ble_eq_true rfl, by decide, Nat.le_of_ble_eq_true rfl⟩ (gWp_imp h (fun μ5 r h => ?_))
      obtain ⟨v6, rfl, h⟩ := h
      refine Or.inl ⟨_, rfl, ?_⟩
      show gWp (some (SL, xs)) 230 (476, [some (.ref 1000), some (.ref 0), some (.ref 1), some (.ref 64), some (.ref 65), some (.int x5), none, none, none], [.int v6, .int v2], μ5) _ P
      refine gWp_icmp gT_230 (pc := 476) rfl ⟨fun c => ?_, fun c => ?_⟩
      · replace h := h.1 (of_decide_eq_true c)
        exact h
      · replace h := h.2 (fun q => c (decide_eq_true q))
        refine gWp_sts gT_230 1 (f' := (480, [some (.ref 1000), some (.ref 0), some (.ref 1), some (.ref 64), some (.ref 65), some (.int x5), none, none, none], [.int (0 : Int32)], μ5)) (cs := []) rfl trivial ?_
        exact gWp_end gT_230 rfl (gEnd_int (show narrow .boolean (.int (0 : Int32)) = .int (0 : Int32) by decide)) h
  · replace h := h.2 (fun q => c (decide_eq_true q))
    refine gWp_sts gT_230 2 (f' := (455, [some (.ref 1000), some (.ref 0), some (.ref 1), some (.ref 64), some (.ref 65), some (.int x5), none, none, none], [.int (1 : Int32), .ref 0], μ)) (cs := []) rfl trivial ?_
    refine gWp_virt gT_230 (pc := 455) (q := 0) (as := [.ref 0, .int (1 : Int32)]) (rest := []) rfl rfl rfl rfl rfl rfl ⟨by have := hcnt; show cnt + 0 ≤ 2560; omega, Nat.le_of_ble_eq_true rfl, by decide, Nat.le_of_ble_eq_true rfl⟩ (gWp_imp h (fun μ7 r h => ?_))
    obtain ⟨v8, rfl, h⟩ := h
    refine Or.inl ⟨_, rfl, ?_⟩
    show gWp (some (SL, xs)) 230 (458, [some (.ref 1000), some (.ref 0), some (.ref 1), some (.ref 64), some (.ref 65), some (.int x5), none, none, none], [.int v8], μ7) _ P
    obtain ⟨c1, h⟩ := h
    refine gWp_sts gT_230 6 (f' := (465, [some (.ref 1000), some (.ref 0), some (.ref 1), some (.ref 64), some (.ref 65), some (.int x5), none, none, none], [.int (xs (x5 + (1 : Int32)).toNatClampNeg), .ref 1, .int v8], μ7)) (cs := [vp_in (x5 + (1 : Int32)) SL]) rfl c1 ?_
    refine gWp_if gT_230 (pc := 465) rfl ⟨fun c => ?_, fun c => ?_⟩
    · replace h := h.1 (of_decide_eq_true c)
      refine gWp_sts gT_230 1 (f' := (473, [some (.ref 1000), some (.ref 0), some (.ref 1), some (.ref 64), some (.ref 65), some (.int x5), none, none, none], [.int (0 : Int32), .ref 1, .int v8], μ7)) (cs := []) rfl trivial ?_
      refine gWp_virt gT_230 (pc := 473) (q := 1) (as := [.ref 1, .int (0 : Int32)]) (rest := [.int v8]) rfl rfl rfl rfl rfl rfl ⟨by have := hcnt; show cnt + 0 ≤ 2560; omega, Nat.le_of_ble_eq_true rfl, by decide, Nat.le_of_ble_eq_true rfl⟩ (gWp_imp h (fun μ9 r h => ?_))
      obtain ⟨v10, rfl, h⟩ := h
      refine Or.inl ⟨_, rfl, ?_⟩
      show gWp (some (SL, xs)) 230 (476, [some (.ref 1000), some (.ref 0), some (.ref 1), some (.ref 64), some (.ref 65), some (.int x5), none, none, none], [.int v10, .int v8], μ9) _ P
      refine gWp_icmp gT_230 (pc := 476) rfl ⟨fun c => ?_, fun c => ?_⟩
      · replace h := h.1 (of_decide_eq_true c)
        exact h
      · replace h := h.2 (fun q => c (decide_eq_true q))
        refine gWp_sts gT_230 1 (f' := (480, [some (.ref 1000), some (.ref 0), some (.ref 1), some (.ref 64), some (.ref 65), some (.int x5), none, none, none], [.int (0 : Int32)], μ9)) (cs := []) rfl trivial ?_
        exact gWp_end gT_230 rfl (gEnd_int (show narrow .boolean (.int (0 : Int32)) = .int (0 : Int32) by decide)) h
    · replace h := h.2 (fun q => c (decide_eq_true q))
      refine gWp_sts gT_230 2 (f' := (473, [some (.ref 1000), some (.ref 0), some (.ref 1), some (.ref 64), some (.ref 65), some (.int x5), none, none, none], [.int (1 : Int32), .ref 1, .int v8], μ7)) (cs := []) rfl trivial ?_
      refine gWp_virt gT_230 (pc := 473) (q := 1) (as := [.ref 1, .int (1 : Int32)]) (rest := [.int v8]) rfl rfl rfl rfl rfl rfl ⟨by have := hcnt; show cnt + 0 ≤ 2560; omega, Nat.le_of_ble_eq_true rfl, by decide, Nat.le_of_ble_eq_true rfl⟩ (gWp_imp h (fun μ11 r h => ?_))
      obtain ⟨v12, rfl, h⟩ := h
      refine Or.inl ⟨_, rfl, ?_⟩
      show gWp (some (SL, xs)) 230 (476, [some (.ref 1000), some (.ref 0), some (.ref 1), some (.ref 64), some (.ref 65), some (.int x5), none, none, none], [.int v12, .int v8], μ11) _ P
      refine gWp_icmp gT_230 (pc := 476) rfl ⟨fun c => ?_, fun c => ?_⟩
      · replace h := h.1 (of_decide_eq_true c)
        exact h
      · replace h := h.2 (fun q => c (decide_eq_true q))
        refine gWp_sts gT_230 1 (f' := (480, [some (.ref 1000), some (.ref 0), some (.ref 1), some (.ref 64), some (.ref 65), some (.int x5), none, none, none], [.int (0 : Int32)], μ11)) (cs := []) rfl trivial ?_
        exact gWp_end gT_230 rfl (gEnd_int (show narrow .boolean (.int (0 : Int32)) = .int (0 : Int32) by decide)) h
set_option maxRecDepth 20000 in
theorem vl_481 {SL cnt : Nat} {xs : Nat → Int32} {μ : gMu} {x5 : Int32} {P : gMu → gRes → Prop} (hcnt : cnt + 5 ≤ 2560) (h : (vp_in (x5 + (1 : Int32)) SL) ∧ ((vp_in (x5 + (2 : Int32)) SL) ∧ ((vp_in (x5 + (3 : Int32)) SL) ∧ (gCl' 87 [.ref 0, .int (xs (x5 + (1 : Int32)).toNatClampNeg), .int (((xs (x5 + (2 : Int32)).toNatClampNeg).toUInt32 % 65536).toInt32), .int (xs (x5 + (3 : Int32)).toNatClampNeg), .ref 64] μ (fun μ1 r => (∃ v2, r = .inl (some (.int v2)) ∧ ((vp_in (x5 + (1 : Int32)) SL) ∧ ((vp_in (x5 + (2 : Int32)) SL) ∧ ((vp_in (x5 + (3 : Int32)) SL) ∧ (gCl' 168 [.ref 1, .int (xs (x5 + (1 : Int32)).toNatClampNeg), .int (((xs (x5 + (2 : Int32)).toNatClampNeg).toUInt32 % 65536).toInt32), .int (xs (x5 + (3 : Int32)).toNatClampNeg)] μ1 (fun μ3 r => (∃ v4, r = .inl (some (.int v4)) ∧ (gCl' 152 [.ref 1] μ3 (fun μ5 r => (∃ v6, r = .inl (some (.int v6)) ∧ (((v6 = v2) → (((¬ v2 = 0) → (gWp (some (SL, xs)) 230 (2023, [some (.ref 1000), some (.ref 0), some (.ref 1), some (.ref 64), some (.ref 65), some (.int x5), some (.int v2), some (.int v4), none], [], μ5) (cnt + 1) P)) ∧ ((v2 = 0) → ((vp_in (0 : Int32) 1) ∧ ((((lg_cmp (gJ μ5 64 ((0 : Int32).toNatClampNeg)) v4.toInt64) = 0) → (gWp (some (SL, xs)) 230 (2023, [some (.ref 1000), some (.ref 0), some (.ref 1), some (.ref 64), some (.ref 65), some (.int x5), some (.int v2), some (.int v4), none], [], μ5) (cnt + 1) P)) ∧ ((¬ (lg_cmp (gJ μ5 64 ((0 : Int32).toNatClampNeg)) v4.toInt64) = 0) → (P μ5 (.inl (some (.int (0 : Int32))))))))))) ∧ ((¬ v6 = v2) → (P μ5 (.inl (some (.int (0 : Int32))))))))))))))))) ∨ (∃ y, r = .inr y ∧ P μ1 (.inr y))))))) : gWp (some (SL, xs)) 230 (481, [some (.ref 1000), some (.ref 0), some (.ref 1), some (.ref 64), some (.ref 65), some (.int x5), none, none, none], [], μ) cnt P := by
  obtain ⟨c1, c2, c3, h⟩ := h
  refine gWp_sts gT_230 18 (f' := (502, [some (.ref 1000), some (.ref 0), some (.ref 1), some (.ref 64), some (.ref 65), some (.int x5), none, none, none], [.ref 64, .int (xs (x5 + (3 : Int32)).toNatClampNeg), .int (((xs (x5 + (2 : Int32)).toNatClampNeg).toUInt32 % 65536).toInt32), .int (xs (x5 + (1 : Int32)).toNatClampNeg), .ref 0], μ)) (cs := [vp_in (x5 + (1 : Int32)) SL, vp_in (x5 + (2 : Int32)) SL, vp_in (x5 + (3 : Int32)) SL]) rfl ⟨c1, c2, c3⟩ ?_
  refine gWp_stat gT_230 (pc := 502) (c01 := 0) (as := [.ref 0, .int (xs (x5 + (1 : Int32)).toNatClampNeg), .int (((xs (x5 + (2 : Int32)).toNatClampNeg).toUInt32 % 65536).toInt32), .int (xs (x5 + (3 : Int32)).toNatClampNeg), .ref 64]) (rest := []) rfl (Or.inl rfl) rfl rfl rfl ⟨by have := hcnt; show cnt + 1 ≤ 2560; omega, Nat.le_of_ble_eq_true rfl, by decide, Nat.le_of_ble_eq_true rfl⟩ (gWp_imp h (fun μ1 r h => ?_))
  rcases h with h | h
  · obtain ⟨v2, rfl, h⟩ := h
    refine Or.inl ⟨_, rfl, ?_⟩
    show gWp (some (SL, xs)) 230 (505, [some (.ref 1000), some (.ref 0), some (.ref 1), some (.ref 64), some (.ref 65), some (.int x5), none, none, none], [.int v2], μ1) _ P
    obtain ⟨c1, c2, c3, h⟩ := h
    refine gWp_sts gT_230 18 (f' := (527, [some (.ref 1000), some (.ref 0), some (.ref 1), some (.ref 64), some (.ref 65), some (.int x5), some (.int v2), none, none], [.int (xs (x5 + (3 : Int32)).toNatClampNeg), .int (((xs (x5 + (2 : Int32)).toNatClampNeg).toUInt32 % 65536).toInt32), .int (xs (x5 + (1 : Int32)).toNatClampNeg), .ref 1], μ1)) (cs := [vp_in (x5 + (1 : Int32)) SL, vp_in (x5 + (2 : Int32)) SL, vp_in (x5 + (3 : Int32)) SL]) rfl ⟨c1, c2, c3⟩ ?_
    refine gWp_virt gT_230 (pc := 527) (q := 1) (as := [.ref 1, .int (xs (x5 + (1 : Int32)).toNatClampNeg), .int (((xs (x5 + (2 : Int32)).toNatClampNeg).toUInt32 % 65536).toInt32), .int (xs (x5 + (3 : Int32)).toNatClampNeg)]) (rest := []) rfl rfl rfl rfl rfl rfl ⟨by have := hcnt; show (cnt + 1) + 0 ≤ 2560; omega, Nat.le_of_ble_eq_true rfl, by decide, Nat.le_of_ble_eq_true rfl⟩ (gWp_imp h (fun μ3 r h => ?_))
    obtain ⟨v4, rfl, h⟩ := h
    refine Or.inl ⟨_, rfl, ?_⟩
    show gWp (some (SL, xs)) 230 (530, [some (.ref 1000), some (.ref 0), some (.ref 1), some (.ref 64), some (.ref 65), some (.int x5), some (.int v2), none, none], [.int v4], μ3) _ P
    refine gWp_sts gT_230 2 (f' := (533, [some (.ref 1000), some (.ref 0), some (.ref 1), some (.ref 64), some (.ref 65), some (.int x5), some (.int v2), some (.int v4), none], [.ref 1], μ3)) (cs := []) rfl trivial ?_
    refine gWp_virt gT_230 (pc := 533) (q := 1) (as := [.ref 1]) (rest := []) rfl rfl rfl rfl rfl rfl ⟨by have := hcnt; show (cnt + 1) + 0 ≤ 2560; omega, Nat.le_of_ble_eq_true rfl, by decide, Nat.le_of_ble_eq_true rfl⟩ (gWp_imp h (fun μ5 r h => ?_))
    obtain ⟨v6, rfl, h⟩ := h
    refine Or.inl ⟨_, rfl, ?_⟩
    show gWp (some (SL, xs)) 230 (536, [some (.ref 1000), some (.ref 0), some (.ref 1), some (.ref 64), some (.ref 65), some (.int x5), some (.int v2), some (.int v4), none], [.int v6], μ5) _ P
    refine gWp_sts gT_230 1 (f' := (538, [some (.ref 1000), some (.ref 0), some (.ref 1), some (.ref 64), some (.ref 65), some (.int x5), some (.int v2), some (.int v4), none], [.int v2, .int v6], μ5)) (cs := []) rfl trivial ?_
    refine gWp_icmp gT_230 (pc := 538) rfl ⟨fun c => ?_, fun c => ?_⟩
    · replace h := h.1 (of_decide_eq_true c)
      refine gWp_sts gT_230 1 (f' := (545, [some (.ref 1000), some (.ref 0), some (.ref 1), some (.ref 64), some (.ref 65), some (.int x5), some (.int v2), some (.int v4), none], [.int v2], μ5)) (cs := []) rfl trivial ?_
      refine gWp_if gT_230 (pc := 545) rfl ⟨fun c => ?_, fun c => ?_⟩
      · replace h := h.1 (of_decide_eq_true c)
        refine gWp_sts gT_230 1 (f' := (2023, [some (.ref 1000), some (.ref 0), some (.ref 1), some (.ref 64), some (.ref 65), some (.int x5), some (.int v2), some (.int v4), none], [], μ5)) (cs := []) rfl trivial ?_
        exact h
      · replace h := h.2 (Classical.not_not.mp (fun q => c (decide_eq_true q)))
        obtain ⟨c1, h⟩ := h
        refine gWp_sts gT_230 6 (f' := (555, [some (.ref 1000), some (.ref 0), some (.ref 1), some (.ref 64), some (.ref 65), some (.int x5), some (.int v2), some (.int v4), none], [.int (lg_cmp (gJ μ5 64 ((0 : Int32).toNatClampNeg)) v4.toInt64)], μ5)) (cs := [vp_in (0 : Int32) 1]) rfl c1 ?_
        refine gWp_if gT_230 (pc := 555) rfl ⟨fun c => ?_, fun c => ?_⟩
        · replace h := h.1 (of_decide_eq_true c)
          refine gWp_sts gT_230 1 (f' := (2023, [some (.ref 1000), some (.ref 0), some (.ref 1), some (.ref 64), some (.ref 65), some (.int x5), some (.int v2), some (.int v4), none], [], μ5)) (cs := []) rfl trivial ?_
          exact h
        · replace h := h.2 (fun q => c (decide_eq_true q))
          refine gWp_sts gT_230 1 (f' := (559, [some (.ref 1000), some (.ref 0), some (.ref 1), some (.ref 64), some (.ref 65), some (.int x5), some (.int v2), some (.int v4), none], [.int (0 : Int32)], μ5)) (cs := []) rfl trivial ?_
          exact gWp_end gT_230 rfl (gEnd_int (show narrow .boolean (.int (0 : Int32)) = .int (0 : Int32) by decide)) h
    · replace h := h.2 (fun q => c (decide_eq_true q))
      refine gWp_sts gT_230 1 (f' := (542, [some (.ref 1000), some (.ref 0), some (.ref 1), some (.ref 64), some (.ref 65), some (.int x5), some (.int v2), some (.int v4), none], [.int (0 : Int32)], μ5)) (cs := []) rfl trivial ?_
      exact gWp_end gT_230 rfl (gEnd_int (show narrow .boolean (.int (0 : Int32)) = .int (0 : Int32) by decide)) h
  · obtain ⟨y, rfl, h⟩ := h
    exact Or.inr (Or.inl ⟨y, rfl, rfl, h⟩)
set_option maxRecDepth 20000 in
theorem vl_563 {SL cnt : Nat} {xs : Nat → Int32} {μ : gMu} {x5 : Int32} {P : gMu → gRes → Prop} (hcnt : cnt + 5 ≤ 2560) (h : gCl' 2 [.ref 0] μ (fun μ1 r => (∃ v2, r = .inl (some (.int v2)) ∧ (gCl' 169 [.ref 1] μ1 (fun μ3 r => (∃ v4, r = .inl (some (.int v4)) ∧ (((v2 = v4) → (gWp (some (SL, xs)) 230 (2023, [some (.ref 1000), some (.ref 0), some (.ref 1), some (.ref 64), some (.ref 65), some (.int x5), none, none, none], [], μ3) cnt P)) ∧ ((¬ v2 = v4) → (P μ3 (.inl (some (.int (0 : Int32))))))))))))) : gWp (some (SL, xs)) 230 (563, [some (.ref 1000), some (.ref 0), some (.ref 1), some (.ref 64), some (.ref 65), some (.int x5), none, none, none], [], μ) cnt P := by
  refine gWp_sts gT_230 1 (f' := (564, [some (.ref 1000), some (.ref 0), some (.ref 1), some (.ref 64), some (.ref 65), some (.int x5), none, none, none], [.ref 0], μ)) (cs := []) rfl trivial ?_
  refine gWp_virt gT_230 (pc := 564) (q := 0) (as := [.ref 0]) (rest := []) rfl rfl rfl rfl rfl rfl ⟨by have := hcnt; show cnt + 0 ≤ 2560; omega, Nat.le_of_ble_eq_true rfl, by decide, Nat.le_of_ble_eq_true rfl⟩ (gWp_imp h (fun μ1 r h => ?_))
  obtain ⟨v2, rfl, h⟩ := h
  refine Or.inl ⟨_, rfl, ?_⟩
  show gWp (some (SL, xs)) 230 (567, [some (.ref 1000), some (.ref 0), some (.ref 1), some (.ref 64), some (.ref 65), some (.int x5), none, none, none], [.int v2], μ1) _ P
  refine gWp_sts gT_230 1 (f' := (568, [some (.ref 1000), some (.ref 0), some (.ref 1), some (.ref 64), some (.ref 65), some (.int x5), none, none, none], [.ref 1, .int v2], μ1)) (cs := []) rfl trivial ?_
  refine gWp_virt gT_230 (pc := 568) (q := 1) (as := [.ref 1]) (rest := [.int v2]) rfl rfl rfl rfl rfl rfl ⟨by have := hcnt; show cnt + 0 ≤ 2560; omega, Nat.le_of_ble_eq_true rfl, by decide, Nat.le_of_ble_eq_true rfl⟩ (gWp_imp h (fun μ3 r h => ?_))
  obtain ⟨v4, rfl, h⟩ := h
  refine Or.inl ⟨_, rfl, ?_⟩
  show gWp (some (SL, xs)) 230 (571, [some (.ref 1000), some (.ref 0), some (.ref 1), some (.ref 64), some (.ref 65), some (.int x5), none, none, none], [.int v4, .int v2], μ3) _ P
  refine gWp_icmp gT_230 (pc := 571) rfl ⟨fun c => ?_, fun c => ?_⟩
  · replace h := h.1 (of_decide_eq_true c)
    exact h
  · replace h := h.2 (fun q => c (decide_eq_true q))
    refine gWp_sts gT_230 1 (f' := (575, [some (.ref 1000), some (.ref 0), some (.ref 1), some (.ref 64), some (.ref 65), some (.int x5), none, none, none], [.int (0 : Int32)], μ3)) (cs := []) rfl trivial ?_
    exact gWp_end gT_230 rfl (gEnd_int (show narrow .boolean (.int (0 : Int32)) = .int (0 : Int32) by decide)) h
set_option maxRecDepth 20000 in
theorem vl_576 {SL cnt : Nat} {xs : Nat → Int32} {μ : gMu} {x5 : Int32} {P : gMu → gRes → Prop} (hcnt : cnt + 5 ≤ 2560) (h : (vp_in (x5 + (1 : Int32)) SL) ∧ (gCl' 90 [.ref 0, .int (xs (x5 + (1 : Int32)).toNatClampNeg), .ref 64] μ (fun μ1 r => (∃ v2, r = .inl (some (.int v2)) ∧ ((vp_in (x5 + (1 : Int32)) SL) ∧ (gCl' 170 [.ref 1, .int (xs (x5 + (1 : Int32)).toNatClampNeg)] μ1 (fun μ3 r => (∃ v4, r = .inl (some (.int v4)) ∧ (gCl' 152 [.ref 1] μ3 (fun μ5 r => (∃ v6, r = .inl (some (.int v6)) ∧ (((v6 = v2) → (((¬ v2 = 0) → (gWp (some (SL, xs)) 230 (2023, [some (.ref 1000), some (.ref 0), some (.ref 1), some (.ref 64), some (.ref 65), some (.int x5), some (.int v2), some (.int v4), none], [], μ5) (cnt + 1) P)) ∧ ((v2 = 0) → ((vp_in (0 : Int32) 1) ∧ ((((lg_cmp (gJ μ5 64 ((0 : Int32).toNatClampNeg)) v4.toInt64) = 0) → (gWp (some (SL, xs)) 230 (2023, [some (.ref 1000), some (.ref 0), some (.ref 1), some (.ref 64), some (.ref 65), some (.int x5), some (.int v2), some (.int v4), none], [], μ5) (cnt + 1) P)) ∧ ((¬ (lg_cmp (gJ μ5 64 ((0 : Int32).toNatClampNeg)) v4.toInt64) = 0) → (P μ5 (.inl (some (.int (0 : Int32))))))))))) ∧ ((¬ v6 = v2) → (P μ5 (.inl (some (.int (0 : Int32))))))))))))))) ∨ (∃ y, r = .inr y ∧ P μ1 (.inr y))))) : gWp (some (SL, xs)) 230 (576, [some (.ref 1000), some (.ref 0), some (.ref 1), some (.ref 64), some (.ref 65), some (.int x5), none, none, none], [], μ) cnt P := by
  obtain ⟨c1, h⟩ := h
  refine gWp_sts gT_230 7 (f' := (584, [some (.ref 1000), some (.ref 0), some (.ref 1), some (.ref 64), some (.ref 65), some (.int x5), none, none, none], [.ref 64, .int (xs (x5 + (1 : Int32)).toNatClampNeg), .ref 0], μ)) (cs := [vp_in (x5 + (1 : Int32)) SL]) rfl c1 ?_
  refine gWp_stat gT_230 (pc := 584) (c01 := 0) (as := [.ref 0, .int (xs (x5 + (1 : Int32)).toNatClampNeg), .ref 64]) (rest := []) rfl (Or.inl rfl) rfl rfl rfl ⟨by have := hcnt; show cnt + 1 ≤ 2560; omega, Nat.le_of_ble_eq_true rfl, by decide, Nat.le_of_ble_eq_true rfl⟩ (gWp_imp h (fun μ1 r h => ?_))
  rcases h with h | h
  · obtain ⟨v2, rfl, h⟩ := h
    refine Or.inl ⟨_, rfl, ?_⟩
    show gWp (some (SL, xs)) 230 (587, [some (.ref 1000), some (.ref 0), some (.ref 1), some (.ref 64), some (.ref 65), some (.int x5), none, none, none], [.int v2], μ1) _ P
    obtain ⟨c1, h⟩ := h
    refine gWp_sts gT_230 7 (f' := (596, [some (.ref 1000), some (.ref 0), some (.ref 1), some (.ref 64), some (.ref 65), some (.int x5), some (.int v2), none, none], [.int (xs (x5 + (1 : Int32)).toNatClampNeg), .ref 1], μ1)) (cs := [vp_in (x5 + (1 : Int32)) SL]) rfl c1 ?_
    refine gWp_virt gT_230 (pc := 596) (q := 1) (as := [.ref 1, .int (xs (x5 + (1 : Int32)).toNatClampNeg)]) (rest := []) rfl rfl rfl rfl rfl rfl ⟨by have := hcnt; show (cnt + 1) + 0 ≤ 2560; omega, Nat.le_of_ble_eq_true rfl, by decide, Nat.le_of_ble_eq_true rfl⟩ (gWp_imp h (fun μ3 r h => ?_))
    obtain ⟨v4, rfl, h⟩ := h
    refine Or.inl ⟨_, rfl, ?_⟩
    show gWp (some (SL, xs)) 230 (599, [some (.ref 1000), some (.ref 0), some (.ref 1), some (.ref 64), some (.ref 65), some (.int x5), some (.int v2), none, none], [.int v4], μ3) _ P
    refine gWp_sts gT_230 2 (f' := (602, [some (.ref 1000), some (.ref 0), some (.ref 1), some (.ref 64), some (.ref 65), some (.int x5), some (.int v2), some (.int v4), none], [.ref 1], μ3)) (cs := []) rfl trivial ?_
    refine gWp_virt gT_230 (pc := 602) (q := 1) (as := [.ref 1]) (rest := []) rfl rfl rfl rfl rfl rfl ⟨by have := hcnt; show (cnt + 1) + 0 ≤ 2560; omega, Nat.le_of_ble_eq_true rfl, by decide, Nat.le_of_ble_eq_true rfl⟩ (gWp_imp h (fun μ5 r h => ?_))
    obtain ⟨v6, rfl, h⟩ := h
    refine Or.inl ⟨_, rfl, ?_⟩
    show gWp (some (SL, xs)) 230 (605, [some (.ref 1000), some (.ref 0), some (.ref 1), some (.ref 64), some (.ref 65), some (.int x5), some (.int v2), some (.int v4), none], [.int v6], μ5) _ P
    refine gWp_sts gT_230 1 (f' := (607, [some (.ref 1000), some (.ref 0), some (.ref 1), some (.ref 64), some (.ref 65), some (.int x5), some (.int v2), some (.int v4), none], [.int v2, .int v6], μ5)) (cs := []) rfl trivial ?_
    refine gWp_icmp gT_230 (pc := 607) rfl ⟨fun c => ?_, fun c => ?_⟩
    · replace h := h.1 (of_decide_eq_true c)
      refine gWp_sts gT_230 1 (f' := (614, [some (.ref 1000), some (.ref 0), some (.ref 1), some (.ref 64), some (.ref 65), some (.int x5), some (.int v2), some (.int v4), none], [.int v2], μ5)) (cs := []) rfl trivial ?_
      refine gWp_if gT_230 (pc := 614) rfl ⟨fun c => ?_, fun c => ?_⟩
      · replace h := h.1 (of_decide_eq_true c)
        refine gWp_sts gT_230 1 (f' := (2023, [some (.ref 1000), some (.ref 0), some (.ref 1), some (.ref 64), some (.ref 65), some (.int x5), some (.int v2), some (.int v4), none], [], μ5)) (cs := []) rfl trivial ?_
        exact h
      · replace h := h.2 (Classical.not_not.mp (fun q => c (decide_eq_true q)))
        obtain ⟨c1, h⟩ := h
        refine gWp_sts gT_230 6 (f' := (624, [some (.ref 1000), some (.ref 0), some (.ref 1), some (.ref 64), some (.ref 65), some (.int x5), some (.int v2), some (.int v4), none], [.int (lg_cmp (gJ μ5 64 ((0 : Int32).toNatClampNeg)) v4.toInt64)], μ5)) (cs := [vp_in (0 : Int32) 1]) rfl c1 ?_
        refine gWp_if gT_230 (pc := 624) rfl ⟨fun c => ?_, fun c => ?_⟩
        · replace h := h.1 (of_decide_eq_true c)
          refine gWp_sts gT_230 1 (f' := (2023, [some (.ref 1000), some (.ref 0), some (.ref 1), some (.ref 64), some (.ref 65), some (.int x5), some (.int v2), some (.int v4), none], [], μ5)) (cs := []) rfl trivial ?_
          exact h
        · replace h := h.2 (fun q => c (decide_eq_true q))
          refine gWp_sts gT_230 1 (f' := (628, [some (.ref 1000), some (.ref 0), some (.ref 1), some (.ref 64), some (.ref 65), some (.int x5), some (.int v2), some (.int v4), none], [.int (0 : Int32)], μ5)) (cs := []) rfl trivial ?_
          exact gWp_end gT_230 rfl (gEnd_int (show narrow .boolean (.int (0 : Int32)) = .int (0 : Int32) by decide)) h
    · replace h := h.2 (fun q => c (decide_eq_true q))
      refine gWp_sts gT_230 1 (f' := (611, [some (.ref 1000), some (.ref 0), some (.ref 1), some (.ref 64), some (.ref 65), some (.int x5), some (.int v2), some (.int v4), none], [.int (0 : Int32)], μ5)) (cs := []) rfl trivial ?_
      exact gWp_end gT_230 rfl (gEnd_int (show narrow .boolean (.int (0 : Int32)) = .int (0 : Int32) by decide)) h
  · obtain ⟨y, rfl, h⟩ := h
    exact Or.inr (Or.inl ⟨y, rfl, rfl, h⟩)
set_option maxRecDepth 20000 in
theorem vl_632 {SL cnt : Nat} {xs : Nat → Int32} {μ : gMu} {x5 : Int32} {P : gMu → gRes → Prop} (hcnt : cnt + 5 ≤ 2560) (h : gCl' 5 [.ref 0] μ (fun μ1 r => (∃ v2, r = .inl (some (.int v2)) ∧ (gCl' 171 [.ref 1] μ1 (fun μ3 r => (∃ v4, r = .inl (some (.int v4)) ∧ (((v2 = v4) → (gWp (some (SL, xs)) 230 (2023, [some (.ref 1000), some (.ref 0), some (.ref 1), some (.ref 64), some (.ref 65), some (.int x5), none, none, none], [], μ3) cnt P)) ∧ ((¬ v2 = v4) → (P μ3 (.inl (some (.int (0 : Int32))))))))))))) : gWp (some (SL, xs)) 230 (632, [some (.ref 1000), some (.ref 0), some (.ref 1), some (.ref 64), some (.ref 65), some (.int x5), none, none, none], [], μ) cnt P := by
  refine gWp_sts gT_230 1 (f' := (633, [some (.ref 1000), some (.ref 0), some (.ref 1), some (.ref 64), some (.ref 65), some (.int x5), none, none, none], [.ref 0], μ)) (cs := []) rfl trivial ?_
  refine gWp_virt gT_230 (pc := 633) (q := 0) (as := [.ref 0]) (rest := []) rfl rfl rfl rfl rfl rfl ⟨by have := hcnt; show cnt + 0 ≤ 2560; omega, Nat.le_of_ble_eq_true rfl, by decide, Nat.le_of_ble_eq_true rfl⟩ (gWp_imp h (fun μ1 r h => ?_))
  obtain ⟨v2, rfl, h⟩ := h
  refine Or.inl ⟨_, rfl, ?_⟩
  show gWp (some (SL, xs)) 230 (636, [some (.ref 1000), some (.ref 0), some (.ref 1), some (.ref 64), some (.ref 65), some (.int x5), none, none, none], [.int v2], μ1) _ P
  refine gWp_sts gT_230 1 (f' := (637, [some (.ref 1000), some (.ref 0), some (.ref 1), some (.ref 64), some (.ref 65), some (.int x5), none, none, none], [.ref 1, .int v2], μ1)) (cs := []) rfl trivial ?_
  refine gWp_virt gT_230 (pc := 637) (q := 1) (as := [.ref 1]) (rest := [.int v2]) rfl rfl rfl rfl rfl rfl ⟨by have := hcnt; show cnt + 0 ≤ 2560; omega, Nat.le_of_ble_eq_true rfl, by decide, Nat.le_of_ble_eq_true rfl⟩ (gWp_imp h (fun μ3 r h => ?_))
  obtain ⟨v4, rfl, h⟩ := h
  refine Or.inl ⟨_, rfl, ?_⟩
  show gWp (some (SL, xs)) 230 (640, [some (.ref 1000), some (.ref 0), some (.ref 1), some (.ref 64), some (.ref 65), some (.int x5), none, none, none], [.int v4, .int v2], μ3) _ P
  refine gWp_icmp gT_230 (pc := 640) rfl ⟨fun c => ?_, fun c => ?_⟩
  · replace h := h.1 (of_decide_eq_true c)
    exact h
  · replace h := h.2 (fun q => c (decide_eq_true q))
    refine gWp_sts gT_230 1 (f' := (644, [some (.ref 1000), some (.ref 0), some (.ref 1), some (.ref 64), some (.ref 65), some (.int x5), none, none, none], [.int (0 : Int32)], μ3)) (cs := []) rfl trivial ?_
    exact gWp_end gT_230 rfl (gEnd_int (show narrow .boolean (.int (0 : Int32)) = .int (0 : Int32) by decide)) h
set_option maxRecDepth 20000 in
theorem vl_645 {SL cnt : Nat} {xs : Nat → Int32} {μ : gMu} {x5 : Int32} {P : gMu → gRes → Prop} (hcnt : cnt + 5 ≤ 2560) (h : (vp_in (x5 + (1 : Int32)) SL) ∧ (gCl' 93 [.ref 0, .int (xs (x5 + (1 : Int32)).toNatClampNeg), .ref 64] μ (fun μ1 r => (∃ v2, r = .inl (some (.int v2)) ∧ ((vp_in (x5 + (1 : Int32)) SL) ∧ (gCl' 181 [.ref 1, .int (xs (x5 + (1 : Int32)).toNatClampNeg)] μ1 (fun μ3 r => (∃ v4, r = .inl (some (.int v4)) ∧ (gCl' 152 [.ref 1] μ3 (fun μ5 r => (∃ v6, r = .inl (some (.int v6)) ∧ (((v6 = v2) → (((¬ v2 = 0) → (gWp (some (SL, xs)) 230 (2023, [some (.ref 1000), some (.ref 0), some (.ref 1), some (.ref 64), some (.ref 65), some (.int x5), some (.int v2), some (.int v4), none], [], μ5) (cnt + 2) P)) ∧ ((v2 = 0) → ((vp_in (0 : Int32) 1) ∧ ((((lg_cmp (gJ μ5 64 ((0 : Int32).toNatClampNeg)) v4.toInt64) = 0) → (gWp (some (SL, xs)) 230 (2023, [some (.ref 1000), some (.ref 0), some (.ref 1), some (.ref 64), some (.ref 65), some (.int x5), some (.int v2), some (.int v4), none], [], μ5) (cnt + 2) P)) ∧ ((¬ (lg_cmp (gJ μ5 64 ((0 : Int32).toNatClampNeg)) v4.toInt64) = 0) → (P μ5 (.inl (some (.int (0 : Int32))))))))))) ∧ ((¬ v6 = v2) → (P μ5 (.inl (some (.int (0 : Int32))))))))))))))) ∨ (∃ y, r = .inr y ∧ P μ1 (.inr y))))) : gWp (some (SL, xs)) 230 (645, [some (.ref 1000), some (.ref 0), some (.ref 1), some (.ref 64), some (.ref 65), some (.int x5), none, none, none], [], μ) cnt P := by
  obtain ⟨c1, h⟩ := h
  refine gWp_sts gT_230 7 (f' := (653, [some (.ref 1000), some (.ref 0), some (.ref 1), some (.ref 64), some (.ref 65), some (.int x5), none, none, none], [.ref 64, .int (xs (x5 + (1 : Int32)).toNatClampNeg), .ref 0], μ)) (cs := [vp_in (x5 + (1 : Int32)) SL]) rfl c1 ?_
  refine gWp_stat gT_230 (pc := 653) (c01 := 0) (as := [.ref 0, .int (xs (x5 + (1 : Int32)).toNatClampNeg), .ref 64]) (rest := []) rfl (Or.inl rfl) rfl rfl rfl ⟨by have := hcnt; show cnt + 2 ≤ 2560; omega, Nat.le_of_ble_eq_true rfl, by decide, Nat.le_of_ble_eq_true rfl⟩ (gWp_imp h (fun μ1 r h => ?_))
  rcases h with h | h
  · obtain ⟨v2, rfl, h⟩ := h
    refine Or.inl ⟨_, rfl, ?_⟩
    show gWp (some (SL, xs)) 230 (656, [some (.ref 1000), some (.ref 0), some (.ref 1), some (.ref 64), some (.ref 65), some (.int x5), none, none, none], [.int v2], μ1) _ P
    obtain ⟨c1, h⟩ := h
    refine gWp_sts gT_230 7 (f' := (665, [some (.ref 1000), some (.ref 0), some (.ref 1), some (.ref 64), some (.ref 65), some (.int x5), some (.int v2), none, none], [.int (xs (x5 + (1 : Int32)).toNatClampNeg), .ref 1], μ1)) (cs := [vp_in (x5 + (1 : Int32)) SL]) rfl c1 ?_
    refine gWp_virt gT_230 (pc := 665) (q := 1) (as := [.ref 1, .int (xs (x5 + (1 : Int32)).toNatClampNeg)]) (rest := []) rfl rfl rfl rfl rfl rfl ⟨by have := hcnt; show (cnt + 2) + 0 ≤ 2560; omega, Nat.le_of_ble_eq_true rfl, by decide, Nat.le_of_ble_eq_true rfl⟩ (gWp_imp h (fun μ3 r h => ?_))
    obtain ⟨v4, rfl, h⟩ := h
    refine Or.inl ⟨_, rfl, ?_⟩
    show gWp (some (SL, xs)) 230 (668, [some (.ref 1000), some (.ref 0), some (.ref 1), some (.ref 64), some (.ref 65), some (.int x5), some (.int v2), none, none], [.int v4], μ3) _ P
    refine gWp_sts gT_230 2 (f' := (671, [some (.ref 1000), some (.ref 0), some (.ref 1), some (.ref 64), some (.ref 65), some (.int x5), some (.int v2), some (.int v4), none], [.ref 1], μ3)) (cs := []) rfl trivial ?_
    refine gWp_virt gT_230 (pc := 671) (q := 1) (as := [.ref 1]) (rest := []) rfl rfl rfl rfl rfl rfl ⟨by have := hcnt; show (cnt + 2) + 0 ≤ 2560; omega, Nat.le_of_ble_eq_true rfl, by decide, Nat.le_of_ble_eq_true rfl⟩ (gWp_imp h (fun μ5 r h => ?_))
    obtain ⟨v6, rfl, h⟩ := h
    refine Or.inl ⟨_, rfl, ?_⟩
    show gWp (some (SL, xs)) 230 (674, [some (.ref 1000), some (.ref 0), some (.ref 1), some (.ref 64), some (.ref 65), some (.int x5), some (.int v2), some (.int v4), none], [.int v6], μ5) _ P
    refine gWp_sts gT_230 1 (f' := (676, [some (.ref 1000), some (.ref 0), some (.ref 1), some (.ref 64), some (.ref 65), some (.int x5), some (.int v2), some (.int v4), none], [.int v2, .int v6], μ5)) (cs := []) rfl trivial ?_
    refine gWp_icmp gT_230 (pc := 676) rfl ⟨fun c => ?_, fun c => ?_⟩
    · replace h := h.1 (of_decide_eq_true c)
      refine gWp_sts gT_230 1 (f' := (683, [some (.ref 1000), some (.ref 0), some (.ref 1), some (.ref 64), some (.ref 65), some (.int x5), some (.int v2), some (.int v4), none], [.int v2], μ5)) (cs := []) rfl trivial ?_
      refine gWp_if gT_230 (pc := 683) rfl ⟨fun c => ?_, fun c => ?_⟩
      · replace h := h.1 (of_decide_eq_true c)
        refine gWp_sts gT_230 1 (f' := (2023, [some (.ref 1000), some (.ref 0), some (.ref 1), some (.ref 64), some (.ref 65), some (.int x5), some (.int v2), some (.int v4), none], [], μ5)) (cs := []) rfl trivial ?_
        exact h
      · replace h := h.2 (Classical.not_not.mp (fun q => c (decide_eq_true q)))
        obtain ⟨c1, h⟩ := h
        refine gWp_sts gT_230 6 (f' := (693, [some (.ref 1000), some (.ref 0), some (.ref 1), some (.ref 64), some (.ref 65), some (.int x5), some (.int v2), some (.int v4), none], [.int (lg_cmp (gJ μ5 64 ((0 : Int32).toNatClampNeg)) v4.toInt64)], μ5)) (cs := [vp_in (0 : Int32) 1]) rfl c1 ?_
        refine gWp_if gT_230 (pc := 693) rfl ⟨fun c => ?_, fun c => ?_⟩
        · replace h := h.1 (of_decide_eq_true c)
          refine gWp_sts gT_230 1 (f' := (2023, [some (.ref 1000), some (.ref 0), some (.ref 1), some (.ref 64), some (.ref 65), some (.int x5), some (.int v2), some (.int v4), none], [], μ5)) (cs := []) rfl trivial ?_
          exact h
        · replace h := h.2 (fun q => c (decide_eq_true q))
          refine gWp_sts gT_230 1 (f' := (697, [some (.ref 1000), some (.ref 0), some (.ref 1), some (.ref 64), some (.ref 65), some (.int x5), some (.int v2), some (.int v4), none], [.int (0 : Int32)], μ5)) (cs := []) rfl trivial ?_
          exact gWp_end gT_230 rfl (gEnd_int (show narrow .boolean (.int (0 : Int32)) = .int (0 : Int32) by decide)) h
    · replace h := h.2 (fun q => c (decide_eq_true q))
      refine gWp_sts gT_230 1 (f' := (680, [some (.ref 1000), some (.ref 0), some (.ref 1), some (.ref 64), some (.ref 65), some (.int x5), some (.int v2), some (.int v4), none], [.int (0 : Int32)], μ5)) (cs := []) rfl trivial ?_
      exact gWp_end gT_230 rfl (gEnd_int (show narrow .boolean (.int (0 : Int32)) = .int (0 : Int32) by decide)) h
  · obtain ⟨y, rfl, h⟩ := h
    exact Or.inr (Or.inl ⟨y, rfl, rfl, h⟩)
set_option maxRecDepth 20000 in
theorem vl_701 {SL cnt : Nat} {xs : Nat → Int32} {μ : gMu} {x5 : Int32} {P : gMu → gRes → Prop} (hcnt : cnt + 5 ≤ 2560) (h : (vp_in (x5 + (1 : Int32)) SL) ∧ (gCl' 95 [.ref 0, .int (xs (x5 + (1 : Int32)).toNatClampNeg), .ref 64] μ (fun μ1 r => (∃ v2, r = .inl (some (.int v2)) ∧ ((vp_in (x5 + (1 : Int32)) SL) ∧ (gCl' 182 [.ref 1, .int (xs (x5 + (1 : Int32)).toNatClampNeg)] μ1 (fun μ3 r => (∃ v4, r = .inl (some (.int v4)) ∧ (gCl' 152 [.ref 1] μ3 (fun μ5 r => (∃ v6, r = .inl (some (.int v6)) ∧ (((v6 = v2) → (((¬ v2 = 0) → (gWp (some (SL, xs)) 230 (2023, [some (.ref 1000), some (.ref 0), some (.ref 1), some (.ref 64), some (.ref 65), some (.int x5), some (.int v2), some (.int v4), none], [], μ5) (cnt + 2) P)) ∧ ((v2 = 0) → ((vp_in (0 : Int32) 1) ∧ ((((lg_cmp (gJ μ5 64 ((0 : Int32).toNatClampNeg)) v4.toInt64) = 0) → (gWp (some (SL, xs)) 230 (2023, [some (.ref 1000), some (.ref 0), some (.ref 1), some (.ref 64), some (.ref 65), some (.int x5), some (.int v2), some (.int v4), none], [], μ5) (cnt + 2) P)) ∧ ((¬ (lg_cmp (gJ μ5 64 ((0 : Int32).toNatClampNeg)) v4.toInt64) = 0) → (P μ5 (.inl (some (.int (0 : Int32))))))))))) ∧ ((¬ v6 = v2) → (P μ5 (.inl (some (.int (0 : Int32))))))))))))))) ∨ (∃ y, r = .inr y ∧ P μ1 (.inr y))))) : gWp (some (SL, xs)) 230 (701, [some (.ref 1000), some (.ref 0), some (.ref 1), some (.ref 64), some (.ref 65), some (.int x5), none, none, none], [], μ) cnt P := by
  obtain ⟨c1, h⟩ := h
  refine gWp_sts gT_230 7 (f' := (709, [some (.ref 1000), some (.ref 0), some (.ref 1), some (.ref 64), some (.ref 65), some (.int x5), none, none, none], [.ref 64, .int (xs (x5 + (1 : Int32)).toNatClampNeg), .ref 0], μ)) (cs := [vp_in (x5 + (1 : Int32)) SL]) rfl c1 ?_
  refine gWp_stat gT_230 (pc := 709) (c01 := 0) (as := [.ref 0, .int (xs (x5 + (1 : Int32)).toNatClampNeg), .ref 64]) (rest := []) rfl (Or.inl rfl) rfl rfl rfl ⟨by have := hcnt; show cnt + 2 ≤ 2560; omega, Nat.le_of_ble_eq_true rfl, by decide, Nat.le_of_ble_eq_true rfl⟩ (gWp_imp h (fun μ1 r h => ?_))
  rcases h with h | h
  · obtain ⟨v2, rfl, h⟩ := h
    refine Or.inl ⟨_, rfl, ?_⟩
    show gWp (some (SL, xs)) 230 (712, [some (.ref 1000), some (.ref 0), some (.ref 1), some (.ref 64), some (.ref 65), some (.int x5), none, none, none], [.int v2], μ1) _ P
    obtain ⟨c1, h⟩ := h
    refine gWp_sts gT_230 7 (f' := (721, [some (.ref 1000), some (.ref 0), some (.ref 1), some (.ref 64), some (.ref 65), some (.int x5), some (.int v2), none, none], [.int (xs (x5 + (1 : Int32)).toNatClampNeg), .ref 1], μ1)) (cs := [vp_in (x5 + (1 : Int32)) SL]) rfl c1 ?_
    refine gWp_virt gT_230 (pc := 721) (q := 1) (as := [.ref 1, .int (xs (x5 + (1 : Int32)).toNatClampNeg)]) (rest := []) rfl rfl rfl rfl rfl rfl ⟨by have := hcnt; show (cnt + 2) + 0 ≤ 2560; omega, Nat.le_of_ble_eq_true rfl, by decide, Nat.le_of_ble_eq_true rfl⟩ (gWp_imp h (fun μ3 r h => ?_))
    obtain ⟨v4, rfl, h⟩ := h
    refine Or.inl ⟨_, rfl, ?_⟩
    show gWp (some (SL, xs)) 230 (724, [some (.ref 1000), some (.ref 0), some (.ref 1), some (.ref 64), some (.ref 65), some (.int x5), some (.int v2), none, none], [.int v4], μ3) _ P
    refine gWp_sts gT_230 2 (f' := (727, [some (.ref 1000), some (.ref 0), some (.ref 1), some (.ref 64), some (.ref 65), some (.int x5), some (.int v2), some (.int v4), none], [.ref 1], μ3)) (cs := []) rfl trivial ?_
    refine gWp_virt gT_230 (pc := 727) (q := 1) (as := [.ref 1]) (rest := []) rfl rfl rfl rfl rfl rfl ⟨by have := hcnt; show (cnt + 2) + 0 ≤ 2560; omega, Nat.le_of_ble_eq_true rfl, by decide, Nat.le_of_ble_eq_true rfl⟩ (gWp_imp h (fun μ5 r h => ?_))
    obtain ⟨v6, rfl, h⟩ := h
    refine Or.inl ⟨_, rfl, ?_⟩
    show gWp (some (SL, xs)) 230 (730, [some (.ref 1000), some (.ref 0), some (.ref 1), some (.ref 64), some (.ref 65), some (.int x5), some (.int v2), some (.int v4), none], [.int v6], μ5) _ P
    refine gWp_sts gT_230 1 (f' := (732, [some (.ref 1000), some (.ref 0), some (.ref 1), some (.ref 64), some (.ref 65), some (.int x5), some (.int v2), some (.int v4), none], [.int v2, .int v6], μ5)) (cs := []) rfl trivial ?_
    refine gWp_icmp gT_230 (pc := 732) rfl ⟨fun c => ?_, fun c => ?_⟩
    · replace h := h.1 (of_decide_eq_true c)
      refine gWp_sts gT_230 1 (f' := (739, [some (.ref 1000), some (.ref 0), some (.ref 1), some (.ref 64), some (.ref 65), some (.int x5), some (.int v2), some (.int v4), none], [.int v2], μ5)) (cs := []) rfl trivial ?_
      refine gWp_if gT_230 (pc := 739) rfl ⟨fun c => ?_, fun c => ?_⟩
      · replace h := h.1 (of_decide_eq_true c)
        refine gWp_sts gT_230 1 (f' := (2023, [some (.ref 1000), some (.ref 0), some (.ref 1), some (.ref 64), some (.ref 65), some (.int x5), some (.int v2), some (.int v4), none], [], μ5)) (cs := []) rfl trivial ?_
        exact h
      · replace h := h.2 (Classical.not_not.mp (fun q => c (decide_eq_true q)))
        obtain ⟨c1, h⟩ := h
        refine gWp_sts gT_230 6 (f' := (749, [some (.ref 1000), some (.ref 0), some (.ref 1), some (.ref 64), some (.ref 65), some (.int x5), some (.int v2), some (.int v4), none], [.int (lg_cmp (gJ μ5 64 ((0 : Int32).toNatClampNeg)) v4.toInt64)], μ5)) (cs := [vp_in (0 : Int32) 1]) rfl c1 ?_
        refine gWp_if gT_230 (pc := 749) rfl ⟨fun c => ?_, fun c => ?_⟩
        · replace h := h.1 (of_decide_eq_true c)
          refine gWp_sts gT_230 1 (f' := (2023, [some (.ref 1000), some (.ref 0), some (.ref 1), some (.ref 64), some (.ref 65), some (.int x5), some (.int v2), some (.int v4), none], [], μ5)) (cs := []) rfl trivial ?_
          exact h
        · replace h := h.2 (fun q => c (decide_eq_true q))
          refine gWp_sts gT_230 1 (f' := (753, [some (.ref 1000), some (.ref 0), some (.ref 1), some (.ref 64), some (.ref 65), some (.int x5), some (.int v2), some (.int v4), none], [.int (0 : Int32)], μ5)) (cs := []) rfl trivial ?_
          exact gWp_end gT_230 rfl (gEnd_int (show narrow .boolean (.int (0 : Int32)) = .int (0 : Int32) by decide)) h
    · replace h := h.2 (fun q => c (decide_eq_true q))
      refine gWp_sts gT_230 1 (f' := (736, [some (.ref 1000), some (.ref 0), some (.ref 1), some (.ref 64), some (.ref 65), some (.int x5), some (.int v2), some (.int v4), none], [.int (0 : Int32)], μ5)) (cs := []) rfl trivial ?_
      exact gWp_end gT_230 rfl (gEnd_int (show narrow .boolean (.int (0 : Int32)) = .int (0 : Int32) by decide)) h
  · obtain ⟨y, rfl, h⟩ := h
    exact Or.inr (Or.inl ⟨y, rfl, rfl, h⟩)
set_option maxRecDepth 20000 in
theorem vl_757 {SL cnt : Nat} {xs : Nat → Int32} {μ : gMu} {x5 : Int32} {P : gMu → gRes → Prop} (hcnt : cnt + 5 ≤ 2560) (h : (vp_in (x5 + (1 : Int32)) SL) ∧ (gCl' 97 [.ref 0, .int (xs (x5 + (1 : Int32)).toNatClampNeg), .ref 64] μ (fun μ1 r => (∃ v2, r = .inl (some (.int v2)) ∧ ((vp_in (x5 + (1 : Int32)) SL) ∧ (gCl' 183 [.ref 1, .int (xs (x5 + (1 : Int32)).toNatClampNeg)] μ1 (fun μ3 r => (∃ v4, r = .inl (some (.int v4)) ∧ (gCl' 152 [.ref 1] μ3 (fun μ5 r => (∃ v6, r = .inl (some (.int v6)) ∧ (((v6 = v2) → (((¬ v2 = 0) → (gWp (some (SL, xs)) 230 (2023, [some (.ref 1000), some (.ref 0), some (.ref 1), some (.ref 64), some (.ref 65), some (.int x5), some (.int v2), some (.int v4), none], [], μ5) (cnt + 2) P)) ∧ ((v2 = 0) → ((vp_in (0 : Int32) 1) ∧ ((((lg_cmp (gJ μ5 64 ((0 : Int32).toNatClampNeg)) v4.toInt64) = 0) → (gWp (some (SL, xs)) 230 (2023, [some (.ref 1000), some (.ref 0), some (.ref 1), some (.ref 64), some (.ref 65), some (.int x5), some (.int v2), some (.int v4), none], [], μ5) (cnt + 2) P)) ∧ ((¬ (lg_cmp (gJ μ5 64 ((0 : Int32).toNatClampNeg)) v4.toInt64) = 0) → (P μ5 (.inl (some (.int (0 : Int32))))))))))) ∧ ((¬ v6 = v2) → (P μ5 (.inl (some (.int (0 : Int32))))))))))))))) ∨ (∃ y, r = .inr y ∧ P μ1 (.inr y))))) : gWp (some (SL, xs)) 230 (757, [some (.ref 1000), some (.ref 0), some (.ref 1), some (.ref 64), some (.ref 65), some (.int x5), none, none, none], [], μ) cnt P := by
  obtain ⟨c1, h⟩ := h
  refine gWp_sts gT_230 7 (f' := (765, [some (.ref 1000), some (.ref 0), some (.ref 1), some (.ref 64), some (.ref 65), some (.int x5), none, none, none], [.ref 64, .int (xs (x5 + (1 : Int32)).toNatClampNeg), .ref 0], μ)) (cs := [vp_in (x5 + (1 : Int32)) SL]) rfl c1 ?_
  refine gWp_stat gT_230 (pc := 765) (c01 := 0) (as := [.ref 0, .int (xs (x5 + (1 : Int32)).toNatClampNeg), .ref 64]) (rest := []) rfl (Or.inl rfl) rfl rfl rfl ⟨by have := hcnt; show cnt + 2 ≤ 2560; omega, Nat.le_of_ble_eq_true rfl, by decide, Nat.le_of_ble_eq_true rfl⟩ (gWp_imp h (fun μ1 r h => ?_))
  rcases h with h | h
  · obtain ⟨v2, rfl, h⟩ := h
    refine Or.inl ⟨_, rfl, ?_⟩
    show gWp (some (SL, xs)) 230 (768, [some (.ref 1000), some (.ref 0), some (.ref 1), some (.ref 64), some (.ref 65), some (.int x5), none, none, none], [.int v2], μ1) _ P
    obtain ⟨c1, h⟩ := h
    refine gWp_sts gT_230 7 (f' := (777, [some (.ref 1000), some (.ref 0), some (.ref 1), some (.ref 64), some (.ref 65), some (.int x5), some (.int v2), none, none], [.int (xs (x5 + (1 : Int32)).toNatClampNeg), .ref 1], μ1)) (cs := [vp_in (x5 + (1 : Int32)) SL]) rfl c1 ?_
    refine gWp_virt gT_230 (pc := 777) (q := 1) (as := [.ref 1, .int (xs (x5 + (1 : Int32)).toNatClampNeg)]) (rest := []) rfl rfl rfl rfl rfl rfl ⟨by have := hcnt; show (cnt + 2) + 0 ≤ 2560; omega, Nat.le_of_ble_eq_true rfl, by decide, Nat.le_of_ble_eq_true rfl⟩ (gWp_imp h (fun μ3 r h => ?_))
    obtain ⟨v4, rfl, h⟩ := h
    refine Or.inl ⟨_, rfl, ?_⟩
    show gWp (some (SL, xs)) 230 (780, [some (.ref 1000), some (.ref 0), some (.ref 1), some (.ref 64), some (.ref 65), some (.int x5), some (.int v2), none, none], [.int v4], μ3) _ P
    refine gWp_sts gT_230 2 (f' := (783, [some (.ref 1000), some (.ref 0), some (.ref 1), some (.ref 64), some (.ref 65), some (.int x5), some (.int v2), some (.int v4), none], [.ref 1], μ3)) (cs := []) rfl trivial ?_
    refine gWp_virt gT_230 (pc := 783) (q := 1) (as := [.ref 1]) (rest := []) rfl rfl rfl rfl rfl rfl ⟨by have := hcnt; show (cnt + 2) + 0 ≤ 2560; omega, Nat.le_of_ble_eq_true rfl, by decide, Nat.le_of_ble_eq_true rfl⟩ (gWp_imp h (fun μ5 r h => ?_))
    obtain ⟨v6, rfl, h⟩ := h
    refine Or.inl ⟨_, rfl, ?_⟩
    show gWp (some (SL, xs)) 230 (786, [some (.ref 1000), some (.ref 0), some (.ref 1), some (.ref 64), some (.ref 65), some (.int x5), some (.int v2), some (.int v4), none], [.int v6], μ5) _ P
    refine gWp_sts gT_230 1 (f' := (788, [some (.ref 1000), some (.ref 0), some (.ref 1), some (.ref 64), some (.ref 65), some (.int x5), some (.int v2), some (.int v4), none], [.int v2, .int v6], μ5)) (cs := []) rfl trivial ?_
    refine gWp_icmp gT_230 (pc := 788) rfl ⟨fun c => ?_, fun c => ?_⟩
    · replace h := h.1 (of_decide_eq_true c)
      refine gWp_sts gT_230 1 (f' := (795, [some (.ref 1000), some (.ref 0), some (.ref 1), some (.ref 64), some (.ref 65), some (.int x5), some (.int v2), some (.int v4), none], [.int v2], μ5)) (cs := []) rfl trivial ?_
      refine gWp_if gT_230 (pc := 795) rfl ⟨fun c => ?_, fun c => ?_⟩
      · replace h := h.1 (of_decide_eq_true c)
        refine gWp_sts gT_230 1 (f' := (2023, [some (.ref 1000), some (.ref 0), some (.ref 1), some (.ref 64), some (.ref 65), some (.int x5), some (.int v2), some (.int v4), none], [], μ5)) (cs := []) rfl trivial ?_
        exact h
      · replace h := h.2 (Classical.not_not.mp (fun q => c (decide_eq_true q)))
        obtain ⟨c1, h⟩ := h
        refine gWp_sts gT_230 6 (f' := (805, [some (.ref 1000), some (.ref 0), some (.ref 1), some (.ref 64), some (.ref 65), some (.int x5), some (.int v2), some (.int v4), none], [.int (lg_cmp (gJ μ5 64 ((0 : Int32).toNatClampNeg)) v4.toInt64)], μ5)) (cs := [vp_in (0 : Int32) 1]) rfl c1 ?_
        refine gWp_if gT_230 (pc := 805) rfl ⟨fun c => ?_, fun c => ?_⟩
        · replace h := h.1 (of_decide_eq_true c)
          refine gWp_sts gT_230 1 (f' := (2023, [some (.ref 1000), some (.ref 0), some (.ref 1), some (.ref 64), some (.ref 65), some (.int x5), some (.int v2), some (.int v4), none], [], μ5)) (cs := []) rfl trivial ?_
          exact h
        · replace h := h.2 (fun q => c (decide_eq_true q))
          refine gWp_sts gT_230 1 (f' := (809, [some (.ref 1000), some (.ref 0), some (.ref 1), some (.ref 64), some (.ref 65), some (.int x5), some (.int v2), some (.int v4), none], [.int (0 : Int32)], μ5)) (cs := []) rfl trivial ?_
          exact gWp_end gT_230 rfl (gEnd_int (show narrow .boolean (.int (0 : Int32)) = .int (0 : Int32) by decide)) h
    · replace h := h.2 (fun q => c (decide_eq_true q))
      refine gWp_sts gT_230 1 (f' := (792, [some (.ref 1000), some (.ref 0), some (.ref 1), some (.ref 64), some (.ref 65), some (.int x5), some (.int v2), some (.int v4), none], [.int (0 : Int32)], μ5)) (cs := []) rfl trivial ?_
      exact gWp_end gT_230 rfl (gEnd_int (show narrow .boolean (.int (0 : Int32)) = .int (0 : Int32) by decide)) h
  · obtain ⟨y, rfl, h⟩ := h
    exact Or.inr (Or.inl ⟨y, rfl, rfl, h⟩)
set_option maxRecDepth 20000 in
theorem vl_813 {SL cnt : Nat} {xs : Nat → Int32} {μ : gMu} {x5 : Int32} {P : gMu → gRes → Prop} (hcnt : cnt + 5 ≤ 2560) (h : (vp_in (x5 + (1 : Int32)) SL) ∧ (gCl' 99 [.ref 0, .int (xs (x5 + (1 : Int32)).toNatClampNeg), .ref 64] μ (fun μ1 r => (∃ v2, r = .inl (some (.int v2)) ∧ ((vp_in (x5 + (1 : Int32)) SL) ∧ (gCl' 184 [.ref 1, .int (xs (x5 + (1 : Int32)).toNatClampNeg)] μ1 (fun μ3 r => (∃ v4, r = .inl (some (.int v4)) ∧ (gCl' 152 [.ref 1] μ3 (fun μ5 r => (∃ v6, r = .inl (some (.int v6)) ∧ (((v6 = v2) → (((¬ v2 = 0) → (gWp (some (SL, xs)) 230 (2023, [some (.ref 1000), some (.ref 0), some (.ref 1), some (.ref 64), some (.ref 65), some (.int x5), some (.int v2), some (.int v4), none], [], μ5) (cnt + 2) P)) ∧ ((v2 = 0) → ((vp_in (0 : Int32) 1) ∧ ((((lg_cmp (gJ μ5 64 ((0 : Int32).toNatClampNeg)) v4.toInt64) = 0) → (gWp (some (SL, xs)) 230 (2023, [some (.ref 1000), some (.ref 0), some (.ref 1), some (.ref 64), some (.ref 65), some (.int x5), some (.int v2), some (.int v4), none], [], μ5) (cnt + 2) P)) ∧ ((¬ (lg_cmp (gJ μ5 64 ((0 : Int32).toNatClampNeg)) v4.toInt64) = 0) → (P μ5 (.inl (some (.int (0 : Int32))))))))))) ∧ ((¬ v6 = v2) → (P μ5 (.inl (some (.int (0 : Int32))))))))))))))) ∨ (∃ y, r = .inr y ∧ P μ1 (.inr y))))) : gWp (some (SL, xs)) 230 (813, [some (.ref 1000), some (.ref 0), some (.ref 1), some (.ref 64), some (.ref 65), some (.int x5), none, none, none], [], μ) cnt P := by
  obtain ⟨c1, h⟩ := h
  refine gWp_sts gT_230 7 (f' := (821, [some (.ref 1000), some (.ref 0), some (.ref 1), some (.ref 64), some (.ref 65), some (.int x5), none, none, none], [.ref 64, .int (xs (x5 + (1 : Int32)).toNatClampNeg), .ref 0], μ)) (cs := [vp_in (x5 + (1 : Int32)) SL]) rfl c1 ?_
  refine gWp_stat gT_230 (pc := 821) (c01 := 0) (as := [.ref 0, .int (xs (x5 + (1 : Int32)).toNatClampNeg), .ref 64]) (rest := []) rfl (Or.inl rfl) rfl rfl rfl ⟨by have := hcnt; show cnt + 2 ≤ 2560; omega, Nat.le_of_ble_eq_true rfl, by decide, Nat.le_of_ble_eq_true rfl⟩ (gWp_imp h (fun μ1 r h => ?_))
  rcases h with h | h
  · obtain ⟨v2, rfl, h⟩ := h
    refine Or.inl ⟨_, rfl, ?_⟩
    show gWp (some (SL, xs)) 230 (824, [some (.ref 1000), some (.ref 0), some (.ref 1), some (.ref 64), some (.ref 65), some (.int x5), none, none, none], [.int v2], μ1) _ P
    obtain ⟨c1, h⟩ := h
    refine gWp_sts gT_230 7 (f' := (833, [some (.ref 1000), some (.ref 0), some (.ref 1), some (.ref 64), some (.ref 65), some (.int x5), some (.int v2), none, none], [.int (xs (x5 + (1 : Int32)).toNatClampNeg), .ref 1], μ1)) (cs := [vp_in (x5 + (1 : Int32)) SL]) rfl c1 ?_
    refine gWp_virt gT_230 (pc := 833) (q := 1) (as := [.ref 1, .int (xs (x5 + (1 : Int32)).toNatClampNeg)]) (rest := []) rfl rfl rfl rfl rfl rfl ⟨by have := hcnt; show (cnt + 2) + 0 ≤ 2560; omega, Nat.le_of_ble_eq_true rfl, by decide, Nat.le_of_ble_eq_true rfl⟩ (gWp_imp h (fun μ3 r h => ?_))
    obtain ⟨v4, rfl, h⟩ := h
    refine Or.inl ⟨_, rfl, ?_⟩
    show gWp (some (SL, xs)) 230 (836, [some (.ref 1000), some (.ref 0), some (.ref 1), some (.ref 64), some (.ref 65), some (.int x5), some (.int v2), none, none], [.int v4], μ3) _ P
    refine gWp_sts gT_230 2 (f' := (839, [some (.ref 1000), some (.ref 0), some (.ref 1), some (.ref 64), some (.ref 65), some (.int x5), some (.int v2), some (.int v4), none], [.ref 1], μ3)) (cs := []) rfl trivial ?_
    refine gWp_virt gT_230 (pc := 839) (q := 1) (as := [.ref 1]) (rest := []) rfl rfl rfl rfl rfl rfl ⟨by have := hcnt; show (cnt + 2) + 0 ≤ 2560; omega, Nat.le_of_ble_eq_true rfl, by decide, Nat.le_of_ble_eq_true rfl⟩ (gWp_imp h (fun μ5 r h => ?_))
    obtain ⟨v6, rfl, h⟩ := h
    refine Or.inl ⟨_, rfl, ?_⟩
    show gWp (some (SL, xs)) 230 (842, [some (.ref 1000), some (.ref 0), some (.ref 1), some (.ref 64), some (.ref 65), some (.int x5), some (.int v2), some (.int v4), none], [.int v6], μ5) _ P
    refine gWp_sts gT_230 1 (f' := (844, [some (.ref 1000), some (.ref 0), some (.ref 1), some (.ref 64), some (.ref 65), some (.int x5), some (.int v2), some (.int v4), none], [.int v2, .int v6], μ5)) (cs := []) rfl trivial ?_
    refine gWp_icmp gT_230 (pc := 844) rfl ⟨fun c => ?_, fun c => ?_⟩
    · replace h := h.1 (of_decide_eq_true c)
      refine gWp_sts gT_230 1 (f' := (851, [some (.ref 1000), some (.ref 0), some (.ref 1), some (.ref 64), some (.ref 65), some (.int x5), some (.int v2), some (.int v4), none], [.int v2], μ5)) (cs := []) rfl trivial ?_
      refine gWp_if gT_230 (pc := 851) rfl ⟨fun c => ?_, fun c => ?_⟩
      · replace h := h.1 (of_decide_eq_true c)
        refine gWp_sts gT_230 1 (f' := (2023, [some (.ref 1000), some (.ref 0), some (.ref 1), some (.ref 64), some (.ref 65), some (.int x5), some (.int v2), some (.int v4), none], [], μ5)) (cs := []) rfl trivial ?_
        exact h
      · replace h := h.2 (Classical.not_not.mp (fun q => c (decide_eq_true q)))
        obtain ⟨c1, h⟩ := h
        refine gWp_sts gT_230 6 (f' := (861, [some (.ref 1000), some (.ref 0), some (.ref 1), some (.ref 64), some (.ref 65), some (.int x5), some (.int v2), some (.int v4), none], [.int (lg_cmp (gJ μ5 64 ((0 : Int32).toNatClampNeg)) v4.toInt64)], μ5)) (cs := [vp_in (0 : Int32) 1]) rfl c1 ?_
        refine gWp_if gT_230 (pc := 861) rfl ⟨fun c => ?_, fun c => ?_⟩
        · replace h := h.1 (of_decide_eq_true c)
          refine gWp_sts gT_230 1 (f' := (2023, [some (.ref 1000), some (.ref 0), some (.ref 1), some (.ref 64), some (.ref 65), some (.int x5), some (.int v2), some (.int v4), none], [], μ5)) (cs := []) rfl trivial ?_
          exact h
        · replace h := h.2 (fun q => c (decide_eq_true q))
          refine gWp_sts gT_230 1 (f' := (865, [some (.ref 1000), some (.ref 0), some (.ref 1), some (.ref 64), some (.ref 65), some (.int x5), some (.int v2), some (.int v4), none], [.int (0 : Int32)], μ5)) (cs := []) rfl trivial ?_
          exact gWp_end gT_230 rfl (gEnd_int (show narrow .boolean (.int (0 : Int32)) = .int (0 : Int32) by decide)) h
    · replace h := h.2 (fun q => c (decide_eq_true q))
      refine gWp_sts gT_230 1 (f' := (848, [some (.ref 1000), some (.ref 0), some (.ref 1), some (.ref 64), some (.ref 65), some (.int x5), some (.int v2), some (.int v4), none], [.int (0 : Int32)], μ5)) (cs := []) rfl trivial ?_
      exact gWp_end gT_230 rfl (gEnd_int (show narrow .boolean (.int (0 : Int32)) = .int (0 : Int32) by decide)) h
  · obtain ⟨y, rfl, h⟩ := h
    exact Or.inr (Or.inl ⟨y, rfl, rfl, h⟩)
set_option maxRecDepth 20000 in
theorem vl_869 {SL cnt : Nat} {xs : Nat → Int32} {μ : gMu} {x5 : Int32} {P : gMu → gRes → Prop} (hcnt : cnt + 5 ≤ 2560) (h : gCl' 63 [.ref 0] μ (fun μ1 r => (∃ v2, r = .inl (some (.int v2)) ∧ (gCl' 185 [.ref 1] μ1 (fun μ3 r => (∃ v4, r = .inl (some (.int v4)) ∧ (((v2 = v4) → (gWp (some (SL, xs)) 230 (2023, [some (.ref 1000), some (.ref 0), some (.ref 1), some (.ref 64), some (.ref 65), some (.int x5), none, none, none], [], μ3) cnt P)) ∧ ((¬ v2 = v4) → (P μ3 (.inl (some (.int (0 : Int32))))))))))))) : gWp (some (SL, xs)) 230 (869, [some (.ref 1000), some (.ref 0), some (.ref 1), some (.ref 64), some (.ref 65), some (.int x5), none, none, none], [], μ) cnt P := by
  refine gWp_sts gT_230 1 (f' := (870, [some (.ref 1000), some (.ref 0), some (.ref 1), some (.ref 64), some (.ref 65), some (.int x5), none, none, none], [.ref 0], μ)) (cs := []) rfl trivial ?_
  refine gWp_virt gT_230 (pc := 870) (q := 0) (as := [.ref 0]) (rest := []) rfl rfl rfl rfl rfl rfl ⟨by have := hcnt; show cnt + 0 ≤ 2560; omega, Nat.le_of_ble_eq_true rfl, by decide, Nat.le_of_ble_eq_true rfl⟩ (gWp_imp h (fun μ1 r h => ?_))
  obtain ⟨v2, rfl, h⟩ := h
  refine Or.inl ⟨_, rfl, ?_⟩
  show gWp (some (SL, xs)) 230 (873, [some (.ref 1000), some (.ref 0), some (.ref 1), some (.ref 64), some (.ref 65), some (.int x5), none, none, none], [.int v2], μ1) _ P
  refine gWp_sts gT_230 1 (f' := (874, [some (.ref 1000), some (.ref 0), some (.ref 1), some (.ref 64), some (.ref 65), some (.int x5), none, none, none], [.ref 1, .int v2], μ1)) (cs := []) rfl trivial ?_
  refine gWp_virt gT_230 (pc := 874) (q := 1) (as := [.ref 1]) (rest := [.int v2]) rfl rfl rfl rfl rfl rfl ⟨by have := hcnt; show cnt + 0 ≤ 2560; omega, Nat.le_of_ble_eq_true rfl, by decide, Nat.le_of_ble_eq_true rfl⟩ (gWp_imp h (fun μ3 r h => ?_))
  obtain ⟨v4, rfl, h⟩ := h
  refine Or.inl ⟨_, rfl, ?_⟩
  show gWp (some (SL, xs)) 230 (877, [some (.ref 1000), some (.ref 0), some (.ref 1), some (.ref 64), some (.ref 65), some (.int x5), none, none, none], [.int v4, .int v2], μ3) _ P
  refine gWp_icmp gT_230 (pc := 877) rfl ⟨fun c => ?_, fun c => ?_⟩
  · replace h := h.1 (of_decide_eq_true c)
    exact h
  · replace h := h.2 (fun q => c (decide_eq_true q))
    refine gWp_sts gT_230 1 (f' := (881, [some (.ref 1000), some (.ref 0), some (.ref 1), some (.ref 64), some (.ref 65), some (.int x5), none, none, none], [.int (0 : Int32)], μ3)) (cs := []) rfl trivial ?_
    exact gWp_end gT_230 rfl (gEnd_int (show narrow .boolean (.int (0 : Int32)) = .int (0 : Int32) by decide)) h
set_option maxRecDepth 20000 in
theorem vl_882 {SL cnt : Nat} {xs : Nat → Int32} {μ : gMu} {x5 : Int32} {P : gMu → gRes → Prop} (hcnt : cnt + 5 ≤ 2560) (h : (vp_in (x5 + (1 : Int32)) SL) ∧ (gCl' 102 [.ref 0, .int (xs (x5 + (1 : Int32)).toNatClampNeg), .ref 64] μ (fun μ1 r => (∃ v2, r = .inl (some (.int v2)) ∧ ((vp_in (x5 + (1 : Int32)) SL) ∧ (gCl' 186 [.ref 1, .int (xs (x5 + (1 : Int32)).toNatClampNeg)] μ1 (fun μ3 r => (∃ v4, r = .inl (some (.int v4)) ∧ (gCl' 152 [.ref 1] μ3 (fun μ5 r => (∃ v6, r = .inl (some (.int v6)) ∧ (((v6 = v2) → (((¬ v2 = 0) → (gWp (some (SL, xs)) 230 (2023, [some (.ref 1000), some (.ref 0), some (.ref 1), some (.ref 64), some (.ref 65), some (.int x5), some (.int v2), some (.int v4), none], [], μ5) (cnt + 2) P)) ∧ ((v2 = 0) → ((vp_in (0 : Int32) 1) ∧ ((((lg_cmp (gJ μ5 64 ((0 : Int32).toNatClampNeg)) v4.toInt64) = 0) → (gWp (some (SL, xs)) 230 (2023, [some (.ref 1000), some (.ref 0), some (.ref 1), some (.ref 64), some (.ref 65), some (.int x5), some (.int v2), some (.int v4), none], [], μ5) (cnt + 2) P)) ∧ ((¬ (lg_cmp (gJ μ5 64 ((0 : Int32).toNatClampNeg)) v4.toInt64) = 0) → (P μ5 (.inl (some (.int (0 : Int32))))))))))) ∧ ((¬ v6 = v2) → (P μ5 (.inl (some (.int (0 : Int32))))))))))))))) ∨ (∃ y, r = .inr y ∧ P μ1 (.inr y))))) : gWp (some (SL, xs)) 230 (882, [some (.ref 1000), some (.ref 0), some (.ref 1), some (.ref 64), some (.ref 65), some (.int x5), none, none, none], [], μ) cnt P := by
  obtain ⟨c1, h⟩ := h
  refine gWp_sts gT_230 7 (f' := (890, [some (.ref 1000), some (.ref 0), some (.ref 1), some (.ref 64), some (.ref 65), some (.int x5), none, none, none], [.ref 64, .int (xs (x5 + (1 : Int32)).toNatClampNeg), .ref 0], μ)) (cs := [vp_in (x5 + (1 : Int32)) SL]) rfl c1 ?_
  refine gWp_stat gT_230 (pc := 890) (c01 := 0) (as := [.ref 0, .int (xs (x5 + (1 : Int32)).toNatClampNeg), .ref 64]) (rest := []) rfl (Or.inl rfl) rfl rfl rfl ⟨by have := hcnt; show cnt + 2 ≤ 2560; omega, Nat.le_of_ble_eq_true rfl, by decide, Nat.le_of_ble_eq_true rfl⟩ (gWp_imp h (fun μ1 r h => ?_))
  rcases h with h | h
  · obtain ⟨v2, rfl, h⟩ := h
    refine Or.inl ⟨_, rfl, ?_⟩
    show gWp (some (SL, xs)) 230 (893, [some (.ref 1000), some (.ref 0), some (.ref 1), some (.ref 64), some (.ref 65), some (.int x5), none, none, none], [.int v2], μ1) _ P
    obtain ⟨c1, h⟩ := h
    refine gWp_sts gT_230 7 (f' := (902, [some (.ref 1000), some (.ref 0), some (.ref 1), some (.ref 64), some (.ref 65), some (.int x5), some (.int v2), none, none], [.int (xs (x5 + (1 : Int32)).toNatClampNeg), .ref 1], μ1)) (cs := [vp_in (x5 + (1 : Int32)) SL]) rfl c1 ?_
    refine gWp_virt gT_230 (pc := 902) (q := 1) (as := [.ref 1, .int (xs (x5 + (1 : Int32)).toNatClampNeg)]) (rest := []) rfl rfl rfl rfl rfl rfl ⟨by have := hcnt; show (cnt + 2) + 0 ≤ 2560; omega, Nat.le_of_ble_eq_true rfl, by decide, Nat.le_of_ble_eq_true rfl⟩ (gWp_imp h (fun μ3 r h => ?_))
    obtain ⟨v4, rfl, h⟩ := h
    refine Or.inl ⟨_, rfl, ?_⟩
    show gWp (some (SL, xs)) 230 (905, [some (.ref 1000), some (.ref 0), some (.ref 1), some (.ref 64), some (.ref 65), some (.int x5), some (.int v2), none, none], [.int v4], μ3) _ P
    refine gWp_sts gT_230 2 (f' := (908, [some (.ref 1000), some (.ref 0), some (.ref 1), some (.ref 64), some (.ref 65), some (.int x5), some (.int v2), some (.int v4), none], [.ref 1], μ3)) (cs := []) rfl trivial ?_
    refine gWp_virt gT_230 (pc := 908) (q := 1) (as := [.ref 1]) (rest := []) rfl rfl rfl rfl rfl rfl ⟨by have := hcnt; show (cnt + 2) + 0 ≤ 2560; omega, Nat.le_of_ble_eq_true rfl, by decide, Nat.le_of_ble_eq_true rfl⟩ (gWp_imp h (fun μ5 r h => ?_))
    obtain ⟨v6, rfl, h⟩ := h
    refine Or.inl ⟨_, rfl, ?_⟩
    show gWp (some (SL, xs)) 230 (911, [some (.ref 1000), some (.ref 0), some (.ref 1), some (.ref 64), some (.ref 65), some (.int x5), some (.int v2), some (.int v4), none], [.int v6], μ5) _ P
    refine gWp_sts gT_230 1 (f' := (913, [some (.ref 1000), some (.ref 0), some (.ref 1), some (.ref 64), some (.ref 65), some (.int x5), some (.int v2), some (.int v4), none], [.int v2, .int v6], μ5)) (cs := []) rfl trivial ?_
    refine gWp_icmp gT_230 (pc := 913) rfl ⟨fun c => ?_, fun c => ?_⟩
    · replace h := h.1 (of_decide_eq_true c)
      refine gWp_sts gT_230 1 (f' := (920, [some (.ref 1000), some (.ref 0), some (.ref 1), some (.ref 64), some (.ref 65), some (.int x5), some (.int v2), some (.int v4), none], [.int v2], μ5)) (cs := []) rfl trivial ?_
      refine gWp_if gT_230 (pc := 920) rfl ⟨fun c => ?_, fun c => ?_⟩
      · replace h := h.1 (of_decide_eq_true c)
        refine gWp_sts gT_230 1 (f' := (2023, [some (.ref 1000), some (.ref 0), some (.ref 1), some (.ref 64), some (.ref 65), some (.int x5), some (.int v2), some (.int v4), none], [], μ5)) (cs := []) rfl trivial ?_
        exact h
      · replace h := h.2 (Classical.not_not.mp (fun q => c (decide_eq_true q)))
        obtain ⟨c1, h⟩ := h
        refine gWp_sts gT_230 6 (f' := (930, [some (.ref 1000), some (.ref 0), some (.ref 1), some (.ref 64), some (.ref 65), some (.int x5), some (.int v2), some (.int v4), none], [.int (lg_cmp (gJ μ5 64 ((0 : Int32).toNatClampNeg)) v4.toInt64)], μ5)) (cs := [vp_in (0 : Int32) 1]) rfl c1 ?_
        refine gWp_if gT_230 (pc := 930) rfl ⟨fun c => ?_, fun c => ?_⟩
        · replace h := h.1 (of_decide_eq_true c)
          refine gWp_sts gT_230 1 (f' := (2023, [some (.ref 1000), some (.ref 0), some (.ref 1), some (.ref 64), some (.ref 65), some (.int x5), some (.int v2), some (.int v4), none], [], μ5)) (cs := []) rfl trivial ?_
          exact h
        · replace h := h.2 (fun q => c (decide_eq_true q))
          refine gWp_sts gT_230 1 (f' := (934, [some (.ref 1000), some (.ref 0), some (.ref 1), some (.ref 64), some (.ref 65), some (.int x5), some (.int v2), some (.int v4), none], [.int (0 : Int32)], μ5)) (cs := []) rfl trivial ?_
          exact gWp_end gT_230 rfl (gEnd_int (show narrow .boolean (.int (0 : Int32)) = .int (0 : Int32) by decide)) h
    · replace h := h.2 (fun q => c (decide_eq_true q))
      refine gWp_sts gT_230 1 (f' := (917, [some (.ref 1000), some (.ref 0), some (.ref 1), some (.ref 64), some (.ref 65), some (.int x5), some (.int v2), some (.int v4), none], [.int (0 : Int32)], μ5)) (cs := []) rfl trivial ?_
      exact gWp_end gT_230 rfl (gEnd_int (show narrow .boolean (.int (0 : Int32)) = .int (0 : Int32) by decide)) h
  · obtain ⟨y, rfl, h⟩ := h
    exact Or.inr (Or.inl ⟨y, rfl, rfl, h⟩)
set_option maxRecDepth 20000 in
theorem vl_938 {SL cnt : Nat} {xs : Nat → Int32} {μ : gMu} {x5 : Int32} {P : gMu → gRes → Prop} (hcnt : cnt + 5 ≤ 2560) (h : (vp_in (x5 + (1 : Int32)) SL) ∧ (gCl' 104 [.ref 0, .int (xs (x5 + (1 : Int32)).toNatClampNeg), .ref 64] μ (fun μ1 r => (∃ v2, r = .inl (some (.int v2)) ∧ ((vp_in (x5 + (1 : Int32)) SL) ∧ (gCl' 187 [.ref 1, .int (xs (x5 + (1 : Int32)).toNatClampNeg)] μ1 (fun μ3 r => (∃ v4, r = .inl (some (.int v4)) ∧ (gCl' 152 [.ref 1] μ3 (fun μ5 r => (∃ v6, r = .inl (some (.int v6)) ∧ (((v6 = v2) → (((¬ v2 = 0) → (gWp (some (SL, xs)) 230 (2023, [some (.ref 1000), some (.ref 0), some (.ref 1), some (.ref 64), some (.ref 65), some (.int x5), some (.int v2), some (.int v4), none], [], μ5) (cnt + 2) P)) ∧ ((v2 = 0) → ((vp_in (0 : Int32) 1) ∧ ((((lg_cmp (gJ μ5 64 ((0 : Int32).toNatClampNeg)) v4.toInt64) = 0) → (gWp (some (SL, xs)) 230 (2023, [some (.ref 1000), some (.ref 0), some (.ref 1), some (.ref 64), some (.ref 65), some (.int x5), some (.int v2), some (.int v4), none], [], μ5) (cnt + 2) P)) ∧ ((¬ (lg_cmp (gJ μ5 64 ((0 : Int32).toNatClampNeg)) v4.toInt64) = 0) → (P μ5 (.inl (some (.int (0 : Int32))))))))))) ∧ ((¬ v6 = v2) → (P μ5 (.inl (some (.int (0 : Int32))))))))))))))) ∨ (∃ y, r = .inr y ∧ P μ1 (.inr y))))) : gWp (some (SL, xs)) 230 (938, [some (.ref 1000), some (.ref 0), some (.ref 1), some (.ref 64), some (.ref 65), some (.int x5), none, none, none], [], μ) cnt P := by
  obtain ⟨c1, h⟩ := h
  refine gWp_sts gT_230 7 (f' := (946, [some (.ref 1000), some (.ref 0), some (.ref 1), some (.ref 64), some (.ref 65), some (.int x5), none, none, none], [.ref 64, .int (xs (x5 + (1 : Int32)).toNatClampNeg), .ref 0], μ)) (cs := [vp_in (x5 + (1 : Int32)) SL]) rfl c1 ?_
  refine gWp_stat gT_230 (pc := 946) (c01 := 0) (as := [.ref 0, .int (xs (x5 + (1 : Int32)).toNatClampNeg), .ref 64]) (rest := []) rfl (Or.inl rfl) rfl rfl rfl ⟨by have := hcnt; show cnt + 2 ≤ 2560; omega, Nat.le_of_ble_eq_true rfl, by decide, Nat.le_of_ble_eq_true rfl⟩ (gWp_imp h (fun μ1 r h => ?_))
  rcases h with h | h
  · obtain ⟨v2, rfl, h⟩ := h
    refine Or.inl ⟨_, rfl, ?_⟩
    show gWp (some (SL, xs)) 230 (949, [some (.ref 1000), some (.ref 0), some (.ref 1), some (.ref 64), some (.ref 65), some (.int x5), none, none, none], [.int v2], μ1) _ P
    obtain ⟨c1, h⟩ := h
    refine gWp_sts gT_230 7 (f' := (958, [some (.ref 1000), some (.ref 0), some (.ref 1), some (.ref 64), some (.ref 65), some (.int x5), some (.int v2), none, none], [.int (xs (x5 + (1 : Int32)).toNatClampNeg), .ref 1], μ1)) (cs := [vp_in (x5 + (1 : Int32)) SL]) rfl c1 ?_
    refine gWp_virt gT_230 (pc := 958) (q := 1) (as := [.ref 1, .int (xs (x5 + (1 : Int32)).toNatClampNeg)]) (rest := []) rfl rfl rfl rfl rfl rfl ⟨by have := hcnt; show (cnt + 2) + 0 ≤ 2560; omega, Nat.le_of_ble_eq_true rfl, by decide, Nat.le_of_ble_eq_true rfl⟩ (gWp_imp h (fun μ3 r h => ?_))
    obtain ⟨v4, rfl, h⟩ := h
    refine Or.inl ⟨_, rfl, ?_⟩
    show gWp (some (SL, xs)) 230 (961, [some (.ref 1000), some (.ref 0), some (.ref 1), some (.ref 64), some (.ref 65), some (.int x5), some (.int v2), none, none], [.int v4], μ3) _ P
    refine gWp_sts gT_230 2 (f' := (964, [some (.ref 1000), some (.ref 0), some (.ref 1), some (.ref 64), some (.ref 65), some (.int x5), some (.int v2), some (.int v4), none], [.ref 1], μ3)) (cs := []) rfl trivial ?_
    refine gWp_virt gT_230 (pc := 964) (q := 1) (as := [.ref 1]) (rest := []) rfl rfl rfl rfl rfl rfl ⟨by have := hcnt; show (cnt + 2) + 0 ≤ 2560; omega, Nat.le_of_ble_eq_true rfl, by decide, Nat.le_of_ble_eq_true rfl⟩ (gWp_imp h (fun μ5 r h => ?_))
    obtain ⟨v6, rfl, h⟩ := h
    refine Or.inl ⟨_, rfl, ?_⟩
    show gWp (some (SL, xs)) 230 (967, [some (.ref 1000), some (.ref 0), some (.ref 1), some (.ref 64), some (.ref 65), some (.int x5), some (.int v2), some (.int v4), none], [.int v6], μ5) _ P
    refine gWp_sts gT_230 1 (f' := (969, [some (.ref 1000), some (.ref 0), some (.ref 1), some (.ref 64), some (.ref 65), some (.int x5), some (.int v2), some (.int v4), none], [.int v2, .int v6], μ5)) (cs := []) rfl trivial ?_
    refine gWp_icmp gT_230 (pc := 969) rfl ⟨fun c => ?_, fun c => ?_⟩
    · replace h := h.1 (of_decide_eq_true c)
      refine gWp_sts gT_230 1 (f' := (976, [some (.ref 1000), some (.ref 0), some (.ref 1), some (.ref 64), some (.ref 65), some (.int x5), some (.int v2), some (.int v4), none], [.int v2], μ5)) (cs := []) rfl trivial ?_
      refine gWp_if gT_230 (pc := 976) rfl ⟨fun c => ?_, fun c => ?_⟩
      · replace h := h.1 (of_decide_eq_true c)
        refine gWp_sts gT_230 1 (f' := (2023, [some (.ref 1000), some (.ref 0), some (.ref 1), some (.ref 64), some (.ref 65), some (.int x5), some (.int v2), some (.int v4), none], [], μ5)) (cs := []) rfl trivial ?_
        exact h
      · replace h := h.2 (Classical.not_not.mp (fun q => c (decide_eq_true q)))
        obtain ⟨c1, h⟩ := h
        refine gWp_sts gT_230 6 (f' := (986, [some (.ref 1000), some (.ref 0), some (.ref 1), some (.ref 64), some (.ref 65), some (.int x5), some (.int v2), some (.int v4), none], [.int (lg_cmp (gJ μ5 64 ((0 : Int32).toNatClampNeg)) v4.toInt64)], μ5)) (cs := [vp_in (0 : Int32) 1]) rfl c1 ?_
        refine gWp_if gT_230 (pc := 986) rfl ⟨fun c => ?_, fun c => ?_⟩
        · replace h := h.1 (of_decide_eq_true c)
          refine gWp_sts gT_230 1 (f' := (2023, [some (.ref 1000), some (.ref 0), some (.ref 1), some (.ref 64), some (.ref 65), some (.int x5), some (.int v2), some (.int v4), none], [], μ5)) (cs := []) rfl trivial ?_
          exact h
        · replace h := h.2 (fun q => c (decide_eq_true q))
          refine gWp_sts gT_230 1 (f' := (990, [some (.ref 1000), some (.ref 0), some (.ref 1), some (.ref 64), some (.ref 65), some (.int x5), some (.int v2), some (.int v4), none], [.int (0 : Int32)], μ5)) (cs := []) rfl trivial ?_
          exact gWp_end gT_230 rfl (gEnd_int (show narrow .boolean (.int (0 : Int32)) = .int (0 : Int32) by decide)) h
    · replace h := h.2 (fun q => c (decide_eq_true q))
      refine gWp_sts gT_230 1 (f' := (973, [some (.ref 1000), some (.ref 0), some (.ref 1), some (.ref 64), some (.ref 65), some (.int x5), some (.int v2), some (.int v4), none], [.int (0 : Int32)], μ5)) (cs := []) rfl trivial ?_
      exact gWp_end gT_230 rfl (gEnd_int (show narrow .boolean (.int (0 : Int32)) = .int (0 : Int32) by decide)) h
  · obtain ⟨y, rfl, h⟩ := h
    exact Or.inr (Or.inl ⟨y, rfl, rfl, h⟩)
set_option maxRecDepth 20000 in
theorem vl_994 {SL cnt : Nat} {xs : Nat → Int32} {μ : gMu} {x5 : Int32} {P : gMu → gRes → Prop} (hcnt : cnt + 5 ≤ 2560) (h : gCl' 64 [.ref 0] μ (fun μ1 r => (∃ v2, r = .inl (some (.int v2)) ∧ (gCl' 188 [.ref 1] μ1 (fun μ3 r => (∃ v4, r = .inl (some (.int v4)) ∧ (((v2 = v4) → (gWp (some (SL, xs)) 230 (2023, [some (.ref 1000), some (.ref 0), some (.ref 1), some (.ref 64), some (.ref 65), some (.int x5), none, none, none], [], μ3) cnt P)) ∧ ((¬ v2 = v4) → (P μ3 (.inl (some (.int (0 : Int32))))))))))))) : gWp (some (SL, xs)) 230 (994, [some (.ref 1000), some (.ref 0), some (.ref 1), some (.ref 64), some (.ref 65), some (.int x5), none, none, none], [], μ) cnt P := by
  refine gWp_sts gT_230 1 (f' := (995, [some (.ref 1000), some (.ref 0), some (.ref 1), some (.ref 64), some (.ref 65), some (.int x5), none, none, none], [.ref 0], μ)) (cs := []) rfl trivial ?_
  refine gWp_virt gT_230 (pc := 995) (q := 0) (as := [.ref 0]) (rest := []) rfl rfl rfl rfl rfl rfl ⟨by have := hcnt; show cnt + 0 ≤ 2560; omega, Nat.le_of_ble_eq_true rfl, by decide, Nat.le_of_ble_eq_true rfl⟩ (gWp_imp h (fun μ1 r h => ?_))
  obtain ⟨v2, rfl, h⟩ := h
  refine Or.inl ⟨_, rfl, ?_⟩
  show gWp (some (SL, xs)) 230 (998, [some (.ref 1000), some (.ref 0), some (.ref 1), some (.ref 64), some (.ref 65), some (.int x5), none, none, none], [.int v2], μ1) _ P
  refine gWp_sts gT_230 1 (f' := (999, [some (.ref 1000), some (.ref 0), some (.ref 1), some (.ref 64), some (.ref 65), some (.int x5), none, none, none], [.ref 1, .int v2], μ1)) (cs := []) rfl trivial ?_
  refine gWp_virt gT_230 (pc := 999) (q := 1) (as := [.ref 1]) (rest := [.int v2]) rfl rfl rfl rfl rfl rfl ⟨by have := hcnt; show cnt + 0 ≤ 2560; omega, Nat.le_of_ble_eq_true rfl, by decide, Nat.le_of_ble_eq_true rfl⟩ (gWp_imp h (fun μ3 r h => ?_))
  obtain ⟨v4, rfl, h⟩ := h
  refine Or.inl ⟨_, rfl, ?_⟩
  show gWp (some (SL, xs)) 230 (1002, [some (.ref 1000), some (.ref 0), some (.ref 1), some (.ref 64), some (.ref 65), some (.int x5), none, none, none], [.int v4, .int v2], μ3) _ P
  refine gWp_icmp gT_230 (pc := 1002) rfl ⟨fun c => ?_, fun c => ?_⟩
  · replace h := h.1 (of_decide_eq_true c)
    exact h
  · replace h := h.2 (fun q => c (decide_eq_true q))
    refine gWp_sts gT_230 1 (f' := (1006, [some (.ref 1000), some (.ref 0), some (.ref 1), some (.ref 64), some (.ref 65), some (.int x5), none, none, none], [.int (0 : Int32)], μ3)) (cs := []) rfl trivial ?_
    exact gWp_end gT_230 rfl (gEnd_int (show narrow .boolean (.int (0 : Int32)) = .int (0 : Int32) by decide)) h
set_option maxRecDepth 20000 in
theorem vl_1007 {SL cnt : Nat} {xs : Nat → Int32} {μ : gMu} {x5 : Int32} {P : gMu → gRes → Prop} (hcnt : cnt + 5 ≤ 2560) (h : gCl' 66 [.ref 0] μ (fun μ1 r => (∃ v2, r = .inl (some (.int v2)) ∧ (gCl' 189 [.ref 1] μ1 (fun μ3 r => (∃ v4, r = .inl (some (.int v4)) ∧ (((v2 = v4) → (gWp (some (SL, xs)) 230 (2023, [some (.ref 1000), some (.ref 0), some (.ref 1), some (.ref 64), some (.ref 65), some (.int x5), none, none, none], [], μ3) cnt P)) ∧ ((¬ v2 = v4) → (P μ3 (.inl (some (.int (0 : Int32))))))))))))) : gWp (some (SL, xs)) 230 (1007, [some (.ref 1000), some (.ref 0), some (.ref 1), some (.ref 64), some (.ref 65), some (.int x5), none, none, none], [], μ) cnt P := by
  refine gWp_sts gT_230 1 (f' := (1008, [some (.ref 1000), some (.ref 0), some (.ref 1), some (.ref 64), some (.ref 65), some (.int x5), none, none, none], [.ref 0], μ)) (cs := []) rfl trivial ?_
  refine gWp_virt gT_230 (pc := 1008) (q := 0) (as := [.ref 0]) (rest := []) rfl rfl rfl rfl rfl rfl ⟨by have := hcnt; show cnt + 0 ≤ 2560; omega, Nat.le_of_ble_eq_true rfl, by decide, Nat.le_of_ble_eq_true rfl⟩ (gWp_imp h (fun μ1 r h => ?_))
  obtain ⟨v2, rfl, h⟩ := h
  refine Or.inl ⟨_, rfl, ?_⟩
  show gWp (some (SL, xs)) 230 (1011, [some (.ref 1000), some (.ref 0), some (.ref 1), some (.ref 64), some (.ref 65), some (.int x5), none, none, none], [.int v2], μ1) _ P
  refine gWp_sts gT_230 1 (f' := (1012, [some (.ref 1000), some (.ref 0), some (.ref 1), some (.ref 64), some (.ref 65), some (.int x5), none, none, none], [.ref 1, .int v2], μ1)) (cs := []) rfl trivial ?_
  refine gWp_virt gT_230 (pc := 1012) (q := 1) (as := [.ref 1]) (rest := [.int v2]) rfl rfl rfl rfl rfl rfl ⟨by have := hcnt; show cnt + 0 ≤ 2560; omega, Nat.le_of_ble_eq_true rfl, by decide, Nat.le_of_ble_eq_true rfl⟩ (gWp_imp h (fun μ3 r h => ?_))
  obtain ⟨v4, rfl, h⟩ := h
  refine Or.inl ⟨_, rfl, ?_⟩
  show gWp (some (SL, xs)) 230 (1015, [some (.ref 1000), some (.ref 0), some (.ref 1), some (.ref 64), some (.ref 65), some (.int x5), none, none, none], [.int v4, .int v2], μ3) _ P
  refine gWp_icmp gT_230 (pc := 1015) rfl ⟨fun c => ?_, fun c => ?_⟩
  · replace h := h.1 (of_decide_eq_true c)
    exact h
  · replace h := h.2 (fun q => c (decide_eq_true q))
    refine gWp_sts gT_230 1 (f' := (1019, [some (.ref 1000), some (.ref 0), some (.ref 1), some (.ref 64), some (.ref 65), some (.int x5), none, none, none], [.int (0 : Int32)], μ3)) (cs := []) rfl trivial ?_
    exact gWp_end gT_230 rfl (gEnd_int (show narrow .boolean (.int (0 : Int32)) = .int (0 : Int32) by decide)) h
set_option maxRecDepth 20000 in
theorem vl_1020 {SL cnt : Nat} {xs : Nat → Int32} {μ : gMu} {x5 : Int32} {P : gMu → gRes → Prop} (hcnt : cnt + 5 ≤ 2560) (h : (vp_in (x5 + (1 : Int32)) SL) ∧ (gCl' 106 [.ref 0, .int (xs (x5 + (1 : Int32)).toNatClampNeg), .ref 64] μ (fun μ1 r => (∃ v2, r = .inl (some (.int v2)) ∧ ((vp_in (x5 + (1 : Int32)) SL) ∧ (gCl' 190 [.ref 1, .int (xs (x5 + (1 : Int32)).toNatClampNeg)] μ1 (fun μ3 r => (∃ v4, r = .inl (some (.int v4)) ∧ (gCl' 152 [.ref 1] μ3 (fun μ5 r => (∃ v6, r = .inl (some (.int v6)) ∧ (((v6 = v2) → (((¬ v2 = 0) → (gWp (some (SL, xs)) 230 (2023, [some (.ref 1000), some (.ref 0), some (.ref 1), some (.ref 64), some (.ref 65), some (.int x5), some (.int v2), some (.int v4), none], [], μ5) (cnt + 1) P)) ∧ ((v2 = 0) → ((vp_in (0 : Int32) 1) ∧ ((((lg_cmp (gJ μ5 64 ((0 : Int32).toNatClampNeg)) v4.toInt64) = 0) → (gWp (some (SL, xs)) 230 (2023, [some (.ref 1000), some (.ref 0), some (.ref 1), some (.ref 64), some (.ref 65), some (.int x5), some (.int v2), some (.int v4), none], [], μ5) (cnt + 1) P)) ∧ ((¬ (lg_cmp (gJ μ5 64 ((0 : Int32).toNatClampNeg)) v4.toInt64) = 0) → (P μ5 (.inl (some (.int (0 : Int32))))))))))) ∧ ((¬ v6 = v2) → (P μ5 (.inl (some (.int (0 : Int32))))))))))))))) ∨ (∃ y, r = .inr y ∧ P μ1 (.inr y))))) : gWp (some (SL, xs)) 230 (1020, [some (.ref 1000), some (.ref 0), some (.ref 1), some (.ref 64), some (.ref 65), some (.int x5), none, none, none], [], μ) cnt P := by
  obtain ⟨c1, h⟩ := h
  refine gWp_sts gT_230 7 (f' := (1028, [some (.ref 1000), some (.ref 0), some (.ref 1), some (.ref 64), some (.ref 65), some (.int x5), none, none, none], [.ref 64, .int (xs (x5 + (1 : Int32)).toNatClampNeg), .ref 0], μ)) (cs := [vp_in (x5 + (1 : Int32)) SL]) rfl c1 ?_
  refine gWp_stat gT_230 (pc := 1028) (c01 := 0) (as := [.ref 0, .int (xs (x5 + (1 : Int32)).toNatClampNeg), .ref 64]) (rest := []) rfl (Or.inl rfl) rfl rfl rfl ⟨by have := hcnt; show cnt + 1 ≤ 2560; omega, Nat.le_of_ble_eq_true rfl, by decide, Nat.le_of_ble_eq_true rfl⟩ (gWp_imp h (fun μ1 r h => ?_))
  rcases h with h | h
  · obtain ⟨v2, rfl, h⟩ := h
    refine Or.inl ⟨_, rfl, ?_⟩
    show gWp (some (SL, xs)) 230 (1031, [some (.ref 1000), some (.ref 0), some (.ref 1), some (.ref 64), some (.ref 65), some (.int x5), none, none, none], [.int v2], μ1) _ P
    obtain ⟨c1, h⟩ := h
    refine gWp_sts gT_230 7 (f' := (1040, [some (.ref 1000), some (.ref 0), some (.ref 1), some (.ref 64), some (.ref 65), some (.int x5), some (.int v2), none, none], [.int (xs (x5 + (1 : Int32)).toNatClampNeg), .ref 1], μ1)) (cs := [vp_in (x5 + (1 : Int32)) SL]) rfl c1 ?_
    refine gWp_virt gT_230 (pc := 1040) (q := 1) (as := [.ref 1, .int (xs (x5 + (1 : Int32)).toNatClampNeg)]) (rest := []) rfl rfl rfl rfl rfl rfl ⟨by have := hcnt; show (cnt + 1) + 0 ≤ 2560; omega, Nat.le_of_ble_eq_true rfl, by decide, Nat.le_of_ble_eq_true rfl⟩ (gWp_imp h (fun μ3 r h => ?_))
    obtain ⟨v4, rfl, h⟩ := h
    refine Or.inl ⟨_, rfl, ?_⟩
    show gWp (some (SL, xs)) 230 (1043, [some (.ref 1000), some (.ref 0), some (.ref 1), some (.ref 64), some (.ref 65), some (.int x5), some (.int v2), none, none], [.int v4], μ3) _ P
    refine gWp_sts gT_230 2 (f' := (1046, [some (.ref 1000), some (.ref 0), some (.ref 1), some (.ref 64), some (.ref 65), some (.int x5), some (.int v2), some (.int v4), none], [.ref 1], μ3)) (cs := []) rfl trivial ?_
    refine gWp_virt gT_230 (pc := 1046) (q := 1) (as := [.ref 1]) (rest := []) rfl rfl rfl rfl rfl rfl ⟨by have := hcnt; show (cnt + 1) + 0 ≤ 2560; omega, Nat.le_of_ble_eq_true rfl, by decide, Nat.le_of_ble_eq_true rfl⟩ (gWp_imp h (fun μ5 r h => ?_))
    obtain ⟨v6, rfl, h⟩ := h
    refine Or.inl ⟨_, rfl, ?_⟩
    show gWp (some (SL, xs)) 230 (1049, [some (.ref 1000), some (.ref 0), some (.ref 1), some (.ref 64), some (.ref 65), some (.int x5), some (.int v2), some (.int v4), none], [.int v6], μ5) _ P
    refine gWp_sts gT_230 1 (f' := (1051, [some (.ref 1000), some (.ref 0), some (.ref 1), some (.ref 64), some (.ref 65), some (.int x5), some (.int v2), some (.int v4), none], [.int v2, .int v6], μ5)) (cs := []) rfl trivial ?_
    refine gWp_icmp gT_230 (pc := 1051) rfl ⟨fun c => ?_, fun c => ?_⟩
    · replace h := h.1 (of_decide_eq_true c)
      refine gWp_sts gT_230 1 (f' := (1058, [some (.ref 1000), some (.ref 0), some (.ref 1), some (.ref 64), some (.ref 65), some (.int x5), some (.int v2), some (.int v4), none], [.int v2], μ5)) (cs := []) rfl trivial ?_
      refine gWp_if gT_230 (pc := 1058) rfl ⟨fun c => ?_, fun c => ?_⟩
      · replace h := h.1 (of_decide_eq_true c)
        refine gWp_sts gT_230 1 (f' := (2023, [some (.ref 1000), some (.ref 0), some (.ref 1), some (.ref 64), some (.ref 65), some (.int x5), some (.int v2), some (.int v4), none], [], μ5)) (cs := []) rfl trivial ?_
        exact h
      · replace h := h.2 (Classical.not_not.mp (fun q => c (decide_eq_true q)))
        obtain ⟨c1, h⟩ := h
        refine gWp_sts gT_230 6 (f' := (1068, [some (.ref 1000), some (.ref 0), some (.ref 1), some (.ref 64), some (.ref 65), some (.int x5), some (.int v2), some (.int v4), none], [.int (lg_cmp (gJ μ5 64 ((0 : Int32).toNatClampNeg)) v4.toInt64)], μ5)) (cs := [vp_in (0 : Int32) 1]) rfl c1 ?_
        refine gWp_if gT_230 (pc := 1068) rfl ⟨fun c => ?_, fun c => ?_⟩
        · replace h := h.1 (of_decide_eq_true c)
          refine gWp_sts gT_230 1 (f' := (2023, [some (.ref 1000), some (.ref 0), some (.ref 1), some (.ref 64), some (.ref 65), some (.int x5), some (.int v2), some (.int v4), none], [], μ5)) (cs := []) rfl trivial ?_
          exact h
        · replace h := h.2 (fun q => c (decide_eq_true q))
          refine gWp_sts gT_230 1 (f' := (1072, [some (.ref 1000), some (.ref 0), some (.ref 1), some (.ref 64), some (.ref 65), some (.int x5), some (.int v2), some (.int v4), none], [.int (0 : Int32)], μ5)) (cs := []) rfl trivial ?_
          exact gWp_end gT_230 rfl (gEnd_int (show narrow .boolean (.int (0 : Int32)) = .int (0 : Int32) by decide)) h
    · replace h := h.2 (fun q => c (decide_eq_true q))
      refine gWp_sts gT_230 1 (f' := (1055, [some (.ref 1000), some (.ref 0), some (.ref 1), some (.ref 64), some (.ref 65), some (.int x5), some (.int v2), some (.int v4), none], [.int (0 : Int32)], μ5)) (cs := []) rfl trivial ?_
      exact gWp_end gT_230 rfl (gEnd_int (show narrow .boolean (.int (0 : Int32)) = .int (0 : Int32) by decide)) h
  · obtain ⟨y, rfl, h⟩ := h
    exact Or.inr (Or.inl ⟨y, rfl, rfl, h⟩)
set_option maxRecDepth 20000 in
theorem vl_1076 {SL cnt : Nat} {xs : Nat → Int32} {μ : gMu} {x5 : Int32} {P : gMu → gRes → Prop} (hcnt : cnt + 5 ≤ 2560) (h : gCl' 68 [.ref 0] μ (fun μ1 r => (∃ v2, r = .inl (some (.int v2)) ∧ (gCl' 198 [.ref 1] μ1 (fun μ3 r => (∃ v4, r = .inl (some (.int v4)) ∧ (((v2 = v4) → (gWp (some (SL, xs)) 230 (2023, [some (.ref 1000), some (.ref 0), some (.ref 1), some (.ref 64), some (.ref 65), some (.int x5), none, none, none], [], μ3) cnt P)) ∧ ((¬ v2 = v4) → (P μ3 (.inl (some (.int (0 : Int32))))))))))))) : gWp (some (SL, xs)) 230 (1076, [some (.ref 1000), some (.ref 0), some (.ref 1), some (.ref 64), some (.ref 65), some (.int x5), none, none, none], [], μ) cnt P := by
  refine gWp_sts gT_230 1 (f' := (1077, [some (.ref 1000), some (.ref 0), some (.ref 1), some (.ref 64), some (.ref 65), some (.int x5), none, none, none], [.ref 0], μ)) (cs := []) rfl trivial ?_
  refine gWp_virt gT_230 (pc := 1077) (q := 0) (as := [.ref 0]) (rest := []) rfl rfl rfl rfl rfl rfl ⟨by have := hcnt; show cnt + 0 ≤ 2560; omega, Nat.le_of_ble_eq_true rfl, by decide, Nat.le_of_ble_eq_true rfl⟩ (gWp_imp h (fun μ1 r h => ?_))
  obtain ⟨v2, rfl, h⟩ := h
  refine Or.inl ⟨_, rfl, ?_⟩
  show gWp (some (SL, xs)) 230 (1080, [some (.ref 1000), some (.ref 0), some (.ref 1), some (.ref 64), some (.ref 65), some (.int x5), none, none, none], [.int v2], μ1) _ P
  refine gWp_sts gT_230 1 (f' := (1081, [some (.ref 1000), some (.ref 0), some (.ref 1), some (.ref 64), some (.ref 65), some (.int x5), none, none, none], [.ref 1, .int v2], μ1)) (cs := []) rfl trivial ?_
  refine gWp_virt gT_230 (pc := 1081) (q := 1) (as := [.ref 1]) (rest := [.int v2]) rfl rfl rfl rfl rfl rfl ⟨by have := hcnt; show cnt + 0 ≤ 2560; omega, Nat.le_of_ble_eq_true rfl, by decide, Nat.le_of_ble_eq_true rfl⟩ (gWp_imp h (fun μ3 r h => ?_))
  obtain ⟨v4, rfl, h⟩ := h
  refine Or.inl ⟨_, rfl, ?_⟩
  show gWp (some (SL, xs)) 230 (1084, [some (.ref 1000), some (.ref 0), some (.ref 1), some (.ref 64), some (.ref 65), some (.int x5), none, none, none], [.int v4, .int v2], μ3) _ P
  refine gWp_icmp gT_230 (pc := 1084) rfl ⟨fun c => ?_, fun c => ?_⟩
  · replace h := h.1 (of_decide_eq_true c)
    exact h
  · replace h := h.2 (fun q => c (decide_eq_true q))
    refine gWp_sts gT_230 1 (f' := (1088, [some (.ref 1000), some (.ref 0), some (.ref 1), some (.ref 64), some (.ref 65), some (.int x5), none, none, none], [.int (0 : Int32)], μ3)) (cs := []) rfl trivial ?_
    exact gWp_end gT_230 rfl (gEnd_int (show narrow .boolean (.int (0 : Int32)) = .int (0 : Int32) by decide)) h
set_option maxRecDepth 20000 in
theorem vl_1089 {SL cnt : Nat} {xs : Nat → Int32} {μ : gMu} {x5 : Int32} {P : gMu → gRes → Prop} (hcnt : cnt + 5 ≤ 2560) (h : gCl' 69 [.ref 0] μ (fun μ1 r => (∃ v2, r = .inl (some (.int v2)) ∧ (gCl' 199 [.ref 1] μ1 (fun μ3 r => (∃ v4, r = .inl (some (.int v4)) ∧ (((v2 = v4) → (gWp (some (SL, xs)) 230 (2023, [some (.ref 1000), some (.ref 0), some (.ref 1), some (.ref 64), some (.ref 65), some (.int x5), none, none, none], [], μ3) cnt P)) ∧ ((¬ v2 = v4) → (P μ3 (.inl (some (.int (0 : Int32))))))))))))) : gWp (some (SL, xs)) 230 (1089, [some (.ref 1000), some (.ref 0), some (.ref 1), some (.ref 64), some (.ref 65), some (.int x5), none, none, none], [], μ) cnt P := by
  refine gWp_sts gT_230 1 (f' := (1090, [some (.ref 1000), some (.ref 0), some (.ref 1), some (.ref 64), some (.ref 65), some (.int x5), none, none, none], [.ref 0], μ)) (cs := []) rfl trivial ?_
  refine gWp_virt gT_230 (pc := 1090) (q := 0) (as := [.ref 0]) (rest := []) rfl rfl rfl rfl rfl rfl ⟨by have := hcnt; show cnt + 0 ≤ 2560; omega, Nat.le_of_ble_eq_true rfl, by decide, Nat.le_of_ble_eq_true rfl⟩ (gWp_imp h (fun μ1 r h => ?_))
  obtain ⟨v2, rfl, h⟩ := h
  refine Or.inl ⟨_, rfl, ?_⟩
  show gWp (some (SL, xs)) 230 (1093, [some (.ref 1000), some (.ref 0), some (.ref 1), some (.ref 64), some (.ref 65), some (.int x5), none, none, none], [.int v2], μ1) _ P
  refine gWp_sts gT_230 1 (f' := (1094, [some (.ref 1000), some (.ref 0), some (.ref 1), some (.ref 64), some (.ref 65), some (.int x5), none, none, none], [.ref 1, .int v2], μ1)) (cs := []) rfl trivial ?_
  refine gWp_virt gT_230 (pc := 1094) (q := 1) (as := [.ref 1]) (rest := [.int v2]) rfl rfl rfl rfl rfl rfl ⟨by have := hcnt; show cnt + 0 ≤ 2560; omega, Nat.le_of_ble_eq_true rfl, by decide, Nat.le_of_ble_eq_true rfl⟩ (gWp_imp h (fun μ3 r h => ?_))
  obtain ⟨v4, rfl, h⟩ := h
  refine Or.inl ⟨_, rfl, ?_⟩
  show gWp (some (SL, xs)) 230 (1097, [some (.ref 1000), some (.ref 0), some (.ref 1), some (.ref 64), some (.ref 65), some (.int x5), none, none, none], [.int v4, .int v2], μ3) _ P
  refine gWp_icmp gT_230 (pc := 1097) rfl ⟨fun c => ?_, fun c => ?_⟩
  · replace h := h.1 (of_decide_eq_true c)
    exact h
  · replace h := h.2 (fun q => c (decide_eq_true q))
    refine gWp_sts gT_230 1 (f' := (1101, [some (.ref 1000), some (.ref 0), some (.ref 1), some (.ref 64), some (.ref 65), some (.int x5), none, none, none], [.int (0 : Int32)], μ3)) (cs := []) rfl trivial ?_
    exact gWp_end gT_230 rfl (gEnd_int (show narrow .boolean (.int (0 : Int32)) = .int (0 : Int32) by decide)) h
set_option maxRecDepth 20000 in
theorem vl_1102 {SL cnt : Nat} {xs : Nat → Int32} {μ : gMu} {x5 : Int32} {P : gMu → gRes → Prop} (hcnt : cnt + 5 ≤ 2560) (h : gCl' 109 [.ref 0, .ref 64] μ (fun μ1 r => (∃ v2, r = .inl (some (.int v2)) ∧ (gCl' 206 [.ref 1] μ1 (fun μ3 r => (∃ v4, r = .inl (some (.int v4)) ∧ (gCl' 152 [.ref 1] μ3 (fun μ5 r => (∃ v6, r = .inl (some (.int v6)) ∧ (((v6 = v2) → (((¬ v2 = 0) → (gWp (some (SL, xs)) 230 (2023, [some (.ref 1000), some (.ref 0), some (.ref 1), some (.ref 64), some (.ref 65), some (.int x5), some (.int v2), some (.int v4), none], [], μ5) (cnt + 1) P)) ∧ ((v2 = 0) → ((vp_in (0 : Int32) 1) ∧ ((((lg_cmp (gJ μ5 64 ((0 : Int32).toNatClampNeg)) v4.toInt64) = 0) → (gWp (some (SL, xs)) 230 (2023, [some (.ref 1000), some (.ref 0), some (.ref 1), some (.ref 64), some (.ref 65), some (.int x5), some (.int v2), some (.int v4), none], [], μ5) (cnt + 1) P)) ∧ ((¬ (lg_cmp (gJ μ5 64 ((0 : Int32).toNatClampNeg)) v4.toInt64) = 0) → (P μ5 (.inl (some (.int (0 : Int32))))))))))) ∧ ((¬ v6 = v2) → (P μ5 (.inl (some (.int (0 : Int32)))))))))))))) ∨ (∃ y, r = .inr y ∧ P μ1 (.inr y)))) : gWp (some (SL, xs)) 230 (1102, [some (.ref 1000), some (.ref 0), some (.ref 1), some (.ref 64), some (.ref 65), some (.int x5), none, none, none], [], μ) cnt P := by
  refine gWp_sts gT_230 2 (f' := (1104, [some (.ref 1000), some (.ref 0), some (.ref 1), some (.ref 64), some (.ref 65), some (.int x5), none, none, none], [.ref 64, .ref 0], μ)) (cs := []) rfl trivial ?_
  refine gWp_stat gT_230 (pc := 1104) (c01 := 0) (as := [.ref 0, .ref 64]) (rest := []) rfl (Or.inl rfl) rfl rfl rfl ⟨by have := hcnt; show cnt + 1 ≤ 2560; omega, Nat.le_of_ble_eq_true rfl, by decide, Nat.le_of_ble_eq_true rfl⟩ (gWp_imp h (fun μ1 r h => ?_))
  rcases h with h | h
  · obtain ⟨v2, rfl, h⟩ := h
    refine Or.inl ⟨_, rfl, ?_⟩
    show gWp (some (SL, xs)) 230 (1107, [some (.ref 1000), some (.ref 0), some (.ref 1), some (.ref 64), some (.ref 65), some (.int x5), none, none, none], [.int v2], μ1) _ P
    refine gWp_sts gT_230 2 (f' := (1110, [some (.ref 1000), some (.ref 0), some (.ref 1), some (.ref 64), some (.ref 65), some (.int x5), some (.int v2), none, none], [.ref 1], μ1)) (cs := []) rfl trivial ?_
    refine gWp_virt gT_230 (pc := 1110) (q := 1) (as := [.ref 1]) (rest := []) rfl rfl rfl rfl rfl rfl ⟨by have := hcnt; show (cnt + 1) + 0 ≤ 2560; omega, Nat.le_of_ble_eq_true rfl, by decide, Nat.le_of_ble_eq_true rfl⟩ (gWp_imp h (fun μ3 r h => ?_))
    obtain ⟨v4, rfl, h⟩ := h
    refine Or.inl ⟨_, rfl, ?_⟩
    show gWp (some (SL, xs)) 230 (1113, [some (.ref 1000), some (.ref 0), some (.ref 1), some (.ref 64), some (.ref 65), some (.int x5), some (.int v2), none, none], [.int v4], μ3) _ P
    refine gWp_sts gT_230 2 (f' := (1116, [some (.ref 1000), some (.ref 0), some (.ref 1), some (.ref 64), some (.ref 65), some (.int x5), some (.int v2), some (.int v4), none], [.ref 1], μ3)) (cs := []) rfl trivial ?_
    refine gWp_virt gT_230 (pc := 1116) (q := 1) (as := [.ref 1]) (rest := []) rfl rfl rfl rfl rfl rfl ⟨by have := hcnt; show (cnt + 1) + 0 ≤ 2560; omega, Nat.le_of_ble_eq_true rfl, by decide, Nat.le_of_ble_eq_true rfl⟩ (gWp_imp h (fun μ5 r h => ?_))
    obtain ⟨v6, rfl, h⟩ := h
    refine Or.inl ⟨_, rfl, ?_⟩
    show gWp (some (SL, xs)) 230 (1119, [some (.ref 1000), some (.ref 0), some (.ref 1), some (.ref 64), some (.ref 65), some (.int x5), some (.int v2), some (.int v4), none], [.int v6], μ5) _ P
    refine gWp_sts gT_230 1 (f' := (1121, [some (.ref 1000), some (.ref 0), some (.ref 1), some (.ref 64), some (.ref 65), some (.int x5), some (.int v2), some (.int v4), none], [.int v2, .int v6], μ5)) (cs := []) rfl trivial ?_
    refine gWp_icmp gT_230 (pc := 1121) rfl ⟨fun c => ?_, fun c => ?_⟩
    · replace h := h.1 (of_decide_eq_true c)
      refine gWp_sts gT_230 1 (f' := (1128, [some (.ref 1000), some (.ref 0), some (.ref 1), some (.ref 64), some (.ref 65), some (.int x5), some (.int v2), some (.int v4), none], [.int v2], μ5)) (cs := []) rfl trivial ?_
      refine gWp_if gT_230 (pc := 1128) rfl ⟨fun c => ?_, fun c => ?_⟩
      · replace h := h.1 (of_decide_eq_true c)
        refine gWp_sts gT_230 1 (f' := (2023, [some (.ref 1000), some (.ref 0), some (.ref 1), some (.ref 64), some (.ref 65), some (.int x5), some (.int v2), some (.int v4), none], [], μ5)) (cs := []) rfl trivial ?_
        exact h
      · replace h := h.2 (Classical.not_not.mp (fun q => c (decide_eq_true q)))
        obtain ⟨c1, h⟩ := h
        refine gWp_sts gT_230 6 (f' := (1138, [some (.ref 1000), some (.ref 0), some (.ref 1), some (.ref 64), some (.ref 65), some (.int x5), some (.int v2), some (.int v4), none], [.int (lg_cmp (gJ μ5 64 ((0 : Int32).toNatClampNeg)) v4.toInt64)], μ5)) (cs := [vp_in (0 : Int32) 1]) rfl c1 ?_
        refine gWp_if gT_230 (pc := 1138) rfl ⟨fun c => ?_, fun c => ?_⟩
        · replace h := h.1 (of_decide_eq_true c)
          refine gWp_sts gT_230 1 (f' := (2023, [some (.ref 1000), some (.ref 0), some (.ref 1), some (.ref 64), some (.ref 65), some (.int x5), some (.int v2), some (.int v4), none], [], μ5)) (cs := []) rfl trivial ?_
          exact h
        · replace h := h.2 (fun q => c (decide_eq_true q))
          refine gWp_sts gT_230 1 (f' := (1142, [some (.ref 1000), some (.ref 0), some (.ref 1), some (.ref 64), some (.ref 65), some (.int x5), some (.int v2), some (.int v4), none], [.int (0 : Int32)], μ5)) (cs := []) rfl trivial ?_
          exact gWp_end gT_230 rfl (gEnd_int (show narrow .boolean (.int (0 : Int32)) = .int (0 : Int32) by decide)) h
    · replace h := h.2 (fun q => c (decide_eq_true q))
      refine gWp_sts gT_230 1 (f' := (1125, [some (.ref 1000), some (.ref 0), some (.ref 1), some (.ref 64), some (.ref 65), some (.int x5), some (.int v2), some (.int v4), none], [.int (0 : Int32)], μ5)) (cs := []) rfl trivial ?_
      exact gWp_end gT_230 rfl (gEnd_int (show narrow .boolean (.int (0 : Int32)) = .int (0 : Int32) by decide)) h
  · obtain ⟨y, rfl, h⟩ := h
    exact Or.inr (Or.inl ⟨y, rfl, rfl, h⟩)
set_option maxRecDepth 20000 in
theorem vl_1146 {SL cnt : Nat} {xs : Nat → Int32} {μ : gMu} {x5 : Int32} {P : gMu → gRes → Prop} (hcnt : cnt + 5 ≤ 2560) (h : gCl' 112 [.ref 0, .ref 64] μ (fun μ1 r => (∃ v2, r = .inl (some (.int v2)) ∧ (gCl' 207 [.ref 1] μ1 (fun μ3 r => (∃ v4, r = .inl (some (.int v4)) ∧ (gCl' 152 [.ref 1] μ3 (fun μ5 r => (∃ v6, r = .inl (some (.int v6)) ∧ (((v6 = v2) → (((¬ v2 = 0) → (gWp (some (SL, xs)) 230 (2023, [some (.ref 1000), some (.ref 0), some (.ref 1), some (.ref 64), some (.ref 65), some (.int x5), some (.int v2), some (.int v4), none], [], μ5) (cnt + 1) P)) ∧ ((v2 = 0) → ((vp_in (0 : Int32) 1) ∧ ((((lg_cmp (gJ μ5 64 ((0 : Int32).toNatClampNeg)) v4.toInt64) = 0) → (gWp (some (SL, xs)) 230 (2023, [some (.ref 1000), some (.ref 0), some (.ref 1), some (.ref 64), some (.ref 65), some (.int x5), some (.int v2), some (.int v4), none], [], μ5) (cnt + 1) P)) ∧ ((¬ (lg_cmp (gJ μ5 64 ((0 : Int32).toNatClampNeg)) v4.toInt64) = 0) → (P μ5 (.inl (some (.int (0 : Int32))))))))))) ∧ ((¬ v6 = v2) → (P μ5 (.inl (some (.int (0 : Int32)))))))))))))) ∨ (∃ y, r = .inr y ∧ P μ1 (.inr y)))) : gWp (some (SL, xs)) 230 (1146, [some (.ref 1000), some (.ref 0), some (.ref 1), some (.ref 64), some (.ref 65), some (.int x5), none, none, none], [], μ) cnt P := by
  refine gWp_sts gT_230 2 (f' := (1148, [some (.ref 1000), some (.ref 0), some (.ref 1), some (.ref 64), some (.ref 65), some (.int x5), none, none, none], [.ref 64, .ref 0], μ)) (cs := []) rfl trivial ?_
  refine gWp_stat gT_230 (pc := 1148) (c01 := 0) (as := [.ref 0, .ref 64]) (rest := []) rfl (Or.inl rfl) rfl rfl rfl ⟨by have := hcnt; show cnt + 1 ≤ 2560; omega, Nat.le_of_ble_eq_true rfl, by decide, Nat.le_of_ble_eq_true rfl⟩ (gWp_imp h (fun μ1 r h => ?_))
  rcases h with h | h
  · obtain ⟨v2, rfl, h⟩ := h
    refine Or.inl ⟨_, rfl, ?_⟩
    show gWp (some (SL, xs)) 230 (1151, [some (.ref 1000), some (.ref 0), some (.ref 1), some (.ref 64), some (.ref 65), some (.int x5), none, none, none], [.int v2], μ1) _ P
    refine gWp_sts gT_230 2 (f' := (1154, [some (.ref 1000), some (.ref 0), some (.ref 1), some (.ref 64), some (.ref 65), some (.int x5), some (.int v2), none, none], [.ref 1], μ1)) (cs := []) rfl trivial ?_
    refine gWp_virt gT_230 (pc := 1154) (q := 1) (as := [.ref 1]) (rest := []) rfl rfl rfl rfl rfl rfl ⟨by have := hcnt; show (cnt + 1) + 0 ≤ 2560; omega, Nat.le_of_ble_eq_true rfl, by decide, Nat.le_of_ble_eq_true rfl⟩ (gWp_imp h (fun μ3 r h => ?_))
    obtain ⟨v4, rfl, h⟩ := h
    refine Or.inl ⟨_, rfl, ?_⟩
    show gWp (some (SL, xs)) 230 (1157, [some (.ref 1000), some (.ref 0), some (.ref 1), some (.ref 64), some (.ref 65), some (.int x5), some (.int v2), none, none], [.int v4], μ3) _ P
    refine gWp_sts gT_230 2 (f' := (1160, [some (.ref 1000), some (.ref 0), some (.ref 1), some (.ref 64), some (.ref 65), some (.int x5), some (.int v2), some (.int v4), none], [.ref 1], μ3)) (cs := []) rfl trivial ?_
    refine gWp_virt gT_230 (pc := 1160) (q := 1) (as := [.ref 1]) (rest := []) rfl rfl rfl rfl rfl rfl ⟨by have := hcnt; show (cnt + 1) + 0 ≤ 2560; omega, Nat.le_of_ble_eq_true rfl, by decide, Nat.le_of_ble_eq_true rfl⟩ (gWp_imp h (fun μ5 r h => ?_))
    obtain ⟨v6, rfl, h⟩ := h
    refine Or.inl ⟨_, rfl, ?_⟩
    show gWp (some (SL, xs)) 230 (1163, [some (.ref 1000), some (.ref 0), some (.ref 1), some (.ref 64), some (.ref 65), some (.int x5), some (.int v2), some (.int v4), none], [.int v6], μ5) _ P
    refine gWp_sts gT_230 1 (f' := (1165, [some (.ref 1000), some (.ref 0), some (.ref 1), some (.ref 64), some (.ref 65), some (.int x5), some (.int v2), some (.int v4), none], [.int v2, .int v6], μ5)) (cs := []) rfl trivial ?_
    refine gWp_icmp gT_230 (pc := 1165) rfl ⟨fun c => ?_, fun c => ?_⟩
    · replace h := h.1 (of_decide_eq_true c)
      refine gWp_sts gT_230 1 (f' := (1172, [some (.ref 1000), some (.ref 0), some (.ref 1), some (.ref 64), some (.ref 65), some (.int x5), some (.int v2), some (.int v4), none], [.int v2], μ5)) (cs := []) rfl trivial ?_
      refine gWp_if gT_230 (pc := 1172) rfl ⟨fun c => ?_, fun c => ?_⟩
      · replace h := h.1 (of_decide_eq_true c)
        refine gWp_sts gT_230 1 (f' := (2023, [some (.ref 1000), some (.ref 0), some (.ref 1), some (.ref 64), some (.ref 65), some (.int x5), some (.int v2), some (.int v4), none], [], μ5)) (cs := []) rfl trivial ?_
        exact h
      · replace h := h.2 (Classical.not_not.mp (fun q => c (decide_eq_true q)))
        obtain ⟨c1, h⟩ := h
        refine gWp_sts gT_230 6 (f' := (1182, [some (.ref 1000), some (.ref 0), some (.ref 1), some (.ref 64), some (.ref 65), some (.int x5), some (.int v2), some (.int v4), none], [.int (lg_cmp (gJ μ5 64 ((0 : Int32).toNatClampNeg)) v4.toInt64)], μ5)) (cs := [vp_in (0 : Int32) 1]) rfl c1 ?_
        refine gWp_if gT_230 (pc := 1182) rfl ⟨fun c => ?_, fun c => ?_⟩
        · replace h := h.1 (of_decide_eq_true c)
          refine gWp_sts gT_230 1 (f' := (2023, [some (.ref 1000), some (.ref 0), some (.ref 1), some (.ref 64), some (.ref 65), some (.int x5), some (.int v2), some (.int v4), none], [], μ5)) (cs := []) rfl trivial ?_
          exact h
        · replace h := h.2 (fun q => c (decide_eq_true q))
          refine gWp_sts gT_230 1 (f' := (1186, [some (.ref 1000), some (.ref 0), some (.ref 1), some (.ref 64), some (.ref 65), some (.int x5), some (.int v2), some (.int v4), none], [.int (0 : Int32)], μ5)) (cs := []) rfl trivial ?_
          exact gWp_end gT_230 rfl (gEnd_int (show narrow .boolean (.int (0 : Int32)) = .int (0 : Int32) by decide)) h
    · replace h := h.2 (fun q => c (decide_eq_true q))
      refine gWp_sts gT_230 1 (f' := (1169, [some (.ref 1000), some (.ref 0), some (.ref 1), some (.ref 64), some (.ref 65), some (.int x5), some (.int v2), some (.int v4), none], [.int (0 : Int32)], μ5)) (cs := []) rfl trivial ?_
      exact gWp_end gT_230 rfl (gEnd_int (show narrow .boolean (.int (0 : Int32)) = .int (0 : Int32) by decide)) h
  · obtain ⟨y, rfl, h⟩ := h
    exact Or.inr (Or.inl ⟨y, rfl, rfl, h⟩)
set_option maxRecDepth 20000 in
theorem vl_1190 {SL cnt : Nat} {xs : Nat → Int32} {μ : gMu} {x5 : Int32} {P : gMu → gRes → Prop} (hcnt : cnt + 5 ≤ 2560) (h : (vp_in (x5 + (1 : Int32)) SL) ∧ (gCl' 115 [.ref 0, .int (xs (x5 + (1 : Int32)).toNatClampNeg), .ref 64] μ (fun μ1 r => (∃ v2, r = .inl (some (.int v2)) ∧ ((vp_in (x5 + (1 : Int32)) SL) ∧ (gCl' 210 [.ref 1, .int (xs (x5 + (1 : Int32)).toNatClampNeg)] μ1 (fun μ3 r => (∃ v4, r = .inl (some (.int v4)) ∧ (gCl' 152 [.ref 1] μ3 (fun μ5 r => (∃ v6, r = .inl (some (.int v6)) ∧ (((v6 = v2) → (((¬ v2 = 0) → (gWp (some (SL, xs)) 230 (2023, [some (.ref 1000), some (.ref 0), some (.ref 1), some (.ref 64), some (.ref 65), some (.int x5), some (.int v2), some (.int v4), none], [], μ5) (cnt + 2) P)) ∧ ((v2 = 0) → ((vp_in (0 : Int32) 1) ∧ ((((lg_cmp (gJ μ5 64 ((0 : Int32).toNatClampNeg)) v4.toInt64) = 0) → (gWp (some (SL, xs)) 230 (2023, [some (.ref 1000), some (.ref 0), some (.ref 1), some (.ref 64), some (.ref 65), some (.int x5), some (.int v2), some (.int v4), none], [], μ5) (cnt + 2) P)) ∧ ((¬ (lg_cmp (gJ μ5 64 ((0 : Int32).toNatClampNeg)) v4.toInt64) = 0) → (P μ5 (.inl (some (.int (0 : Int32))))))))))) ∧ ((¬ v6 = v2) → (P μ5 (.inl (some (.int (0 : Int32))))))))))))))) ∨ (∃ y, r = .inr y ∧ P μ1 (.inr y))))) : gWp (some (SL, xs)) 230 (1190, [some (.ref 1000), some (.ref 0), some (.ref 1), some (.ref 64), some (.ref 65), some (.int x5), none, none, none], [], μ) cnt P := by
  obtain ⟨c1, h⟩ := h
  refine gWp_sts gT_230 7 (f' := (1198, [some (.ref 1000), some (.ref 0), some (.ref 1), some (.ref 64), some (.ref 65), some (.int x5), none, none, none], [.ref 64, .int (xs (x5 + (1 : Int32)).toNatClampNeg), .ref 0], μ)) (cs := [vp_in (x5 + (1 : Int32)) SL]) rfl c1 ?_
  refine gWp_stat gT_230 (pc := 1198) (c01 := 0) (as := [.ref 0, .int (xs (x5 + (1 : Int32)).toNatClampNeg), .ref 64]) (rest := []) rfl (Or.inl rfl) rfl rfl rfl ⟨by have := hcnt; show cnt + 2 ≤ 2560; omega, Nat.le_of_ble_eq_true rfl, by decide, Nat.le_of_ble_eq_true rfl⟩ (gWp_imp h (fun μ1 r h => ?_))
  rcases h with h | h
  · obtain ⟨v2, rfl, h⟩ := h
    refine Or.inl ⟨_, rfl, ?_⟩
    show gWp (some (SL, xs)) 230 (1201, [some (.ref 1000), some (.ref 0), some (.ref 1), some (.ref 64), some (.ref 65), some (.int x5), none, none, none], [.int v2], μ1) _ P
    obtain ⟨c1, h⟩ := h
    refine gWp_sts gT_230 7 (f' := (1210, [some (.ref 1000), some (.ref 0), some (.ref 1), some (.ref 64), some (.ref 65), some (.int x5), some (.int v2), none, none], [.int (xs (x5 + (1 : Int32)).toNatClampNeg), .ref 1], μ1)) (cs := [vp_in (x5 + (1 : Int32)) SL]) rfl c1 ?_
    refine gWp_virt gT_230 (pc := 1210) (q := 1) (as := [.ref 1, .int (xs (x5 + (1 : Int32)).toNatClampNeg)]) (rest := []) rfl rfl rfl rfl rfl rfl ⟨by have := hcnt; show (cnt + 2) + 0 ≤ 2560; omega, Nat.le_of_ble_eq_true rfl, by decide, Nat.le_of_ble_eq_true rfl⟩ (gWp_imp h (fun μ3 r h => ?_))
    obtain ⟨v4, rfl, h⟩ := h
    refine Or.inl ⟨_, rfl, ?_⟩
    show gWp (some (SL, xs)) 230 (1213, [some (.ref 1000), some (.ref 0), some (.ref 1), some (.ref 64), some (.ref 65), some (.int x5), some (.int v2), none, none], [.int v4], μ3) _ P
    refine gWp_sts gT_230 2 (f' := (1216, [some (.ref 1000), some (.ref 0), some (.ref 1), some (.ref 64), some (.ref 65), some (.int x5), some (.int v2), some (.int v4), none], [.ref 1], μ3)) (cs := []) rfl trivial ?_
    refine gWp_virt gT_230 (pc := 1216) (q := 1) (as := [.ref 1]) (rest := []) rfl rfl rfl rfl rfl rfl ⟨by have := hcnt; show (cnt + 2) + 0 ≤ 2560; omega, Nat.le_of_ble_eq_true rfl, by decide, Nat.le_of_ble_eq_true rfl⟩ (gWp_imp h (fun μ5 r h => ?_))
    obtain ⟨v6, rfl, h⟩ := h
    refine Or.inl ⟨_, rfl, ?_⟩
    show gWp (some (SL, xs)) 230 (1219, [some (.ref 1000), some (.ref 0), some (.ref 1), some (.ref 64), some (.ref 65), some (.int x5), some (.int v2), some (.int v4), none], [.int v6], μ5) _ P
    refine gWp_sts gT_230 1 (f' := (1221, [some (.ref 1000), some (.ref 0), some (.ref 1), some (.ref 64), some (.ref 65), some (.int x5), some (.int v2), some (.int v4), none], [.int v2, .int v6], μ5)) (cs := []) rfl trivial ?_
    refine gWp_icmp gT_230 (pc := 1221) rfl ⟨fun c => ?_, fun c => ?_⟩
    · replace h := h.1 (of_decide_eq_true c)
      refine gWp_sts gT_230 1 (f' := (1228, [some (.ref 1000), some (.ref 0), some (.ref 1), some (.ref 64), some (.ref 65), some (.int x5), some (.int v2), some (.int v4), none], [.int v2], μ5)) (cs := []) rfl trivial ?_
      refine gWp_if gT_230 (pc := 1228) rfl ⟨fun c => ?_, fun c => ?_⟩
      · replace h := h.1 (of_decide_eq_true c)
        refine gWp_sts gT_230 1 (f' := (2023, [some (.ref 1000), some (.ref 0), some (.ref 1), some (.ref 64), some (.ref 65), some (.int x5), some (.int v2), some (.int v4), none], [], μ5)) (cs := []) rfl trivial ?_
        exact h
      · replace h := h.2 (Classical.not_not.mp (fun q => c (decide_eq_true q)))
        obtain ⟨c1, h⟩ := h
        refine gWp_sts gT_230 6 (f' := (1238, [some (.ref 1000), some (.ref 0), some (.ref 1), some (.ref 64), some (.ref 65), some (.int x5), some (.int v2), some (.int v4), none], [.int (lg_cmp (gJ μ5 64 ((0 : Int32).toNatClampNeg)) v4.toInt64)], μ5)) (cs := [vp_in (0 : Int32) 1]) rfl c1 ?_
        refine gWp_if gT_230 (pc := 1238) rfl ⟨fun c => ?_, fun c => ?_⟩
        · replace h := h.1 (of_decide_eq_true c)
          refine gWp_sts gT_230 1 (f' := (2023, [some (.ref 1000), some (.ref 0), some (.ref 1), some (.ref 64), some (.ref 65), some (.int x5), some (.int v2), some (.int v4), none], [], μ5)) (cs := []) rfl trivial ?_
          exact h
        · replace h := h.2 (fun q => c (decide_eq_true q))
          refine gWp_sts gT_230 1 (f' := (1242, [some (.ref 1000), some (.ref 0), some (.ref 1), some (.ref 64), some (.ref 65), some (.int x5), some (.int v2), some (.int v4), none], [.int (0 : Int32)], μ5)) (cs := []) rfl trivial ?_
          exact gWp_end gT_230 rfl (gEnd_int (show narrow .boolean (.int (0 : Int32)) = .int (0 : Int32) by decide)) h
    · replace h := h.2 (fun q => c (decide_eq_true q))
      refine gWp_sts gT_230 1 (f' := (1225, [some (.ref 1000), some (.ref 0), some (.ref 1), some (.ref 64), some (.ref 65), some (.int x5), some (.int v2), some (.int v4), none], [.int (0 : Int32)], μ5)) (cs := []) rfl trivial ?_
      exact gWp_end gT_230 rfl (gEnd_int (show narrow .boolean (.int (0 : Int32)) = .int (0 : Int32) by decide)) h
  · obtain ⟨y, rfl, h⟩ := h
    exact Or.inr (Or.inl ⟨y, rfl, rfl, h⟩)
set_option maxRecDepth 20000 in
theorem vl_1246 {SL cnt : Nat} {xs : Nat → Int32} {μ : gMu} {x5 : Int32} {P : gMu → gRes → Prop} (hcnt : cnt + 5 ≤ 2560) (h : (vp_in (x5 + (1 : Int32)) SL) ∧ (gCl' 118 [.ref 0, .int (xs (x5 + (1 : Int32)).toNatClampNeg), .ref 64] μ (fun μ1 r => (∃ v2, r = .inl (some (.int v2)) ∧ ((vp_in (x5 + (1 : Int32)) SL) ∧ (gCl' 212 [.ref 1, .int (xs (x5 + (1 : Int32)).toNatClampNeg)] μ1 (fun μ3 r => (∃ v4, r = .inl (some (.int v4)) ∧ (gCl' 152 [.ref 1] μ3 (fun μ5 r => (∃ v6, r = .inl (some (.int v6)) ∧ (((v6 = v2) → (((¬ v2 = 0) → (gWp (some (SL, xs)) 230 (2023, [some (.ref 1000), some (.ref 0), some (.ref 1), some (.ref 64), some (.ref 65), some (.int x5), some (.int v2), some (.int v4), none], [], μ5) (cnt + 4) P)) ∧ ((v2 = 0) → ((vp_in (0 : Int32) 1) ∧ ((((lg_cmp (gJ μ5 64 ((0 : Int32).toNatClampNeg)) v4.toInt64) = 0) → (gWp (some (SL, xs)) 230 (2023, [some (.ref 1000), some (.ref 0), some (.ref 1), some (.ref 64), some (.ref 65), some (.int x5), some (.int v2), some (.int v4), none], [], μ5) (cnt + 4) P)) ∧ ((¬ (lg_cmp (gJ μ5 64 ((0 : Int32).toNatClampNeg)) v4.toInt64) = 0) → (P μ5 (.inl (some (.int (0 : Int32))))))))))) ∧ ((¬ v6 = v2) → (P μ5 (.inl (some (.int (0 : Int32))))))))))))))) ∨ (∃ y, r = .inr y ∧ P μ1 (.inr y))))) : gWp (some (SL, xs)) 230 (1246, [some (.ref 1000), some (.ref 0), some (.ref 1), some (.ref 64), some (.ref 65), some (.int x5), none, none, none], [], μ) cnt P := by
  obtain ⟨c1, h⟩ := h
  refine gWp_sts gT_230 7 (f' := (1254, [some (.ref 1000), some (.ref 0), some (.ref 1), some (.ref 64), some (.ref 65), some (.int x5), none, none, none], [.ref 64, .int (xs (x5 + (1 : Int32)).toNatClampNeg), .ref 0], μ)) (cs := [vp_in (x5 + (1 : Int32)) SL]) rfl c1 ?_
  refine gWp_stat gT_230 (pc := 1254) (c01 := 0) (as := [.ref 0, .int (xs (x5 + (1 : Int32)).toNatClampNeg), .ref 64]) (rest := []) rfl (Or.inl rfl) rfl rfl rfl ⟨by have := hcnt; show cnt + 4 ≤ 2560; omega, Nat.le_of_ble_eq_true rfl, by decide, Nat.le_of_ble_eq_true rfl⟩ (gWp_imp h (fun μ1 r h => ?_))
  rcases h with h | h
  · obtain ⟨v2, rfl, h⟩ := h
    refine Or.inl ⟨_, rfl, ?_⟩
    show gWp (some (SL, xs)) 230 (1257, [some (.ref 1000), some (.ref 0), some (.ref 1), some (.ref 64), some (.ref 65), some (.int x5), none, none, none], [.int v2], μ1) _ P
    obtain ⟨c1, h⟩ := h
    refine gWp_sts gT_230 7 (f' := (1266, [some (.ref 1000), some (.ref 0), some (.ref 1), some (.ref 64), some (.ref 65), some (.int x5), some (.int v2), none, none], [.int (xs (x5 + (1 : Int32)).toNatClampNeg), .ref 1], μ1)) (cs := [vp_in (x5 + (1 : Int32)) SL]) rfl c1 ?_
    refine gWp_virt gT_230 (pc := 1266) (q := 1) (as := [.ref 1, .int (xs (x5 + (1 : Int32)).toNatClampNeg)]) (rest := []) rfl rfl rfl rfl rfl rfl ⟨by have := hcnt; show (cnt + 4) + 0 ≤ 2560; omega, Nat.le_of_ble_eq_true rfl, by decide, Nat.le_of_ble_eq_true rfl⟩ (gWp_imp h (fun μ3 r h => ?_))
    obtain ⟨v4, rfl, h⟩ := h
    refine Or.inl ⟨_, rfl, ?_⟩
    show gWp (some (SL, xs)) 230 (1269, [some (.ref 1000), some (.ref 0), some (.ref 1), some (.ref 64), some (.ref 65), some (.int x5), some (.int v2), none, none], [.int v4], μ3) _ P
    refine gWp_sts gT_230 2 (f' := (1272, [some (.ref 1000), some (.ref 0), some (.ref 1), some (.ref 64), some (.ref 65), some (.int x5), some (.int v2), some (.int v4), none], [.ref 1], μ3)) (cs := []) rfl trivial ?_
    refine gWp_virt gT_230 (pc := 1272) (q := 1) (as := [.ref 1]) (rest := []) rfl rfl rfl rfl rfl rfl ⟨by have := hcnt; show (cnt + 4) + 0 ≤ 2560; omega, Nat.le_of_ble_eq_true rfl, by decide, Nat.le_of_ble_eq_true rfl⟩ (gWp_imp h (fun μ5 r h => ?_))
    obtain ⟨v6, rfl, h⟩ := h
    refine Or.inl ⟨_, rfl, ?_⟩
    show gWp (some (SL, xs)) 230 (1275, [some (.ref 1000), some (.ref 0), some (.ref 1), some (.ref 64), some (.ref 65), some (.int x5), some (.int v2), some (.int v4), none], [.int v6], μ5) _ P
    refine gWp_sts gT_230 1 (f' := (1277, [some (.ref 1000), some (.ref 0), some (.ref 1), some (.ref 64), some (.ref 65), some (.int x5), some (.int v2), some (.int v4), none], [.int v2, .int v6], μ5)) (cs := []) rfl trivial ?_
    refine gWp_icmp gT_230 (pc := 1277) rfl ⟨fun c => ?_, fun c => ?_⟩
    · replace h := h.1 (of_decide_eq_true c)
      refine gWp_sts gT_230 1 (f' := (1284, [some (.ref 1000), some (.ref 0), some (.ref 1), some (.ref 64), some (.ref 65), some (.int x5), some (.int v2), some (.int v4), none], [.int v2], μ5)) (cs := []) rfl trivial ?_
      refine gWp_if gT_230 (pc := 1284) rfl ⟨fun c => ?_, fun c => ?_⟩
      · replace h := h.1 (of_decide_eq_true c)
        refine gWp_sts gT_230 1 (f' := (2023, [some (.ref 1000), some (.ref 0), some (.ref 1), some (.ref 64), some (.ref 65), some (.int x5), some (.int v2), some (.int v4), none], [], μ5)) (cs := []) rfl trivial ?_
        exact h
      · replace h := h.2 (Classical.not_not.mp (fun q => c (decide_eq_true q)))
        obtain ⟨c1, h⟩ := h
        refine gWp_sts gT_230 6 (f' := (1294, [some (.ref 1000), some (.ref 0), some (.ref 1), some (.ref 64), some (.ref 65), some (.int x5), some (.int v2), some (.int v4), none], [.int (lg_cmp (gJ μ5 64 ((0 : Int32).toNatClampNeg)) v4.toInt64)], μ5)) (cs := [vp_in (0 : Int32) 1]) rfl c1 ?_
        refine gWp_if gT_230 (pc := 1294) rfl ⟨fun c => ?_, fun c => ?_⟩
        · replace h := h.1 (of_decide_eq_true c)
          refine gWp_sts gT_230 1 (f' := (2023, [some (.ref 1000), some (.ref 0), some (.ref 1), some (.ref 64), some (.ref 65), some (.int x5), some (.int v2), some (.int v4), none], [], μ5)) (cs := []) rfl trivial ?_
          exact h
        · replace h := h.2 (fun q => c (decide_eq_true q))
          refine gWp_sts gT_230 1 (f' := (1298, [some (.ref 1000), some (.ref 0), some (.ref 1), some (.ref 64), some (.ref 65), some (.int x5), some (.int v2), some (.int v4), none], [.int (0 : Int32)], μ5)) (cs := []) rfl trivial ?_
          exact gWp_end gT_230 rfl (gEnd_int (show narrow .boolean (.int (0 : Int32)) = .int (0 : Int32) by decide)) h
    · replace h := h.2 (fun q => c (decide_eq_true q))
      refine gWp_sts gT_230 1 (f' := (1281, [some (.ref 1000), some (.ref 0), some (.ref 1), some (.ref 64), some (.ref 65), some (.int x5), some (.int v2), some (.int v4), none], [.int (0 : Int32)], μ5)) (cs := []) rfl trivial ?_
      exact gWp_end gT_230 rfl (gEnd_int (show narrow .boolean (.int (0 : Int32)) = .int (0 : Int32) by decide)) h
  · obtain ⟨y, rfl, h⟩ := h
    exact Or.inr (Or.inl ⟨y, rfl, rfl, h⟩)
set_option maxRecDepth 20000 in
theorem vl_1302 {SL cnt : Nat} {xs : Nat → Int32} {μ : gMu} {x5 : Int32} {P : gMu → gRes → Prop} (hcnt : cnt + 5 ≤ 2560) (h : (vp_in (x5 + (1 : Int32)) SL) ∧ (gCl' 120 [.ref 0, .int (xs (x5 + (1 : Int32)).toNatClampNeg), .ref 64] μ (fun μ1 r => (∃ v2, r = .inl (some (.int v2)) ∧ ((vp_in (x5 + (1 : Int32)) SL) ∧ (gCl' 213 [.ref 1, .int (xs (x5 + (1 : Int32)).toNatClampNeg)] μ1 (fun μ3 r => (∃ v4, r = .inl (some (.int v4)) ∧ (gCl' 152 [.ref 1] μ3 (fun μ5 r => (∃ v6, r = .inl (some (.int v6)) ∧ (((v6 = v2) → (((¬ v2 = 0) → (gWp (some (SL, xs)) 230 (2023, [some (.ref 1000), some (.ref 0), some (.ref 1), some (.ref 64), some (.ref 65), some (.int x5), some (.int v2), some (.int v4), none], [], μ5) (cnt + 2) P)) ∧ ((v2 = 0) → ((vp_in (0 : Int32) 1) ∧ ((((lg_cmp (gJ μ5 64 ((0 : Int32).toNatClampNeg)) v4.toInt64) = 0) → (gWp (some (SL, xs)) 230 (2023, [some (.ref 1000), some (.ref 0), some (.ref 1), some (.ref 64), some (.ref 65), some (.int x5), some (.int v2), some (.int v4), none], [], μ5) (cnt + 2) P)) ∧ ((¬ (lg_cmp (gJ μ5 64 ((0 : Int32).toNatClampNeg)) v4.toInt64) = 0) → (P μ5 (.inl (some (.int (0 : Int32))))))))))) ∧ ((¬ v6 = v2) → (P μ5 (.inl (some (.int (0 : Int32))))))))))))))) ∨ (∃ y, r = .inr y ∧ P μ1 (.inr y))))) : gWp (some (SL, xs)) 230 (1302, [some (.ref 1000), some (.ref 0), some (.ref 1), some (.ref 64), some (.ref 65), some (.int x5), none, none, none], [], μ) cnt P := by
  obtain ⟨c1, h⟩ := h
  refine gWp_sts gT_230 7 (f' := (1310, [some (.ref 1000), some (.ref 0), some (.ref 1), some (.ref 64), some (.ref 65), some (.int x5), none, none, none], [.ref 64, .int (xs (x5 + (1 : Int32)).toNatClampNeg), .ref 0], μ)) (cs := [vp_in (x5 + (1 : Int32)) SL]) rfl c1 ?_
  refine gWp_stat gT_230 (pc := 1310) (c01 := 0) (as := [.ref 0, .int (xs (x5 + (1 : Int32)).toNatClampNeg), .ref 64]) (rest := []) rfl (Or.inl rfl) rfl rfl rfl ⟨by have := hcnt; show cnt + 2 ≤ 2560; omega, Nat.le_of_ble_eq_true rfl, by decide, Nat.le_of_ble_eq_true rfl⟩ (gWp_imp h (fun μ1 r h => ?_))
  rcases h with h | h
  · obtain ⟨v2, rfl, h⟩ := h
    refine Or.inl ⟨_, rfl, ?_⟩
    show gWp (some (SL, xs)) 230 (1313, [some (.ref 1000), some (.ref 0), some (.ref 1), some (.ref 64), some (.ref 65), some (.int x5), none, none, none], [.int v2], μ1) _ P
    obtain ⟨c1, h⟩ := h
    refine gWp_sts gT_230 7 (f' := (1322, [some (.ref 1000), some (.ref 0), some (.ref 1), some (.ref 64), some (.ref 65), some (.int x5), some (.int v2), none, none], [.int (xs (x5 + (1 : Int32)).toNatClampNeg), .ref 1], μ1)) (cs := [vp_in (x5 + (1 : Int32)) SL]) rfl c1 ?_
    refine gWp_virt gT_230 (pc := 1322) (q := 1) (as := [.ref 1, .int (xs (x5 + (1 : Int32)).toNatClampNeg)]) (rest := []) rfl rfl rfl rfl rfl rfl ⟨by have := hcnt; show (cnt + 2) + 0 ≤ 2560; omega, Nat.le_of_ble_eq_true rfl, by decide, Nat.le_of_ble_eq_true rfl⟩ (gWp_imp h (fun μ3 r h => ?_))
    obtain ⟨v4, rfl, h⟩ := h
    refine Or.inl ⟨_, rfl, ?_⟩
    show gWp (some (SL, xs)) 230 (1325, [some (.ref 1000), some (.ref 0), some (.ref 1), some (.ref 64), some (.ref 65), some (.int x5), some (.int v2), none, none], [.int v4], μ3) _ P
    refine gWp_sts gT_230 2 (f' := (1328, [some (.ref 1000), some (.ref 0), some (.ref 1), some (.ref 64), some (.ref 65), some (.int x5), some (.int v2), some (.int v4), none], [.ref 1], μ3)) (cs := []) rfl trivial ?_
    refine gWp_virt gT_230 (pc := 1328) (q := 1) (as := [.ref 1]) (rest := []) rfl rfl rfl rfl rfl rfl ⟨by have := hcnt; show (cnt + 2) + 0 ≤ 2560; omega, Nat.le_of_ble_eq_true rfl, by decide, Nat.le_of_ble_eq_true rfl⟩ (gWp_imp h (fun μ5 r h => ?_))
    obtain ⟨v6, rfl, h⟩ := h
    refine Or.inl ⟨_, rfl, ?_⟩
    show gWp (some (SL, xs)) 230 (1331, [some (.ref 1000), some (.ref 0), some (.ref 1), some (.ref 64), some (.ref 65), some (.int x5), some (.int v2), some (.int v4), none], [.int v6], μ5) _ P
    refine gWp_sts gT_230 1 (f' := (1333, [some (.ref 1000), some (.ref 0), some (.ref 1), some (.ref 64), some (.ref 65), some (.int x5), some (.int v2), some (.int v4), none], [.int v2, .int v6], μ5)) (cs := []) rfl trivial ?_
    refine gWp_icmp gT_230 (pc := 1333) rfl ⟨fun c => ?_, fun c => ?_⟩
    · replace h := h.1 (of_decide_eq_true c)
      refine gWp_sts gT_230 1 (f' := (1340, [some (.ref 1000), some (.ref 0), some (.ref 1), some (.ref 64), some (.ref 65), some (.int x5), some (.int v2), some (.int v4), none], [.int v2], μ5)) (cs := []) rfl trivial ?_
      refine gWp_if gT_230 (pc := 1340) rfl ⟨fun c => ?_, fun c => ?_⟩
      · replace h := h.1 (of_decide_eq_true c)
        refine gWp_sts gT_230 1 (f' := (2023, [some (.ref 1000), some (.ref 0), some (.ref 1), some (.ref 64), some (.ref 65), some (.int x5), some (.int v2), some (.int v4), none], [], μ5)) (cs := []) rfl trivial ?_
        exact h
      · replace h := h.2 (Classical.not_not.mp (fun q => c (decide_eq_true q)))
        obtain ⟨c1, h⟩ := h
        refine gWp_sts gT_230 6 (f' := (1350, [some (.ref 1000), some (.ref 0), some (.ref 1), some (.ref 64), some (.ref 65), some (.int x5), some (.int v2), some (.int v4), none], [.int (lg_cmp (gJ μ5 64 ((0 : Int32).toNatClampNeg)) v4.toInt64)], μ5)) (cs := [vp_in (0 : Int32) 1]) rfl c1 ?_
        refine gWp_if gT_230 (pc := 1350) rfl ⟨fun c => ?_, fun c => ?_⟩
        · replace h := h.1 (of_decide_eq_true c)
          refine gWp_sts gT_230 1 (f' := (2023, [some (.ref 1000), some (.ref 0), some (.ref 1), some (.ref 64), some (.ref 65), some (.int x5), some (.int v2), some (.int v4), none], [], μ5)) (cs := []) rfl trivial ?_
          exact h
        · replace h := h.2 (fun q => c (decide_eq_true q))
          refine gWp_sts gT_230 1 (f' := (1354, [some (.ref 1000), some (.ref 0), some (.ref 1), some (.ref 64), some (.ref 65), some (.int x5), some (.int v2), some (.int v4), none], [.int (0 : Int32)], μ5)) (cs := []) rfl trivial ?_
          exact gWp_end gT_230 rfl (gEnd_int (show narrow .boolean (.int (0 : Int32)) = .int (0 : Int32) by decide)) h
    · replace h := h.2 (fun q => c (decide_eq_true q))
      refine gWp_sts gT_230 1 (f' := (1337, [some (.ref 1000), some (.ref 0), some (.ref 1), some (.ref 64), some (.ref 65), some (.int x5), some (.int v2), some (.int v4), none], [.int (0 : Int32)], μ5)) (cs := []) rfl trivial ?_
      exact gWp_end gT_230 rfl (gEnd_int (show narrow .boolean (.int (0 : Int32)) = .int (0 : Int32) by decide)) h
  · obtain ⟨y, rfl, h⟩ := h
    exact Or.inr (Or.inl ⟨y, rfl, rfl, h⟩)
set_option maxRecDepth 20000 in
theorem vl_1358 {SL cnt : Nat} {xs : Nat → Int32} {μ : gMu} {x5 : Int32} {P : gMu → gRes → Prop} (hcnt : cnt + 5 ≤ 2560) (h : (vp_in (x5 + (1 : Int32)) SL) ∧ (gCl' 122 [.ref 0, .int (xs (x5 + (1 : Int32)).toNatClampNeg), .ref 64] μ (fun μ1 r => (∃ v2, r = .inl (some (.int v2)) ∧ ((vp_in (x5 + (1 : Int32)) SL) ∧ (gCl' 214 [.ref 1, .int (xs (x5 + (1 : Int32)).toNatClampNeg)] μ1 (fun μ3 r => (∃ v4, r = .inl (some (.int v4)) ∧ (gCl' 152 [.ref 1] μ3 (fun μ5 r => (∃ v6, r = .inl (some (.int v6)) ∧ (((v6 = v2) → (((¬ v2 = 0) → (gWp (some (SL, xs)) 230 (2023, [some (.ref 1000), some (.ref 0), some (.ref 1), some (.ref 64), some (.ref 65), some (.int x5), some (.int v2), some (.int v4), none], [], μ5) (cnt + 2) P)) ∧ ((v2 = 0) → ((vp_in (0 : Int32) 1) ∧ ((((lg_cmp (gJ μ5 64 ((0 : Int32).toNatClampNeg)) v4.toInt64) = 0) → (gWp (some (SL, xs)) 230 (2023, [some (.ref 1000), some (.ref 0), some (.ref 1), some (.ref 64), some (.ref 65), some (.int x5), some (.int v2), some (.int v4), none], [], μ5) (cnt + 2) P)) ∧ ((¬ (lg_cmp (gJ μ5 64 ((0 : Int32).toNatClampNeg)) v4.toInt64) = 0) → (P μ5 (.inl (some (.int (0 : Int32))))))))))) ∧ ((¬ v6 = v2) → (P μ5 (.inl (some (.int (0 : Int32))))))))))))))) ∨ (∃ y, r = .inr y ∧ P μ1 (.inr y))))) : gWp (some (SL, xs)) 230 (1358, [some (.ref 1000), some (.ref 0), some (.ref 1), some (.ref 64), some (.ref 65), some (.int x5), none, none, none], [], μ) cnt P := by
  obtain ⟨c1, h⟩ := h
  refine gWp_sts gT_230 7 (f' := (1366, [some (.ref 1000), some (.ref 0), some (.ref 1), some (.ref 64), some (.ref 65), some (.int x5), none, none, none], [.ref 64, .int (xs (x5 + (1 : Int32)).toNatClampNeg), .ref 0], μ)) (cs := [vp_in (x5 + (1 : Int32)) SL]) rfl c1 ?_
  refine gWp_stat gT_230 (pc := 1366) (c01 := 0) (as := [.ref 0, .int (xs (x5 + (1 : Int32)).toNatClampNeg), .ref 64]) (rest := []) rfl (Or.inl rfl) rfl rfl rfl ⟨by have := hcnt; show cnt + 2 ≤ 2560; omega, Nat.le_of_ble_eq_true rfl, by decide, Nat.le_of_ble_eq_true rfl⟩ (gWp_imp h (fun μ1 r h => ?_))
  rcases h with h | h
  · obtain ⟨v2, rfl, h⟩ := h
    refine Or.inl ⟨_, rfl, ?_⟩
    show gWp (some (SL, xs)) 230 (1369, [some (.ref 1000), some (.ref 0), some (.ref 1), some (.ref 64), some (.ref 65), some (.int x5), none, none, none], [.int v2], μ1) _ P
    obtain ⟨c1, h⟩ := h
    refine gWp_sts gT_230 7 (f' := (1378, [some (.ref 1000), some (.ref 0), some (.ref 1), some (.ref 64), some (.ref 65), some (.int x5), some (.int v2), none, none], [.int (xs (x5 + (1 : Int32)).toNatClampNeg), .ref 1], μ1)) (cs := [vp_in (x5 + (1 : Int32)) SL]) rfl c1 ?_
    refine gWp_virt gT_230 (pc := 1378) (q := 1) (as := [.ref 1, .int (xs (x5 + (1 : Int32)).toNatClampNeg)]) (rest := []) rfl rfl rfl rfl rfl rfl ⟨by have := hcnt; show (cnt + 2) + 0 ≤ 2560; omega, Nat.le_of_ble_eq_true rfl, by decide, Nat.le_of_ble_eq_true rfl⟩ (gWp_imp h (fun μ3 r h => ?_))
    obtain ⟨v4, rfl, h⟩ := h
    refine Or.inl ⟨_, rfl, ?_⟩
    show gWp (some (SL, xs)) 230 (1381, [some (.ref 1000), some (.ref 0), some (.ref 1), some (.ref 64), some (.ref 65), some (.int x5), some (.int v2), none, none], [.int v4], μ3) _ P
    refine gWp_sts gT_230 2 (f' := (1384, [some (.ref 1000), some (.ref 0), some (.ref 1), some (.ref 64), some (.ref 65), some (.int x5), some (.int v2), some (.int v4), none], [.ref 1], μ3)) (cs := []) rfl trivial ?_
    refine gWp_virt gT_230 (pc := 1384) (q := 1) (as := [.ref 1]) (rest := []) rfl rfl rfl rfl rfl rfl ⟨by have := hcnt; show (cnt + 2) + 0 ≤ 2560; omega, Nat.le_of_ble_eq_true rfl, by decide, Nat.le_of_ble_eq_true rfl⟩ (gWp_imp h (fun μ5 r h => ?_))
    obtain ⟨v6, rfl, h⟩ := h
    refine Or.inl ⟨_, rfl, ?_⟩
    show gWp (some (SL, xs)) 230 (1387, [some (.ref 1000), some (.ref 0), some (.ref 1), some (.ref 64), some (.ref 65), some (.int x5), some (.int v2), some (.int v4), none], [.int v6], μ5) _ P
    refine gWp_sts gT_230 1 (f' := (1389, [some (.ref 1000), some (.ref 0), some (.ref 1), some (.ref 64), some (.ref 65), some (.int x5), some (.int v2), some (.int v4), none], [.int v2, .int v6], μ5)) (cs := []) rfl trivial ?_
    refine gWp_icmp gT_230 (pc := 1389) rfl ⟨fun c => ?_, fun c => ?_⟩
    · replace h := h.1 (of_decide_eq_true c)
      refine gWp_sts gT_230 1 (f' := (1396, [some (.ref 1000), some (.ref 0), some (.ref 1), some (.ref 64), some (.ref 65), some (.int x5), some (.int v2), some (.int v4), none], [.int v2], μ5)) (cs := []) rfl trivial ?_
      refine gWp_if gT_230 (pc := 1396) rfl ⟨fun c => ?_, fun c => ?_⟩
      · replace h := h.1 (of_decide_eq_true c)
        refine gWp_sts gT_230 1 (f' := (2023, [some (.ref 1000), some (.ref 0), some (.ref 1), some (.ref 64), some (.ref 65), some (.int x5), some (.int v2), some (.int v4), none], [], μ5)) (cs := []) rfl trivial ?_
        exact h
      · replace h := h.2 (Classical.not_not.mp (fun q => c (decide_eq_true q)))
        obtain ⟨c1, h⟩ := h
        refine gWp_sts gT_230 6 (f' := (1406, [some (.ref 1000), some (.ref 0), some (.ref 1), some (.ref 64), some (.ref 65), some (.int x5), some (.int v2), some (.int v4), none], [.int (lg_cmp (gJ μ5 64 ((0 : Int32).toNatClampNeg)) v4.toInt64)], μ5)) (cs := [vp_in (0 : Int32) 1]) rfl c1 ?_
        refine gWp_if gT_230 (pc := 1406) rfl ⟨fun c => ?_, fun c => ?_⟩
        · replace h := h.1 (of_decide_eq_true c)
          refine gWp_sts gT_230 1 (f' := (2023, [some (.ref 1000), some (.ref 0), some (.ref 1), some (.ref 64), some (.ref 65), some (.int x5), some (.int v2), some (.int v4), none], [], μ5)) (cs := []) rfl trivial ?_
          exact h
        · replace h := h.2 (fun q => c (decide_eq_true q))
          refine gWp_sts gT_230 1 (f' := (1410, [some (.ref 1000), some (.ref 0), some (.ref 1), some (.ref 64), some (.ref 65), some (.int x5), some (.int v2), some (.int v4), none], [.int (0 : Int32)], μ5)) (cs := []) rfl trivial ?_
          exact gWp_end gT_230 rfl (gEnd_int (show narrow .boolean (.int (0 : Int32)) = .int (0 : Int32) by decide)) h
    · replace h := h.2 (fun q => c (decide_eq_true q))
      refine gWp_sts gT_230 1 (f' := (1393, [some (.ref 1000), some (.ref 0), some (.ref 1), some (.ref 64), some (.ref 65), some (.int x5), some (.int v2), some (.int v4), none], [.int (0 : Int32)], μ5)) (cs := []) rfl trivial ?_
      exact gWp_end gT_230 rfl (gEnd_int (show narrow .boolean (.int (0 : Int32)) = .int (0 : Int32) by decide)) h
  · obtain ⟨y, rfl, h⟩ := h
    exact Or.inr (Or.inl ⟨y, rfl, rfl, h⟩)
set_option maxRecDepth 20000 in
theorem vl_1414 {SL cnt : Nat} {xs : Nat → Int32} {μ : gMu} {x5 : Int32} {P : gMu → gRes → Prop} (hcnt : cnt + 5 ≤ 2560) (h : gCl' 124 [.ref 0, .ref 64] μ (fun μ1 r => (∃ v2, r = .inl (some (.int v2)) ∧ (gCl' 215 [.ref 1] μ1 (fun μ3 r => (∃ v4, r = .inl (some (.long v4)) ∧ (gCl' 152 [.ref 1] μ3 (fun μ5 r => (∃ v6, r = .inl (some (.int v6)) ∧ (((v6 = v2) → (((¬ v2 = 0) → (gWp (some (SL, xs)) 230 (2023, [some (.ref 1000), some (.ref 0), some (.ref 1), some (.ref 64), some (.ref 65), some (.int x5), some (.int v2), some (.long v4), none], [], μ5) (cnt + 1) P)) ∧ ((v2 = 0) → ((vp_in (0 : Int32) 1) ∧ ((((lg_cmp (gJ μ5 64 ((0 : Int32).toNatClampNeg)) v4) = 0) → (gWp (some (SL, xs)) 230 (2023, [some (.ref 1000), some (.ref 0), some (.ref 1), some (.ref 64), some (.ref 65), some (.int x5), some (.int v2), some (.long v4), none], [], μ5) (cnt + 1) P)) ∧ ((¬ (lg_cmp (gJ μ5 64 ((0 : Int32).toNatClampNeg)) v4) = 0) → (P μ5 (.inl (some (.int (0 : Int32))))))))))) ∧ ((¬ v6 = v2) → (P μ5 (.inl (some (.int (0 : Int32)))))))))))))) ∨ (∃ y, r = .inr y ∧ P μ1 (.inr y)))) : gWp (some (SL, xs)) 230 (1414, [some (.ref 1000), some (.ref 0), some (.ref 1), some (.ref 64), some (.ref 65), some (.int x5), none, none, none], [], μ) cnt P := by
  refine gWp_sts gT_230 2 (f' := (1416, [some (.ref 1000), some (.ref 0), some (.ref 1), some (.ref 64), some (.ref 65), some (.int x5), none, none, none], [.ref 64, .ref 0], μ)) (cs := []) rfl trivial ?_
  refine gWp_stat gT_230 (pc := 1416) (c01 := 0) (as := [.ref 0, .ref 64]) (rest := []) rfl (Or.inl rfl) rfl rfl rfl ⟨by have := hcnt; show cnt + 1 ≤ 2560; omega, Nat.le_of_ble_eq_true rfl, by decide, Nat.le_of_ble_eq_true rfl⟩ (gWp_imp h (fun μ1 r h => ?_))
  rcases h with h | h
  · obtain ⟨v2, rfl, h⟩ := h
    refine Or.inl ⟨_, rfl, ?_⟩
    show gWp (some (SL, xs)) 230 (1419, [some (.ref 1000), some (.ref 0), some (.ref 1), some (.ref 64), some (.ref 65), some (.int x5), none, none, none], [.int v2], μ1) _ P
    refine gWp_sts gT_230 2 (f' := (1422, [some (.ref 1000), some (.ref 0), some (.ref 1), some (.ref 64), some (.ref 65), some (.int x5), some (.int v2), none, none], [.ref 1], μ1)) (cs := []) rfl trivial ?_
    refine gWp_virt gT_230 (pc := 1422) (q := 1) (as := [.ref 1]) (rest := []) rfl rfl rfl rfl rfl rfl ⟨by have := hcnt; show (cnt + 1) + 0 ≤ 2560; omega, Nat.le_of_ble_eq_true rfl, by decide, Nat.le_of_ble_eq_true rfl⟩ (gWp_imp h (fun μ3 r h => ?_))
    obtain ⟨v4, rfl, h⟩ := h
    refine Or.inl ⟨_, rfl, ?_⟩
    show gWp (some (SL, xs)) 230 (1425, [some (.ref 1000), some (.ref 0), some (.ref 1), some (.ref 64), some (.ref 65), some (.int x5), some (.int v2), none, none], [.long v4], μ3) _ P
    refine gWp_sts gT_230 2 (f' := (1428, [some (.ref 1000), some (.ref 0), some (.ref 1), some (.ref 64), some (.ref 65), some (.int x5), some (.int v2), some (.long v4), none], [.ref 1], μ3)) (cs := []) rfl trivial ?_
    refine gWp_virt gT_230 (pc := 1428) (q := 1) (as := [.ref 1]) (rest := []) rfl rfl rfl rfl rfl rfl ⟨by have := hcnt; show (cnt + 1) + 0 ≤ 2560; omega, Nat.le_of_ble_eq_true rfl, by decide, Nat.le_of_ble_eq_true rfl⟩ (gWp_imp h (fun μ5 r h => ?_))
    obtain ⟨v6, rfl, h⟩ := h
    refine Or.inl ⟨_, rfl, ?_⟩
    show gWp (some (SL, xs)) 230 (1431, [some (.ref 1000), some (.ref 0), some (.ref 1), some (.ref 64), some (.ref 65), some (.int x5), some (.int v2), some (.long v4), none], [.int v6], μ5) _ P
    refine gWp_sts gT_230 1 (f' := (1433, [some (.ref 1000), some (.ref 0), some (.ref 1), some (.ref 64), some (.ref 65), some (.int x5), some (.int v2), some (.long v4), none], [.int v2, .int v6], μ5)) (cs := []) rfl trivial ?_
    refine gWp_icmp gT_230 (pc := 1433) rfl ⟨fun c => ?_, fun c => ?_⟩
    · replace h := h.1 (of_decide_eq_true c)
      refine gWp_sts gT_230 1 (f' := (1440, [some (.ref 1000), some (.ref 0), some (.ref 1), some (.ref 64), some (.ref 65), some (.int x5), some (.int v2), some (.long v4), none], [.int v2], μ5)) (cs := []) rfl trivial ?_
      refine gWp_if gT_230 (pc := 1440) rfl ⟨fun c => ?_, fun c => ?_⟩
      · replace h := h.1 (of_decide_eq_true c)
        refine gWp_sts gT_230 1 (f' := (2023, [some (.ref 1000), some (.ref 0), some (.ref 1), some (.ref 64), some (.ref 65), some (.int x5), some (.int v2), some (.long v4), none], [], μ5)) (cs := []) rfl trivial ?_
        exact h
      · replace h := h.2 (Classical.not_not.mp (fun q => c (decide_eq_true q)))
        obtain ⟨c1, h⟩ := h
        refine gWp_sts gT_230 5 (f' := (1449, [some (.ref 1000), some (.ref 0), some (.ref 1), some (.ref 64), some (.ref 65), some (.int x5), some (.int v2), some (.long v4), none], [.int (lg_cmp (gJ μ5 64 ((0 : Int32).toNatClampNeg)) v4)], μ5)) (cs := [vp_in (0 : Int32) 1]) rfl c1 ?_
        refine gWp_if gT_230 (pc := 1449) rfl ⟨fun c => ?_, fun c => ?_⟩
        · replace h := h.1 (of_decide_eq_true c)
          refine gWp_sts gT_230 1 (f' := (2023, [some (.ref 1000), some (.ref 0), some (.ref 1), some (.ref 64), some (.ref 65), some (.int x5), some (.int v2), some (.long v4), none], [], μ5)) (cs := []) rfl trivial ?_
          exact h
        · replace h := h.2 (fun q => c (decide_eq_true q))
          refine gWp_sts gT_230 1 (f' := (1453, [some (.ref 1000), some (.ref 0), some (.ref 1), some (.ref 64), some (.ref 65), some (.int x5), some (.int v2), some (.long v4), none], [.int (0 : Int32)], μ5)) (cs := []) rfl trivial ?_
          exact gWp_end gT_230 rfl (gEnd_int (show narrow .boolean (.int (0 : Int32)) = .int (0 : Int32) by decide)) h
    · replace h := h.2 (fun q => c (decide_eq_true q))
      refine gWp_sts gT_230 1 (f' := (1437, [some (.ref 1000), some (.ref 0), some (.ref 1), some (.ref 64), some (.ref 65), some (.int x5), some (.int v2), some (.long v4), none], [.int (0 : Int32)], μ5)) (cs := []) rfl trivial ?_
      exact gWp_end gT_230 rfl (gEnd_int (show narrow .boolean (.int (0 : Int32)) = .int (0 : Int32) by decide)) h
  · obtain ⟨y, rfl, h⟩ := h
    exact Or.inr (Or.inl ⟨y, rfl, rfl, h⟩)
set_option maxRecDepth 20000 in
theorem vl_1457 {SL cnt : Nat} {xs : Nat → Int32} {μ : gMu} {x5 : Int32} {P : gMu → gRes → Prop} (hcnt : cnt + 5 ≤ 2560) (h : gCl' 130 [.ref 0, .ref 64] μ (fun μ1 r => (∃ v2, r = .inl (some (.int v2)) ∧ (gCl' 216 [.ref 1] μ1 (fun μ3 r => (∃ v4, r = .inl (some (.long v4)) ∧ (gCl' 152 [.ref 1] μ3 (fun μ5 r => (∃ v6, r = .inl (some (.int v6)) ∧ (((v6 = v2) → (((¬ v2 = 0) → (gWp (some (SL, xs)) 230 (2023, [some (.ref 1000), some (.ref 0), some (.ref 1), some (.ref 64), some (.ref 65), some (.int x5), some (.int v2), some (.long v4), none], [], μ5) (cnt + 2) P)) ∧ ((v2 = 0) → ((vp_in (0 : Int32) 1) ∧ ((((lg_cmp (gJ μ5 64 ((0 : Int32).toNatClampNeg)) v4) = 0) → (gWp (some (SL, xs)) 230 (2023, [some (.ref 1000), some (.ref 0), some (.ref 1), some (.ref 64), some (.ref 65), some (.int x5), some (.int v2), some (.long v4), none], [], μ5) (cnt + 2) P)) ∧ ((¬ (lg_cmp (gJ μ5 64 ((0 : Int32).toNatClampNeg)) v4) = 0) → (P μ5 (.inl (some (.int (0 : Int32))))))))))) ∧ ((¬ v6 = v2) → (P μ5 (.inl (some (.int (0 : Int32)))))))))))))) ∨ (∃ y, r = .inr y ∧ P μ1 (.inr y)))) : gWp (some (SL, xs)) 230 (1457, [some (.ref 1000), some (.ref 0), some (.ref 1), some (.ref 64), some (.ref 65), some (.int x5), none, none, none], [], μ) cnt P := by
  refine gWp_sts gT_230 2 (f' := (1459, [some (.ref 1000), some (.ref 0), some (.ref 1), some (.ref 64), some (.ref 65), some (.int x5), none, none, none], [.ref 64, .ref 0], μ)) (cs := []) rfl trivial ?_
  refine gWp_stat gT_230 (pc := 1459) (c01 := 0) (as := [.ref 0, .ref 64]) (rest := []) rfl (Or.inl rfl) rfl rfl rfl ⟨by have := hcnt; show cnt + 2 ≤ 2560; omega, Nat.le_of_ble_eq_true rfl, by decide, Nat.le_of_ble_eq_true rfl⟩ (gWp_imp h (fun μ1 r h => ?_))
  rcases h with h | h
  · obtain ⟨v2, rfl, h⟩ := h
    refine Or.inl ⟨_, rfl, ?_⟩
    show gWp (some (SL, xs)) 230 (1462, [some (.ref 1000), some (.ref 0), some (.ref 1), some (.ref 64), some (.ref 65), some (.int x5), none, none, none], [.int v2], μ1) _ P
    refine gWp_sts gT_230 2 (f' := (1465, [some (.ref 1000), some (.ref 0), some (.ref 1), some (.ref 64), some (.ref 65), some (.int x5), some (.int v2), none, none], [.ref 1], μ1)) (cs := []) rfl trivial ?_
    refine gWp_virt gT_230 (pc := 1465) (q := 1) (as := [.ref 1]) (rest := []) rfl rfl rfl rfl rfl rfl ⟨by have := hcnt; show (cnt + 2) + 0 ≤ 2560; omega, Nat.le_of_ble_eq_true rfl, by decide, Nat.le_of_ble_eq_true rfl⟩ (gWp_imp h (fun μ3 r h => ?_))
    obtain ⟨v4, rfl, h⟩ := h
    refine Or.inl ⟨_, rfl, ?_⟩
    show gWp (some (SL, xs)) 230 (1468, [some (.ref 1000), some (.ref 0), some (.ref 1), some (.ref 64), some (.ref 65), some (.int x5), some (.int v2), none, none], [.long v4], μ3) _ P
    refine gWp_sts gT_230 2 (f' := (1471, [some (.ref 1000), some (.ref 0), some (.ref 1), some (.ref 64), some (.ref 65), some (.int x5), some (.int v2), some (.long v4), none], [.ref 1], μ3)) (cs := []) rfl trivial ?_
    refine gWp_virt gT_230 (pc := 1471) (q := 1) (as := [.ref 1]) (rest := []) rfl rfl rfl rfl rfl rfl ⟨by have := hcnt; show (cnt + 2) + 0 ≤ 2560; omega, Nat.le_of_ble_eq_true rfl, by decide, Nat.le_of_ble_eq_true rfl⟩ (gWp_imp h (fun μ5 r h => ?_))
    obtain ⟨v6, rfl, h⟩ := h
    refine Or.inl ⟨_, rfl, ?_⟩
    show gWp (some (SL, xs)) 230 (1474, [some (.ref 1000), some (.ref 0), some (.ref 1), some (.ref 64), some (.ref 65), some (.int x5), some (.int v2), some (.long v4), none], [.int v6], μ5) _ P
    refine gWp_sts gT_230 1 (f' := (1476, [some (.ref 1000), some (.ref 0), some (.ref 1), some (.ref 64), some (.ref 65), some (.int x5), some (.int v2), some (.long v4), none], [.int v2, .int v6], μ5)) (cs := []) rfl trivial ?_
    refine gWp_icmp gT_230 (pc := 1476) rfl ⟨fun c => ?_, fun c => ?_⟩
    · replace h := h.1 (of_decide_eq_true c)
      refine gWp_sts gT_230 1 (f' := (1483, [some (.ref 1000), some (.ref 0), some (.ref 1), some (.ref 64), some (.ref 65), some (.int x5), some (.int v2), some (.long v4), none], [.int v2], μ5)) (cs := []) rfl trivial ?_
      refine gWp_if gT_230 (pc := 1483) rfl ⟨fun c => ?_, fun c => ?_⟩
      · replace h := h.1 (of_decide_eq_true c)
        refine gWp_sts gT_230 1 (f' := (2023, [some (.ref 1000), some (.ref 0), some (.ref 1), some (.ref 64), some (.ref 65), some (.int x5), some (.int v2), some (.long v4), none], [], μ5)) (cs := []) rfl trivial ?_
        exact h
      · replace h := h.2 (Classical.not_not.mp (fun q => c (decide_eq_true q)))
        obtain ⟨c1, h⟩ := h
        refine gWp_sts gT_230 5 (f' := (1492, [some (.ref 1000), some (.ref 0), some (.ref 1), some (.ref 64), some (.ref 65), some (.int x5), some (.int v2), some (.long v4), none], [.int (lg_cmp (gJ μ5 64 ((0 : Int32).toNatClampNeg)) v4)], μ5)) (cs := [vp_in (0 : Int32) 1]) rfl c1 ?_
        refine gWp_if gT_230 (pc := 1492) rfl ⟨fun c => ?_, fun c => ?_⟩
        · replace h := h.1 (of_decide_eq_true c)
          refine gWp_sts gT_230 1 (f' := (2023, [some (.ref 1000), some (.ref 0), some (.ref 1), some (.ref 64), some (.ref 65), some (.int x5), some (.int v2), some (.long v4), none], [], μ5)) (cs := []) rfl trivial ?_
          exact h
        · replace h := h.2 (fun q => c (decide_eq_true q))
          refine gWp_sts gT_230 1 (f' := (1496, [some (.ref 1000), some (.ref 0), some (.ref 1), some (.ref 64), some (.ref 65), some (.int x5), some (.int v2), some (.long v4), none], [.int (0 : Int32)], μ5)) (cs := []) rfl trivial ?_
          exact gWp_end gT_230 rfl (gEnd_int (show narrow .boolean (.int (0 : Int32)) = .int (0 : Int32) by decide)) h
    · replace h := h.2 (fun q => c (decide_eq_true q))
      refine gWp_sts gT_230 1 (f' := (1480, [some (.ref 1000), some (.ref 0), some (.ref 1), some (.ref 64), some (.ref 65), some (.int x5), some (.int v2), some (.long v4), none], [.int (0 : Int32)], μ5)) (cs := []) rfl trivial ?_
      exact gWp_end gT_230 rfl (gEnd_int (show narrow .boolean (.int (0 : Int32)) = .int (0 : Int32) by decide)) h
  · obtain ⟨y, rfl, h⟩ := h
    exact Or.inr (Or.inl ⟨y, rfl, rfl, h⟩)
set_option maxRecDepth 20000 in
theorem vl_1500 {SL cnt : Nat} {xs : Nat → Int32} {μ : gMu} {x5 : Int32} {P : gMu → gRes → Prop} (hcnt : cnt + 5 ≤ 2560) (h : gCl' 132 [.ref 0, .ref 64] μ (fun μ1 r => (∃ v2, r = .inl (some (.int v2)) ∧ (gCl' 217 [.ref 1] μ1 (fun μ3 r => (∃ v4, r = .inl (some (.int v4)) ∧ (gCl' 152 [.ref 1] μ3 (fun μ5 r => (∃ v6, r = .inl (some (.int v6)) ∧ (((v6 = v2) → (((¬ v2 = 0) → (gWp (some (SL, xs)) 230 (2023, [some (.ref 1000), some (.ref 0), some (.ref 1), some (.ref 64), some (.ref 65), some (.int x5), some (.int v2), some (.int v4), none], [], μ5) (cnt + 2) P)) ∧ ((v2 = 0) → ((vp_in (0 : Int32) 1) ∧ ((((lg_cmp (gJ μ5 64 ((0 : Int32).toNatClampNeg)) v4.toInt64) = 0) → (gWp (some (SL, xs)) 230 (2023, [some (.ref 1000), some (.ref 0), some (.ref 1), some (.ref 64), some (.ref 65), some (.int x5), some (.int v2), some (.int v4), none], [], μ5) (cnt + 2) P)) ∧ ((¬ (lg_cmp (gJ μ5 64 ((0 : Int32).toNatClampNeg)) v4.toInt64) = 0) → (P μ5 (.inl (some (.int (0 : Int32))))))))))) ∧ ((¬ v6 = v2) → (P μ5 (.inl (some (.int (0 : Int32)))))))))))))) ∨ (∃ y, r = .inr y ∧ P μ1 (.inr y)))) : gWp (some (SL, xs)) 230 (1500, [some (.ref 1000), some (.ref 0), some (.ref 1), some (.ref 64), some (.ref 65), some (.int x5), none, none, none], [], μ) cnt P := by
  refine gWp_sts gT_230 2 (f' := (1502, [some (.ref 1000), some (.ref 0), some (.ref 1), some (.ref 64), some (.ref 65), some (.int x5), none, none, none], [.ref 64, .ref 0], μ)) (cs := []) rfl trivial ?_
  refine gWp_stat gT_230 (pc := 1502) (c01 := 0) (as := [.ref 0, .ref 64]) (rest := []) rfl (Or.inl rfl) rfl rfl rfl ⟨by have := hcnt; show cnt + 2 ≤ 2560; omega, Nat.le_of_ble_eq_true rfl, by decide, Nat.le_of_ble_eq_true rfl⟩ (gWp_imp h (fun μ1 r h => ?_))
  rcases h with h | h
  · obtain ⟨v2, rfl, h⟩ := h
    refine Or.inl ⟨_, rfl, ?_⟩
    show gWp (some (SL, xs)) 230 (1505, [some (.ref 1000), some (.ref 0), some (.ref 1), some (.ref 64), some (.ref 65), some (.int x5), none, none, none], [.int v2], μ1) _ P
    refine gWp_sts gT_230 2 (f' := (1508, [some (.ref 1000), some (.ref 0), some (.ref 1), some (.ref 64), some (.ref 65), some (.int x5), some (.int v2), none, none], [.ref 1], μ1)) (cs := []) rfl trivial ?_
    refine gWp_virt gT_230 (pc := 1508) (q := 1) (as := [.ref 1]) (rest := []) rfl rfl rfl rfl rfl rfl ⟨by have := hcnt; show (cnt + 2) + 0 ≤ 2560; omega, Nat.le_of_ble_eq_true rfl, by decide, Nat.le_of_ble_eq_true rfl⟩ (gWp_imp h (fun μ3 r h => ?_))
    obtain ⟨v4, rfl, h⟩ := h
    refine Or.inl ⟨_, rfl, ?_⟩
    show gWp (some (SL, xs)) 230 (1511, [some (.ref 1000), some (.ref 0), some (.ref 1), some (.ref 64), some (.ref 65), some (.int x5), some (.int v2), none, none], [.int v4], μ3) _ P
    refine gWp_sts gT_230 2 (f' := (1514, [some (.ref 1000), some (.ref 0), some (.ref 1), some (.ref 64), some (.ref 65), some (.int x5), some (.int v2), some (.int v4), none], [.ref 1], μ3)) (cs := []) rfl trivial ?_
    refine gWp_virt gT_230 (pc := 1514) (q := 1) (as := [.ref 1]) (rest := []) rfl rfl rfl rfl rfl rfl ⟨by have := hcnt; show (cnt + 2) + 0 ≤ 2560; omega, Nat.le_of_ble_eq_true rfl, by decide, Nat.le_of_ble_eq_true rfl⟩ (gWp_imp h (fun μ5 r h => ?_))
    obtain ⟨v6, rfl, h⟩ := h
    refine Or.inl ⟨_, rfl, ?_⟩
    show gWp (some (SL, xs)) 230 (1517, [some (.ref 1000), some (.ref 0), some (.ref 1), some (.ref 64), some (.ref 65), some (.int x5), some (.int v2), some (.int v4), none], [.int v6], μ5) _ P
    refine gWp_sts gT_230 1 (f' := (1519, [some (.ref 1000), some (.ref 0), some (.ref 1), some (.ref 64), some (.ref 65), some (.int x5), some (.int v2), some (.int v4), none], [.int v2, .int v6], μ5)) (cs := []) rfl trivial ?_
    refine gWp_icmp gT_230 (pc := 1519) rfl ⟨fun c => ?_, fun c => ?_⟩
    · replace h := h.1 (of_decide_eq_true c)
      refine gWp_sts gT_230 1 (f' := (1526, [some (.ref 1000), some (.ref 0), some (.ref 1), some (.ref 64), some (.ref 65), some (.int x5), some (.int v2), some (.int v4), none], [.int v2], μ5)) (cs := []) rfl trivial ?_
      refine gWp_if gT_230 (pc := 1526) rfl ⟨fun c => ?_, fun c => ?_⟩
      · replace h := h.1 (of_decide_eq_true c)
        refine gWp_sts gT_230 1 (f' := (2023, [some (.ref 1000), some (.ref 0), some (.ref 1), some (.ref 64), some (.ref 65), some (.int x5), some (.int v2), some (.int v4), none], [], μ5)) (cs := []) rfl trivial ?_
        exact h
      · replace h := h.2 (Classical.not_not.mp (fun q => c (decide_eq_true q)))
        obtain ⟨c1, h⟩ := h
        refine gWp_sts gT_230 6 (f' := (1536, [some (.ref 1000), some (.ref 0), some (.ref 1), some (.ref 64), some (.ref 65), some (.int x5), some (.int v2), some (.int v4), none], [.int (lg_cmp (gJ μ5 64 ((0 : Int32).toNatClampNeg)) v4.toInt64)], μ5)) (cs := [vp_in (0 : Int32) 1]) rfl c1 ?_
        refine gWp_if gT_230 (pc := 1536) rfl ⟨fun c => ?_, fun c => ?_⟩
        · replace h := h.1 (of_decide_eq_true c)
          refine gWp_sts gT_230 1 (f' := (2023, [some (.ref 1000), some (.ref 0), some (.ref 1), some (.ref 64), some (.ref 65), some (.int x5), some (.int v2), some (.int v4), none], [], μ5)) (cs := []) rfl trivial ?_
          exact h
        · replace h := h.2 (fun q => c (decide_eq_true q))
          refine gWp_sts gT_230 1 (f' := (1540, [some (.ref 1000), some (.ref 0), some (.ref 1), some (.ref 64), some (.ref 65), some (.int x5), some (.int v2), some (.int v4), none], [.int (0 : Int32)], μ5)) (cs := []) rfl trivial ?_
          exact gWp_end gT_230 rfl (gEnd_int (show narrow .boolean (.int (0 : Int32)) = .int (0 : Int32) by decide)) h
    · replace h := h.2 (fun q => c (decide_eq_true q))
      refine gWp_sts gT_230 1 (f' := (1523, [some (.ref 1000), some (.ref 0), some (.ref 1), some (.ref 64), some (.ref 65), some (.int x5), some (.int v2), some (.int v4), none], [.int (0 : Int32)], μ5)) (cs := []) rfl trivial ?_
      exact gWp_end gT_230 rfl (gEnd_int (show narrow .boolean (.int (0 : Int32)) = .int (0 : Int32) by decide)) h
  · obtain ⟨y, rfl, h⟩ := h
    exact Or.inr (Or.inl ⟨y, rfl, rfl, h⟩)
set_option maxRecDepth 20000 in
theorem vl_1544 {SL cnt : Nat} {xs : Nat → Int32} {μ : gMu} {x5 : Int32} {P : gMu → gRes → Prop} (hcnt : cnt + 5 ≤ 2560) (h : (vp_in (x5 + (1 : Int32)) SL) ∧ (gCl' 134 [.ref 0, .int (xs (x5 + (1 : Int32)).toNatClampNeg), .ref 64] μ (fun μ1 r => (∃ v2, r = .inl (some (.int v2)) ∧ ((vp_in (x5 + (1 : Int32)) SL) ∧ (gCl' 219 [.ref 1, .int (xs (x5 + (1 : Int32)).toNatClampNeg)] μ1 (fun μ3 r => (∃ v4, r = .inl (some (.int v4)) ∧ (gCl' 152 [.ref 1] μ3 (fun μ5 r => (∃ v6, r = .inl (some (.int v6)) ∧ (((v6 = v2) → (((¬ v2 = 0) → (gWp (some (SL, xs)) 230 (2023, [some (.ref 1000), some (.ref 0), some (.ref 1), some (.ref 64), some (.ref 65), some (.int x5), some (.int v2), some (.int v4), none], [], μ5) (cnt + 2) P)) ∧ ((v2 = 0) → ((vp_in (0 : Int32) 1) ∧ ((((lg_cmp (gJ μ5 64 ((0 : Int32).toNatClampNeg)) v4.toInt64) = 0) → (gWp (some (SL, xs)) 230 (2023, [some (.ref 1000), some (.ref 0), some (.ref 1), some (.ref 64), some (.ref 65), some (.int x5), some (.int v2), some (.int v4), none], [], μ5) (cnt + 2) P)) ∧ ((¬ (lg_cmp (gJ μ5 64 ((0 : Int32).toNatClampNeg)) v4.toInt64) = 0) → (P μ5 (.inl (some (.int (0 : Int32))))))))))) ∧ ((¬ v6 = v2) → (P μ5 (.inl (some (.int (0 : Int32))))))))))))))) ∨ (∃ y, r = .inr y ∧ P μ1 (.inr y))))) : gWp (some (SL, xs)) 230 (1544, [some (.ref 1000), some (.ref 0), some (.ref 1), some (.ref 64), some (.ref 65), some (.int x5), none, none, none], [], μ) cnt P := by
  obtain ⟨c1, h⟩ := h
  refine gWp_sts gT_230 7 (f' := (1552, [some (.ref 1000), some (.ref 0), some (.ref 1), some (.ref 64), some (.ref 65), some (.int x5), none, none, none], [.ref 64, .int (xs (x5 + (1 : Int32)).toNatClampNeg), .ref 0], μ)) (cs := [vp_in (x5 + (1 : Int32)) SL]) rfl c1 ?_
  refine gWp_stat gT_230 (pc := 1552) (c01 := 0) (as := [.ref 0, .int (xs (x5 + (1 : Int32)).toNatClampNeg), .ref 64]) (rest := []) rfl (Or.inl rfl) rfl rfl rfl ⟨by have := hcnt; show cnt + 2 ≤ 2560; omega, Nat.le_of_ble_eq_true rfl, by decide, Nat.le_of_ble_eq_true rfl⟩ (gWp_imp h (fun μ1 r h => ?_))
  rcases h with h | h
  · obtain ⟨v2, rfl, h⟩ := h
    refine Or.inl ⟨_, rfl, ?_⟩
    show gWp (some (SL, xs)) 230 (1555, [some (.ref 1000), some (.ref 0), some (.ref 1), some (.ref 64), some (.ref 65), some (.int x5), none, none, none], [.int v2], μ1) _ P
    obtain ⟨c1, h⟩ := h
    refine gWp_sts gT_230 7 (f' := (1564, [some (.ref 1000), some (.ref 0), some (.ref 1), some (.ref 64), some (.ref 65), some (.int x5), some (.int v2), none, none], [.int (xs (x5 + (1 : Int32)).toNatClampNeg), .ref 1], μ1)) (cs := [vp_in (x5 + (1 : Int32)) SL]) rfl c1 ?_
    refine gWp_virt gT_230 (pc := 1564) (q := 1) (as := [.ref 1, .int (xs (x5 + (1 : Int32)).toNatClampNeg)]) (rest := []) rfl rfl rfl rfl rfl rfl ⟨by have := hcnt; show (cnt + 2) + 0 ≤ 2560; omega, Nat.le_of_ble_eq_true rfl, by decide, Nat.le_of_ble_eq_true rfl⟩ (gWp_imp h (fun μ3 r h => ?_))
    obtain ⟨v4, rfl, h⟩ := h
    refine Or.inl ⟨_, rfl, ?_⟩
    show gWp (some (SL, xs)) 230 (1567, [some (.ref 1000), some (.ref 0), some (.ref 1), some (.ref 64), some (.ref 65), some (.int x5), some (.int v2), none, none], [.int v4], μ3) _ P
    refine gWp_sts gT_230 2 (f' := (1570, [some (.ref 1000), some (.ref 0), some (.ref 1), some (.ref 64), some (.ref 65), some (.int x5), some (.int v2), some (.int v4), none], [.ref 1], μ3)) (cs := []) rfl trivial ?_
    refine gWp_virt gT_230 (pc := 1570) (q := 1) (as := [.ref 1]) (rest := []) rfl rfl rfl rfl rfl rfl ⟨by have := hcnt; show (cnt + 2) + 0 ≤ 2560; omega, Nat.le_of_ble_eq_true rfl, by decide, Nat.le_of_ble_eq_true rfl⟩ (gWp_imp h (fun μ5 r h => ?_))
    obtain ⟨v6, rfl, h⟩ := h
    refine Or.inl ⟨_, rfl, ?_⟩
    show gWp (some (SL, xs)) 230 (1573, [some (.ref 1000), some (.ref 0), some (.ref 1), some (.ref 64), some (.ref 65), some (.int x5), some (.int v2), some (.int v4), none], [.int v6], μ5) _ P
    refine gWp_sts gT_230 1 (f' := (1575, [some (.ref 1000), some (.ref 0), some (.ref 1), some (.ref 64), some (.ref 65), some (.int x5), some (.int v2), some (.int v4), none], [.int v2, .int v6], μ5)) (cs := []) rfl trivial ?_
    refine gWp_icmp gT_230 (pc := 1575) rfl ⟨fun c => ?_, fun c => ?_⟩
    · replace h := h.1 (of_decide_eq_true c)
      refine gWp_sts gT_230 1 (f' := (1582, [some (.ref 1000), some (.ref 0), some (.ref 1), some (.ref 64), some (.ref 65), some (.int x5), some (.int v2), some (.int v4), none], [.int v2], μ5)) (cs := []) rfl trivial ?_
      refine gWp_if gT_230 (pc := 1582) rfl ⟨fun c => ?_, fun c => ?_⟩
      · replace h := h.1 (of_decide_eq_true c)
        refine gWp_sts gT_230 1 (f' := (2023, [some (.ref 1000), some (.ref 0), some (.ref 1), some (.ref 64), some (.ref 65), some (.int x5), some (.int v2), some (.int v4), none], [], μ5)) (cs := []) rfl trivial ?_
        exact h
      · replace h := h.2 (Classical.not_not.mp (fun q => c (decide_eq_true q)))
        obtain ⟨c1, h⟩ := h
        refine gWp_sts gT_230 6 (f' := (1592, [some (.ref 1000), some (.ref 0), some (.ref 1), some (.ref 64), some (.ref 65), some (.int x5), some (.int v2), some (.int v4), none], [.int (lg_cmp (gJ μ5 64 ((0 : Int32).toNatClampNeg)) v4.toInt64)], μ5)) (cs := [vp_in (0 : Int32) 1]) rfl c1 ?_
        refine gWp_if gT_230 (pc := 1592) rfl ⟨fun c => ?_, fun c => ?_⟩
        · replace h := h.1 (of_decide_eq_true c)
          refine gWp_sts gT_230 1 (f' := (2023, [some (.ref 1000), some (.ref 0), some (.ref 1), some (.ref 64), some (.ref 65), some (.int x5), some (.int v2), some (.int v4), none], [], μ5)) (cs := []) rfl trivial ?_
          exact h
        · replace h := h.2 (fun q => c (decide_eq_true q))
          refine gWp_sts gT_230 1 (f' := (1596, [some (.ref 1000), some (.ref 0), some (.ref 1), some (.ref 64), some (.ref 65), some (.int x5), some (.int v2), some (.int v4), none], [.int (0 : Int32)], μ5)) (cs := []) rfl trivial ?_
          exact gWp_end gT_230 rfl (gEnd_int (show narrow .boolean (.int (0 : Int32)) = .int (0 : Int32) by decide)) h
    · replace h := h.2 (fun q => c (decide_eq_true q))
      refine gWp_sts gT_230 1 (f' := (1579, [some (.ref 1000), some (.ref 0), some (.ref 1), some (.ref 64), some (.ref 65), some (.int x5), some (.int v2), some (.int v4), none], [.int (0 : Int32)], μ5)) (cs := []) rfl trivial ?_
      exact gWp_end gT_230 rfl (gEnd_int (show narrow .boolean (.int (0 : Int32)) = .int (0 : Int32) by decide)) h
  · obtain ⟨y, rfl, h⟩ := h
    exact Or.inr (Or.inl ⟨y, rfl, rfl, h⟩)
set_option maxRecDepth 20000 in
theorem vl_1600 {SL cnt : Nat} {xs : Nat → Int32} {μ : gMu} {x5 : Int32} {P : gMu → gRes → Prop} (hcnt : cnt + 5 ≤ 2560) (h : (vp_in (x5 + (1 : Int32)) SL) ∧ ((vp_in (x5 + (2 : Int32)) SL) ∧ (gCl' 136 [.ref 0, .int (xs (x5 + (1 : Int32)).toNatClampNeg), .int (xs (x5 + (2 : Int32)).toNatClampNeg), .ref 64] μ (fun μ1 r => (∃ v2, r = .inl (some (.int v2)) ∧ ((vp_in (x5 + (1 : Int32)) SL) ∧ ((vp_in (x5 + (2 : Int32)) SL) ∧ (gCl' 220 [.ref 1, .int (xs (x5 + (1 : Int32)).toNatClampNeg), .int (xs (x5 + (2 : Int32)).toNatClampNeg)] μ1 (fun μ3 r => (∃ v4, r = .inl (some (.int v4)) ∧ (gCl' 152 [.ref 1] μ3 (fun μ5 r => (∃ v6, r = .inl (some (.int v6)) ∧ (((v6 = v2) → (((¬ v2 = 0) → (gWp (some (SL, xs)) 230 (2023, [some (.ref 1000), some (.ref 0), some (.ref 1), some (.ref 64), some (.ref 65), some (.int x5), some (.int v2), some (.int v4), none], [], μ5) (cnt + 3) P)) ∧ ((v2 = 0) → ((vp_in (0 : Int32) 1) ∧ ((((lg_cmp (gJ μ5 64 ((0 : Int32).toNatClampNeg)) v4.toInt64) = 0) → (gWp (some (SL, xs)) 230 (2023, [some (.ref 1000), some (.ref 0), some (.ref 1), some (.ref 64), some (.ref 65), some (.int x5), some (.int v2), some (.int v4), none], [], μ5) (cnt + 3) P)) ∧ ((¬ (lg_cmp (gJ μ5 64 ((0 : Int32).toNatClampNeg)) v4.toInt64) = 0) → (P μ5 (.inl (some (.int (0 : Int32))))))))))) ∧ ((¬ v6 = v2) → (P μ5 (.inl (some (.int (0 : Int32)))))))))))))))) ∨ (∃ y, r = .inr y ∧ P μ1 (.inr y)))))) : gWp (some (SL, xs)) 230 (1600, [some (.ref 1000), some (.ref 0), some (.ref 1), some (.ref 64), some (.ref 65), some (.int x5), none, none, none], [], μ) cnt P := by
  obtain ⟨c1, c2, h⟩ := h
  refine gWp_sts gT_230 12 (f' := (1614, [some (.ref 1000), some (.ref 0), some (.ref 1), some (.ref 64), some (.ref 65), some (.int x5), none, none, none], [.ref 64, .int (xs (x5 + (2 : Int32)).toNatClampNeg), .int (xs (x5 + (1 : Int32)).toNatClampNeg), .ref 0], μ)) (cs := [vp_in (x5 + (1 : Int32)) SL, vp_in (x5 + (2 : Int32)) SL]) rfl ⟨c1, c2⟩ ?_
  refine gWp_stat gT_230 (pc := 1614) (c01 := 0) (as := [.ref 0, .int (xs (x5 + (1 : Int32)).toNatClampNeg), .int (xs (x5 + (2 : Int32)).toNatClampNeg), .ref 64]) (rest := []) rfl (Or.inl rfl) rfl rfl rfl ⟨by have := hcnt; show cnt + 3 ≤ 2560; omega, Nat.le_of_ble_eq_true rfl, by decide, Nat.le_of_ble_eq_true rfl⟩ (gWp_imp h (fun μ1 r h => ?_))
  rcases h with h | h
  · obtain ⟨v2, rfl, h⟩ := h
    refine Or.inl ⟨_, rfl, ?_⟩
    show gWp (some (SL, xs)) 230 (1617, [some (.ref 1000), some (.ref 0), some (.ref 1), some (.ref 64), some (.ref 65), some (.int x5), none, none, none], [.int v2], μ1) _ P
    obtain ⟨c1, c2, h⟩ := h
    refine gWp_sts gT_230 12 (f' := (1632, [some (.ref 1000), some (.ref 0), some (.ref 1), some (.ref 64), some (.ref 65), some (.int x5), some (.int v2), none, none], [.int (xs (x5 + (2 : Int32)).toNatClampNeg), .int (xs (x5 + (1 : Int32)).toNatClampNeg), .ref 1], μ1)) (cs := [vp_in (x5 + (1 : Int32)) SL, vp_in (x5 + (2 : Int32)) SL]) rfl ⟨c1, c2⟩ ?_
    refine gWp_virt gT_230 (pc := 1632) (q := 1) (as := [.ref 1, .int (xs (x5 + (1 : Int32)).toNatClampNeg), .int (xs (x5 + (2 : Int32)).toNatClampNeg)]) (rest := []) rfl rfl rfl rfl rfl rfl ⟨by have := hcnt; show (cnt + 3) + 0 ≤ 2560; omega, Nat.le_of_ble_eq_true rfl, by decide, Nat.le_of_ble_eq_true rfl⟩ (gWp_imp h (fun μ3 r h => ?_))
    obtain ⟨v4, rfl, h⟩ := h
    refine Or.inl ⟨_, rfl, ?_⟩
    show gWp (some (SL, xs)) 230 (1635, [some (.ref 1000), some (.ref 0), some (.ref 1), some (.ref 64), some (.ref 65), some (.int x5), some (.int v2), none, none], [.int v4], μ3) _ P
    refine gWp_sts gT_230 2 (f' := (1638, [some (.ref 1000), some (.ref 0), some (.ref 1), some (.ref 64), some (.ref 65), some (.int x5), some (.int v2), some (.int v4), none], [.ref 1], μ3)) (cs := []) rfl trivial ?_
    refine gWp_virt gT_230 (pc := 1638) (q := 1) (as := [.ref 1]) (rest := []) rfl rfl rfl rfl rfl rfl ⟨by have := hcnt; show (cnt + 3) + 0 ≤ 2560; omega, Nat.le_of_ble_eq_true rfl, by decide, Nat.le_of_ble_eq_true rfl⟩ (gWp_imp h (fun μ5 r h => ?_))
    obtain ⟨v6, rfl, h⟩ := h
    refine Or.inl ⟨_, rfl, ?_⟩
    show gWp (some (SL, xs)) 230 (1641, [some (.ref 1000), some (.ref 0), some (.ref 1), some (.ref 64), some (.ref 65), some (.int x5), some (.int v2), some (.int v4), none], [.int v6], μ5) _ P
    refine gWp_sts gT_230 1 (f' := (1643, [some (.ref 1000), some (.ref 0), some (.ref 1), some (.ref 64), some (.ref 65), some (.int x5), some (.int v2), some (.int v4), none], [.int v2, .int v6], μ5)) (cs := []) rfl trivial ?_
    refine gWp_icmp gT_230 (pc := 1643) rfl ⟨fun c => ?_, fun c => ?_⟩
    · replace h := h.1 (of_decide_eq_true c)
      refine gWp_sts gT_230 1 (f' := (1650, [some (.ref 1000), some (.ref 0), some (.ref 1), some (.ref 64), some (.ref 65), some (.int x5), some (.int v2), some (.int v4), none], [.int v2], μ5)) (cs := []) rfl trivial ?_
      refine gWp_if gT_230 (pc := 1650) rfl ⟨fun c => ?_, fun c => ?_⟩
      · replace h := h.1 (of_decide_eq_true c)
        refine gWp_sts gT_230 1 (f' := (2023, [some (.ref 1000), some (.ref 0), some (.ref 1), some (.ref 64), some (.ref 65), some (.int x5), some (.int v2), some (.int v4), none], [], μ5)) (cs := []) rfl trivial ?_
        exact h
      · replace h := h.2 (Classical.not_not.mp (fun q => c (decide_eq_true q)))
        obtain ⟨c1, h⟩ := h
        refine gWp_sts gT_230 6 (f' := (1660, [some (.ref 1000), some (.ref 0), some (.ref 1), some (.ref 64), some (.ref 65), some (.int x5), some (.int v2), some (.int v4), none], [.int (lg_cmp (gJ μ5 64 ((0 : Int32).toNatClampNeg)) v4.toInt64)], μ5)) (cs := [vp_in (0 : Int32) 1]) rfl c1 ?_
        refine gWp_if gT_230 (pc := 1660) rfl ⟨fun c => ?_, fun c => ?_⟩
        · replace h := h.1 (of_decide_eq_true c)
          refine gWp_sts gT_230 1 (f' := (2023, [some (.ref 1000), some (.ref 0), some (.ref 1), some (.ref 64), some (.ref 65), some (.int x5), some (.int v2), some (.int v4), none], [], μ5)) (cs := []) rfl trivial ?_
          exact h
        · replace h := h.2 (fun q => c (decide_eq_true q))
          refine gWp_sts gT_230 1 (f' := (1664, [some (.ref 1000), some (.ref 0), some (.ref 1), some (.ref 64), some (.ref 65), some (.int x5), some (.int v2), some (.int v4), none], [.int (0 : Int32)], μ5)) (cs := []) rfl trivial ?_
          exact gWp_end gT_230 rfl (gEnd_int (show narrow .boolean (.int (0 : Int32)) = .int (0 : Int32) by decide)) h
    · replace h := h.2 (fun q => c (decide_eq_true q))
      refine gWp_sts gT_230 1 (f' := (1647, [some (.ref 1000), some (.ref 0), some (.ref 1), some (.ref 64), some (.ref 65), some (.int x5), some (.int v2), some (.int v4), none], [.int (0 : Int32)], μ5)) (cs := []) rfl trivial ?_
      exact gWp_end gT_230 rfl (gEnd_int (show narrow .boolean (.int (0 : Int32)) = .int (0 : Int32) by decide)) h
  · obtain ⟨y, rfl, h⟩ := h
    exact Or.inr (Or.inl ⟨y, rfl, rfl, h⟩)
set_option maxRecDepth 20000 in
theorem vl_1668 {SL cnt : Nat} {xs : Nat → Int32} {μ : gMu} {x5 : Int32} {P : gMu → gRes → Prop} (hcnt : cnt + 5 ≤ 2560) (h : (vp_in (x5 + (1 : Int32)) SL) ∧ (gCl' 139 [.ref 0, .int (xs (x5 + (1 : Int32)).toNatClampNeg), .ref 64] μ (fun μ1 r => (∃ v2, r = .inl (some (.int v2)) ∧ ((vp_in (x5 + (1 : Int32)) SL) ∧ (gCl' 222 [.ref 1, .int (xs (x5 + (1 : Int32)).toNatClampNeg)] μ1 (fun μ3 r => (∃ v4, r = .inl (some (.int v4)) ∧ (gCl' 152 [.ref 1] μ3 (fun μ5 r => (∃ v6, r = .inl (some (.int v6)) ∧ (((v6 = v2) → (((¬ v2 = 0) → (gWp (some (SL, xs)) 230 (2023, [some (.ref 1000), some (.ref 0), some (.ref 1), some (.ref 64), some (.ref 65), some (.int x5), some (.int v2), some (.int v4), none], [], μ5) (cnt + 5) P)) ∧ ((v2 = 0) → ((vp_in (0 : Int32) 1) ∧ ((((lg_cmp (gJ μ5 64 ((0 : Int32).toNatClampNeg)) v4.toInt64) = 0) → (gWp (some (SL, xs)) 230 (2023, [some (.ref 1000), some (.ref 0), some (.ref 1), some (.ref 64), some (.ref 65), some (.int x5), some (.int v2), some (.int v4), none], [], μ5) (cnt + 5) P)) ∧ ((¬ (lg_cmp (gJ μ5 64 ((0 : Int32).toNatClampNeg)) v4.toInt64) = 0) → (P μ5 (.inl (some (.int (0 : Int32))))))))))) ∧ ((¬ v6 = v2) → (P μ5 (.inl (some (.int (0 : Int32))))))))))))))) ∨ (∃ y, r = .inr y ∧ P μ1 (.inr y))))) : gWp (some (SL, xs)) 230 (1668, [some (.ref 1000), some (.ref 0), some (.ref 1), some (.ref 64), some (.ref 65), some (.int x5), none, none, none], [], μ) cnt P := by
  obtain ⟨c1, h⟩ := h
  refine gWp_sts gT_230 7 (f' := (1676, [some (.ref 1000), some (.ref 0), some (.ref 1), some (.ref 64), some (.ref 65), some (.int x5), none, none, none], [.ref 64, .int (xs (x5 + (1 : Int32)).toNatClampNeg), .ref 0], μ)) (cs := [vp_in (x5 + (1 : Int32)) SL]) rfl c1 ?_
  refine gWp_stat gT_230 (pc := 1676) (c01 := 0) (as := [.ref 0, .int (xs (x5 + (1 : Int32)).toNatClampNeg), .ref 64]) (rest := []) rfl (Or.inl rfl) rfl rfl rfl ⟨by have := hcnt; show cnt + 5 ≤ 2560; omega, Nat.le_of_ble_eq_true rfl, by decide, Nat.le_of_ble_eq_true rfl⟩ (gWp_imp h (fun μ1 r h => ?_))
  rcases h with h | h
  · obtain ⟨v2, rfl, h⟩ := h
    refine Or.inl ⟨_, rfl, ?_⟩
    show gWp (some (SL, xs)) 230 (1679, [some (.ref 1000), some (.ref 0), some (.ref 1), some (.ref 64), some (.ref 65), some (.int x5), none, none, none], [.int v2], μ1) _ P
    obtain ⟨c1, h⟩ := h
    refine gWp_sts gT_230 7 (f' := (1688, [some (.ref 1000), some (.ref 0), some (.ref 1), some (.ref 64), some (.ref 65), some (.int x5), some (.int v2), none, none], [.int (xs (x5 + (1 : Int32)).toNatClampNeg), .ref 1], μ1)) (cs := [vp_in (x5 + (1 : Int32)) SL]) rfl c1 ?_
    refine gWp_virt gT_230 (pc := 1688) (q := 1) (as := [.ref 1, .int (xs (x5 + (1 : Int32)).toNatClampNeg)]) (rest := []) rfl rfl rfl rfl rfl rfl ⟨by have := hcnt; show (cnt + 5) + 0 ≤ 2560; omega, Nat.le_of_ble_eq_true rfl, by decide, Nat.le_of_ble_eq_true rfl⟩ (gWp_imp h (fun μ3 r h => ?_))
    obtain ⟨v4, rfl, h⟩ := h
    refine Or.inl ⟨_, rfl, ?_⟩
    show gWp (some (SL, xs)) 230 (1691, [some (.ref 1000), some (.ref 0), some (.ref 1), some (.ref 64), some (.ref 65), some (.int x5), some (.int v2), none, none], [.int v4], μ3) _ P
    refine gWp_sts gT_230 2 (f' := (1694, [some (.ref 1000), some (.ref 0), some (.ref 1), some (.ref 64), some (.ref 65), some (.int x5), some (.int v2), some (.int v4), none], [.ref 1], μ3)) (cs := []) rfl trivial ?_
    refine gWp_virt gT_230 (pc := 1694) (q := 1) (as := [.ref 1]) (rest := []) rfl rfl rfl rfl rfl rfl ⟨by have := hcnt; show (cnt + 5) + 0 ≤ 2560; omega, Nat.le_of_ble_eq_true rfl, by decide, Nat.le_of_ble_eq_true rfl⟩ (gWp_imp h (fun μ5 r h => ?_))
    obtain ⟨v6, rfl, h⟩ := h
    refine Or.inl ⟨_, rfl, ?_⟩
    show gWp (some (SL, xs)) 230 (1697, [some (.ref 1000), some (.ref 0), some (.ref 1), some (.ref 64), some (.ref 65), some (.int x5), some (.int v2), some (.int v4), none], [.int v6], μ5) _ P
    refine gWp_sts gT_230 1 (f' := (1699, [some (.ref 1000), some (.ref 0), some (.ref 1), some (.ref 64), some (.ref 65), some (.int x5), some (.int v2), some (.int v4), none], [.int v2, .int v6], μ5)) (cs := []) rfl trivial ?_
    refine gWp_icmp gT_230 (pc := 1699) rfl ⟨fun c => ?_, fun c => ?_⟩
    · replace h := h.1 (of_decide_eq_true c)
      refine gWp_sts gT_230 1 (f' := (1706, [some (.ref 1000), some (.ref 0), some (.ref 1), some (.ref 64), some (.ref 65), some (.int x5), some (.int v2), some (.int v4), none], [.int v2], μ5)) (cs := []) rfl trivial ?_
      refine gWp_if gT_230 (pc := 1706) rfl ⟨fun c => ?_, fun c => ?_⟩
      · replace h := h.1 (of_decide_eq_true c)
        refine gWp_sts gT_230 1 (f' := (2023, [some (.ref 1000), some (.ref 0), some (.ref 1), some (.ref 64), some (.ref 65), some (.int x5), some (.int v2), some (.int v4), none], [], μ5)) (cs := []) rfl trivial ?_
        exact h
      · replace h := h.2 (Classical.not_not.mp (fun q => c (decide_eq_true q)))
        obtain ⟨c1, h⟩ := h
        refine gWp_sts gT_230 6 (f' := (1716, [some (.ref 1000), some (.ref 0), some (.ref 1), some (.ref 64), some (.ref 65), some (.int x5), some (.int v2), some (.int v4), none], [.int (lg_cmp (gJ μ5 64 ((0 : Int32).toNatClampNeg)) v4.toInt64)], μ5)) (cs := [vp_in (0 : Int32) 1]) rfl c1 ?_
        refine gWp_if gT_230 (pc := 1716) rfl ⟨fun c => ?_, fun c => ?_⟩
        · replace h := h.1 (of_decide_eq_true c)
          refine gWp_sts gT_230 1 (f' := (2023, [some (.ref 1000), some (.ref 0), some (.ref 1), some (.ref 64), some (.ref 65), some (.int x5), some (.int v2), some (.int v4), none], [], μ5)) (cs := []) rfl trivial ?_
          exact h
        · replace h := h.2 (fun q => c (decide_eq_true q))
          refine gWp_sts gT_230 1 (f' := (1720, [some (.ref 1000), some (.ref 0), some (.ref 1), some (.ref 64), some (.ref 65), some (.int x5), some (.int v2), some (.int v4), none], [.int (0 : Int32)], μ5)) (cs := []) rfl trivial ?_
          exact gWp_end gT_230 rfl (gEnd_int (show narrow .boolean (.int (0 : Int32)) = .int (0 : Int32) by decide)) h
    · replace h := h.2 (fun q => c (decide_eq_true q))
      refine gWp_sts gT_230 1 (f' := (1703, [some (.ref 1000), some (.ref 0), some (.ref 1), some (.ref 64), some (.ref 65), some (.int x5), some (.int v2), some (.int v4), none], [.int (0 : Int32)], μ5)) (cs := []) rfl trivial ?_
      exact gWp_end gT_230 rfl (gEnd_int (show narrow .boolean (.int (0 : Int32)) = .int (0 : Int32) by decide)) h
  · obtain ⟨y, rfl, h⟩ := h
    exact Or.inr (Or.inl ⟨y, rfl, rfl, h⟩)
set_option maxRecDepth 20000 in
theorem vl_1724 {SL cnt : Nat} {xs : Nat → Int32} {μ : gMu} {x5 : Int32} {P : gMu → gRes → Prop} (hcnt : cnt + 5 ≤ 2560) (h : (vp_in (x5 + (1 : Int32)) SL) ∧ (gCl' 142 [.ref 0, .int (xs (x5 + (1 : Int32)).toNatClampNeg), .ref 64] μ (fun μ1 r => (∃ v2, r = .inl (some (.int v2)) ∧ ((vp_in (x5 + (1 : Int32)) SL) ∧ (gCl' 223 [.ref 1, .int (xs (x5 + (1 : Int32)).toNatClampNeg)] μ1 (fun μ3 r => (∃ v4, r = .inl (some (.int v4)) ∧ (gCl' 152 [.ref 1] μ3 (fun μ5 r => (∃ v6, r = .inl (some (.int v6)) ∧ (((v6 = v2) → (((¬ v2 = 0) → (gWp (some (SL, xs)) 230 (2023, [some (.ref 1000), some (.ref 0), some (.ref 1), some (.ref 64), some (.ref 65), some (.int x5), some (.int v2), some (.int v4), none], [], μ5) (cnt + 5) P)) ∧ ((v2 = 0) → ((vp_in (0 : Int32) 1) ∧ ((((lg_cmp (gJ μ5 64 ((0 : Int32).toNatClampNeg)) v4.toInt64) = 0) → (gWp (some (SL, xs)) 230 (2023, [some (.ref 1000), some (.ref 0), some (.ref 1), some (.ref 64), some (.ref 65), some (.int x5), some (.int v2), some (.int v4), none], [], μ5) (cnt + 5) P)) ∧ ((¬ (lg_cmp (gJ μ5 64 ((0 : Int32).toNatClampNeg)) v4.toInt64) = 0) → (P μ5 (.inl (some (.int (0 : Int32))))))))))) ∧ ((¬ v6 = v2) → (P μ5 (.inl (some (.int (0 : Int32))))))))))))))) ∨ (∃ y, r = .inr y ∧ P μ1 (.inr y))))) : gWp (some (SL, xs)) 230 (1724, [some (.ref 1000), some (.ref 0), some (.ref 1), some (.ref 64), some (.ref 65), some (.int x5), none, none, none], [], μ) cnt P := by
  obtain ⟨c1, h⟩ := h
  refine gWp_sts gT_230 7 (f' := (1732, [some (.ref 1000), some (.ref 0), some (.ref 1), some (.ref 64), some (.ref 65), some (.int x5), none, none, none], [.ref 64, .int (xs (x5 + (1 : Int32)).toNatClampNeg), .ref 0], μ)) (cs := [vp_in (x5 + (1 : Int32)) SL]) rfl c1 ?_
  refine gWp_stat gT_230 (pc := 1732) (c01 := 0) (as := [.ref 0, .int (xs (x5 + (1 : Int32)).toNatClampNeg), .ref 64]) (rest := []) rfl (Or.inl rfl) rfl rfl rfl ⟨by have := hcnt; show cnt + 5 ≤ 2560; omega, Nat.le_of_ble_eq_true rfl, by decide, Nat.le_of_ble_eq_true rfl⟩ (gWp_imp h (fun μ1 r h => ?_))
  rcases h with h | h
  · obtain ⟨v2, rfl, h⟩ := h
    refine Or.inl ⟨_, rfl, ?_⟩
    show gWp (some (SL, xs)) 230 (1735, [some (.ref 1000), some (.ref 0), some (.ref 1), some (.ref 64), some (.ref 65), some (.int x5), none, none, none], [.int v2], μ1) _ P
    obtain ⟨c1, h⟩ := h
    refine gWp_sts gT_230 7 (f' := (1744, [some (.ref 1000), some (.ref 0), some (.ref 1), some (.ref 64), some (.ref 65), some (.int x5), some (.int v2), none, none], [.int (xs (x5 + (1 : Int32)).toNatClampNeg), .ref 1], μ1)) (cs := [vp_in (x5 + (1 : Int32)) SL]) rfl c1 ?_
    refine gWp_virt gT_230 (pc := 1744) (q := 1) (as := [.ref 1, .int (xs (x5 + (1 : Int32)).toNatClampNeg)]) (rest := []) rfl rfl rfl rfl rfl rfl ⟨by have := hcnt; show (cnt + 5) + 0 ≤ 2560; omega, Nat.le_of_ble_eq_true rfl, by decide, Nat.le_of_ble_eq_true rfl⟩ (gWp_imp h (fun μ3 r h => ?_))
    obtain ⟨v4, rfl, h⟩ := h
    refine Or.inl ⟨_, rfl, ?_⟩
    show gWp (some (SL, xs)) 230 (1747, [some (.ref 1000), some (.ref 0), some (.ref 1), some (.ref 64), some (.ref 65), some (.int x5), some (.int v2), none, none], [.int v4], μ3) _ P
    refine gWp_sts gT_230 2 (f' := (1750, [some (.ref 1000), some (.ref 0), some (.ref 1), some (.ref 64), some (.ref 65), some (.int x5), some (.int v2), some (.int v4), none], [.ref 1], μ3)) (cs := []) rfl trivial ?_
    refine gWp_virt gT_230 (pc := 1750) (q := 1) (as := [.ref 1]) (rest := []) rfl rfl rfl rfl rfl rfl ⟨by have := hcnt; show (cnt + 5) + 0 ≤ 2560; omega, Nat.le_of_ble_eq_true rfl, by decide, Nat.le_of_ble_eq_true rfl⟩ (gWp_imp h (fun μ5 r h => ?_))
    obtain ⟨v6, rfl, h⟩ := h
    refine Or.inl ⟨_, rfl, ?_⟩
    show gWp (some (SL, xs)) 230 (1753, [some (.ref 1000), some (.ref 0), some (.ref 1), some (.ref 64), some (.ref 65), some (.int x5), some (.int v2), some (.int v4), none], [.int v6], μ5) _ P
    refine gWp_sts gT_230 1 (f' := (1755, [some (.ref 1000), some (.ref 0), some (.ref 1), some (.ref 64), some (.ref 65), some (.int x5), some (.int v2), some (.int v4), none], [.int v2, .int v6], μ5)) (cs := []) rfl trivial ?_
    refine gWp_icmp gT_230 (pc := 1755) rfl ⟨fun c => ?_, fun c => ?_⟩
    · replace h := h.1 (of_decide_eq_true c)
      refine gWp_sts gT_230 1 (f' := (1762, [some (.ref 1000), some (.ref 0), some (.ref 1), some (.ref 64), some (.ref 65), some (.int x5), some (.int v2), some (.int v4), none], [.int v2], μ5)) (cs := []) rfl trivial ?_
      refine gWp_if gT_230 (pc := 1762) rfl ⟨fun c => ?_, fun c => ?_⟩
      · replace h := h.1 (of_decide_eq_true c)
        refine gWp_sts gT_230 1 (f' := (2023, [some (.ref 1000), some (.ref 0), some (.ref 1), some (.ref 64), some (.ref 65), some (.int x5), some (.int v2), some (.int v4), none], [], μ5)) (cs := []) rfl trivial ?_
        exact h
      · replace h := h.2 (Classical.not_not.mp (fun q => c (decide_eq_true q)))
        obtain ⟨c1, h⟩ := h
        refine gWp_sts gT_230 6 (f' := (1772, [some (.ref 1000), some (.ref 0), some (.ref 1), some (.ref 64), some (.ref 65), some (.int x5), some (.int v2), some (.int v4), none], [.int (lg_cmp (gJ μ5 64 ((0 : Int32).toNatClampNeg)) v4.toInt64)], μ5)) (cs := [vp_in (0 : Int32) 1]) rfl c1 ?_
        refine gWp_if gT_230 (pc := 1772) rfl ⟨fun c => ?_, fun c => ?_⟩
        · replace h := h.1 (of_decide_eq_true c)
          refine gWp_sts gT_230 1 (f' := (2023, [some (.ref 1000), some (.ref 0), some (.ref 1), some (.ref 64), some (.ref 65), some (.int x5), some (.int v2), some (.int v4), none], [], μ5)) (cs := []) rfl trivial ?_
          exact h
        · replace h := h.2 (fun q => c (decide_eq_true q))
          refine gWp_sts gT_230 1 (f' := (1776, [some (.ref 1000), some (.ref 0), some (.ref 1), some (.ref 64), some (.ref 65), some (.int x5), some (.int v2), some (.int v4), none], [.int (0 : Int32)], μ5)) (cs := []) rfl trivial ?_
          exact gWp_end gT_230 rfl (gEnd_int (show narrow .boolean (.int (0 : Int32)) = .int (0 : Int32) by decide)) h
    · replace h := h.2 (fun q => c (decide_eq_true q))
      refine gWp_sts gT_230 1 (f' := (1759, [some (.ref 1000), some (.ref 0), some (.ref 1), some (.ref 64), some (.ref 65), some (.int x5), some (.int v2), some (.int v4), none], [.int (0 : Int32)], μ5)) (cs := []) rfl trivial ?_
      exact gWp_end gT_230 rfl (gEnd_int (show narrow .boolean (.int (0 : Int32)) = .int (0 : Int32) by decide)) h
  · obtain ⟨y, rfl, h⟩ := h
    exact Or.inr (Or.inl ⟨y, rfl, rfl, h⟩)
set_option maxRecDepth 20000 in
theorem vl_1780 {SL cnt : Nat} {xs : Nat → Int32} {μ : gMu} {x5 : Int32} {P : gMu → gRes → Prop} (hcnt : cnt + 5 ≤ 2560) (h : (vp_in (x5 + (1 : Int32)) SL) ∧ (gCl' 144 [.ref 0, .int (xs (x5 + (1 : Int32)).toNatClampNeg), .ref 64] μ (fun μ1 r => (∃ v2, r = .inl (some (.int v2)) ∧ ((vp_in (x5 + (1 : Int32)) SL) ∧ (gCl' 226 [.ref 1, .int (xs (x5 + (1 : Int32)).toNatClampNeg)] μ1 (fun μ3 r => (∃ v4, r = .inl (some (.int v4)) ∧ (gCl' 152 [.ref 1] μ3 (fun μ5 r => (∃ v6, r = .inl (some (.int v6)) ∧ (((v6 = v2) → (((¬ v2 = 0) → (gWp (some (SL, xs)) 230 (2023, [some (.ref 1000), some (.ref 0), some (.ref 1), some (.ref 64), some (.ref 65), some (.int x5), some (.int v2), some (.int v4), none], [], μ5) (cnt + 5) P)) ∧ ((v2 = 0) → ((vp_in (0 : Int32) 1) ∧ ((((lg_cmp (gJ μ5 64 ((0 : Int32).toNatClampNeg)) v4.toInt64) = 0) → (gWp (some (SL, xs)) 230 (2023, [some (.ref 1000), some (.ref 0), some (.ref 1), some (.ref 64), some (.ref 65), some (.int x5), some (.int v2), some (.int v4), none], [], μ5) (cnt + 5) P)) ∧ ((¬ (lg_cmp (gJ μ5 64 ((0 : Int32).toNatClampNeg)) v4.toInt64) = 0) → (P μ5 (.inl (some (.int (0 : Int32))))))))))) ∧ ((¬ v6 = v2) → (P μ5 (.inl (some (.int (0 : Int32))))))))))))))) ∨ (∃ y, r = .inr y ∧ P μ1 (.inr y))))) : gWp (some (SL, xs)) 230 (1780, [some (.ref 1000), some (.ref 0), some (.ref 1), some (.ref 64), some (.ref 65), some (.int x5), none, none, none], [], μ) cnt P := by
  obtain ⟨c1, h⟩ := h
  refine gWp_sts gT_230 7 (f' := (1788, [some (.ref 1000), some (.ref 0), some (.ref 1), some (.ref 64), some (.ref 65), some (.int x5), none, none, none], [.ref 64, .int (xs (x5 + (1 : Int32)).toNatClampNeg), .ref 0], μ)) (cs := [vp_in (x5 + (1 : Int32)) SL]) rfl c1 ?_
  refine gWp_stat gT_230 (pc := 1788) (c01 := 0) (as := [.ref 0, .int (xs (x5 + (1 : Int32)).toNatClampNeg), .ref 64]) (rest := []) rfl (Or.inl rfl) rfl rfl rfl ⟨by have := hcnt; show cnt + 5 ≤ 2560; omega, Nat.le_of_ble_eq_true rfl, by decide, Nat.le_of_ble_eq_true rfl⟩ (gWp_imp h (fun μ1 r h => ?_))
  rcases h with h | h
  · obtain ⟨v2, rfl, h⟩ := h
    refine Or.inl ⟨_, rfl, ?_⟩
    show gWp (some (SL, xs)) 230 (1791, [some (.ref 1000), some (.ref 0), some (.ref 1), some (.ref 64), some (.ref 65), some (.int x5), none, none, none], [.int v2], μ1) _ P
    obtain ⟨c1, h⟩ := h
    refine gWp_sts gT_230 7 (f' := (1800, [some (.ref 1000), some (.ref 0), some (.ref 1), some (.ref 64), some (.ref 65), some (.int x5), some (.int v2), none, none], [.int (xs (x5 + (1 : Int32)).toNatClampNeg), .ref 1], μ1)) (cs := [vp_in (x5 + (1 : Int32)) SL]) rfl c1 ?_
    refine gWp_virt gT_230 (pc := 1800) (q := 1) (as := [.ref 1, .int (xs (x5 + (1 : Int32)).toNatClampNeg)]) (rest := []) rfl rfl rfl rfl rfl rfl ⟨by have := hcnt; show (cnt + 5) + 0 ≤ 2560; omega, Nat.le_of_ble_eq_true rfl, by decide, Nat.le_of_ble_eq_true rfl⟩ (gWp_imp h (fun μ3 r h => ?_))
    obtain ⟨v4, rfl, h⟩ := h
    refine Or.inl ⟨_, rfl, ?_⟩
    show gWp (some (SL, xs)) 230 (1803, [some (.ref 1000), some (.ref 0), some (.ref 1), some (.ref 64), some (.ref 65), some (.int x5), some (.int v2), none, none], [.int v4], μ3) _ P
    refine gWp_sts gT_230 2 (f' := (1806, [some (.ref 1000), some (.ref 0), some (.ref 1), some (.ref 64), some (.ref 65), some (.int x5), some (.int v2), some (.int v4), none], [.ref 1], μ3)) (cs := []) rfl trivial ?_
    refine gWp_virt gT_230 (pc := 1806) (q := 1) (as := [.ref 1]) (rest := []) rfl rfl rfl rfl rfl rfl ⟨by have := hcnt; show (cnt + 5) + 0 ≤ 2560; omega, Nat.le_of_ble_eq_true rfl, by decide, Nat.le_of_ble_eq_true rfl⟩ (gWp_imp h (fun μ5 r h => ?_))
    obtain ⟨v6, rfl, h⟩ := h
    refine Or.inl ⟨_, rfl, ?_⟩
    show gWp (some (SL, xs)) 230 (1809, [some (.ref 1000), some (.ref 0), some (.ref 1), some (.ref 64), some (.ref 65), some (.int x5), some (.int v2), some (.int v4), none], [.int v6], μ5) _ P
    refine gWp_sts gT_230 1 (f' := (1811, [some (.ref 1000), some (.ref 0), some (.ref 1), some (.ref 64), some (.ref 65), some (.int x5), some (.int v2), some (.int v4), none], [.int v2, .int v6], μ5)) (cs := []) rfl trivial ?_
    refine gWp_icmp gT_230 (pc := 1811) rfl ⟨fun c => ?_, fun c => ?_⟩
    · replace h := h.1 (of_decide_eq_true c)
      refine gWp_sts gT_230 1 (f' := (1818, [some (.ref 1000), some (.ref 0), some (.ref 1), some (.ref 64), some (.ref 65), some (.int x5), some (.int v2), some (.int v4), none], [.int v2], μ5)) (cs := []) rfl trivial ?_
      refine gWp_if gT_230 (pc := 1818) rfl ⟨fun c => ?_, fun c => ?_⟩
      · replace h := h.1 (of_decide_eq_true c)
        refine gWp_sts gT_230 1 (f' := (2023, [some (.ref 1000), some (.ref 0), some (.ref 1), some (.ref 64), some (.ref 65), some (.int x5), some (.int v2), some (.int v4), none], [], μ5)) (cs := []) rfl trivial ?_
        exact h
      · replace h := h.2 (Classical.not_not.mp (fun q => c (decide_eq_true q)))
        obtain ⟨c1, h⟩ := h
        refine gWp_sts gT_230 6 (f' := (1828, [some (.ref 1000), some (.ref 0), some (.ref 1), some (.ref 64), some (.ref 65), some (.int x5), some (.int v2), some (.int v4), none], [.int (lg_cmp (gJ μ5 64 ((0 : Int32).toNatClampNeg)) v4.toInt64)], μ5)) (cs := [vp_in (0 : Int32) 1]) rfl c1 ?_
        refine gWp_if gT_230 (pc := 1828) rfl ⟨fun c => ?_, fun c => ?_⟩
        · replace h := h.1 (of_decide_eq_true c)
          refine gWp_sts gT_230 1 (f' := (2023, [some (.ref 1000), some (.ref 0), some (.ref 1), some (.ref 64), some (.ref 65), some (.int x5), some (.int v2), some (.int v4), none], [], μ5)) (cs := []) rfl trivial ?_
          exact h
        · replace h := h.2 (fun q => c (decide_eq_true q))
          refine gWp_sts gT_230 1 (f' := (1832, [some (.ref 1000), some (.ref 0), some (.ref 1), some (.ref 64), some (.ref 65), some (.int x5), some (.int v2), some (.int v4), none], [.int (0 : Int32)], μ5)) (cs := []) rfl trivial ?_
          exact gWp_end gT_230 rfl (gEnd_int (show narrow .boolean (.int (0 : Int32)) = .int (0 : Int32) by decide)) h
    · replace h := h.2 (fun q => c (decide_eq_true q))
      refine gWp_sts gT_230 1 (f' := (1815, [some (.ref 1000), some (.ref 0), some (.ref 1), some (.ref 64), some (.ref 65), some (.int x5), some (.int v2), some (.int v4), none], [.int (0 : Int32)], μ5)) (cs := []) rfl trivial ?_
      exact gWp_end gT_230 rfl (gEnd_int (show narrow .boolean (.int (0 : Int32)) = .int (0 : Int32) by decide)) h
  · obtain ⟨y, rfl, h⟩ := h
    exact Or.inr (Or.inl ⟨y, rfl, rfl, h⟩)
set_option maxRecDepth 20000 in
theorem vl_1836 {SL cnt : Nat} {xs : Nat → Int32} {μ : gMu} {x5 : Int32} {P : gMu → gRes → Prop} (hcnt : cnt + 5 ≤ 2560) (h : (vp_in (x5 + (1 : Int32)) SL) ∧ (gCl' 146 [.ref 0, .int (xs (x5 + (1 : Int32)).toNatClampNeg), .ref 64] μ (fun μ1 r => (∃ v2, r = .inl (some (.int v2)) ∧ ((vp_in (x5 + (1 : Int32)) SL) ∧ (gCl' 227 [.ref 1, .int (xs (x5 + (1 : Int32)).toNatClampNeg)] μ1 (fun μ3 r => (∃ v4, r = .inl (some (.int v4)) ∧ (gCl' 152 [.ref 1] μ3 (fun μ5 r => (∃ v6, r = .inl (some (.int v6)) ∧ (((v6 = v2) → (((¬ v2 = 0) → (gWp (some (SL, xs)) 230 (2023, [some (.ref 1000), some (.ref 0), some (.ref 1), some (.ref 64), some (.ref 65), some (.int x5), some (.int v2), some (.int v4), none], [], μ5) (cnt + 5) P)) ∧ ((v2 = 0) → ((vp_in (0 : Int32) 1) ∧ ((((lg_cmp (gJ μ5 64 ((0 : Int32).toNatClampNeg)) v4.toInt64) = 0) → (gWp (some (SL, xs)) 230 (2023, [some (.ref 1000), some (.ref 0), some (.ref 1), some (.ref 64), some (.ref 65), some (.int x5), some (.int v2), some (.int v4), none], [], μ5) (cnt + 5) P)) ∧ ((¬ (lg_cmp (gJ μ5 64 ((0 : Int32).toNatClampNeg)) v4.toInt64) = 0) → (P μ5 (.inl (some (.int (0 : Int32))))))))))) ∧ ((¬ v6 = v2) → (P μ5 (.inl (some (.int (0 : Int32))))))))))))))) ∨ (∃ y, r = .inr y ∧ P μ1 (.inr y))))) : gWp (some (SL, xs)) 230 (1836, [some (.ref 1000), some (.ref 0), some (.ref 1), some (.ref 64), some (.ref 65), some (.int x5), none, none, none], [], μ) cnt P := by
  obtain ⟨c1, h⟩ := h
  refine gWp_sts gT_230 7 (f' := (1844, [some (.ref 1000), some (.ref 0), some (.ref 1), some (.ref 64), some (.ref 65), some (.int x5), none, none, none], [.ref 64, .int (xs (x5 + (1 : Int32)).toNatClampNeg), .ref 0], μ)) (cs := [vp_in (x5 + (1 : Int32)) SL]) rfl c1 ?_
  refine gWp_stat gT_230 (pc := 1844) (c01 := 0) (as := [.ref 0, .int (xs (x5 + (1 : Int32)).toNatClampNeg), .ref 64]) (rest := []) rfl (Or.inl rfl) rfl rfl rfl ⟨by have := hcnt; show cnt + 5 ≤ 2560; omega, Nat.le_of_ble_eq_true rfl, by decide, Nat.le_of_ble_eq_true rfl⟩ (gWp_imp h (fun μ1 r h => ?_))
  rcases h with h | h
  · obtain ⟨v2, rfl, h⟩ := h
    refine Or.inl ⟨_, rfl, ?_⟩
    show gWp (some (SL, xs)) 230 (1847, [some (.ref 1000), some (.ref 0), some (.ref 1), some (.ref 64), some (.ref 65), some (.int x5), none, none, none], [.int v2], μ1) _ P
    obtain ⟨c1, h⟩ := h
    refine gWp_sts gT_230 7 (f' := (1856, [some (.ref 1000), some (.ref 0), some (.ref 1), some (.ref 64), some (.ref 65), some (.int x5), some (.int v2), none, none], [.int (xs (x5 + (1 : Int32)).toNatClampNeg), .ref 1], μ1)) (cs := [vp_in (x5 + (1 : Int32)) SL]) rfl c1 ?_
    refine gWp_virt gT_230 (pc := 1856) (q := 1) (as := [.ref 1, .int (xs (x5 + (1 : Int32)).toNatClampNeg)]) (rest := []) rfl rfl rfl rfl rfl rfl ⟨by have := hcnt; show (cnt + 5) + 0 ≤ 2560; omega, Nat.le_of_ble_eq_true rfl, by decide, Nat.le_of_ble_eq_true rfl⟩ (gWp_imp h (fun μ3 r h => ?_))
    obtain ⟨v4, rfl, h⟩ := h
    refine Or.inl ⟨_, rfl, ?_⟩
    show gWp (some (SL, xs)) 230 (1859, [some (.ref 1000), some (.ref 0), some (.ref 1), some (.ref 64), some (.ref 65), some (.int x5), some (.int v2), none, none], [.int v4], μ3) _ P
    refine gWp_sts gT_230 2 (f' := (1862, [some (.ref 1000), some (.ref 0), some (.ref 1), some (.ref 64), some (.ref 65), some (.int x5), some (.int v2), some (.int v4), none], [.ref 1], μ3)) (cs := []) rfl trivial ?_
    refine gWp_virt gT_230 (pc := 1862) (q := 1) (as := [.ref 1]) (rest := []) rfl rfl rfl rfl rfl rfl ⟨by have := hcnt; show (cnt + 5) + 0 ≤ 2560; omega, Nat.le_of_ble_eq_true rfl, by decide, Nat.le_of_ble_eq_true rfl⟩ (gWp_imp h (fun μ5 r h => ?_))
    obtain ⟨v6, rfl, h⟩ := h
    refine Or.inl ⟨_, rfl, ?_⟩
    show gWp (some (SL, xs)) 230 (1865, [some (.ref 1000), some (.ref 0), some (.ref 1), some (.ref 64), some (.ref 65), some (.int x5), some (.int v2), some (.int v4), none], [.int v6], μ5) _ P
    refine gWp_sts gT_230 1 (f' := (1867, [some (.ref 1000), some (.ref 0), some (.ref 1), some (.ref 64), some (.ref 65), some (.int x5), some (.int v2), some (.int v4), none], [.int v2, .int v6], μ5)) (cs := []) rfl trivial ?_
    refine gWp_icmp gT_230 (pc := 1867) rfl ⟨fun c => ?_, fun c => ?_⟩
    · replace h := h.1 (of_decide_eq_true c)
      refine gWp_sts gT_230 1 (f' := (1874, [some (.ref 1000), some (.ref 0), some (.ref 1), some (.ref 64), some (.ref 65), some (.int x5), some (.int v2), some (.int v4), none], [.int v2], μ5)) (cs := []) rfl trivial ?_
      refine gWp_if gT_230 (pc := 1874) rfl ⟨fun c => ?_, fun c => ?_⟩
      · replace h := h.1 (of_decide_eq_true c)
        refine gWp_sts gT_230 1 (f' := (2023, [some (.ref 1000), some (.ref 0), some (.ref 1), some (.ref 64), some (.ref 65), some (.int x5), some (.int v2), some (.int v4), none], [], μ5)) (cs := []) rfl trivial ?_
        exact h
      · replace h := h.2 (Classical.not_not.mp (fun q => c (decide_eq_true q)))
        obtain ⟨c1, h⟩ := h
        refine gWp_sts gT_230 6 (f' := (1884, [some (.ref 1000), some (.ref 0), some (.ref 1), some (.ref 64), some (.ref 65), some (.int x5), some (.int v2), some (.int v4), none], [.int (lg_cmp (gJ μ5 64 ((0 : Int32).toNatClampNeg)) v4.toInt64)], μ5)) (cs := [vp_in (0 : Int32) 1]) rfl c1 ?_
        refine gWp_if gT_230 (pc := 1884) rfl ⟨fun c => ?_, fun c => ?_⟩
        · replace h := h.1 (of_decide_eq_true c)
          refine gWp_sts gT_230 1 (f' := (2023, [some (.ref 1000), some (.ref 0), some (.ref 1), some (.ref 64), some (.ref 65), some (.int x5), some (.int v2), some (.int v4), none], [], μ5)) (cs := []) rfl trivial ?_
          exact h
        · replace h := h.2 (fun q => c (decide_eq_true q))
          refine gWp_sts gT_230 1 (f' := (1888, [some (.ref 1000), some (.ref 0), some (.ref 1), some (.ref 64), some (.ref 65), some (.int x5), some (.int v2), some (.int v4), none], [.int (0 : Int32)], μ5)) (cs := []) rfl trivial ?_
          exact gWp_end gT_230 rfl (gEnd_int (show narrow .boolean (.int (0 : Int32)) = .int (0 : Int32) by decide)) h
    · replace h := h.2 (fun q => c (decide_eq_true q))
      refine gWp_sts gT_230 1 (f' := (1871, [some (.ref 1000), some (.ref 0), some (.ref 1), some (.ref 64), some (.ref 65), some (.int x5), some (.int v2), some (.int v4), none], [.int (0 : Int32)], μ5)) (cs := []) rfl trivial ?_
      exact gWp_end gT_230 rfl (gEnd_int (show narrow .boolean (.int (0 : Int32)) = .int (0 : Int32) by decide)) h
  · obtain ⟨y, rfl, h⟩ := h
    exact Or.inr (Or.inl ⟨y, rfl, rfl, h⟩)
set_option maxRecDepth 20000 in
theorem vl_1892 {SL cnt : Nat} {xs : Nat → Int32} {μ : gMu} {x5 : Int32} {P : gMu → gRes → Prop} (hcnt : cnt + 5 ≤ 2560) (h : gCl' 149 [.ref 0, .ref 65] μ (fun μ1 r => (∃ v2, r = .inl (some (.int v2)) ∧ (gCl' 228 [.ref 1] μ1 (fun μ3 r => (∃ v4, r = .inl (some (.float v4)) ∧ (gCl' 152 [.ref 1] μ3 (fun μ5 r => (∃ v6, r = .inl (some (.int v6)) ∧ (((v6 = v2) → (((¬ v2 = 0) → (gWp (some (SL, xs)) 230 (2023, [some (.ref 1000), some (.ref 0), some (.ref 1), some (.ref 64), some (.ref 65), some (.int x5), some (.int v2), some (.float v4), none], [], μ5) (cnt + 2) P)) ∧ ((v2 = 0) → ((vp_in (0 : Int32) 1) ∧ ((vf_n64 (FP.f2d v4)) ∧ ((((Op.cmpValue (FP.dcmp (gD μ5 65 ((0 : Int32).toNatClampNeg)) (FP.f2d v4)) .l) = 0) → (gWp (some (SL, xs)) 230 (2023, [some (.ref 1000), some (.ref 0), some (.ref 1), some (.ref 64), some (.ref 65), some (.int x5), some (.int v2), some (.float v4), none], [], μ5) (cnt + 2) P)) ∧ ((¬ (Op.cmpValue (FP.dcmp (gD μ5 65 ((0 : Int32).toNatClampNeg)) (FP.f2d v4)) .l) = 0) → ((vp_in (0 : Int32) 1) ∧ ((vp_in (0 : Int32) 1) ∧ ((((Op.cmpValue (FP.dcmp (gD μ5 65 ((0 : Int32).toNatClampNeg)) (gD μ5 65 ((0 : Int32).toNatClampNeg))) .l) = 0) → (P μ5 (.inl (some (.int (0 : Int32)))))) ∧ ((¬ (Op.cmpValue (FP.dcmp (gD μ5 65 ((0 : Int32).toNatClampNeg)) (gD μ5 65 ((0 : Int32).toNatClampNeg))) .l) = 0) → (((¬ (Op.cmpValue (FP.fcmp v4 v4) .l) = 0) → (gWp (some (SL, xs)) 230 (2023, [some (.ref 1000), some (.ref 0), some (.ref 1), some (.ref 64), some (.ref 65), some (.int x5), some (.int v2), some (.float v4), none], [], μ5) (cnt + 2) P)) ∧ (((Op.cmpValue (FP.fcmp v4 v4) .l) = 0) → (P μ5 (.inl (some (.int (0 : Int32)))))))))))))))))) ∧ ((¬ v6 = v2) → (P μ5 (.inl (some (.int (0 : Int32)))))))))))))) ∨ (∃ y, r = .inr y ∧ P μ1 (.inr y)))) : gWp (some (SL, xs)) 230 (1892, [some (.ref 1000), some (.ref 0), some (.ref 1), some (.ref 64), some (.ref 65), some (.int x5), none, none, none], [], μ) cnt P := by
  refine gWp_sts gT_230 2 (f' := (1895, [some (.ref 1000), some (.ref 0), some (.ref 1), some (.ref 64), some (.ref 65), some (.int x5), none, none, none], [.ref 65, .ref 0], μ)) (cs := []) rfl trivial ?_
  refine gWp_stat gT_230 (pc := 1895) (c01 := 0) (as := [.ref 0, .ref 65]) (rest := []) rfl (Or.inl rfl) rfl rfl rfl ⟨by have := hcnt; show cnt + 2 ≤ 2560; omega, Nat.le_of_ble_eq_true rfl, by decide, Nat.le_of_ble_eq_true rfl⟩ (gWp_imp h (fun μ1 r h => ?_))
  rcases h with h | h
  · obtain ⟨v2, rfl, h⟩ := h
    refine Or.inl ⟨_, rfl, ?_⟩
    show gWp (some (SL, xs)) 230 (1898, [some (.ref 1000), some (.ref 0), some (.ref 1), some (.ref 64), some (.ref 65), some (.int x5), none, none, none], [.int v2], μ1) _ P
    refine gWp_sts gT_230 2 (f' := (1901, [some (.ref 1000), some (.ref 0), some (.ref 1), some (.ref 64), some (.ref 65), some (.int x5), some (.int v2), none, none], [.ref 1], μ1)) (cs := []) rfl trivial ?_
    refine gWp_virt gT_230 (pc := 1901) (q := 1) (as := [.ref 1]) (rest := []) rfl rfl rfl rfl rfl rfl ⟨by have := hcnt; show (cnt + 2) + 0 ≤ 2560; omega, Nat.le_of_ble_eq_true rfl, by decide, Nat.le_of_ble_eq_true rfl⟩ (gWp_imp h (fun μ3 r h => ?_))
    obtain ⟨v4, rfl, h⟩ := h
    refine Or.inl ⟨_, rfl, ?_⟩
    show gWp (some (SL, xs)) 230 (1904, [some (.ref 1000), some (.ref 0), some (.ref 1), some (.ref 64), some (.ref 65), some (.int x5), some (.int v2), none, none], [.float v4], μ3) _ P
    refine gWp_sts gT_230 2 (f' := (1907, [some (.ref 1000), some (.ref 0), some (.ref 1), some (.ref 64), some (.ref 65), some (.int x5), some (.int v2), some (.float v4), none], [.ref 1], μ3)) (cs := []) rfl trivial ?_
    refine gWp_virt gT_230 (pc := 1907) (q := 1) (as := [.ref 1]) (rest := []) rfl rfl rfl rfl rfl rfl ⟨by have := hcnt; show (cnt + 2) + 0 ≤ 2560; omega, Nat.le_of_ble_eq_true rfl, by decide, Nat.le_of_ble_eq_true rfl⟩ (gWp_imp h (fun μ5 r h => ?_))
    obtain ⟨v6, rfl, h⟩ := h
    refine Or.inl ⟨_, rfl, ?_⟩
    show gWp (some (SL, xs)) 230 (1910, [some (.ref 1000), some (.ref 0), some (.ref 1), some (.ref 64), some (.ref 65), some (.int x5), some (.int v2), some (.float v4), none], [.int v6], μ5) _ P
    refine gWp_sts gT_230 1 (f' := (1912, [some (.ref 1000), some (.ref 0), some (.ref 1), some (.ref 64), some (.ref 65), some (.int x5), some (.int v2), some (.float v4), none], [.int v2, .int v6], μ5)) (cs := []) rfl trivial ?_
    refine gWp_icmp gT_230 (pc := 1912) rfl ⟨fun c => ?_, fun c => ?_⟩
    · replace h := h.1 (of_decide_eq_true c)
      refine gWp_sts gT_230 1 (f' := (1919, [some (.ref 1000), some (.ref 0), some (.ref 1), some (.ref 64), some (.ref 65), some (.int x5), some (.int v2), some (.float v4), none], [.int v2], μ5)) (cs := []) rfl trivial ?_
      refine gWp_if gT_230 (pc := 1919) rfl ⟨fun c => ?_, fun c => ?_⟩
      · replace h := h.1 (of_decide_eq_true c)
        refine gWp_sts gT_230 1 (f' := (2023, [some (.ref 1000), some (.ref 0), some (.ref 1), some (.ref 64), some (.ref 65), some (.int x5), some (.int v2), some (.float v4), none], [], μ5)) (cs := []) rfl trivial ?_
        exact h
      · replace h := h.2 (Classical.not_not.mp (fun q => c (decide_eq_true q)))
        obtain ⟨c1, c2, h⟩ := h
        refine gWp_sts gT_230 6 (f' := (1930, [some (.ref 1000), some (.ref 0), some (.ref 1), some (.ref 64), some (.ref 65), some (.int x5), some (.int v2), some (.float v4), none], [.int (Op.cmpValue (FP.dcmp (gD μ5 65 ((0 : Int32).toNatClampNeg)) (FP.f2d v4)) .l)], μ5)) (cs := [vp_in (0 : Int32) 1, vf_n64 (FP.f2d v4)]) rfl ⟨c1, c2⟩ ?_
        refine gWp_if gT_230 (pc := 1930) rfl ⟨fun c => ?_, fun c => ?_⟩
        · replace h := h.1 (of_decide_eq_true c)
          refine gWp_sts gT_230 1 (f' := (2023, [some (.ref 1000), some (.ref 0), some (.ref 1), some (.ref 64), some (.ref 65), some (.int x5), some (.int v2), some (.float v4), none], [], μ5)) (cs := []) rfl trivial ?_
          exact h
        · replace h := h.2 (fun q => c (decide_eq_true q))
          obtain ⟨c1, c2, h⟩ := h
          refine gWp_sts gT_230 7 (f' := (1942, [some (.ref 1000), some (.ref 0), some (.ref 1), some (.ref 64), some (.ref 65), some (.int x5), some (.int v2), some (.float v4), none], [.int (Op.cmpValue (FP.dcmp (gD μ5 65 ((0 : Int32).toNatClampNeg)) (gD μ5 65 ((0 : Int32).toNatClampNeg))) .l)], μ5)) (cs := [vp_in (0 : Int32) 1, vp_in (0 : Int32) 1]) rfl ⟨c1, c2⟩ ?_
          refine gWp_if gT_230 (pc := 1942) rfl ⟨fun c => ?_, fun c => ?_⟩
          · replace h := h.1 (of_decide_eq_true c)
            refine gWp_sts gT_230 1 (f' := (1954, [some (.ref 1000), some (.ref 0), some (.ref 1), some (.ref 64), some (.ref 65), some (.int x5), some (.int v2), some (.float v4), none], [.int (0 : Int32)], μ5)) (cs := []) rfl trivial ?_
            exact gWp_end gT_230 rfl (gEnd_int (show narrow .boolean (.int (0 : Int32)) = .int (0 : Int32) by decide)) h
          · replace h := h.2 (fun q => c (decide_eq_true q))
            refine gWp_sts gT_230 3 (f' := (1950, [some (.ref 1000), some (.ref 0), some (.ref 1), some (.ref 64), some (.ref 65), some (.int x5), some (.int v2), some (.float v4), none], [.int (Op.cmpValue (FP.fcmp v4 v4) .l)], μ5)) (cs := []) rfl trivial ?_
            refine gWp_if gT_230 (pc := 1950) rfl ⟨fun c => ?_, fun c => ?_⟩
            · replace h := h.1 (of_decide_eq_true c)
              refine gWp_sts gT_230 1 (f' := (2023, [some (.ref 1000), some (.ref 0), some (.ref 1), some (.ref 64), some (.ref 65), some (.int x5), some (.int v2), some (.float v4), none], [], μ5)) (cs := []) rfl trivial ?_
              exact h
            · replace h := h.2 (Classical.not_not.mp (fun q => c (decide_eq_true q)))
              refine gWp_sts gT_230 1 (f' := (1954, [some (.ref 1000), some (.ref 0), some (.ref 1), some (.ref 64), some (.ref 65), some (.int x5), some (.int v2), some (.float v4), none], [.int (0 : Int32)], μ5)) (cs := []) rfl trivial ?_
              exact gWp_end gT_230 rfl (gEnd_int (show narrow .boolean (.int (0 : Int32)) = .int (0 : Int32) by decide)) h
    · replace h := h.2 (fun q => c (decide_eq_true q))
      refine gWp_sts gT_230 1 (f' := (1916, [some (.ref 1000), some (.ref 0), some (.ref 1), some (.ref 64), some (.ref 65), some (.int x5), some (.int v2), some (.float v4), none], [.int (0 : Int32)], μ5)) (cs := []) rfl trivial ?_
      exact gWp_end gT_230 rfl (gEnd_int (show narrow .boolean (.int (0 : Int32)) = .int (0 : Int32) by decide)) h
  · obtain ⟨y, rfl, h⟩ := h
    exact Or.inr (Or.inl ⟨y, rfl, rfl, h⟩)
set_option maxRecDepth 20000 in
theorem vl_1958 {SL cnt : Nat} {xs : Nat → Int32} {μ : gMu} {x5 : Int32} {P : gMu → gRes → Prop} (hcnt : cnt + 5 ≤ 2560) (h : gCl' 151 [.ref 0, .ref 65] μ (fun μ1 r => (∃ v2, r = .inl (some (.int v2)) ∧ (gCl' 229 [.ref 1] μ1 (fun μ3 r => (∃ v4, r = .inl (some (.double v4)) ∧ (gCl' 152 [.ref 1] μ3 (fun μ5 r => (∃ v6, r = .inl (some (.int v6)) ∧ (((v6 = v2) → (((¬ v2 = 0) → (gWp (some (SL, xs)) 230 (2023, [some (.ref 1000), some (.ref 0), some (.ref 1), some (.ref 64), some (.ref 65), some (.int x5), some (.int v2), some (.double v4), none], [], μ5) (cnt + 2) P)) ∧ ((v2 = 0) → ((vp_in (0 : Int32) 1) ∧ ((((Op.cmpValue (FP.dcmp (gD μ5 65 ((0 : Int32).toNatClampNeg)) v4) .l) = 0) → (gWp (some (SL, xs)) 230 (2023, [some (.ref 1000), some (.ref 0), some (.ref 1), some (.ref 64), some (.ref 65), some (.int x5), some (.int v2), some (.double v4), none], [], μ5) (cnt + 2) P)) ∧ ((¬ (Op.cmpValue (FP.dcmp (gD μ5 65 ((0 : Int32).toNatClampNeg)) v4) .l) = 0) → ((vp_in (0 : Int32) 1) ∧ ((vp_in (0 : Int32) 1) ∧ ((((Op.cmpValue (FP.dcmp (gD μ5 65 ((0 : Int32).toNatClampNeg)) (gD μ5 65 ((0 : Int32).toNatClampNeg))) .l) = 0) → (P μ5 (.inl (some (.int (0 : Int32)))))) ∧ ((¬ (Op.cmpValue (FP.dcmp (gD μ5 65 ((0 : Int32).toNatClampNeg)) (gD μ5 65 ((0 : Int32).toNatClampNeg))) .l) = 0) → (((¬ (Op.cmpValue (FP.dcmp v4 v4) .l) = 0) → (gWp (some (SL, xs)) 230 (2023, [some (.ref 1000), some (.ref 0), some (.ref 1), some (.ref 64), some (.ref 65), some (.int x5), some (.int v2), some (.double v4), none], [], μ5) (cnt + 2) P)) ∧ (((Op.cmpValue (FP.dcmp v4 v4) .l) = 0) → (P μ5 (.inl (some (.int (0 : Int32))))))))))))))))) ∧ ((¬ v6 = v2) → (P μ5 (.inl (some (.int (0 : Int32)))))))))))))) ∨ (∃ y, r = .inr y ∧ P μ1 (.inr y)))) : gWp (some (SL, xs)) 230 (1958, [some (.ref 1000), some (.ref 0), some (.ref 1), some (.ref 64), some (.ref 65), some (.int x5), none, none, none], [], μ) cnt P := by
  refine gWp_sts gT_230 2 (f' := (1961, [some (.ref 1000), some (.ref 0), some (.ref 1), some (.ref 64), some (.ref 65), some (.int x5), none, none, none], [.ref 65, .ref 0], μ)) (cs := []) rfl trivial ?_
  refine gWp_stat gT_230 (pc := 1961) (c01 := 0) (as := [.ref 0, .ref 65]) (rest := []) rfl (Or.inl rfl) rfl rfl rfl ⟨by have := hcnt; show cnt + 2 ≤ 2560; omega, Nat.le_of_ble_eq_true rfl, by decide, Nat.le_of_ble_eq_true rfl⟩ (gWp_imp h (fun μ1 r h => ?_))
  rcases h with h | h
  · obtain ⟨v2, rfl, h⟩ := h
    refine Or.inl ⟨_, rfl, ?_⟩
    show gWp (some (SL, xs)) 230 (1964, [some (.ref 1000), some (.ref 0), some (.ref 1), some (.ref 64), some (.ref 65), some (.int x5), none, none, none], [.int v2], μ1) _ P
    refine gWp_sts gT_230 2 (f' := (1967, [some (.ref 1000), some (.ref 0), some (.ref 1), some (.ref 64), some (.ref 65), some (.int x5), some (.int v2), none, none], [.ref 1], μ1)) (cs := []) rfl trivial ?_
    refine gWp_virt gT_230 (pc := 1967) (q := 1) (as := [.ref 1]) (rest := []) rfl rfl rfl rfl rfl rfl ⟨by have := hcnt; show (cnt + 2) + 0 ≤ 2560; omega, Nat.le_of_ble_eq_true rfl, by decide, Nat.le_of_ble_eq_true rfl⟩ (gWp_imp h (fun μ3 r h => ?_))
    obtain ⟨v4, rfl, h⟩ := h
    refine Or.inl ⟨_, rfl, ?_⟩
    show gWp (some (SL, xs)) 230 (1970, [some (.ref 1000), some (.ref 0), some (.ref 1), some (.ref 64), some (.ref 65), some (.int x5), some (.int v2), none, none], [.double v4], μ3) _ P
    refine gWp_sts gT_230 2 (f' := (1973, [some (.ref 1000), some (.ref 0), some (.ref 1), some (.ref 64), some (.ref 65), some (.int x5), some (.int v2), some (.double v4), none], [.ref 1], μ3)) (cs := []) rfl trivial ?_
    refine gWp_virt gT_230 (pc := 1973) (q := 1) (as := [.ref 1]) (rest := []) rfl rfl rfl rfl rfl rfl ⟨by have := hcnt; show (cnt + 2) + 0 ≤ 2560; omega, Nat.le_of_ble_eq_true rfl, by decide, Nat.le_of_ble_eq_true rfl⟩ (gWp_imp h (fun μ5 r h => ?_))
    obtain ⟨v6, rfl, h⟩ := h
    refine Or.inl ⟨_, rfl, ?_⟩
    show gWp (some (SL, xs)) 230 (1976, [some (.ref 1000), some (.ref 0), some (.ref 1), some (.ref 64), some (.ref 65), some (.int x5), some (.int v2), some (.double v4), none], [.int v6], μ5) _ P
    refine gWp_sts gT_230 1 (f' := (1978, [some (.ref 1000), some (.ref 0), some (.ref 1), some (.ref 64), some (.ref 65), some (.int x5), some (.int v2), some (.double v4), none], [.int v2, .int v6], μ5)) (cs := []) rfl trivial ?_
    refine gWp_icmp gT_230 (pc := 1978) rfl ⟨fun c => ?_, fun c => ?_⟩
    · replace h := h.1 (of_decide_eq_true c)
      refine gWp_sts gT_230 1 (f' := (1985, [some (.ref 1000), some (.ref 0), some (.ref 1), some (.ref 64), some (.ref 65), some (.int x5), some (.int v2), some (.double v4), none], [.int v2], μ5)) (cs := []) rfl trivial ?_
      refine gWp_if gT_230 (pc := 1985) rfl ⟨fun c => ?_, fun c => ?_⟩
      · replace h := h.1 (of_decide_eq_true c)
        refine gWp_sts gT_230 1 (f' := (2023, [some (.ref 1000), some (.ref 0), some (.ref 1), some (.ref 64), some (.ref 65), some (.int x5), some (.int v2), some (.double v4), none], [], μ5)) (cs := []) rfl trivial ?_
        exact h
      · replace h := h.2 (Classical.not_not.mp (fun q => c (decide_eq_true q)))
        obtain ⟨c1, h⟩ := h
        refine gWp_sts gT_230 5 (f' := (1995, [some (.ref 1000), some (.ref 0), some (.ref 1), some (.ref 64), some (.ref 65), some (.int x5), some (.int v2), some (.double v4), none], [.int (Op.cmpValue (FP.dcmp (gD μ5 65 ((0 : Int32).toNatClampNeg)) v4) .l)], μ5)) (cs := [vp_in (0 : Int32) 1]) rfl c1 ?_
        refine gWp_if gT_230 (pc := 1995) rfl ⟨fun c => ?_, fun c => ?_⟩
        · replace h := h.1 (of_decide_eq_true c)
          refine gWp_sts gT_230 1 (f' := (2023, [some (.ref 1000), some (.ref 0), some (.ref 1), some (.ref 64), some (.ref 65), some (.int x5), some (.int v2), some (.double v4), none], [], μ5)) (cs := []) rfl trivial ?_
          exact h
        · replace h := h.2 (fun q => c (decide_eq_true q))
          obtain ⟨c1, c2, h⟩ := h
          refine gWp_sts gT_230 7 (f' := (2007, [some (.ref 1000), some (.ref 0), some (.ref 1), some (.ref 64), some (.ref 65), some (.int x5), some (.int v2), some (.double v4), none], [.int (Op.cmpValue (FP.dcmp (gD μ5 65 ((0 : Int32).toNatClampNeg)) (gD μ5 65 ((0 : Int32).toNatClampNeg))) .l)], μ5)) (cs := [vp_in (0 : Int32) 1, vp_in (0 : Int32) 1]) rfl ⟨c1, c2⟩ ?_
          refine gWp_if gT_230 (pc := 2007) rfl ⟨fun c => ?_, fun c => ?_⟩
          · replace h := h.1 (of_decide_eq_true c)
            refine gWp_sts gT_230 1 (f' := (2019, [some (.ref 1000), some (.ref 0), some (.ref 1), some (.ref 64), some (.ref 65), some (.int x5), some (.int v2), some (.double v4), none], [.int (0 : Int32)], μ5)) (cs := []) rfl trivial ?_
            exact gWp_end gT_230 rfl (gEnd_int (show narrow .boolean (.int (0 : Int32)) = .int (0 : Int32) by decide)) h
          · replace h := h.2 (fun q => c (decide_eq_true q))
            refine gWp_sts gT_230 3 (f' := (2015, [some (.ref 1000), some (.ref 0), some (.ref 1), some (.ref 64), some (.ref 65), some (.int x5), some (.int v2), some (.double v4), none], [.int (Op.cmpValue (FP.dcmp v4 v4) .l)], μ5)) (cs := []) rfl trivial ?_
            refine gWp_if gT_230 (pc := 2015) rfl ⟨fun c => ?_, fun c => ?_⟩
            · replace h := h.1 (of_decide_eq_true c)
              refine gWp_sts gT_230 1 (f' := (2023, [some (.ref 1000), some (.ref 0), some (.ref 1), some (.ref 64), some (.ref 65), some (.int x5), some (.int v2), some (.double v4), none], [], μ5)) (cs := []) rfl trivial ?_
              exact h
            · replace h := h.2 (Classical.not_not.mp (fun q => c (decide_eq_true q)))
              refine gWp_sts gT_230 1 (f' := (2019, [some (.ref 1000), some (.ref 0), some (.ref 1), some (.ref 64), some (.ref 65), some (.int x5), some (.int v2), some (.double v4), none], [.int (0 : Int32)], μ5)) (cs := []) rfl trivial ?_
              exact gWp_end gT_230 rfl (gEnd_int (show narrow .boolean (.int (0 : Int32)) = .int (0 : Int32) by decide)) h
    · replace h := h.2 (fun q => c (decide_eq_true q))
      refine gWp_sts gT_230 1 (f' := (1982, [some (.ref 1000), some (.ref 0), some (.ref 1), some (.ref 64), some (.ref 65), some (.int x5), some (.int v2), some (.double v4), none], [.int (0 : Int32)], μ5)) (cs := []) rfl trivial ?_
      exact gWp_end gT_230 rfl (gEnd_int (show narrow .boolean (.int (0 : Int32)) = .int (0 : Int32) by decide)) h
  · obtain ⟨y, rfl, h⟩ := h
    exact Or.inr (Or.inl ⟨y, rfl, rfl, h⟩)
set_option maxRecDepth 20000 in
theorem vl_2023 {SL cnt : Nat} {xs : Nat → Int32} {μ : gMu} {x5 : Int32} {P : gMu → gRes → Prop} (h : gWp (some (SL, xs)) 230 (28, [some (.ref 1000), some (.ref 0), some (.ref 1), some (.ref 64), some (.ref 65), some (.int (x5 + (4 : Int32))), none, none, none], [], μ) cnt P) : gWp (some (SL, xs)) 230 (2023, [some (.ref 1000), some (.ref 0), some (.ref 1), some (.ref 64), some (.ref 65), some (.int x5), none, none, none], [], μ) cnt P := by
  refine gWp_sts gT_230 2 (f' := (28, [some (.ref 1000), some (.ref 0), some (.ref 1), some (.ref 64), some (.ref 65), some (.int (x5 + (4 : Int32))), none, none, none], [], μ)) (cs := []) rfl trivial ?_
  exact h
