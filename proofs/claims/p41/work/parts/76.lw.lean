/-! THE LAW ON THE SCRIPT 35, 437, 461, 437, .. (36 ints): it adds '{' and '}' by turns; it comes to its end, and more than 448 exceptions have been caught -/
def Ek : Nat → Nat
  | 0 => 0
  | k + 1 => Ek k + (if k % 6 = 5 then 2 * k else 0) + (if k % 17 = 16 then 4 * (k + 1) else 0)
def Bk : Nat → Nat
  | 0 => 0
  | k + 1 => Bk k + (if k % 6 = 5 then 380 else 0) + (1 + (if k % 17 = 16 then 780 else 0))
theorem Ek_lt : ∀ k, k < 36 → Ek k < 10000 := by decide +kernel
theorem Bk_le : ∀ k, k < 36 → Bk k + 1640 ≤ 7000 := by decide +kernel
theorem Ek_35 : Ek 35 = 374 := by decide +kernel
def Vk (k : Nat) : Int32 := if k % 2 = 0 then 437 else 461
theorem Vk_ok (k : Nat) : Vk k - Vk k / 100000000 * 100000000 = Vk k ∧ 0 ≤ Vk k ∧ Vk k - Vk k / 24 * 24 = 5 ∧ vp_in (Vk k / 24 - Vk k / 24 / 24 * 24) 24 ∧ gSg.getD (Vk k / 24 - Vk k / 24 / 24 * 24).toNatClampNeg 0 = nI (chr9 k) := by
  unfold Vk chr9
  split
  · exact ⟨by decide, by decide, by decide, by show ¬ (_ ∨ _); decide, by decide⟩
  · exact ⟨by decide, by decide, by decide, by show ¬ (_ ∨ _); decide, by decide⟩
theorem kI_toInt {m : Nat} (h : m < 2 ^ 31) : (nI m).toInt = (m : Int) := Int32.toInt_ofNat_of_lt h
theorem kI_ge {m : Nat} (h : m < 2 ^ 31) : (-1000 : Int32) ≤ nI m := by
  rw [Int32.le_iff_toInt_le, kI_toInt h]
  have : (-1000 : Int32).toInt = -1000 := by decide
  omega
theorem kI_ge0 {m : Nat} (h : m < 2 ^ 31) : (0 : Int32) ≤ nI m := by
  rw [Int32.le_iff_toInt_le, kI_toInt h]
  have : (0 : Int32).toInt = 0 := by decide
  omega
theorem kI_rem {k d : Nat} (hk : k < 2 ^ 30) (h0 : 0 < d) (hd : d < 2 ^ 30) : nI k - nI k / nI d * nI d = nI (k % d) := by rw [iDiv hk h0 hd, iRem]
theorem r_152 {v m r : Int32} {μ : gMu} {P : gMu → gRes → Prop} (hm : ¬ m = 0) (h1 : v - v / m * m = r) (h0 : 0 ≤ r) (h : P μ (.inl (some (.int r)))) : gCl' 152 [.int v, .int m] μ P :=
  vc_152 ⟨hm, fun _ => by rw [h1]; exact h, fun q => absurd (by rw [h1]; exact h0) q⟩
theorem w_88 {xs : Nat → Int32} {cnt k c : Nat} {x2 x3 x4 x8 V : Int32} {x9 : Int64} {μ : gMu} {P : gMu → gRes → Prop} (hk : k < 39) (hV5 : V - V / 24 * 24 = 5) (hW : vp_in (V / 24 - V / 24 / 24 * 24) 24) (hch : gSg.getD (V / 24 - V / 24 / 24 * 24).toNatClampNeg 0 = nI (chr9 k)) (hcnt : cnt + 781 ≤ 7000) (hI : lI (kT k) c μ) (hc : c < 40000)
    (h : ∀ μ', lI (kT (k + 1)) (c + (if k % 17 = 16 then 4 * (k + 1) else 0)) μ' → gWp (some (36, xs)) 166 (28, [some (.ref 1000), some (.ref 0), some (.int x2), some (.int x3), some (.int x4), some (.int (nI (k + 1))), none, none, none, none, none, none, none], [], μ') (cnt + (1 + (if k % 17 = 16 then 780 else 0))) P) : gWp (some (36, xs)) 166 (88, [some (.ref 1000), some (.ref 0), some (.int x2), some (.int x3), some (.int x4), some (.int (nI k)), some (.int V), some (.int (V / 24)), some (.int x8), some (.long x9), none, none, none], [], μ) cnt P := by
  have no : ∀ z : Int32, (5 : Int32) ≠ z → (V - V / 24 * 24 = z → False) := fun z hz q => hz (hV5.symm.trans q)
  refine vc_166_88 hcnt ⟨by decide, no 0 (by decide), by decide, no 1 (by decide), by decide, no 2 (by decide), by decide, no 3 (by decide), by decide, no 4 (by decide), by decide, hW, ?_⟩
  rw [hch]
  have e17 : nI k - nI k / (17 : Int32) * (17 : Int32) = nI (k % 17) := kI_rem (d := 17) (by omega) (by omega) (by omega)
  have e1 : nI k + (1 : Int32) = nI (k + 1) := nI_add k 1
  refine r_154 (by omega) hI (fun μ1 h1 => Or.inl ⟨_, rfl, fun q => q (kI_ge (by omega)), by decide, fun q => ?_, fun q => ?_⟩)
  · have hn : ¬ k % 17 = 16 := fun z => q (by rw [e17, z]; rfl)
    rw [if_neg hn, if_neg hn] at h
    rw [e1]
    exact gWp_up (h μ1 h1) (by (repeat (first | exact gUp.nil | refine gUp.cs ?_ | refine gUp.cn ?_)))
  · have hy : k % 17 = 16 := by
      rw [e17] at q
      have q2 : nI (k % 17) = nI 16 := q
      rw [nE_n (by omega) (by omega)] at q2
      exact q2
    rw [if_pos hy, if_pos hy] at h
    refine r_165 (n := k + 1) (by omega) h1 (by omega) (fun μ3 h3 => Or.inl ⟨_, rfl, fun q => absurd q (by decide), ?_⟩)
    rw [e1]
    have h4 := h μ3 h3
    rw [show cnt + (1 + 780) = cnt + 1 + 780 by omega] at h4
    exact gWp_up h4 (by (repeat (first | exact gUp.nil | refine gUp.cs ?_ | refine gUp.cn ?_)))
theorem w_379 {xs : Nat → Int32} {cnt c : Nat} {μ : gMu} (hcnt : cnt + 1640 ≤ 7000) (hI : lI (kT 35) c μ) (hc1 : 374 ≤ c) (hc : c < 10000) : gWp (some (36, xs)) 166 (379, [some (.ref 1000), some (.ref 0), some (.int 60), some (.int 0), some (.int 35), some (.int (nI 35)), none, none, none, none, none, none, none], [], μ) cnt (fun μ' r => ∃ v, r = .inl (some (.int v)) ∧ 449 ≤ gGh μ') := by
  have hk := kT_ok 35 (by omega)
  have hio : inx (nI 35) 35 = none := by decide
  refine vc_166_379 hcnt (r_165 (n := 35) (by omega) hI (by omega) (fun μ1 h1 => Or.inl ⟨_, rfl, fun q => absurd q (by decide), ?_⟩))
  refine r_162 (n := 35) (by omega) h1 (by omega) (fun μ3 v4 h3 => Or.inl ⟨_, rfl, ?_⟩)
  refine s_2 h3.1.1 ⟨_, rfl, ?_⟩
  refine r_154x (a := 33) hk (by decide) (by decide) h3 (by omega) (fun μ7 h7 => Or.inl ⟨_, rfl, fun q => q rfl, ?_⟩)
  refine r_154x (a := 93) hk (by decide) (by decide) h7 (by omega) (fun μ9 h9 => Or.inl ⟨_, rfl, fun q => q rfl, ?_⟩)
  refine s_5 h9.1.1 hk ⟨_, rfl, fun q => absurd q (by decide +kernel), fun q => absurd q (by decide +kernel), ?_⟩
  refine r_156x (a := 91) hk (by decide) (by decide) h9 (by omega) (fun μ13 h13 => Or.inl ⟨_, rfl, fun q => q rfl, ?_⟩)
  refine r_156x (a := 97) hk (by decide) (by decide) h13 (by omega) (fun μ15 h15 => Or.inl ⟨_, rfl, fun q => q rfl, ?_⟩)
  refine r_156x (a := 97) hk (by decide) (by decide) h15 (by omega) (fun μ17 h17 => Or.inl ⟨_, rfl, fun q => q rfl, ?_⟩)
  refine r_157x (by decide) h17 (by omega) (fun μ19 h19 => Or.inl ⟨_, rfl, fun q => q rfl, ?_⟩)
  refine r_157x (by decide) h19 (by omega) (fun μ21 h21 => Or.inl ⟨_, rfl, fun q => q rfl, ?_⟩)
  refine r_158x (a := 97) hk (by decide) (by decide +kernel) h21 (by omega) (fun μ23 h23 => Or.inl ⟨_, rfl, fun q => q rfl, ?_⟩)
  refine r_158x (a := 49) hk (by decide) (by decide +kernel) h23 (by omega) (fun μ25 h25 => Or.inl ⟨_, rfl, fun q => q rfl, ?_⟩)
  refine r_158x (a := 97) hk (by decide) (by decide +kernel) h25 (by omega) (fun μ27 h27 => Or.inl ⟨_, rfl, fun q => q rfl, ?_⟩)
  refine r_158x (a := 97) hk (by decide) (by decide +kernel) h27 (by omega) (fun μ29 h29 => Or.inl ⟨_, rfl, fun q => q rfl, fun q => absurd q (by decide), ?_⟩)
  refine r_159o hk h29 (by omega) (s_ot hio) (fun μ31 h31 => Or.inl ⟨_, rfl, fun q => q rfl, ?_⟩)
  refine r_159o hk h31 (by omega) (s_ot (by decide)) (fun μ33 h33 => Or.inl ⟨_, rfl, fun q => q rfl, ?_⟩)
  refine r_153o hk h33 (by omega) (s_ot hio) (fun μ35 h35 => Or.inl ⟨_, rfl, fun q => q rfl, ?_⟩)
  refine r_162 (n := 35) (by omega) h35 (by omega) (fun μ37 v38 h37 => Or.inl ⟨_, rfl, fun _ => ⟨_, rfl, ?_⟩, fun _ => ⟨_, rfl, ?_⟩⟩)
  · rw [h37.2]
    omega
  · rw [h37.2]
    omega
theorem w_28 {xs : Nat → Int32} (hx : ∀ k, k < 35 → xs (k + 1) = Vk k) : ∀ r k cnt μ, k + r = 35 → cnt ≤ Bk k → lI (kT k) (Ek k) μ → gWp (some (36, xs)) 166 (28, [some (.ref 1000), some (.ref 0), some (.int 60), some (.int 0), some (.int 35), some (.int (nI k)), none, none, none, none, none, none, none], [], μ) cnt (fun μ' r => ∃ v, r = .inl (some (.int v)) ∧ 449 ≤ gGh μ') := by
  intro r
  induction r with
  | zero =>
    intro k cnt μ hr hcnt hI
    have e : k = 35 := by omega
    subst e
    have hb := Bk_le 35 (by omega)
    rw [Ek_35] at hI
    exact vc_166_28 (by omega) ⟨fun _ => w_379 (by omega) hI (by omega) (by omega), fun q => absurd (show (35 : Int32) ≤ nI 35 by decide) q⟩
  | succ r ih =>
    intro k cnt μ hr hcnt hI
    have hb := Bk_le k (by omega)
    have hE := Ek_lt k (by omega)
    have hlt : ¬ (35 : Int32) ≤ nI k := by
      have h1 : ¬ nI 35 ≤ nI k := by rw [nLe_n (by omega) (by omega)]; omega
      exact h1
    refine vc_166_28 (by omega) ⟨fun q => absurd q hlt, fun _ => ?_⟩
    have e1 : (1 : Int32) + nI k = nI (k + 1) := by
      have h1 : nI 1 + nI k = nI (1 + k) := nI_add 1 k
      rw [Nat.add_comm 1 k] at h1
      exact h1
    rw [e1]
    refine ⟨kI_ge0 (by omega), ?_⟩
    have hc36 : nI (k + 1) < Int32.ofNat 36 := by
      show nI (k + 1) < nI 36
      rw [nLt_n (by omega) (by omega)]
      omega
    rw [if_pos hc36, nI_clamp (by omega), hx k (by omega)]
    obtain ⟨v1, v2, v3, v4, v5⟩ := Vk_ok k
    have e6 : nI k - nI k / (6 : Int32) * (6 : Int32) = nI (k % 6) := kI_rem (d := 6) (by omega) (by omega) (by omega)
    refine r_152 (by decide) v1 v2 ⟨_, rfl, by decide, by decide, fun q => ?_, fun q => ?_⟩
    · have hn : ¬ k % 6 = 5 := fun z => q (by rw [e6, z]; rfl)
      refine w_88 (by omega) v3 v4 v5 (by omega) hI (by omega) (fun μ2 h2 => ?_)
      refine ih (k + 1) _ μ2 (by omega) ?_ ?_
      · show _ ≤ Bk k + (if k % 6 = 5 then 380 else 0) + (1 + (if k % 17 = 16 then 780 else 0))
        rw [if_neg hn]
        omega
      · show lI _ (Ek k + (if k % 6 = 5 then 2 * k else 0) + (if k % 17 = 16 then 4 * (k + 1) else 0)) _
        rw [if_neg hn]
        exact h2
    · have hy : k % 6 = 5 := by
        rw [e6] at q
        have q2 : nI (k % 6) = nI 5 := q
        rw [nE_n (by omega) (by omega)] at q2
        exact q2
      refine r_162 (n := k) (by omega) hI (by omega) (fun μ3 v9 h3 => Or.inl ⟨_, rfl, ?_⟩)
      refine w_88 (by omega) v3 v4 v5 (by omega) h3 (by omega) (fun μ2 h2 => ?_)
      refine ih (k + 1) _ μ2 (by omega) ?_ ?_
      · show _ ≤ Bk k + (if k % 6 = 5 then 380 else 0) + (1 + (if k % 17 = 16 then 780 else 0))
        rw [if_pos hy]
        omega
      · show lI _ (Ek k + (if k % 6 = 5 then 2 * k else 0) + (if k % 17 = 16 then 4 * (k + 1) else 0)) _
        rw [if_pos hy]
        exact h2
def gL8 : gL := [some (.ref 1000), some (.ref 0), none, none, none, none, none, none, none, none, none, none, none]
/-- from behind the constructor -/
theorem w_8 {xs : Nat → Int32} (hx0 : xs 0 = 35) (hx : ∀ k, k < 35 → xs (k + 1) = Vk k) {μ : gMu} (hI : lI (kT 0) 0 μ) : gWp (some (36, xs)) 166 (8, gL8, [], μ) 0 (fun μ' r => ∃ v, r = .inl (some (.int v)) ∧ 449 ≤ gGh μ') := by
  refine vc_166_8 ⟨by decide, ?_⟩
  rw [if_pos (show (0 : Int32) < Int32.ofNat 36 by decide), show (0 : Int32).toNatClampNeg = 0 by decide, hx0]
  exact r_152 (by decide) (by decide) (by decide) ⟨_, rfl, w_28 hx 35 0 0 μ (by omega) (Nat.zero_le _) hI⟩
