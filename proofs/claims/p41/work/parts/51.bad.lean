/-! BADNESS AND DEMERITS, as the class computes them -/
theorem z0 : (0 : Int32).toInt = 0 := rfl
theorem dZ_eq {a b : Nat} (ha : a < 2 ^ 30) (hb : b < 2 ^ 30) : (nI a - nI b = 0) = (a = b) := by
  apply propext
  rw [← Int32.toInt_inj, pk_sub_toInt ha hb, z0]
  omega
theorem dZ_le {a b : Nat} (ha : a < 2 ^ 30) (hb : b < 2 ^ 30) : (nI a - nI b ≤ 0) = (a ≤ b) := by
  apply propext
  rw [Int32.le_iff_toInt_le, pk_sub_toInt ha hb, z0]
  omega
theorem dZ_lt {a b : Nat} (ha : a < 2 ^ 30) (hb : b < 2 ^ 30) : (nI a - nI b < 0) = (a < b) := by
  apply propext
  rw [Int32.lt_iff_toInt_lt, pk_sub_toInt ha hb, z0]
  omega
theorem dZ_ltn {a b k : Nat} (ha : a < 2 ^ 30) (hb : b < 2 ^ 30) (hk : k < 2 ^ 30) : (nI a - nI b < -nI k) = (a + k < b) := by
  apply propext
  rw [Int32.lt_iff_toInt_lt, pk_sub_toInt ha hb, sb_negT (by omega)]
  omega
theorem dZ_neg {a b : Nat} (ha : a < 2 ^ 30) (hb : b < 2 ^ 30) (h : a ≤ b) : nI a - nI b = -nI (b - a) := by
  rw [← Int32.toInt_inj, pk_sub_toInt ha hb, sb_negT (by omega)]
  omega
theorem nZ_eq {d : Nat} (h0 : 0 < d) (h : d < 2 ^ 30) : (-nI d = 0) = False := by
  apply eq_false
  rw [← Int32.toInt_inj, sb_negT (by omega), z0]
  omega
theorem nZ_le {d : Nat} (h : d < 2 ^ 30) : (-nI d ≤ 0) = True := by
  apply eq_true
  rw [Int32.le_iff_toInt_le, sb_negT (by omega), z0]
  omega
theorem nZ_ge {d : Nat} (h0 : 0 < d) (h : d < 2 ^ 30) : (0 ≤ -nI d) = False := by
  apply eq_false
  rw [Int32.le_iff_toInt_le, sb_negT (by omega), z0]
  omega
theorem nZ_lt {d : Nat} (h0 : 0 < d) (h : d < 2 ^ 30) : (-nI d < 0) = True := by
  apply eq_true
  rw [Int32.lt_iff_toInt_lt, sb_negT (by omega), z0]
  omega
theorem nZ_nn (d : Nat) : 0 - -nI d = nI d := by
  rw [Int32.sub_eq_add_neg, Int32.neg_neg, Int32.zero_add]
theorem nZ_l {d : Nat} (h : d < 2 ^ 30) : (-nI d).toInt64 = -lN d := by
  rw [← nI_l (by omega)]
  refine Int32.toInt64_neg_of_ne (fun e => ?_)
  have h1 := nI_toInt (n := d) (by omega)
  rw [e] at h1
  have h2 : (-2147483648 : Int32).toInt = -2147483648 := rfl
  rw [h2] at h1
  omega
def capN (q : Nat) : Nat := if 10000 < q then 10000 else q
def bdN (W n k : Nat) (last : Bool) : Nat := if n = W then 0 else if n < W then (if last = true then 0 else if k = 0 then 10000 else capN (100 * (W - n) * (W - n) * (W - n) / (2 * k * (2 * k) * (2 * k)))) else (if k = 0 then 10000 else capN (100 * (n - W) * (n - W) * (n - W) / (k * k * k)))
theorem capN_le (q : Nat) : capN q ≤ 10000 := by unfold capN; split <;> omega
theorem bdN_le (W n k : Nat) (l : Bool) : bdN W n k l ≤ 10000 := by
  unfold bdN
  have h1 := capN_le (100 * (W - n) * (W - n) * (W - n) / (2 * k * (2 * k) * (2 * k)))
  have h2 := capN_le (100 * (n - W) * (n - W) * (n - W) / (k * k * k))
  split
  · omega
  · split
    · split
      · omega
      · split
        · omega
        · exact h1
    · split
      · omega
      · exact h2
theorem u3_pos {u : Nat} (h : 0 < u) : 0 < u * u * u := Nat.mul_pos (Nat.mul_pos h h) h
theorem u3_le {u : Nat} (h : u ≤ 100) : u * u * u ≤ 1000000 := Nat.mul_le_mul (Nat.mul_le_mul h h) h
theorem d3_le {d : Nat} (h : d ≤ 2000) : 100 * d * d * d ≤ 100 * 2000 * 2000 * 2000 := Nat.mul_le_mul (Nat.mul_le_mul (Nat.mul_le_mul_left 100 h) h) h
theorem bl_ne {u : Nat} (h0 : 0 < u) (h1 : u ≤ 100) : ¬ lN u * lN u * lN u = 0 := by
  have a := u3_pos h0
  have b := u3_le h1
  rw [lN_mul, lN_mul]
  intro e
  have := (pk_lEQ (a := u * u * u) (b := 0) (by omega) (by omega)).mp e
  omega
theorem bl_q {d u : Nat} (hd : d ≤ 2000) (h0 : 0 < u) (h1 : u ≤ 100) : (if (10000 : Int64) < (100 : Int64) * lN d * lN d * lN d / (lN u * lN u * lN u) then (10000 : Int64) else (100 : Int64) * lN d * lN d * lN d / (lN u * lN u * lN u)).toInt32 = nI (capN (100 * d * d * d / (u * u * u))) := by
  have a := u3_pos h0
  have b := u3_le h1
  have c := d3_le hd
  have e1 : (100 : Int64) * lN d * lN d * lN d / (lN u * lN u * lN u) = lN (100 * d * d * d / (u * u * u)) := by
    rw [show (100 : Int64) = lN 100 from rfl, lN_mul, lN_mul, lN_mul, lN_mul, lN_mul, pk_lDiv (by omega) a (by omega)]
  have f := Nat.div_le_self (100 * d * d * d) (u * u * u)
  rw [e1, show (10000 : Int64) = lN 10000 from rfl]
  unfold capN
  by_cases h : 10000 < 100 * d * d * d / (u * u * u)
  · rw [if_pos h, if_pos ((pk_lLT (a := 10000) (by omega) (by omega)).mpr h)]
    exact lN_i 10000
  · rw [if_neg h, if_neg (fun q => h ((pk_lLT (a := 10000) (by omega) (by omega)).mp q))]
    exact lN_i _
theorem l2k (k : Nat) : (2 : Int64) * lN k = lN (2 * k) := lN_mul 2 k
theorem bl_neg (d : Nat) : (100 : Int64) * -lN d * -lN d * lN d = (100 : Int64) * lN d * lN d * lN d := by
  rw [Int64.mul_neg 100 (lN d), Int64.neg_mul_neg]
theorem s_29 {X : xX} {i j : Nat} {μ : gMu} {P : gMu → gRes → Prop} (hX : xOk X) (hc : cX X μ) (hij : i < j) (hj : j ≤ X.P) (h6 : gI μ 32 6 = nI X.W) (h : P μ (.inl (some (.int (nI X.W - nI (xN X i j)))))) : gCl' 29 [.ref 32, .int (nI i), .int (nI j)] μ P := by
  refine vc_29 (s_28 hX hc hij hj ⟨_, rfl, ?_⟩)
  rw [h6]
  exact h
def xB (X : xX) (i j : Nat) : Nat := bdN X.W (xN X i j) (xK X i j) (j == X.P)
theorem s_31 {X : xX} {i j : Nat} {μ : gMu} {P : gMu → gRes → Prop} (hX : xOk X) (hc : cX X μ) (hij : i < j) (hj : j ≤ X.P) (h6 : gI μ 32 6 = nI X.W) (h : P μ (.inl (some (.int (nI (xB X i j)))))) : gCl' 31 [.ref 32, .int (nI i), .int (nI j)] μ P := by
  refine vc_31 (s_29 hX hc hij hj h6 ⟨_, rfl, s_30 hX hc hij hj ⟨_, rfl, ?_⟩⟩)
  have g1 := xN_le hX hij hj
  have g2 := xK_le hX hij hj
  have g3 := hX.W
  have g4 := hX.P
  have g5 := hX.G
  have hp := hc.1
  unfold xB at h
  generalize xN X i j = n at h g1 ⊢
  generalize xK X i j = k at h g2 ⊢
  unfold bdN at h
  rcases Nat.lt_trichotomy n X.W with hlt | heq | hgt
  · rw [if_neg (by omega), if_pos hlt] at h
    rw [nS_n (Nat.le_of_lt hlt)]
    have hd0 : 0 < X.W - n := by omega
    have hd1 : X.W - n ≤ 2000 := by omega
    generalize X.W - n = d at h hd0 hd1 ⊢
    simp (disch := first | omega | decide) only [hp, show ¬ d = 0 by omega, show ¬ d ≤ 0 by omega, Nat.zero_le, nI_l, l2k, nE_l, nE_r, nE_n, nLe_l, nLe_r, nLe_n, nLt_l, nLt_r, nLt_n, nA_l, nA_r, nI_add, nS_l, nS_n, nIn, nI_clamp, gI_I, gI_J, gI_D, gJ_J, gJ_I, gJ_D, true_and, and_true, false_and, and_false, if_true, if_false, false_implies, true_implies, not_true_eq_false, not_false_eq_true, bI_0, bI_1, Nat.reduceEqDiff, eq_self, nMax, nMin]
    refine ⟨fun h1 => ⟨fun h2 => ⟨bl_ne (by omega) (by omega), ?_⟩, fun h2 => ?_⟩, fun h1 => ?_⟩
    · rw [if_neg (by simpa using h1), if_neg (by omega)] at h
      rw [bl_q hd1 (by omega) (by omega)]
      exact h
    · rw [if_neg (by simpa using h1), if_pos (by omega)] at h
      exact h
    · rw [if_pos (by simpa using h1)] at h
      exact h
  · rw [if_pos heq] at h
    refine ⟨fun _ => h, fun hn => absurd ?_ hn⟩
    rw [dZ_eq (by omega) (by omega)]
    exact heq.symm
  · rw [if_neg (by omega), if_neg (by omega)] at h
    rw [dZ_neg (by omega) (by omega) (Nat.le_of_lt hgt)]
    have hd0 : 0 < n - X.W := by omega
    have hd1 : n - X.W ≤ 2000 := by omega
    generalize n - X.W = d at h hd0 hd1 ⊢
    simp (disch := first | omega | decide) only [nZ_eq hd0 (by omega), nZ_le (show d < 2 ^ 30 by omega), nZ_ge hd0 (by omega), nZ_nn, nZ_l (show d < 2 ^ 30 by omega), nI_l, nE_l, nE_r, nE_n, nLe_l, nLe_r, nLe_n, nLt_l, nLt_r, nLt_n, nA_l, nA_r, nI_add, nS_l, nS_n, nIn, nI_clamp, gI_I, gI_J, gI_D, gJ_J, gJ_I, gJ_D, true_and, and_true, false_and, and_false, if_true, if_false, false_implies, true_implies, not_true_eq_false, not_false_eq_true, bI_0, bI_1, Nat.reduceEqDiff, eq_self, nMax, nMin]
    refine ⟨fun h2 => ⟨bl_ne (by omega) (by omega), ?_⟩, fun h2 => ?_⟩
    · rw [if_neg (by omega)] at h
      rw [bl_neg, bl_q hd1 (by omega) (by omega)]
      exact h
    · rw [if_pos (by omega)] at h
      exact h
def xD (X : xX) (i j : Nat) : Nat := (1 + xB X i j) * (1 + xB X i j) + (if j < X.P ∧ xH X j = true then (if xH X i = true then 5500 else 2500) else 0)
theorem xB_le (X : xX) (i j : Nat) : xB X i j ≤ 10000 := bdN_le _ _ _ _
theorem xD_le (X : xX) (i j : Nat) : xD X i j ≤ 200000000 := by
  have h1 := xB_le X i j
  have h2 : (1 + xB X i j) * (1 + xB X i j) ≤ 10001 * 10001 := Nat.mul_le_mul (by omega) (by omega)
  unfold xD
  split
  · split <;> omega
  · omega
theorem xD_pos (X : xX) (i j : Nat) : 0 < xD X i j := by
  have h2 : 0 < (1 + xB X i j) * (1 + xB X i j) := Nat.mul_pos (by omega) (by omega)
  unfold xD
  omega
theorem l1b {b : Nat} (h : b ≤ 10000) : ((1 : Int64) + (nI b).toInt64) * ((1 : Int64) + (nI b).toInt64) = lN ((1 + b) * (1 + b)) := by
  rw [nI_l (by omega), show (1 : Int64) = lN 1 from rfl, lN_add, lN_mul]
theorem s_34 {X : xX} {i j : Nat} {μ : gMu} {P : gMu → gRes → Prop} (hX : xOk X) (hc : cX X μ) (hij : i < j) (hj : j ≤ X.P) (h6 : gI μ 32 6 = nI X.W) (h : P μ (.inl (some (.long (lN (xD X i j)))))) : gCl' 34 [.ref 32, .int (nI i), .int (nI j)] μ P := by
  refine vc_34 (s_31 hX hc hij hj h6 ⟨_, rfl, ?_⟩)
  have g1 := xB_le X i j
  have g4 := hX.P
  have g5 := hX.G
  have hp := hc.1
  rw [l1b g1]
  unfold xD at h
  simp (disch := first | omega | decide) only [hp, nE_l, nE_r, nE_n, nLe_l, nLe_r, nLe_n, nLt_l, nLt_r, nLt_n, nA_l, nA_r, nI_add, nS_l, nS_n, nIn, nI_clamp, gI_I, gI_J, gI_D, gJ_J, gJ_I, gJ_D, true_and, and_true, false_and, and_false, if_true, if_false, false_implies, true_implies, not_true_eq_false, not_false_eq_true, bI_0, bI_1, Nat.reduceEqDiff, eq_self, nMax, nMin]
  refine ⟨fun h1 => ?_, fun h1 => s_33 hX hc hj ⟨_, rfl, ?_⟩⟩
  · rw [if_neg (fun q => by omega)] at h
    exact h
  · simp (disch := first | omega | decide) only [Bool.not_eq_false, nE_l, nE_r, nE_n, nLe_l, nLe_r, nLe_n, nLt_l, nLt_r, nLt_n, nA_l, nA_r, nI_add, nS_l, nS_n, nIn, nI_clamp, gI_I, gI_J, gI_D, gJ_J, gJ_I, gJ_D, true_and, and_true, false_and, and_false, if_true, if_false, false_implies, true_implies, not_true_eq_false, not_false_eq_true, bI_0, bI_1, Nat.reduceEqDiff, eq_self, nMax, nMin]
    refine ⟨fun h2 => ?_, fun h2 => s_33 hX hc (by omega) ⟨_, rfl, ?_⟩⟩
    · rw [if_neg (fun q => by rw [h2] at q; cases q.2)] at h
      exact h
    · rw [if_pos ⟨by omega, h2⟩] at h
      simp (disch := first | omega | decide) only [Bool.not_eq_false, nE_l, nE_r, nE_n, nLe_l, nLe_r, nLe_n, nLt_l, nLt_r, nLt_n, nA_l, nA_r, nI_add, nS_l, nS_n, nIn, nI_clamp, gI_I, gI_J, gI_D, gJ_J, gJ_I, gJ_D, true_and, and_true, false_and, and_false, if_true, if_false, false_implies, true_implies, not_true_eq_false, not_false_eq_true, bI_0, bI_1, Nat.reduceEqDiff, eq_self, nMax, nMin]
      refine ⟨fun h3 => ?_, fun h3 => ?_⟩
      · rw [if_neg (by rw [h3]; decide)] at h
        rw [show (2500 : Int64) = lN 2500 from rfl, lN_add]
        exact h
      · rw [if_pos h3] at h
        rw [show (5500 : Int64) = lN 5500 from rfl, lN_add]
        exact h
def xQ (X : xX) (i j : Nat) : Bool := decide (xN X i j ≤ X.W + xK X i j)
theorem s_37 {X : xX} {i j : Nat} {μ : gMu} {P : gMu → gRes → Prop} (hX : xOk X) (hc : cX X μ) (hij : i < j) (hj : j ≤ X.P) (h6 : gI μ 32 6 = nI X.W) (h : P μ (.inl (some (.int (bI (xQ X i j)))))) : gCl' 37 [.ref 32, .int (nI i), .int (nI j)] μ P := by
  refine vc_37 (s_29 hX hc hij hj h6 ⟨_, rfl, s_30 hX hc hij hj ⟨_, rfl, ?_⟩⟩)
  have g1 := xN_le hX hij hj
  have g2 := xK_le hX hij hj
  have g3 := hX.W
  unfold xQ at h
  rw [dZ_ltn (by omega) (by omega) (by omega)]
  refine ⟨fun h1 => ?_, fun h1 => ?_⟩
  · rw [decide_eq_false (by omega)] at h; exact h
  · rw [decide_eq_true (by omega)] at h; exact h
theorem s_26 {b : Bool} {μ : gMu} {P : gMu → gRes → Prop} (hb : (gI μ 32 7 = -1) = (b = true)) (h : P μ (.inl (some (.int (bI b))))) : gCl' 26 [.ref 32] μ P := by
  refine vc_26 ?_
  rw [hb]
  refine ⟨fun h1 => ?_, fun h1 => ?_⟩
  · rw [show b = false by simpa using h1] at h; exact h
  · rw [h1] at h; exact h
