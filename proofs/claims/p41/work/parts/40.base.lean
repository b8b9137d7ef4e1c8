/-! PURE PART: small facts of numbers and memories -/
theorem gCl'_imp {k : Nat} {as : List Value} {μ : gMu} {P P' : gMu → gRes → Prop} (h : gCl' k as μ P) (hp : ∀ μ x, P μ x → P' μ x) : gCl' k as μ P' := gWp_imp h hp
def bI (b : Bool) : Int32 := if b then 1 else 0
theorem bI_0 (b : Bool) : (bI b = 0) = (b = false) := by cases b <;> simp [bI]
theorem bI_1 (b : Bool) : (bI b = 1) = (b = true) := by cases b <;> simp [bI]
theorem nI_lit (n : Nat) : (OfNat.ofNat n : Int32) = nI n := rfl
theorem nE_l {a n : Nat} (ha : a < 2 ^ 31) (hn : (OfNat.ofNat n : Nat) < 2 ^ 31) : (nI a = (no_index (OfNat.ofNat n) : Int32)) = (a = (OfNat.ofNat n : Nat)) := propext (nI_eq ha hn)
theorem nE_r {a n : Nat} (ha : a < 2 ^ 31) (hn : (OfNat.ofNat n : Nat) < 2 ^ 31) : ((no_index (OfNat.ofNat n) : Int32) = nI a) = ((OfNat.ofNat n : Nat) = a) := propext (nI_eq hn ha)
theorem nE_n {a b : Nat} (ha : a < 2 ^ 31) (hb : b < 2 ^ 31) : (nI a = nI b) = (a = b) := propext (nI_eq ha hb)
theorem nLe_l {a n : Nat} (ha : a < 2 ^ 31) (hn : (OfNat.ofNat n : Nat) < 2 ^ 31) : (nI a ≤ (no_index (OfNat.ofNat n) : Int32)) = (a ≤ (OfNat.ofNat n : Nat)) := propext (nI_leI ha hn)
theorem nLe_r {a n : Nat} (ha : a < 2 ^ 31) (hn : (OfNat.ofNat n : Nat) < 2 ^ 31) : ((no_index (OfNat.ofNat n) : Int32) ≤ nI a) = ((OfNat.ofNat n : Nat) ≤ a) := propext (nI_leI hn ha)
theorem nLe_n {a b : Nat} (ha : a < 2 ^ 31) (hb : b < 2 ^ 31) : (nI a ≤ nI b) = (a ≤ b) := propext (nI_leI ha hb)
theorem nLt_l {a n : Nat} (ha : a < 2 ^ 31) (hn : (OfNat.ofNat n : Nat) < 2 ^ 31) : (nI a < (no_index (OfNat.ofNat n) : Int32)) = (a < (OfNat.ofNat n : Nat)) := propext (nI_ltI ha hn)
theorem nLt_r {a n : Nat} (ha : a < 2 ^ 31) (hn : (OfNat.ofNat n : Nat) < 2 ^ 31) : ((no_index (OfNat.ofNat n) : Int32) < nI a) = ((OfNat.ofNat n : Nat) < a) := propext (nI_ltI hn ha)
theorem nLt_n {a b : Nat} (ha : a < 2 ^ 31) (hb : b < 2 ^ 31) : (nI a < nI b) = (a < b) := propext (nI_ltI ha hb)
theorem nA_l (a n : Nat) : nI a + (no_index (OfNat.ofNat n) : Int32) = nI (a + (OfNat.ofNat n : Nat)) := nI_add a n
theorem nA_r (a n : Nat) : (no_index (OfNat.ofNat n) : Int32) + nI a = nI ((OfNat.ofNat n : Nat) + a) := nI_add n a
theorem nS_n {a b : Nat} (h : b ≤ a) : nI a - nI b = nI (a - b) := by
  obtain ⟨c, rfl⟩ := Nat.le.dest h
  rw [Nat.add_sub_cancel_left, ← nI_add, Int32.add_comm, Int32.add_sub_cancel]
theorem nS_l {a n : Nat} (h : (OfNat.ofNat n : Nat) ≤ a) : nI a - (no_index (OfNat.ofNat n) : Int32) = nI (a - (OfNat.ofNat n : Nat)) := nS_n h
theorem nIn {a N : Nat} (h : a < N) (hN : N < 2 ^ 31) : vp_in (nI a) N = True := eq_true (vp_in_nI h hN)
theorem gI_I (μ : gMu) (q j q' j' : Nat) (v : Int32) : gI (gsI μ q j v) q' j' = if q' = q ∧ j' = j then v else gI μ q' j' := by
  unfold gI gsI va_up upd
  by_cases h : q' = q
  · subst h
    by_cases h2 : j' = j <;> simp [h2]
  · simp [h]
theorem gI_J (μ : gMu) (q j q' j' : Nat) (v : Int64) : gI (gsJ μ q j v) q' j' = gI μ q' j' := rfl
theorem gI_D (μ : gMu) (q j q' j' : Nat) (v : UInt64) : gI (gsD μ q j v) q' j' = gI μ q' j' := rfl
theorem gJ_J (μ : gMu) (q j q' j' : Nat) (v : Int64) : gJ (gsJ μ q j v) q' j' = if q' = q ∧ j' = j then v else gJ μ q' j' := by
  unfold gJ gsJ va_up vp_updL
  by_cases h : q' = q
  · subst h
    by_cases h2 : j' = j <;> simp [h2]
  · simp [h]
theorem gJ_I (μ : gMu) (q j q' j' : Nat) (v : Int32) : gJ (gsI μ q j v) q' j' = gJ μ q' j' := rfl
theorem gJ_D (μ : gMu) (q j q' j' : Nat) (v : UInt64) : gJ (gsD μ q j v) q' j' = gJ μ q' j' := rfl
theorem gD_D (μ : gMu) (q j q' j' : Nat) (v : UInt64) : gD (gsD μ q j v) q' j' = if q' = q ∧ j' = j then v else gD μ q' j' := by
  unfold gD gsD va_up vf_upd
  by_cases h : q' = q
  · subst h
    by_cases h2 : j' = j <;> simp [h2]
  · simp [h]
theorem gD_I (μ : gMu) (q j q' j' : Nat) (v : Int32) : gD (gsI μ q j v) q' j' = gD μ q' j' := rfl
theorem gD_J (μ : gMu) (q j q' j' : Nat) (v : Int64) : gD (gsJ μ q j v) q' j' = gD μ q' j' := rfl
def mxN (a b : Nat) : Nat := if a < b then b else a
def mnN (a b : Nat) : Nat := if a < b then a else b
theorem nMax {a b : Nat} [Decidable (a < b)] : (if a < b then nI b else nI a) = nI (mxN a b) := by
  unfold mxN
  by_cases h : a < b
  · rw [if_pos h, if_pos h]
  · rw [if_neg h, if_neg h]
theorem nMin {a b : Nat} [Decidable (a < b)] : (if a < b then nI a else nI b) = nI (mnN a b) := by
  unfold mnN
  by_cases h : a < b
  · rw [if_pos h, if_pos h]
  · rw [if_neg h, if_neg h]
/-- two memories that differ in these cells alone -/
def gSm (A : List Nat) (μ μ' : gMu) : Prop := ∀ a, a ∉ A → μ'.1 a = μ.1 a ∧ μ'.2.1 a = μ.2.1 a ∧ μ'.2.2 a = μ.2.2 a
theorem gSm.rf (A : List Nat) (μ : gMu) : gSm A μ μ := fun _ _ => ⟨rfl, rfl, rfl⟩
theorem gSm.tr {A : List Nat} {μ μ' μ'' : gMu} (h : gSm A μ μ') (h' : gSm A μ' μ'') : gSm A μ μ'' := fun a ha => ⟨(h' a ha).1.trans (h a ha).1, (h' a ha).2.1.trans (h a ha).2.1, (h' a ha).2.2.trans (h a ha).2.2⟩
theorem gSm.up {A B : List Nat} {μ μ' : gMu} (h : gSm A μ μ') (hAB : ∀ a ∈ A, a ∈ B) : gSm B μ μ' := fun a ha => h a (fun x => ha (hAB a x))
theorem gSm.i {A : List Nat} {μ μ' : gMu} (h : gSm A μ μ') (q j : Nat) (v : Int32) (hq : q ∈ A) : gSm A μ (gsI μ' q j v) := by
  intro a ha
  have hne : a ≠ q := fun e => ha (e ▸ hq)
  obtain ⟨h1, h2, h3⟩ := gsI_off (μ := μ') (q := q) (j := j) (v := v) hne
  exact ⟨h1.trans (h a ha).1, h2.trans (h a ha).2.1, h3.trans (h a ha).2.2⟩
theorem gSm.j {A : List Nat} {μ μ' : gMu} (h : gSm A μ μ') (q j : Nat) (v : Int64) (hq : q ∈ A) : gSm A μ (gsJ μ' q j v) := by
  intro a ha
  have hne : a ≠ q := fun e => ha (e ▸ hq)
  obtain ⟨h1, h2, h3⟩ := gsJ_off (μ := μ') (q := q) (j := j) (v := v) hne
  exact ⟨h1.trans (h a ha).1, h2.trans (h a ha).2.1, h3.trans (h a ha).2.2⟩
theorem gSm.I {A : List Nat} {μ μ' : gMu} (h : gSm A μ μ') {a : Nat} (ha : a ∉ A) (j : Nat) : gI μ' a j = gI μ a j := by unfold gI; rw [(h a ha).1]
theorem gSm.J {A : List Nat} {μ μ' : gMu} (h : gSm A μ μ') {a : Nat} (ha : a ∉ A) (j : Nat) : gJ μ' a j = gJ μ a j := by unfold gJ; rw [(h a ha).2.1]
/-! kinds of characters, by their codes -/
def isMk (a : Nat) : Bool := a == 91 || a == 123 || a == 125
def isLf (a : Nat) : Bool := decide (97 ≤ a ∧ a ≤ 122)
def isRt (a : Nat) : Bool := decide (65 ≤ a ∧ a ≤ 90)
def isLt (a : Nat) : Bool := isLf a || isRt a
def isDg (a : Nat) : Bool := decide (48 ≤ a ∧ a ≤ 57)
def isNe (a : Nat) : Bool := a == 32 || a == 45 || a == 44 || a == 46
def isSh (a : Nat) : Bool := isLt a || isDg a || isNe a
def isOd (a : Nat) : Bool := a % 2 == 1
def scOf (a : Nat) : Nat := if isRt a then 2 else if a ≤ 109 then 0 else 1
theorem nAnd1 {a : Nat} (ha : a < 2 ^ 31) : ((nI a &&& 1) = 1) = (isOd a = true) := by
  have h : nI a &&& 1 = nI (a % 2) := by
    apply Int32.toBitVec_inj.mp
    show BitVec.ofNat 32 a &&& 1#32 = BitVec.ofNat 32 (a % 2)
    have e1 : (BitVec.ofNat 32 a &&& 1#32).toNat = a % 2 := by
      rw [BitVec.toNat_and, BitVec.toNat_ofNat]
      show a % 2 ^ 32 &&& 1 = _
      rw [Nat.and_one_is_mod]
      omega
    have e2 : (BitVec.ofNat 32 (a % 2)).toNat = a % 2 := by
      rw [BitVec.toNat_ofNat]
      omega
    exact BitVec.eq_of_toNat_eq (e1.trans e2.symm)
  rw [h, show (1 : Int32) = nI 1 from rfl, nE_n (by omega) (by decide)]
  unfold isOd
  simp
/-! the class's small questions -/
theorem s_3 {a : Nat} {μ : gMu} {P : gMu → gRes → Prop} (ha : a < 2 ^ 31) (h : P μ (.inl (some (.int (bI (isMk a)))))) : gCl' 3 [.int (nI a)] μ P := by
  refine vc_3 ?_
  simp (disch := first | omega | decide) only [nE_l, nE_r, nE_n, nLe_l, nLe_r, nLe_n, nLt_l, nLt_r, nLt_n, nA_l, nA_r, nI_add, nS_l, nS_n, nIn, nI_clamp, gI_I, gI_J, gI_D, gJ_J, gJ_I, gJ_D, true_and, and_true, false_and, and_false, if_true, if_false, false_implies, true_implies, not_true_eq_false, not_false_eq_true, bI_0, bI_1, Nat.reduceEqDiff, eq_self, nMax, nMin]
  refine ⟨fun h1 => ?_, fun h1 => ⟨fun h2 => ?_, fun h2 => ⟨fun h3 => ?_, fun h3 => ?_⟩⟩⟩ <;> (first | subst h1 | skip) <;> (first | subst h2 | skip) <;> (first | subst h3 | skip) <;> first | exact h | (rw [show isMk a = false by simp [isMk, *]] at h; exact h)
theorem s_13 {a : Nat} {μ : gMu} {P : gMu → gRes → Prop} (ha : a < 2 ^ 31) (h : P μ (.inl (some (.int (bI (isOd a)))))) : gCl' 13 [.int (nI a)] μ P := by
  refine vc_13 ?_
  rw [nAnd1 ha]
  refine ⟨fun h1 => ?_, fun h1 => ?_⟩
  · rw [Bool.not_eq_true] at h1
    rw [h1] at h
    exact h
  · rw [h1] at h
    exact h
theorem s_19 {a : Nat} {μ : gMu} {P : gMu → gRes → Prop} (ha : a < 2 ^ 31) (h : P μ (.inl (some (.int (bI (isDg a)))))) : gCl' 19 [.int (nI a)] μ P := by
  refine vc_19 ?_
  simp (disch := first | omega | decide) only [nE_l, nE_r, nE_n, nLe_l, nLe_r, nLe_n, nLt_l, nLt_r, nLt_n, nA_l, nA_r, nI_add, nS_l, nS_n, nIn, nI_clamp, gI_I, gI_J, gI_D, gJ_J, gJ_I, gJ_D, true_and, and_true, false_and, and_false, if_true, if_false, false_implies, true_implies, not_true_eq_false, not_false_eq_true, bI_0, bI_1, Nat.reduceEqDiff, eq_self, nMax, nMin]
  unfold isDg at h
  refine ⟨fun h1 => ?_, fun h1 => ⟨fun h2 => ?_, fun h2 => ?_⟩⟩
  · rw [decide_eq_false (by omega)] at h; exact h
  · rw [decide_eq_false (by omega)] at h; exact h
  · rw [decide_eq_true (by omega)] at h; exact h
theorem s_20 {a : Nat} {μ : gMu} {P : gMu → gRes → Prop} (ha : a < 2 ^ 31) (h : P μ (.inl (some (.int (bI (isLf a)))))) : gCl' 20 [.int (nI a)] μ P := by
  refine vc_20 ?_
  simp (disch := first | omega | decide) only [nE_l, nE_r, nE_n, nLe_l, nLe_r, nLe_n, nLt_l, nLt_r, nLt_n, nA_l, nA_r, nI_add, nS_l, nS_n, nIn, nI_clamp, gI_I, gI_J, gI_D, gJ_J, gJ_I, gJ_D, true_and, and_true, false_and, and_false, if_true, if_false, false_implies, true_implies, not_true_eq_false, not_false_eq_true, bI_0, bI_1, Nat.reduceEqDiff, eq_self, nMax, nMin]
  unfold isLf at h
  refine ⟨fun h1 => ?_, fun h1 => ⟨fun h2 => ?_, fun h2 => ?_⟩⟩
  · rw [decide_eq_false (by omega)] at h; exact h
  · rw [decide_eq_false (by omega)] at h; exact h
  · rw [decide_eq_true (by omega)] at h; exact h
theorem s_21 {a : Nat} {μ : gMu} {P : gMu → gRes → Prop} (ha : a < 2 ^ 31) (h : P μ (.inl (some (.int (bI (isRt a)))))) : gCl' 21 [.int (nI a)] μ P := by
  refine vc_21 ?_
  simp (disch := first | omega | decide) only [nE_l, nE_r, nE_n, nLe_l, nLe_r, nLe_n, nLt_l, nLt_r, nLt_n, nA_l, nA_r, nI_add, nS_l, nS_n, nIn, nI_clamp, gI_I, gI_J, gI_D, gJ_J, gJ_I, gJ_D, true_and, and_true, false_and, and_false, if_true, if_false, false_implies, true_implies, not_true_eq_false, not_false_eq_true, bI_0, bI_1, Nat.reduceEqDiff, eq_self, nMax, nMin]
  unfold isRt at h
  refine ⟨fun h1 => ?_, fun h1 => ⟨fun h2 => ?_, fun h2 => ?_⟩⟩
  · rw [decide_eq_false (by omega)] at h; exact h
  · rw [decide_eq_false (by omega)] at h; exact h
  · rw [decide_eq_true (by omega)] at h; exact h
theorem s_22 {a : Nat} {μ : gMu} {P : gMu → gRes → Prop} (ha : a < 2 ^ 31) (h : P μ (.inl (some (.int (bI (isLt a)))))) : gCl' 22 [.int (nI a)] μ P := by
  refine vc_22 (s_20 ha ⟨_, rfl, ?_⟩)
  rw [bI_0]
  unfold isLt at h
  refine ⟨fun h1 => ?_, fun h1 => s_21 ha ⟨_, rfl, ?_⟩⟩
  · rw [Bool.not_eq_false] at h1
    rw [h1] at h
    exact h
  · rw [h1, Bool.false_or] at h
    rw [bI_0]
    refine ⟨fun h2 => ?_, fun h2 => ?_⟩
    · rw [h2] at h; exact h
    · rw [Bool.not_eq_false] at h2
      rw [h2] at h; exact h
theorem s_14 {a : Nat} {μ : gMu} {P : gMu → gRes → Prop} (ha : a < 2 ^ 31) (h : P μ (.inl (some (.int (bI (isOd a)))))) : gCl' 14 [.int (nI a)] μ P := by
  refine vc_14 (s_13 ha ⟨_, rfl, ?_⟩)
  rw [bI_0]
  refine ⟨fun h2 => ?_, fun h2 => ?_⟩
  · rw [h2] at h; exact h
  · rw [Bool.not_eq_false] at h2
    rw [h2] at h; exact h
theorem s_16 {a : Nat} {μ : gMu} {P : gMu → gRes → Prop} (ha : a < 2 ^ 31) (h : P μ (.inl (some (.int (bI (a != 0)))))) : gCl' 16 [.int (nI a)] μ P := by
  refine vc_16 ?_
  simp (disch := first | omega | decide) only [nE_l, nE_r, nE_n, nLe_l, nLe_r, nLe_n, nLt_l, nLt_r, nLt_n, nA_l, nA_r, nI_add, nS_l, nS_n, nIn, nI_clamp, gI_I, gI_J, gI_D, gJ_J, gJ_I, gJ_D, true_and, and_true, false_and, and_false, if_true, if_false, false_implies, true_implies, not_true_eq_false, not_false_eq_true, bI_0, bI_1, Nat.reduceEqDiff, eq_self, nMax, nMin]
  refine ⟨fun h1 => ?_, fun h1 => ?_⟩
  · rw [show (a != 0) = true by simp [h1]] at h; exact h
  · rw [show (a != 0) = false by simp [h1]] at h; exact h
/-- the level inside: right for '{' -/
def lvIn (o : Nat) (r : Bool) : Nat := if isOd (o + 1) = r then o + 1 else o + 2
theorem s_59 {a : Nat} {r : Bool} {μ : gMu} {P : gMu → gRes → Prop} (ha : a < 1000) (h : P μ (.inl (some (.int (nI (lvIn a r)))))) : gCl' 59 [.int (nI a), .int (bI r)] μ P := by
  refine vc_59 ?_
  rw [nA_l]
  refine s_13 (by omega) ⟨_, rfl, ?_⟩
  have e : (bI (isOd (a + 1)) = bI r) = (isOd (a + 1) = r) := by cases isOd (a + 1) <;> cases r <;> simp [bI]
  rw [e]
  simp (disch := first | omega | decide) only [nE_l, nE_r, nE_n, nLe_l, nLe_r, nLe_n, nLt_l, nLt_r, nLt_n, nA_l, nA_r, nI_add, nS_l, nS_n, nIn, nI_clamp, gI_I, gI_J, gI_D, gJ_J, gJ_I, gJ_D, true_and, and_true, false_and, and_false, if_true, if_false, false_implies, true_implies, not_true_eq_false, not_false_eq_true, bI_0, bI_1, Nat.reduceEqDiff, eq_self, nMax, nMin]
  unfold lvIn at h
  refine ⟨fun h1 => ?_, fun h1 => ?_⟩
  · rw [if_neg h1] at h; exact h
  · rw [if_pos h1] at h; exact h
