/-! FLOATS: what is divided is no NaN -/
theorem b64t : Jvm.FP.Core.b64.tails = 4503599627370496 := rfl
theorem b64e : Jvm.FP.Core.b64.exps = 2048 := rfl
theorem b64p : 2 ^ Jvm.FP.Core.b64.p = 9007199254740992 := rfl
theorem b64q : Jvm.FP.Core.b64.qmin = -1074 := rfl
theorem b64Q : Jvm.FP.Core.b64.qmax = 971 := rfl
theorem d64_num (n : Nat) (h : n % 9223372036854775808 ≤ 9218868437227405312) : Jvm.FP.Core.decode Jvm.FP.Core.b64 n ≠ .nan := by
  unfold Jvm.FP.Core.decode Jvm.FP.Core.fieldE Jvm.FP.Core.fieldT
  rw [b64t, b64e]
  split
  · split
    · intro h; cases h
    · exfalso; omega
  · split
    · intro h; cases h
    · intro h; cases h
theorem and63 (x : UInt64) : (x &&& 0x7fffffffffffffff).toNat = x.toNat % 9223372036854775808 := by
  rw [UInt64.toNat_and]
  exact Nat.and_two_pow_sub_one_eq_mod x.toNat 63
theorem vf64_iff (x : UInt64) : vf_n64 x ↔ x.toNat % 9223372036854775808 ≤ 9218868437227405312 := by
  unfold vf_n64
  rw [UInt64.le_iff_toNat_le, and63]
  exact Iff.rfl
theorem cmp_self (a : Int) : compare a a = .eq := by simp [compare, compareOfLessAndEq]
theorem dcmp_self {x : UInt64} (h : vf_n64 x) : FP.dcmp x x = some .eq := by
  have h2 := d64_num x.toNat ((vf64_iff x).mp h)
  show Jvm.FP.Core.order (Jvm.FP.Core.decode Jvm.FP.Core.b64 x.toNat) (Jvm.FP.Core.decode Jvm.FP.Core.b64 x.toNat) = some .eq
  generalize Jvm.FP.Core.decode Jvm.FP.Core.b64 x.toNat = d at h2 ⊢
  cases d with
  | nan => exact absurd rfl h2
  | inf s => exact congrArg some (cmp_self _)
  | fin s c q => exact congrArg some (cmp_self _)
theorem asm64 (s : Bool) {e t : Nat} (he : e ≤ 2047) (ht : t < 4503599627370496) (h : e = 2047 → t = 0) : (Jvm.FP.Core.assemble Jvm.FP.Core.b64 s e t) % 9223372036854775808 ≤ 9218868437227405312 := by
  unfold Jvm.FP.Core.assemble
  rw [b64t, b64e]
  have hs : s.toNat ≤ 1 := by cases s <;> decide
  generalize s.toNat = z at hs
  omega
theorem enc64 (s : Bool) {c : Nat} {q : Int} (hc : c < 9007199254740992) (hq : q ≤ 971) : (Jvm.FP.Core.encode Jvm.FP.Core.b64 (.fin s c q)) % 9223372036854775808 ≤ 9218868437227405312 := by
  show (if c < Jvm.FP.Core.b64.tails then Jvm.FP.Core.assemble Jvm.FP.Core.b64 s 0 c else Jvm.FP.Core.assemble Jvm.FP.Core.b64 s ((q - Jvm.FP.Core.b64.qmin).toNat + 1) (c - Jvm.FP.Core.b64.tails)) % 9223372036854775808 ≤ _
  rw [b64t, b64q]
  split
  · rename_i h
    exact asm64 s (by decide) h (by intro z; cases z)
  · exact asm64 s (by omega) (by omega) (by omega)
theorem inf64 (s : Bool) : (Jvm.FP.Core.encode Jvm.FP.Core.b64 (.inf s)) % 9223372036854775808 ≤ 9218868437227405312 := by
  show (Jvm.FP.Core.assemble Jvm.FP.Core.b64 s (Jvm.FP.Core.b64.exps - 1) 0) % _ ≤ _
  rw [b64e]
  exact asm64 s (by decide) (by decide) (fun _ => rfl)
theorem rr64 (s : Bool) (A B : Nat) (e : Int) : (Jvm.FP.Core.encode Jvm.FP.Core.b64 (Jvm.FP.Core.roundRatio Jvm.FP.Core.b64 s A B e)) % 9223372036854775808 ≤ 9218868437227405312 := by
  unfold Jvm.FP.Core.roundRatio Jvm.FP.Core.roundAt Jvm.FP.Core.settle Jvm.FP.Core.bound
  rw [b64p, b64q, b64Q, b64t]
  split
  · exact enc64 s (by decide) (by decide)
  · split
    · rename_i h1
      split
      · rename_i h2
        exact enc64 s h1 h2
      · exact inf64 s
    · split
      · rename_i h2
        exact enc64 s (by decide) h2
      · exact inf64 s
theorem of64 {n : Nat} (h : n % 9223372036854775808 ≤ 9218868437227405312) : vf_n64 (UInt64.ofNat n) := by
  rw [vf64_iff, UInt64.toNat_ofNat']
  omega
def finNZ (d : Jvm.FP.Core.Datum) : Bool := match d with | .fin _ c _ => c != 0 | _ => false
def isFin (d : Jvm.FP.Core.Datum) : Bool := match d with | .fin _ _ _ => true | _ => false
theorem ddiv64 {x y : UInt64} (hx : isFin (Jvm.FP.Core.decode Jvm.FP.Core.b64 x.toNat) = true) (hy : finNZ (Jvm.FP.Core.decode Jvm.FP.Core.b64 y.toNat) = true) : vf_n64 (FP.ddiv x y) := by
  show vf_n64 (UInt64.ofNat (Jvm.FP.Core.encode Jvm.FP.Core.b64 (Jvm.FP.Core.quotient Jvm.FP.Core.b64 (Jvm.FP.Core.decode Jvm.FP.Core.b64 x.toNat) (Jvm.FP.Core.decode Jvm.FP.Core.b64 y.toNat))))
  generalize Jvm.FP.Core.decode Jvm.FP.Core.b64 x.toNat = d at hx ⊢
  generalize Jvm.FP.Core.decode Jvm.FP.Core.b64 y.toNat = d2 at hy ⊢
  cases d with
  | nan => cases hx
  | inf s => cases hx
  | fin s c q =>
    cases d2 with
    | nan => cases hy
    | inf s => cases hy
    | fin s2 c2 q2 =>
      have h0 : c2 ≠ 0 := by
        intro z
        subst z
        cases hy
      refine of64 ?_
      show (Jvm.FP.Core.encode Jvm.FP.Core.b64 (if c2 = 0 then (if c = 0 then .nan else .inf (s != s2)) else Jvm.FP.Core.roundRatio Jvm.FP.Core.b64 (s != s2) c c2 (q - q2))) % _ ≤ _
      rw [if_neg h0]
      exact rr64 _ _ _ _
theorem c_fin : ∀ c, c < 51 → 0 < c → finNZ (Jvm.FP.Core.decode Jvm.FP.Core.b64 (FP.i2d (nI c)).toNat) = true := by decide +kernel
theorem dec_fin {n : Nat} (h : n / 4503599627370496 % 2048 ≠ 2047) : isFin (Jvm.FP.Core.decode Jvm.FP.Core.b64 n) = true := by
  unfold Jvm.FP.Core.decode Jvm.FP.Core.fieldE
  rw [b64t, b64e]
  rw [if_neg h]
  split <;> rfl
theorem encE (s : Bool) {c : Nat} {q : Int} (hc : c < 9007199254740992) (hq : q ≤ 100) : (Jvm.FP.Core.encode Jvm.FP.Core.b64 (.fin s c q)) % 18446744073709551616 / 4503599627370496 % 2048 ≠ 2047 := by
  show (if c < Jvm.FP.Core.b64.tails then Jvm.FP.Core.assemble Jvm.FP.Core.b64 s 0 c else Jvm.FP.Core.assemble Jvm.FP.Core.b64 s ((q - Jvm.FP.Core.b64.qmin).toNat + 1) (c - Jvm.FP.Core.b64.tails)) % 18446744073709551616 / 4503599627370496 % 2048 ≠ 2047
  have hs : s.toNat ≤ 1 := by cases s <;> decide
  unfold Jvm.FP.Core.assemble
  rw [b64t, b64q, b64e]
  generalize s.toNat = z at hs
  split <;> omega
theorem s_fin {s : Nat} (h : s < 1048576) : isFin (Jvm.FP.Core.decode Jvm.FP.Core.b64 (FP.i2d (nI s)).toNat) = true := by
  have e : FP.i2d (nI s) = UInt64.ofNat (Jvm.FP.Core.encode Jvm.FP.Core.b64 (Jvm.FP.Core.roundRatio Jvm.FP.Core.b64 false s 1 0)) := by
    show UInt64.ofNat (Jvm.FP.Core.encode Jvm.FP.Core.b64 (Jvm.FP.Core.roundRatio Jvm.FP.Core.b64 (decide ((nI s).toInt < 0)) (nI s).toInt.natAbs 1 0)) = _
    rw [nI_toInt (by omega), Int.natAbs_natCast, decide_eq_false (by omega)]
  rw [e, UInt64.toNat_ofNat']
  refine dec_fin ?_
  unfold Jvm.FP.Core.roundRatio Jvm.FP.Core.roundAt Jvm.FP.Core.settle Jvm.FP.Core.bound
  by_cases h0 : s = 0
  · rw [if_pos h0]
    exact encE false (by decide) (by decide)
  · rw [if_neg h0]
    have hq : Jvm.FP.Core.quantum Jvm.FP.Core.b64 s 1 0 ≤ 0 := by
      have hl : s.log2 < 20 := (Nat.log2_lt h0).mpr h
      have h1 : (1 : Nat).log2 = 0 := by decide
      have h2 : Jvm.FP.Core.leading s 1 ≤ (s.log2 : Int) := by
        unfold Jvm.FP.Core.leading
        dsimp only
        rw [h1]
        split <;> omega
      unfold Jvm.FP.Core.quantum
      rw [b64q]
      have hp : (Jvm.FP.Core.b64.p : Int) = 53 := rfl
      rw [hp]
      omega
    generalize Jvm.FP.Core.quantum Jvm.FP.Core.b64 s 1 0 = q at hq ⊢
    rw [b64p, b64Q, b64t]
    split
    · rename_i h1
      rw [if_pos (by omega)]
      exact encE false h1 (by omega)
    · rw [if_pos (by omega)]
      exact encE false (by decide) (by omega)
theorem mean_ok {s c : Nat} (hs : s < 1048576) (hc : c < 51) (h0 : 0 < c) : vf_n64 (FP.ddiv (FP.i2d (nI s)) (FP.i2d (nI c))) := ddiv64 (s_fin hs) (c_fin c hc h0)
theorem l2d_i {s : Nat} (hs : s < 1048576) : FP.l2d (lN s) = FP.i2d (nI s) := by
  show UInt64.ofNat (Jvm.FP.Core.fromInt Jvm.FP.Core.b64 (lN s).toInt) = UInt64.ofNat (Jvm.FP.Core.fromInt Jvm.FP.Core.b64 (nI s).toInt)
  rw [lN_toInt (by omega), nI_toInt (by omega)]
theorem share_all : ∀ h, h < 51 → ∀ c, c < 51 → 0 < c → (FP.fdiv (FP.i2f (nI h)) (FP.i2f (nI c))) &&& 0x7fffffff ≤ 0x7f800000 ∧ (FP.f2d (FP.fdiv (FP.i2f (nI h)) (FP.i2f (nI c)))) &&& 0x7fffffffffffffff ≤ 0x7ff0000000000000 := by decide +kernel
theorem share_ok {h c : Nat} (hh : h < 51) (hc : c < 51) (h0 : 0 < c) : vf_n32 (FP.fdiv (FP.i2f (nI h)) (FP.i2f (nI c))) ∧ vf_n64 (FP.f2d (FP.fdiv (FP.i2f (nI h)) (FP.i2f (nI c)))) := share_all h hh c hc h0
set_option maxRecDepth 20000 in
theorem vc_148c {μ : gMu} {x1 : Int32} {x2 : Int32} {x3 : Int32} {P : gMu → gRes → Prop} (h : ((x1 ≤ x3) → ((vf_n32 (FP.fdiv (FP.i2f x2) (FP.i2f x1))) ∧ (P μ (.inl (some (.float (FP.fdiv (FP.i2f x2) (FP.i2f x1)))))))) ∧ ((¬ x1 ≤ x3) → ((vp_in (x3 + (1 : Int32)) 51) ∧ (gCl' 33 [.ref 29, .int (gI μ 37 ((x3 + (1 : Int32)).toNatClampNeg))] μ (fun μ1 r => (∃ v2, r = .inl (some (.int v2)) ∧ (((v2 = 0) → (gWp none 148 (13, [some (.ref 0), some (.int x1), some (.int x2), some (.int (x3 + (1 : Int32)))], [], μ1) 2 P)) ∧ ((¬ v2 = 0) → (gWp none 148 (13, [some (.ref 0), some (.int x1), some (.int (x2 + (1 : Int32))), some (.int (x3 + (1 : Int32)))], [], μ1) 2 P))))))))) : gWp none 148 (13, [some (.ref 0), some (.int x1), some (.int x2), some (.int x3)], [], μ) 2 P := by
  refine gWp_sts gT_148 2 (f' := (15, [some (.ref 0), some (.int x1), some (.int x2), some (.int x3)], [.int x1, .int x3], μ)) (cs := []) rfl trivial ?_
  refine gWp_icmp gT_148 (pc := 15) rfl ⟨fun c => ?_, fun c => ?_⟩
  · replace h := h.1 (of_decide_eq_true c)
    obtain ⟨c1, h⟩ := h
    refine gWp_sts gT_148 5 (f' := (53, [some (.ref 0), some (.int x1), some (.int x2), some (.int x3)], [.float (FP.fdiv (FP.i2f x2) (FP.i2f x1))], μ)) (cs := [vf_n32 (FP.fdiv (FP.i2f x2) (FP.i2f x1))]) rfl c1 ?_
    exact gWp_end gT_148 rfl rfl h
  · replace h := h.2 (fun q => c (decide_eq_true q))
    obtain ⟨c1, h⟩ := h
    refine gWp_sts gT_148 9 (f' := (33, [some (.ref 0), some (.int x1), some (.int x2), some (.int x3)], [.int (gI μ 37 ((x3 + (1 : Int32)).toNatClampNeg)), .ref 29], μ)) (cs := [vp_in (x3 + (1 : Int32)) 51]) rfl c1 ?_
    refine gWp_virt gT_148 (pc := 33) (q := 29) (as := [.ref 29, .int (gI μ 37 ((x3 + (1 : Int32)).toNatClampNeg))]) (rest := []) rfl rfl rfl rfl rfl rfl ⟨by decide, Nat.le_of_ble_eq_true rfl, by decide, Nat.le_of_ble_eq_true rfl⟩ (gWp_imp h (fun μ1 r h => ?_))
    obtain ⟨v2, rfl, h⟩ := h
    refine Or.inl ⟨_, rfl, ?_⟩
    show gWp none 148 (36, [some (.ref 0), some (.int x1), some (.int x2), some (.int x3)], [.int v2], μ1) _ P
    refine gWp_if gT_148 (pc := 36) rfl ⟨fun c => ?_, fun c => ?_⟩
    · replace h := h.1 (of_decide_eq_true c)
      refine gWp_sts gT_148 2 (f' := (13, [some (.ref 0), some (.int x1), some (.int x2), some (.int (x3 + (1 : Int32)))], [], μ1)) (cs := []) rfl trivial ?_
      exact h
    · replace h := h.2 (fun q => c (decide_eq_true q))
      refine gWp_sts gT_148 3 (f' := (13, [some (.ref 0), some (.int x1), some (.int (x2 + (1 : Int32))), some (.int (x3 + (1 : Int32)))], [], μ1)) (cs := []) rfl trivial ?_
      exact h
set_option maxRecDepth 20000 in
theorem vc_150c {μ : gMu} {x1 : Int32} {x2 : Int32} {x3 : Int32} {P : gMu → gRes → Prop} (h : ((x1 ≤ x3) → ((vf_n64 (FP.ddiv (FP.i2d x2) (FP.i2d x1))) ∧ (P μ (.inl (some (.double (FP.ddiv (FP.i2d x2) (FP.i2d x1)))))))) ∧ ((¬ x1 ≤ x3) → ((vp_in x3 51) ∧ ((vp_in (x3 + (1 : Int32)) 51) ∧ (gCl' 31 [.ref 32, .int (gI μ 37 x3.toNatClampNeg), .int (gI μ 37 ((x3 + (1 : Int32)).toNatClampNeg))] μ (fun μ1 r => (∃ v2, r = .inl (some (.int v2)) ∧ (gWp none 150 (13, [some (.ref 0), some (.int x1), some (.int (x2 + v2)), some (.int (x3 + (1 : Int32)))], [], μ1) 2 P)))))))) : gWp none 150 (13, [some (.ref 0), some (.int x1), some (.int x2), some (.int x3)], [], μ) 2 P := by
  refine gWp_sts gT_150 2 (f' := (15, [some (.ref 0), some (.int x1), some (.int x2), some (.int x3)], [.int x1, .int x3], μ)) (cs := []) rfl trivial ?_
  refine gWp_icmp gT_150 (pc := 15) rfl ⟨fun c => ?_, fun c => ?_⟩
  · replace h := h.1 (of_decide_eq_true c)
    obtain ⟨c1, h⟩ := h
    refine gWp_sts gT_150 5 (f' := (59, [some (.ref 0), some (.int x1), some (.int x2), some (.int x3)], [.double (FP.ddiv (FP.i2d x2) (FP.i2d x1))], μ)) (cs := [vf_n64 (FP.ddiv (FP.i2d x2) (FP.i2d x1))]) rfl c1 ?_
    exact gWp_end gT_150 rfl rfl h
  · replace h := h.2 (fun q => c (decide_eq_true q))
    obtain ⟨c1, c2, h⟩ := h
    refine gWp_sts gT_150 15 (f' := (43, [some (.ref 0), some (.int x1), some (.int x2), some (.int x3)], [.int (gI μ 37 ((x3 + (1 : Int32)).toNatClampNeg)), .int (gI μ 37 x3.toNatClampNeg), .ref 32, .int x2], μ)) (cs := [vp_in x3 51, vp_in (x3 + (1 : Int32)) 51]) rfl ⟨c1, c2⟩ ?_
    refine gWp_virt gT_150 (pc := 43) (q := 32) (as := [.ref 32, .int (gI μ 37 x3.toNatClampNeg), .int (gI μ 37 ((x3 + (1 : Int32)).toNatClampNeg))]) (rest := [.int x2]) rfl rfl rfl rfl rfl rfl ⟨by decide, Nat.le_of_ble_eq_true rfl, by decide, Nat.le_of_ble_eq_true rfl⟩ (gWp_imp h (fun μ1 r h => ?_))
    obtain ⟨v2, rfl, h⟩ := h
    refine Or.inl ⟨_, rfl, ?_⟩
    show gWp none 150 (46, [some (.ref 0), some (.int x1), some (.int x2), some (.int x3)], [.int v2, .int x2], μ1) _ P
    refine gWp_sts gT_150 4 (f' := (13, [some (.ref 0), some (.int x1), some (.int (x2 + v2)), some (.int (x3 + (1 : Int32)))], [], μ1)) (cs := []) rfl trivial ?_
    exact h
