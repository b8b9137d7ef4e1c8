/-! LEVELS: what they are, and how the class finds them -/
def dirL (a : Nat) : Nat := if isLf a = true then 0 else 1
def tLast (sg : Nat → Nat) (s first : Nat) : Nat → Nat
  | 0 => first
  | i + 1 => if isLt (sg (s + i)) = true then dirL (sg (s + i)) else tLast sg s first i
def tK0 (sg : Nat → Nat) (s first k : Nat) : Nat := if isLt (sg k) = true then dirL (sg k) else if isDg (sg k) = true then (if tLast sg s first (k - s) = 0 then 0 else 2) else 3
def sdK (x : Nat) : Nat := if x = 0 then 0 else 1
def tAh (f : Nat → Nat) (s first : Nat) : Nat → Nat
  | 0 => first
  | i + 1 => if f (s + i) = 3 then tAh f s first i else sdK (f (s + i))
def tBh (f : Nat → Nat) (e last : Nat) : Nat → Nat
  | 0 => last
  | r + 1 => if f (e - (r + 1)) = 3 then tBh f e last r else sdK (f (e - (r + 1)))
def tKd (f : Nat → Nat) (s e first last d k : Nat) : Nat := if f k = 3 then (if tAh f s first (k - s) = tBh f e last (e - k) then tAh f s first (k - s) else d) else f k
def tLvK (e x : Nat) : Nat := if isOd e = true then (if x = 1 then e else e + 1) else (if x = 0 then e else if x = 1 then e + 1 else e + 2)
def gAs (μ : gMu) (q s e : Nat) (f : Nat → Nat) : Prop := ∀ k, s ≤ k → k < e → gI μ q k = nI (f k)
theorem gAs.skip {μ : gMu} {q s e q' i : Nat} {f : Nat → Nat} {v : Int32} (hq : q ≠ q') (h : gAs μ q s e f) : gAs (gsI μ q' i v) q s e f := fun j h1 h2 => by
  rw [gI_I, if_neg (fun x => hq x.1)]
  exact h j h1 h2
theorem gAs.push {μ : gMu} {q s m : Nat} {f : Nat → Nat} {v : Nat} (h : gAs μ q s m f) (hv : v = f m) : gAs (gsI μ q m (nI v)) q s (m + 1) f := fun j h1 h2 => by
  rw [gI_I]
  by_cases e : j = m
  · rw [if_pos ⟨rfl, e⟩, e, hv]
  · rw [if_neg (fun x => e x.2)]
    exact h j h1 (by omega)
theorem gAs.pop {μ : gMu} {q s m e : Nat} {f : Nat → Nat} {v : Int32} (hs : m < s) (h : gAs μ q s e f) : gAs (gsI μ q m v) q s e f := fun j h1 h2 => by
  rw [gI_I, if_neg (fun x => by omega)]
  exact h j h1 h2
theorem gAs.sub {μ : gMu} {q s e s' e' : Nat} {f : Nat → Nat} (h : gAs μ q s e f) (h1 : s ≤ s') (h2 : e' ≤ e) : gAs μ q s' e' f := fun j h3 h4 => h j (by omega) (by omega)
theorem gAs.sm {A : List Nat} {μ μ' : gMu} {q s e : Nat} {f : Nat → Nat} (h : gAs μ q s e f) (hs : gSm A μ μ') (hq : q ∉ A) : gAs μ' q s e f := fun j h1 h2 => by rw [hs.I hq, h j h1 h2]
theorem dirL_le (a : Nat) : dirL a ≤ 1 := by unfold dirL; split <;> omega
theorem tLast_le {sg : Nat → Nat} {s first : Nat} (hf : first ≤ 1) : ∀ i, tLast sg s first i ≤ 1
  | 0 => hf
  | i + 1 => by
    unfold tLast
    split
    · exact dirL_le _
    · exact tLast_le hf i
theorem tK0_le (sg : Nat → Nat) (s first k : Nat) : tK0 sg s first k ≤ 3 := by
  unfold tK0
  have := dirL_le (sg k)
  split
  · omega
  · split
    · split <;> omega
    · omega
theorem sdK_le (x : Nat) : sdK x ≤ 1 := by unfold sdK; split <;> omega
theorem tAh_le {f : Nat → Nat} {s first : Nat} (hf : first ≤ 1) : ∀ i, tAh f s first i ≤ 1
  | 0 => hf
  | i + 1 => by
    unfold tAh
    split
    · exact tAh_le hf i
    · exact sdK_le _
theorem tKd_le {f : Nat → Nat} {s e first last d k : Nat} (hf : first ≤ 1) (hd : d ≤ 1) (h3 : f k ≤ 3) : tKd f s e first last d k ≤ 2 := by
  unfold tKd
  split
  · split
    · have := tAh_le (f := f) (s := s) hf (k - s); omega
    · omega
  · omega
theorem tLvK_le (e x : Nat) : tLvK e x ≤ e + 2 := by
  unfold tLvK
  split
  · split <;> omega
  · split
    · omega
    · split <;> omega
theorem tLast_succ {sg : Nat → Nat} {s first k : Nat} (h : s ≤ k) : tLast sg s first (k + 1 - s) = if isLt (sg k) = true then dirL (sg k) else tLast sg s first (k - s) := by
  have e : k + 1 - s = (k - s) + 1 := by omega
  rw [e]
  show (if isLt (sg (s + (k - s))) = true then dirL (sg (s + (k - s))) else _) = _
  rw [show s + (k - s) = k by omega]
theorem s_23 {sg : Nat → Nat} {M s e first : Nat} {μ : gMu} {P : gMu → gRes → Prop} (hM : M ≤ 50) (hsg : gAr μ 12 M sg) (hb : ∀ k, k < M → sg k < 128) (hse : s ≤ e) (he : e ≤ M) (hf : first ≤ 1) (h : ∀ μ', gSm [16] μ μ' → gAs μ' 16 s e (tK0 sg s first) → P μ' (.inl none)) : gCl' 23 [.ref 15, .int (nI s), .int (nI e), .int (nI first)] μ P := by
  have loop : ∀ r k μ', k + r = e → s ≤ k → gSm [16] μ μ' → gAs μ' 16 s k (tK0 sg s first) → gWp none 23 (6, [some (.ref 15), some (.int (nI s)), some (.int (nI e)), some (.int (nI first)), some (.int (nI (tLast sg s first (k - s)))), some (.int (nI k)), none], [], μ') 0 P := by
    intro r
    induction r with
    | zero =>
      intro k μ' hr hk hs hc
      have hke : k = e := by omega
      subst hke
      refine vc_23_6 ?_
      simp (disch := first | omega | decide) only [Nat.le_refl, nE_l, nE_r, nE_n, nLe_l, nLe_r, nLe_n, nLt_l, nLt_r, nLt_n, nA_l, nA_r, nI_add, nS_l, nS_n, nIn, nI_clamp, gI_I, gI_J, gI_D, gJ_J, gJ_I, gJ_D, true_and, and_true, false_and, and_false, if_true, if_false, false_implies, true_implies, not_true_eq_false, not_false_eq_true, bI_0, bI_1, Nat.reduceEqDiff, eq_self, nMax, nMin]
      exact h μ' hs hc
    | succ r ih =>
      intro k μ' hr hk hs hc
      have hlt : k < M := by omega
      have hbk := hb k hlt
      have hla := tLast_le (sg := sg) (s := s) hf (k - s)
      have h3 : gI μ' 12 k = nI (sg k) := by rw [hs.I (by decide), hsg k hlt]
      have e1 := tLast_succ (sg := sg) (first := first) hk
      have e2 : tK0 sg s first k = if isLt (sg k) = true then dirL (sg k) else if isDg (sg k) = true then (if tLast sg s first (k - s) = 0 then 0 else 2) else 3 := rfl
      have go : ∀ v, v = tK0 sg s first k → gWp none 23 (6, [some (.ref 15), some (.int (nI s)), some (.int (nI e)), some (.int (nI first)), some (.int (nI (tLast sg s first (k + 1 - s)))), some (.int (nI (k + 1))), none], [], gsI μ' 16 k (nI v)) 0 P := fun v hv => ih (k + 1) _ (by omega) (by omega) (hs.i _ _ _ (by decide)) (hc.push hv)
      refine vc_23_6 ?_
      simp (disch := first | omega | decide) only [h3, show ¬ e ≤ k by omega, show k < 50 by omega, nE_l, nE_r, nE_n, nLe_l, nLe_r, nLe_n, nLt_l, nLt_r, nLt_n, nA_l, nA_r, nI_add, nS_l, nS_n, nIn, nI_clamp, gI_I, gI_J, gI_D, gJ_J, gJ_I, gJ_D, true_and, and_true, false_and, and_false, if_true, if_false, false_implies, true_implies, not_true_eq_false, not_false_eq_true, bI_0, bI_1, Nat.reduceEqDiff, eq_self, nMax, nMin]
      refine s_22 (by omega) ⟨_, rfl, ?_⟩
      simp (disch := first | omega | decide) only [Bool.not_eq_false, nE_l, nE_r, nE_n, nLe_l, nLe_r, nLe_n, nLt_l, nLt_r, nLt_n, nA_l, nA_r, nI_add, nS_l, nS_n, nIn, nI_clamp, gI_I, gI_J, gI_D, gJ_J, gJ_I, gJ_D, true_and, and_true, false_and, and_false, if_true, if_false, false_implies, true_implies, not_true_eq_false, not_false_eq_true, bI_0, bI_1, Nat.reduceEqDiff, eq_self, nMax, nMin]
      refine ⟨fun hl => ?_, fun hl => ?_⟩
      · rw [if_neg (by rw [hl]; decide)] at e1 e2
        rw [e1] at go
        refine s_19 (by omega) ⟨_, rfl, ?_⟩
        simp (disch := first | omega | decide) only [Bool.not_eq_false, nE_l, nE_r, nE_n, nLe_l, nLe_r, nLe_n, nLt_l, nLt_r, nLt_n, nA_l, nA_r, nI_add, nS_l, nS_n, nIn, nI_clamp, gI_I, gI_J, gI_D, gJ_J, gJ_I, gJ_D, true_and, and_true, false_and, and_false, if_true, if_false, false_implies, true_implies, not_true_eq_false, not_false_eq_true, bI_0, bI_1, Nat.reduceEqDiff, eq_self, nMax, nMin]
        refine ⟨fun hd => ?_, fun hd => ⟨fun h5 => ?_, fun h5 => ?_⟩⟩
        · rw [if_neg (by rw [hd]; decide)] at e2
          exact gWp_up (go 3 e2.symm) (by (repeat (first | exact gUp.nil | refine gUp.cs ?_ | refine gUp.cn ?_)))
        · rw [if_pos hd, if_neg h5] at e2
          exact gWp_up (go 2 e2.symm) (by (repeat (first | exact gUp.nil | refine gUp.cs ?_ | refine gUp.cn ?_)))
        · rw [if_pos hd, if_pos h5] at e2
          exact gWp_up (go 0 e2.symm) (by (repeat (first | exact gUp.nil | refine gUp.cs ?_ | refine gUp.cn ?_)))
      · rw [if_pos hl] at e1 e2
        rw [e1] at go
        refine s_20 (by omega) ⟨_, rfl, ?_⟩
        simp (disch := first | omega | decide) only [Bool.not_eq_false, nE_l, nE_r, nE_n, nLe_l, nLe_r, nLe_n, nLt_l, nLt_r, nLt_n, nA_l, nA_r, nI_add, nS_l, nS_n, nIn, nI_clamp, gI_I, gI_J, gI_D, gJ_J, gJ_I, gJ_D, true_and, and_true, false_and, and_false, if_true, if_false, false_implies, true_implies, not_true_eq_false, not_false_eq_true, bI_0, bI_1, Nat.reduceEqDiff, eq_self, nMax, nMin]
        refine ⟨fun hd => ?_, fun hd => ?_⟩
        · have e3 : dirL (sg k) = 1 := by unfold dirL; rw [if_neg (by rw [hd]; decide)]
          rw [e3] at go e2
          exact gWp_up (go 1 e2.symm) (by (repeat (first | exact gUp.nil | refine gUp.cs ?_ | refine gUp.cn ?_)))
        · have e3 : dirL (sg k) = 0 := by unfold dirL; rw [if_pos hd]
          rw [e3] at go e2
          exact gWp_up (go 0 e2.symm) (by (repeat (first | exact gUp.nil | refine gUp.cs ?_ | refine gUp.cn ?_)))
  have e0 := loop (e - s) s μ (by omega) (Nat.le_refl s) (gSm.rf _ _) (fun k h1 h2 => by omega)
  rw [Nat.sub_self] at e0
  exact vc_23 e0
/-- the first place from k on where f is not 3, at most e -/
def tSk (f : Nat → Nat) (e : Nat) : Nat → Nat → Nat
  | 0, k => k
  | r + 1, k => if k < e ∧ f k = 3 then tSk f e r (k + 1) else k
theorem s_15 {f : Nat → Nat} {e k : Nat} {μ : gMu} {P : gMu → gRes → Prop} (hk : k < e) (he : e ≤ 50) (hf : gAs μ 16 k e f) (h3 : ∀ j, f j ≤ 3) (hk3 : f k = 3) (h : ∀ t, k < t → t ≤ e → (∀ j, k ≤ j → j < t → f j = 3) → (t < e → f t ≠ 3) → P μ (.inl (some (.int (nI t))))) : gCl' 15 [.ref 15, .int (nI k), .int (nI e)] μ P := by
  have loop : ∀ r t, t + r = e → k < t → (∀ j, k ≤ j → j < t → f j = 3) → gWp none 15 (4, [some (.ref 15), some (.int (nI k)), some (.int (nI e)), some (.int (nI t))], [], μ) 0 P := by
    intro r
    induction r with
    | zero =>
      intro t hr ht hall
      have : t = e := by omega
      subst this
      refine vc_15_4 ?_
      simp (disch := first | omega | decide) only [Nat.le_refl, nE_l, nE_r, nE_n, nLe_l, nLe_r, nLe_n, nLt_l, nLt_r, nLt_n, nA_l, nA_r, nI_add, nS_l, nS_n, nIn, nI_clamp, gI_I, gI_J, gI_D, gJ_J, gJ_I, gJ_D, true_and, and_true, false_and, and_false, if_true, if_false, false_implies, true_implies, not_true_eq_false, not_false_eq_true, bI_0, bI_1, Nat.reduceEqDiff, eq_self, nMax, nMin]
      exact h t ht (Nat.le_refl t) hall (fun x => absurd x (Nat.lt_irrefl t))
    | succ r ih =>
      intro t hr ht hall
      have h9 := hf t (by omega) (by omega)
      have h8 := h3 t
      refine vc_15_4 ?_
      simp (disch := first | omega | decide) only [h9, show ¬ e ≤ t by omega, show t < 50 by omega, nE_l, nE_r, nE_n, nLe_l, nLe_r, nLe_n, nLt_l, nLt_r, nLt_n, nA_l, nA_r, nI_add, nS_l, nS_n, nIn, nI_clamp, gI_I, gI_J, gI_D, gJ_J, gJ_I, gJ_D, true_and, and_true, false_and, and_false, if_true, if_false, false_implies, true_implies, not_true_eq_false, not_false_eq_true, bI_0, bI_1, Nat.reduceEqDiff, eq_self, nMax, nMin]
      refine ⟨fun hn => h t ht (by omega) hall (fun _ => hn), fun hn => ih (t + 1) (by omega) (by omega) (fun j h1 h2 => ?_)⟩
      by_cases hj : j = t
      · rw [hj]; exact hn
      · exact hall j h1 (by omega)
  refine vc_15 ?_
  simp (disch := first | omega | decide) only [nE_l, nE_r, nE_n, nLe_l, nLe_r, nLe_n, nLt_l, nLt_r, nLt_n, nA_l, nA_r, nI_add, nS_l, nS_n, nIn, nI_clamp, gI_I, gI_J, gI_D, gJ_J, gJ_I, gJ_D, true_and, and_true, false_and, and_false, if_true, if_false, false_implies, true_implies, not_true_eq_false, not_false_eq_true, bI_0, bI_1, Nat.reduceEqDiff, eq_self, nMax, nMin]
  exact loop (e - (k + 1)) (k + 1) (by omega) (by omega) (fun j h1 h2 => by
    have : j = k := by omega
    rw [this]; exact hk3)
