/-! THE TEXT, AND WHAT IS SAID OF IT -/
def gAr (μ : gMu) (q m : Nat) (f : Nat → Nat) : Prop := ∀ j, j < m → gI μ q j = nI (f j)
def upN {α : Type} (f : Nat → α) (k : Nat) (v : α) : Nat → α := fun j => if j = k then v else f j
theorem upN_eq {α : Type} (f : Nat → α) (k : Nat) (v : α) : upN f k v k = v := if_pos rfl
theorem upN_ne {α : Type} {f : Nat → α} {k j : Nat} {v : α} (h : j ≠ k) : upN f k v j = f j := if_neg h
theorem gAr.skip {μ : gMu} {q m q' i : Nat} {f : Nat → Nat} {v : Int32} (hq : q ≠ q') (h : gAr μ q m f) : gAr (gsI μ q' i v) q m f := fun j hj => by
  rw [gI_I, if_neg (fun e => hq e.1)]
  exact h j hj
theorem gAr.skipJ {μ : gMu} {q m q' i : Nat} {f : Nat → Nat} {v : Int64} (h : gAr μ q m f) : gAr (gsJ μ q' i v) q m f := h
theorem gAr.set {μ : gMu} {q m i : Nat} {f : Nat → Nat} {v : Nat} (h : gAr μ q m f) : gAr (gsI μ q i (nI v)) q m (upN f i v) := fun j hj => by
  rw [gI_I]
  unfold upN
  by_cases e : j = i
  · rw [if_pos ⟨rfl, e⟩, if_pos e]
  · rw [if_neg (fun x => e x.2), if_neg e]
    exact h j hj
theorem gAr.push {μ : gMu} {q m : Nat} {f : Nat → Nat} {v : Nat} (h : gAr μ q m f) : gAr (gsI μ q m (nI v)) q (m + 1) (upN f m v) := fun j hj => by
  rw [gI_I]
  unfold upN
  by_cases e : j = m
  · rw [if_pos ⟨rfl, e⟩, if_pos e]
  · rw [if_neg (fun x => e x.2), if_neg e]
    exact h j (by omega)
theorem gAr.past {μ : gMu} {q m i : Nat} {f : Nat → Nat} {v : Int32} (hi : m ≤ i) (h : gAr μ q m f) : gAr (gsI μ q i v) q m f := fun j hj => by
  rw [gI_I, if_neg (fun e => by omega)]
  exact h j hj
theorem gAr.sub {μ : gMu} {q m m' : Nat} {f : Nat → Nat} (h : gAr μ q m f) (hm : m' ≤ m) : gAr μ q m' f := fun j hj => h j (by omega)
theorem gAr.eq {μ : gMu} {q m : Nat} {f g : Nat → Nat} (h : gAr μ q m f) (hf : ∀ j, j < m → f j = g j) : gAr μ q m g := fun j hj => by rw [h j hj, hf j hj]
theorem gAr.sm {A : List Nat} {μ μ' : gMu} {q m : Nat} {f : Nat → Nat} (h : gAr μ q m f) (hs : gSm A μ μ') (hq : q ∉ A) : gAr μ' q m f := fun j hj => by rw [hs.I hq, h j hj]
theorem gAr.nil (μ : gMu) (q : Nat) (f : Nat → Nat) : gAr μ q 0 f := fun j hj => absurd hj (Nat.not_lt_zero j)
/-- a text, the tables of widths and ligatures, the width of a line, the base -/
def gS : Type := Nat × (Nat → Nat) × Nat × (Nat → Nat) × Nat × (Nat → Nat) × (Nat → Nat) × (Nat → Nat) × Nat
def gS.n (T : gS) : Nat := T.1
def gS.c (T : gS) : Nat → Nat := T.2.1
def gS.b (T : gS) : Nat := T.2.2.1
def gS.w (T : gS) : Nat → Nat := T.2.2.2.1
def gS.ln (T : gS) : Nat := T.2.2.2.2.1
def gS.lf (T : gS) : Nat → Nat := T.2.2.2.2.2.1
def gS.ls (T : gS) : Nat → Nat := T.2.2.2.2.2.2.1
def gS.lw (T : gS) : Nat → Nat := T.2.2.2.2.2.2.2.1
def gS.W (T : gS) : Nat := T.2.2.2.2.2.2.2.2
/-- how many embeddings are open before the k-th character -/
def tD (c : Nat → Nat) : Nat → Nat
  | 0 => 0
  | k + 1 => if c k = 125 then tD c k - 1 else if isMk (c k) then tD c k + 1 else tD c k
/-- their levels -/
def tSt (c : Nat → Nat) (b : Nat) : Nat → Nat → Nat
  | 0 => fun _ => b
  | k + 1 => if c k = 125 then tSt c b k else if isMk (c k) then upN (tSt c b k) (tD c k + 1) (lvIn (tSt c b k (tD c k)) (c k == 123)) else tSt c b k
/-- how many characters before the k-th are no marks -/
def tM (c : Nat → Nat) : Nat → Nat
  | 0 => 0
  | k + 1 => if isMk (c k) then tM c k else tM c k + 1
def tIx (c : Nat → Nat) : Nat → Nat → Nat
  | 0 => fun _ => 0
  | k + 1 => if isMk (c k) then tIx c k else upN (tIx c k) (tM c k) k
def tEm (c : Nat → Nat) (b : Nat) : Nat → Nat → Nat
  | 0 => fun _ => 0
  | k + 1 => if isMk (c k) then tEm c b k else upN (tEm c b k) (tM c k) (tSt c b k (tD c k))
def gOk (T : gS) : Prop := (T.n ≤ 50) ∧ (∀ j, j < T.n → isSh (T.c j) = true ∨ isMk (T.c j) = true) ∧ (∀ j, j < T.n → T.c j = 125 → 0 < tD T.c j) ∧ (∀ j, j ≤ T.n → tD T.c j ≤ 5) ∧ (T.b ≤ 1) ∧ (∀ j, j < 128 → 1 ≤ T.w j ∧ T.w j ≤ 20) ∧ (T.ln ≤ 20) ∧ (∀ j, j < T.ln → isLt (T.lf j) = true ∨ (200 ≤ T.lf j ∧ T.lf j < 200 + j)) ∧ (∀ j, j < T.ln → isLt (T.ls j) = true) ∧ (∀ j, j < T.ln → 1 ≤ T.lw j ∧ T.lw j ≤ 40) ∧ (10 ≤ T.W ∧ T.W ≤ 200)
theorem gOk.n {T : gS} (h : gOk T) : T.n ≤ 50 := h.1
theorem gOk.c {T : gS} (h : gOk T) : ∀ j, j < T.n → isSh (T.c j) = true ∨ isMk (T.c j) = true := h.2.1
theorem gOk.o {T : gS} (h : gOk T) : ∀ j, j < T.n → T.c j = 125 → 0 < tD T.c j := h.2.2.1
theorem gOk.d {T : gS} (h : gOk T) : ∀ j, j ≤ T.n → tD T.c j ≤ 5 := h.2.2.2.1
theorem gOk.b {T : gS} (h : gOk T) : T.b ≤ 1 := h.2.2.2.2.1
theorem gOk.w {T : gS} (h : gOk T) : ∀ j, j < 128 → 1 ≤ T.w j ∧ T.w j ≤ 20 := h.2.2.2.2.2.1
theorem gOk.ln {T : gS} (h : gOk T) : T.ln ≤ 20 := h.2.2.2.2.2.2.1
theorem gOk.lf {T : gS} (h : gOk T) : ∀ j, j < T.ln → isLt (T.lf j) = true ∨ (200 ≤ T.lf j ∧ T.lf j < 200 + j) := h.2.2.2.2.2.2.2.1
theorem gOk.ls {T : gS} (h : gOk T) : ∀ j, j < T.ln → isLt (T.ls j) = true := h.2.2.2.2.2.2.2.2.1
theorem gOk.lw {T : gS} (h : gOk T) : ∀ j, j < T.ln → 1 ≤ T.lw j ∧ T.lw j ≤ 40 := h.2.2.2.2.2.2.2.2.2.1
theorem gOk.W {T : gS} (h : gOk T) : 10 ≤ T.W ∧ T.W ≤ 200 := h.2.2.2.2.2.2.2.2.2.2
theorem isLt_b {a : Nat} (h : isLt a = true) : 65 ≤ a ∧ a ≤ 122 := by
  unfold isLt isLf isRt at h
  rw [Bool.or_eq_true, decide_eq_true_eq, decide_eq_true_eq] at h
  omega
theorem isMk_b {a : Nat} (h : isMk a = true) : 91 ≤ a ∧ a ≤ 125 := by
  unfold isMk at h
  simp only [Bool.or_eq_true, beq_iff_eq] at h
  omega
theorem isSh_b {a : Nat} (h : isSh a = true) : 32 ≤ a ∧ a ≤ 122 := by
  unfold isSh at h
  simp only [Bool.or_eq_true] at h
  rcases h with (h | h) | h
  · have := isLt_b h; omega
  · unfold isDg at h
    rw [decide_eq_true_eq] at h
    omega
  · unfold isNe at h
    simp only [Bool.or_eq_true, beq_iff_eq] at h
    omega
theorem gOk.c_lt {T : gS} (h : gOk T) {j : Nat} (hj : j < T.n) : T.c j < 128 := by
  rcases h.c j hj with h1 | h1
  · have := isSh_b h1; omega
  · have := isMk_b h1; omega
theorem tM_le (c : Nat → Nat) : ∀ k, tM c k ≤ k
  | 0 => Nat.le_refl 0
  | k + 1 => by
    have := tM_le c k
    unfold tM
    split <;> omega
theorem lvIn_le (o : Nat) (r : Bool) : lvIn o r ≤ o + 2 := by
  unfold lvIn
  split <;> omega
theorem tSt_le (c : Nat → Nat) (b : Nat) (hb : b ≤ 1) : ∀ k d, d ≤ tD c k → tSt c b k d ≤ 2 * d + 1
  | 0, d, hd => by
    unfold tSt
    omega
  | k + 1, d, hd => by
    unfold tSt
    unfold tD at hd
    by_cases h1 : c k = 125
    · rw [if_pos h1] at hd ⊢
      exact tSt_le c b hb k d (by omega)
    · rw [if_neg h1] at hd ⊢
      by_cases h2 : isMk (c k) = true
      · rw [if_pos h2] at hd ⊢
        unfold upN
        split
        · rename_i e
          have h3 := lvIn_le (tSt c b k (tD c k)) (c k == 123)
          have h4 := tSt_le c b hb k (tD c k) (Nat.le_refl _)
          omega
        · exact tSt_le c b hb k d (by omega)
      · rw [if_neg h2] at hd ⊢
        exact tSt_le c b hb k d hd
/-- the class's text -/
def cT (T : gS) (μ : gMu) : Prop := gI μ 2 1 = nI T.n ∧ gAr μ 3 T.n T.c ∧ gI μ 0 9 = nI T.W ∧ gI μ 0 10 = nI T.b ∧ gI μ 4 4 = nI T.ln ∧ gAr μ 5 128 T.w ∧ gAr μ 6 T.ln T.lf ∧ gAr μ 7 T.ln T.ls ∧ gAr μ 8 T.ln T.lw
theorem nI_m1 {d : Nat} (h : 0 < d) : nI d + (-1 : Int32) = nI (d - 1) := by
  obtain ⟨e, rfl⟩ : ∃ e, d = e + 1 := ⟨d - 1, by omega⟩
  rw [Nat.add_sub_cancel, ← nI_1, Int32.add_assoc]
  show nI e + ((1 : Int32) + -1) = nI e
  rw [show ((1 : Int32) + -1) = 0 by decide, Int32.add_zero]
theorem s_4 {T : gS} {μ : gMu} {P : gMu → gRes → Prop} (hT : cT T μ) (hk : gOk T) (h : P μ (.inl (some (.int (nI (tD T.c T.n)))))) : gCl' 4 [.ref 2] μ P := by
  obtain ⟨h1, h2, -⟩ := hT
  have hn := hk.n
  have loop : ∀ r k, k + r = T.n → gWp none 4 (4, [some (.ref 2), some (.int (nI (tD T.c k))), some (.int (nI k))], [], μ) 0 P := by
    intro r
    induction r with
    | zero =>
      intro k hr
      have hkn : k = T.n := by omega
      subst hkn
      refine vc_4_4 ?_
      simp (disch := first | omega | decide) only [h1, Nat.le_refl, nE_l, nE_r, nE_n, nLe_l, nLe_r, nLe_n, nLt_l, nLt_r, nLt_n, nA_l, nA_r, nI_add, nS_l, nS_n, nIn, nI_clamp, gI_I, gI_J, gI_D, gJ_J, gJ_I, gJ_D, true_and, and_true, false_and, and_false, if_true, if_false, false_implies, true_implies, not_true_eq_false, not_false_eq_true, bI_0, bI_1, Nat.reduceEqDiff, eq_self, nMax, nMin]
      exact h
    | succ r ih =>
      intro k hr
      have hlt : k < T.n := by omega
      have hc := hk.c_lt hlt
      have hd := hk.d k (by omega)
      have h3 := h2 k hlt
      refine vc_4_4 ?_
      simp (disch := first | omega | decide) only [h1, h3, show ¬ T.n ≤ k by omega, show k < 50 by omega, nE_l, nE_r, nE_n, nLe_l, nLe_r, nLe_n, nLt_l, nLt_r, nLt_n, nA_l, nA_r, nI_add, nS_l, nS_n, nIn, nI_clamp, gI_I, gI_J, gI_D, gJ_J, gJ_I, gJ_D, true_and, and_true, false_and, and_false, if_true, if_false, false_implies, true_implies, not_true_eq_false, not_false_eq_true, bI_0, bI_1, Nat.reduceEqDiff, eq_self, nMax, nMin]
      refine s_3 (by omega) ⟨_, rfl, ?_⟩
      have e := ih (k + 1) (by omega)
      unfold tD at e
      simp (disch := first | omega | decide) only [h3, nE_l, nE_r, nE_n, nLe_l, nLe_r, nLe_n, nLt_l, nLt_r, nLt_n, nA_l, nA_r, nI_add, nS_l, nS_n, nIn, nI_clamp, gI_I, gI_J, gI_D, gJ_J, gJ_I, gJ_D, true_and, and_true, false_and, and_false, if_true, if_false, false_implies, true_implies, not_true_eq_false, not_false_eq_true, bI_0, bI_1, Nat.reduceEqDiff, eq_self, nMax, nMin]
      refine ⟨fun hm => ?_, fun hm => ⟨fun h5 => ?_, fun h5 => ?_⟩⟩
      · rw [if_neg (fun q => by rw [q] at hm; cases hm), if_neg (by rw [hm]; decide)] at e
        exact e
      · rw [if_neg h5, if_pos (by simpa using hm)] at e
        exact e
      · rw [if_pos h5] at e
        rw [nI_m1 (hk.o k hlt h5)]
        exact e
  exact vc_4 (loop T.n 0 (by omega))
theorem s_5 {T : gS} {μ : gMu} {P : gMu → gRes → Prop} (hT : cT T μ) (hk : gOk T) (h : P μ (.inl (some (.int (nI (tD T.c T.n)))))) : gCl' 5 [.ref 0] μ P := vc_5 (s_4 hT hk ⟨_, rfl, h⟩)
theorem s_2 {T : gS} {μ : gMu} {P : gMu → gRes → Prop} (hT : cT T μ) (h : P μ (.inl (some (.int (nI T.n))))) : gCl' 2 [.ref 0] μ P := vc_2 (by rw [hT.1]; exact h)
/-- the class's sequence: what read leaves -/
def cSq (c : Nat → Nat) (b k : Nat) (μ : gMu) : Prop := gI μ 9 5 = nI (tM c k) ∧ (∀ i, i < k → gI μ 10 i = if isMk (c i) then -1 else nI (tM c i)) ∧ gAr μ 11 (tM c k) (tIx c k) ∧ gAr μ 12 (tM c k) (fun j => c (tIx c k j)) ∧ gAr μ 13 (tM c k) (tEm c b k)
