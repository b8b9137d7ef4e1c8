/-! THE MODEL: its small questions, and how it lays embeddings -/
/-- arrays A and fields F of the model's own cell alone change -/
def mF (A F : List Nat) (μ μ' : gMu) : Prop := gSm (1 :: A) μ μ' ∧ ∀ j, j ∉ F → gI μ' 1 j = gI μ 1 j
theorem mF.rf (A F : List Nat) (μ : gMu) : mF A F μ μ := ⟨gSm.rf _ _, fun _ _ => rfl⟩
theorem mF.tr {A F : List Nat} {μ μ' μ'' : gMu} (h : mF A F μ μ') (h' : mF A F μ' μ'') : mF A F μ μ'' := ⟨h.1.tr h'.1, fun j hj => (h'.2 j hj).trans (h.2 j hj)⟩
theorem mF.up {A F A' F' : List Nat} {μ μ' : gMu} (h : mF A F μ μ') (hA : ∀ a ∈ A, a ∈ A') (hF : ∀ a ∈ F, a ∈ F') : mF A' F' μ μ' := ⟨h.1.up (fun a ha => by
  rcases List.mem_cons.mp ha with e | e
  · rw [e]; exact List.mem_cons_self
  · exact List.mem_cons_of_mem _ (hA a e)), fun j hj => h.2 j (fun z => hj (hF j z))⟩
theorem mF.i {A F : List Nat} {μ μ' : gMu} (h : mF A F μ μ') (q j : Nat) (v : Int32) (hq : q ∈ A) (h1 : q ≠ 1) : mF A F μ (gsI μ' q j v) := ⟨h.1.i q j v (List.mem_cons_of_mem _ hq), fun k hk => by rw [gI_I, if_neg (fun z => h1 z.1.symm)]; exact h.2 k hk⟩
theorem mF.j {A F : List Nat} {μ μ' : gMu} (h : mF A F μ μ') (q j : Nat) (v : Int64) (hq : q ∈ A) : mF A F μ (gsJ μ' q j v) := ⟨h.1.j q j v (List.mem_cons_of_mem _ hq), fun k hk => h.2 k hk⟩
theorem mF.f {A F : List Nat} {μ μ' : gMu} (h : mF A F μ μ') (j : Nat) (v : Int32) (hj : j ∈ F) : mF A F μ (gsI μ' 1 j v) := ⟨h.1.i 1 j v List.mem_cons_self, fun k hk => by rw [gI_I, if_neg (fun (z : 1 = 1 ∧ k = j) => hk (z.2.symm ▸ hj))]; exact h.2 k hk⟩
theorem mF.I {A F : List Nat} {μ μ' : gMu} (h : mF A F μ μ') {a : Nat} (ha : a ∉ A) (h1 : a ≠ 1) (j : Nat) : gI μ' a j = gI μ a j := h.1.I (fun z => by
  rcases List.mem_cons.mp z with e | e
  · exact h1 e
  · exact ha e) j
theorem mF.J {A F : List Nat} {μ μ' : gMu} (h : mF A F μ μ') {a : Nat} (ha : a ∉ A) (h1 : a ≠ 1) (j : Nat) : gJ μ' a j = gJ μ a j := h.1.J (fun z => by
  rcases List.mem_cons.mp z with e | e
  · exact h1 e
  · exact ha e) j
theorem mF.F {A F : List Nat} {μ μ' : gMu} (h : mF A F μ μ') {j : Nat} (hj : j ∉ F) : gI μ' 1 j = gI μ 1 j := h.2 j hj
theorem gAr.gf {A F : List Nat} {μ μ' : gMu} {q m : Nat} {f : Nat → Nat} (h : gAr μ q m f) (hs : mF A F μ μ') (hq : q ∉ A) (h1 : q ≠ 1) : gAr μ' q m f := fun j hj => by rw [hs.I hq h1, h j hj]
theorem gAs.gf {A F : List Nat} {μ μ' : gMu} {q s e : Nat} {f : Nat → Nat} (h : gAs μ q s e f) (hs : mF A F μ μ') (hq : q ∉ A) (h1 : q ≠ 1) : gAs μ' q s e f := fun j h1' h2 => by rw [hs.I hq h1, h j h1' h2]
/-- the model's text -/
def mTx (T : gS) (μ : gMu) : Prop := gI μ 1 1 = nI T.n ∧ gAr μ 44 T.n T.c ∧ gI μ 1 3 = nI T.W ∧ gI μ 1 4 = nI T.b ∧ gI μ 1 8 = nI T.ln ∧ gAr μ 45 128 T.w ∧ gAr μ 46 T.ln T.lf ∧ gAr μ 47 T.ln T.ls ∧ gAr μ 48 T.ln T.lw
theorem mTx.gf {A F : List Nat} {T : gS} {μ μ' : gMu} (h : mTx T μ) (hs : mF A F μ μ') (f1 : 1 ∉ F) (f3 : 3 ∉ F) (f4 : 4 ∉ F) (f8 : 8 ∉ F) (a44 : 44 ∉ A) (a45 : 45 ∉ A) (a46 : 46 ∉ A) (a47 : 47 ∉ A) (a48 : 48 ∉ A) : mTx T μ' := by
  obtain ⟨h1, h2, h3, h4, h5, h6, h7, h8, h9⟩ := h
  exact ⟨by rw [hs.F f1, h1], h2.gf hs a44 (by decide), by rw [hs.F f3, h3], by rw [hs.F f4, h4], by rw [hs.F f8, h5], h6.gf hs a45 (by decide), h7.gf hs a46 (by decide), h8.gf hs a47 (by decide), h9.gf hs a48 (by decide)⟩
theorem s_153 {a lo hi : Nat} {μ : gMu} {P : gMu → gRes → Prop} (ha : a < 2 ^ 31) (hl : lo < 2 ^ 31) (hh : hi < 2 ^ 31) (h : P μ (.inl (some (.int (bI (decide (lo ≤ a ∧ a ≤ hi))))))) : gCl' 153 [.int (nI a), .int (nI lo), .int (nI hi)] μ P := by
  refine vc_153 ?_
  simp (disch := first | omega | decide) only [nE_l, nE_r, nE_n, nLe_l, nLe_r, nLe_n, nLt_l, nLt_r, nLt_n, nA_l, nA_r, nI_add, nS_l, nS_n, nIn, nI_clamp, gI_I, gI_J, gI_D, gJ_J, gJ_I, gJ_D, true_and, and_true, false_and, and_false, if_true, if_false, false_implies, true_implies, not_true_eq_false, not_false_eq_true, bI_0, bI_1, Nat.reduceEqDiff, eq_self, nMax, nMin]
  refine ⟨fun h1 => ?_, fun h1 => ⟨fun h2 => ?_, fun h2 => ?_⟩⟩
  · rw [decide_eq_false (by omega)] at h; exact h
  · rw [decide_eq_false (by omega)] at h; exact h
  · rw [decide_eq_true (by omega)] at h; exact h
theorem s_153m {x y : Int32} {lo : Nat} {μ : gMu} {P : gMu → gRes → Prop} (hx : x < 0) (hl : lo < 2 ^ 31) (h : P μ (.inl (some (.int 0)))) : gCl' 153 [.int x, .int (nI lo), .int y] μ P := vc_153 ⟨fun _ => h, fun q => absurd (lt_n hx hl) q⟩
theorem s_154 {a : Nat} {μ : gMu} {P : gMu → gRes → Prop} (ha : a < 2 ^ 31) (h : P μ (.inl (some (.int (bI (isLf a)))))) : gCl' 154 [.int (nI a)] μ P := vc_154 (s_153 (lo := 97) (hi := 122) ha (by decide) (by decide) ⟨_, rfl, nBb _, h⟩)
theorem s_155 {a : Nat} {μ : gMu} {P : gMu → gRes → Prop} (ha : a < 2 ^ 31) (h : P μ (.inl (some (.int (bI (isLt a)))))) : gCl' 155 [.int (nI a)] μ P := by
  unfold isLt at h
  refine vc_155 (s_154 ha ⟨_, rfl, ?_⟩)
  rw [bI_0]
  refine ⟨fun h1 => ?_, fun h1 => s_153 (lo := 65) (hi := 90) ha (by decide) (by decide) ⟨_, rfl, ?_⟩⟩
  · rw [Bool.not_eq_false] at h1
    rw [h1] at h
    exact h
  · rw [h1, Bool.false_or] at h
    rw [bI_0]
    have h : P μ (.inl (some (.int (bI (decide (65 ≤ a ∧ a ≤ 90)))))) := h
    refine ⟨fun h2 => ?_, fun h2 => ?_⟩
    · rw [h2] at h; exact h
    · rw [Bool.not_eq_false] at h2
      rw [h2] at h; exact h
theorem s_155m {x : Int32} {μ : gMu} {P : gMu → gRes → Prop} (hx : x < 0) (h : P μ (.inl (some (.int 0)))) : gCl' 155 [.int x] μ P :=
  vc_155 (vc_154 (s_153m (lo := 97) hx (by decide) ⟨_, rfl, nBb false, _, rfl, fun q => absurd rfl q, fun _ => s_153m (lo := 65) hx (by decide) ⟨_, rfl, fun _ => h, fun q => absurd rfl q⟩⟩))
theorem s_156 {a : Nat} {μ : gMu} {P : gMu → gRes → Prop} (ha : a < 2 ^ 31) (h : P μ (.inl (some (.int (bI (isNe a)))))) : gCl' 156 [.int (nI a)] μ P := by
  refine vc_156 ?_
  simp (disch := first | omega | decide) only [nE_l, nE_r, nE_n, nLe_l, nLe_r, nLe_n, nLt_l, nLt_r, nLt_n, nA_l, nA_r, nI_add, nS_l, nS_n, nIn, nI_clamp, gI_I, gI_J, gI_D, gJ_J, gJ_I, gJ_D, true_and, and_true, false_and, and_false, if_true, if_false, false_implies, true_implies, not_true_eq_false, not_false_eq_true, bI_0, bI_1, Nat.reduceEqDiff, eq_self, nMax, nMin]
  refine ⟨fun h1 => ?_, fun h1 => ⟨fun h2 => ?_, fun h2 => ⟨fun h3 => ?_, fun h3 => ⟨fun h4 => ?_, fun h4 => ?_⟩⟩⟩⟩ <;> (first | subst h1 | skip) <;> (first | subst h2 | skip) <;> (first | subst h3 | skip) <;> (first | subst h4 | skip) <;> first | exact h | (rw [show isNe a = false by simp [isNe, *]] at h; exact h)
theorem s_157 {a : Nat} {μ : gMu} {P : gMu → gRes → Prop} (ha : a < 2 ^ 31) (h : P μ (.inl (some (.int (bI (isSh a)))))) : gCl' 157 [.int (nI a)] μ P := by
  refine vc_157 (s_155 ha ⟨_, rfl, ?_⟩)
  unfold isSh at h
  rw [bI_0]
  refine ⟨fun h1 => ?_, fun h1 => s_153 (lo := 48) (hi := 57) ha (by decide) (by decide) ⟨_, rfl, ?_⟩⟩
  · rw [Bool.not_eq_false] at h1
    rw [h1] at h
    exact h
  · rw [h1, Bool.false_or] at h
    have h : P μ (.inl (some (.int (bI (decide (48 ≤ a ∧ a ≤ 57) || isNe a))))) := h
    rw [bI_0]
    refine ⟨fun h2 => ?_, fun h2 => s_156 ha ⟨_, rfl, ?_⟩⟩
    · rw [Bool.not_eq_false] at h2
      rw [h2] at h
      exact h
    · rw [h2, Bool.false_or] at h
      rw [bI_0]
      refine ⟨fun h3 => ?_, fun h3 => ?_⟩
      · rw [h3] at h; exact h
      · rw [Bool.not_eq_false] at h3
        rw [h3] at h; exact h
theorem s_158 {a : Nat} {μ : gMu} {P : gMu → gRes → Prop} (ha : a < 2 ^ 31) (h : P μ (.inl (some (.int (bI (isMk a)))))) : gCl' 158 [.int (nI a)] μ P := by
  refine vc_158 ?_
  simp (disch := first | omega | decide) only [nE_l, nE_r, nE_n, nLe_l, nLe_r, nLe_n, nLt_l, nLt_r, nLt_n, nA_l, nA_r, nI_add, nS_l, nS_n, nIn, nI_clamp, gI_I, gI_J, gI_D, gJ_J, gJ_I, gJ_D, true_and, and_true, false_and, and_false, if_true, if_false, false_implies, true_implies, not_true_eq_false, not_false_eq_true, bI_0, bI_1, Nat.reduceEqDiff, eq_self, nMax, nMin]
  refine ⟨fun h1 => ?_, fun h1 => ⟨fun h2 => ?_, fun h2 => ⟨fun h3 => ?_, fun h3 => ?_⟩⟩⟩ <;> (first | subst h1 | skip) <;> (first | subst h2 | skip) <;> (first | subst h3 | skip) <;> first | exact h | (rw [show isMk a = false by simp [isMk, *]] at h; exact h)
theorem s_159 {b : Nat} {μ : gMu} {P : gMu → gRes → Prop} (hb : b ≤ 1) (h4 : gI μ 1 4 = nI b) (h : P μ (.inl (some (.int (nI b))))) : gCl' 159 [.ref 1] μ P := by
  refine vc_159 ?_
  simp (disch := first | omega | decide) only [h4, nE_l, nE_r, nE_n, nLe_l, nLe_r, nLe_n, nLt_l, nLt_r, nLt_n, nA_l, nA_r, nI_add, nS_l, nS_n, nIn, nI_clamp, gI_I, gI_J, gI_D, gJ_J, gJ_I, gJ_D, true_and, and_true, false_and, and_false, if_true, if_false, false_implies, true_implies, not_true_eq_false, not_false_eq_true, bI_0, bI_1, Nat.reduceEqDiff, eq_self, nMax, nMin]
  refine ⟨fun q => ?_, fun q => ?_⟩
  · rw [q] at h; exact h
  · rw [show b = 1 by omega] at h; exact h
theorem iR2 {e : Nat} (he : e < 2 ^ 30) : nI e - nI e / (2 : Int32) * (2 : Int32) = nI (e % 2) := by
  have h := iDiv (d := e) (k := 2) he (by decide) (by decide)
  have h2 := iRem (d := e) (k := 2)
  rw [← h] at h2
  exact h2
def kc (x : Nat) : Nat := if x = 0 then 76 else if x = 1 then 82 else if x = 2 then 78 else 32
theorem kc_lt (x : Nat) : kc x < 100 := by unfold kc; split; omega; split; omega; split <;> omega
theorem kc_76 {x : Nat} : (kc x = 76) = (x = 0) := by
  apply propext
  unfold kc
  split
  · omega
  · split
    · omega
    · split <;> omega
theorem kc_82 {x : Nat} : (kc x = 82) = (x = 1) := by
  apply propext
  unfold kc
  split
  · omega
  · split
    · omega
    · split <;> omega
theorem kc_32 {x : Nat} (h : x ≤ 3) : (kc x = 32) = (x = 3) := by
  apply propext
  unfold kc
  split
  · omega
  · split
    · omega
    · split <;> omega
theorem kc_inj {x y : Nat} (hx : x ≤ 3) (hy : y ≤ 3) : (kc x = kc y) = (x = y) := by
  apply propext
  refine ⟨fun h => ?_, fun h => by rw [h]⟩
  unfold kc at h
  split at h
  · split at h
    · omega
    · split at h
      · omega
      · split at h <;> omega
  · split at h
    · split at h
      · omega
      · split at h
        · omega
        · split at h <;> omega
    · split at h
      · split at h
        · omega
        · split at h
          · omega
          · split at h <;> omega
      · split at h
        · omega
        · split at h
          · omega
          · split at h <;> omega
theorem s_174 {a : Nat} {μ : gMu} {P : gMu → gRes → Prop} (ha : a < 2 ^ 30) (h : P μ (.inl (some (.int (nI (kc (odN a))))))) : gCl' 174 [.int (nI a)] μ P := by
  refine vc_174 ⟨by decide, ?_⟩
  rw [iR2 ha, show (nI (a % 2) = 0) = (a % 2 = 0) from nE_l (n := 0) (by omega) (by decide)]
  unfold odN isOd at h
  refine ⟨fun q => ⟨by decide, ?_⟩, fun q => ⟨by decide, ?_⟩⟩
  · rw [if_pos (by simp; omega)] at h; exact h
  · rw [if_neg (by simp; omega)] at h; exact h
theorem s_167 {lf ls : Nat → Nat} {ln a b : Nat} {μ : gMu} {P : gMu → gRes → Prop} (hn : ln ≤ 20) (h4 : gI μ 1 8 = nI ln) (h6 : gAr μ 46 ln lf) (h7 : gAr μ 47 ln ls) (hb6 : ∀ j, j < ln → lf j < 1000) (hb7 : ∀ j, j < ln → ls j < 1000) (ha : a < 2 ^ 31) (hb : b < 2 ^ 31) (h : P μ (.inl (some (.int (nZ (tRl lf ls ln a b)))))) : gCl' 167 [.ref 1, .int (nI a), .int (nI b)] μ P := by
  have loop : ∀ r i, i + r = ln → P μ (.inl (some (.int (nZ (tRlF lf ls a b r i))))) → gWp none 167 (2, [some (.ref 1), some (.int (nI a)), some (.int (nI b)), some (.int (nI i))], [], μ) 0 P := by
    intro r
    induction r with
    | zero =>
      intro i hr hp
      refine vc_167_2 ?_
      simp (disch := first | omega | decide) only [h4, show ln ≤ i by omega, nE_l, nE_r, nE_n, nLe_l, nLe_r, nLe_n, nLt_l, nLt_r, nLt_n, nA_l, nA_r, nI_add, nS_l, nS_n, nIn, nI_clamp, gI_I, gI_J, gI_D, gJ_J, gJ_I, gJ_D, true_and, and_true, false_and, and_false, if_true, if_false, false_implies, true_implies, not_true_eq_false, not_false_eq_true, bI_0, bI_1, Nat.reduceEqDiff, eq_self, nMax, nMin]
      exact hp
    | succ r ih =>
      intro i hr hp
      have h8 := h6 i (by omega)
      have h9 := h7 i (by omega)
      have h10 := hb6 i (by omega)
      have h11 := hb7 i (by omega)
      unfold tRlF at hp
      refine vc_167_2 ?_
      simp (disch := first | omega | decide) only [h4, h8, h9, show ¬ ln ≤ i by omega, show i < 20 by omega, nE_l, nE_r, nE_n, nLe_l, nLe_r, nLe_n, nLt_l, nLt_r, nLt_n, nA_l, nA_r, nI_add, nS_l, nS_n, nIn, nI_clamp, gI_I, gI_J, gI_D, gJ_J, gJ_I, gJ_D, true_and, and_true, false_and, and_false, if_true, if_false, false_implies, true_implies, not_true_eq_false, not_false_eq_true, bI_0, bI_1, Nat.reduceEqDiff, eq_self, nMax, nMin]
      refine ⟨fun h1 => ih (i + 1) (by omega) ?_, fun h1 => ⟨fun h2 => ih (i + 1) (by omega) ?_, fun h2 => ?_⟩⟩
      · rw [if_neg (fun q => h1 q.1)] at hp; exact hp
      · rw [if_neg (fun q => h2 q.2)] at hp; exact hp
      · rw [if_pos ⟨h1, h2⟩] at hp
        unfold nZ at hp
        rw [if_neg (by omega)] at hp
        exact hp
  exact vc_167 (loop ln 0 (by omega) h)
/-- the model's characters that are no marks -/
def mSq (c : Nat → Nat) (b k : Nat) (μ : gMu) : Prop := gI μ 1 19 = nI (tM c k) ∧ gI μ 1 20 = nI (tD c k) ∧ gAr μ 49 (tM c k) (tIx c k) ∧ gAr μ 50 (tM c k) (fun j => c (tIx c k j)) ∧ gAr μ 51 (tM c k) (tEm c b k)
theorem mSq.gf {A F : List Nat} {c : Nat → Nat} {b k : Nat} {μ μ' : gMu} (h : mSq c b k μ) (hs : mF A F μ μ') (f19 : 19 ∉ F) (f20 : 20 ∉ F) (a49 : 49 ∉ A) (a50 : 50 ∉ A) (a51 : 51 ∉ A) : mSq c b k μ' := ⟨by rw [hs.F f19, h.1], by rw [hs.F f20, h.2.1], h.2.2.1.gf hs a49 (by decide), h.2.2.2.1.gf hs a50 (by decide), h.2.2.2.2.gf hs a51 (by decide)⟩
theorem s_160 {T : gS} {μ : gMu} {P : gMu → gRes → Prop} (hT : mTx T μ) (hk : gOk T) (h : ∀ μ', mF [49, 50, 51, 62] [19, 20] μ μ' → mSq T.c T.b T.n μ' → P μ' (.inl none)) : gCl' 160 [.ref 1] μ P := by
  have h1 := hT.1
  have h2 := hT.2.1
  have hn := hk.n
  have i10 : ((1 : Int32) = 0) = False := eq_false (by decide)
  have i01 : ((0 : Int32) = 1) = False := eq_false (by decide)
  have i20 : ((2 : Int32) = 0) = False := eq_false (by decide)
  have loop : ∀ r k μ' y z, k + r = T.n → mF [49, 50, 51, 62] [19, 20] μ μ' → mSq T.c T.b k μ' → gAr μ' 62 (tD T.c k + 1) (tSt T.c T.b k) → gWp none 160 (22, [some (.ref 1), some (.int (nI k)), y, z], [], μ') 0 P := by
    intro r
    induction r with
    | zero =>
      intro k μ' y z hr hs hc ho
      have hkn : k = T.n := by omega
      subst hkn
      refine gWp_up (vc_160_22 ?_) (by (repeat (first | exact gUp.nil | refine gUp.cs ?_ | refine gUp.cn ?_)))
      rw [hs.F (by decide), h1]
      simp (disch := first | omega | decide) only [Nat.le_refl, nE_l, nE_r, nE_n, nLe_l, nLe_r, nLe_n, nLt_l, nLt_r, nLt_n, nA_l, nA_r, nI_add, nS_l, nS_n, nIn, nI_clamp, gI_I, gI_J, gI_D, gJ_J, gJ_I, gJ_D, true_and, and_true, false_and, and_false, if_true, if_false, false_implies, true_implies, not_true_eq_false, not_false_eq_true, bI_0, bI_1, Nat.reduceEqDiff, eq_self, nMax, nMin]
      exact h μ' hs hc
    | succ r ih =>
      intro k μ' y z hr hs hc ho
      have hlt : k < T.n := by omega
      have hck := hk.c_lt hlt
      have hd := hk.d k (by omega)
      have hd1 := hk.d (k + 1) (by omega)
      have hM := tM_le T.c k
      have h3 : gI μ' 44 k = nI (T.c k) := by rw [hs.I (by decide) (by decide), h2 k hlt]
      have h4 := ho (tD T.c k) (by omega)
      have h5 := tSt_le T.c T.b hk.b k (tD T.c k) (Nat.le_refl _)
      obtain ⟨c1, c2, c3, c4, c5⟩ := id hc
      have e1 : tD T.c (k + 1) = if T.c k = 125 then tD T.c k - 1 else if isMk (T.c k) = true then tD T.c k + 1 else tD T.c k := rfl
      have e2 : tSt T.c T.b (k + 1) = if T.c k = 125 then tSt T.c T.b k else if isMk (T.c k) = true then upN (tSt T.c T.b k) (tD T.c k + 1) (lvIn (tSt T.c T.b k (tD T.c k)) (T.c k == 123)) else tSt T.c T.b k := rfl
      have e3 : tM T.c (k + 1) = if isMk (T.c k) = true then tM T.c k else tM T.c k + 1 := rfl
      have e4 : tIx T.c (k + 1) = if isMk (T.c k) = true then tIx T.c k else upN (tIx T.c k) (tM T.c k) k := rfl
      have e5 : tEm T.c T.b (k + 1) = if isMk (T.c k) = true then tEm T.c T.b k else upN (tEm T.c T.b k) (tM T.c k) (tSt T.c T.b k (tD T.c k)) := rfl
      refine gWp_up (vc_160_22 ?_) (by (repeat (first | exact gUp.nil | refine gUp.cs ?_ | refine gUp.cn ?_)))
      rw [hs.F (by decide), h1]
      simp (disch := first | omega | decide) only [h3, c2, h4, show ¬ T.n ≤ k by omega, show k < 50 by omega, show tD T.c k < 6 by omega, nE_l, nE_r, nE_n, nLe_l, nLe_r, nLe_n, nLt_l, nLt_r, nLt_n, nA_l, nA_r, nI_add, nS_l, nS_n, nIn, nI_clamp, gI_I, gI_J, gI_D, gJ_J, gJ_I, gJ_D, true_and, and_true, false_and, and_false, if_true, if_false, false_implies, true_implies, not_true_eq_false, not_false_eq_true, bI_0, bI_1, Nat.reduceEqDiff, eq_self, nMax, nMin]
      refine ⟨fun h6 => ?_, fun h6 => ?_⟩
      · refine s_158 (by omega) ⟨_, rfl, ?_⟩
        cases hm : isMk (T.c k) with
        | false =>
          have hm' : ¬ isMk (T.c k) = true := by rw [hm]; decide
          rw [if_neg h6, if_neg hm'] at e1 e2
          rw [if_neg hm'] at e3 e4 e5
          simp (disch := first | omega | decide) only [h3, c1, c2, h4, show tM T.c k < 50 by omega, nNc (show T.c k < 65536 by omega), Bool.false_eq_true, nE_l, nE_r, nE_n, nLe_l, nLe_r, nLe_n, nLt_l, nLt_r, nLt_n, nA_l, nA_r, nI_add, nS_l, nS_n, nIn, nI_clamp, gI_I, gI_J, gI_D, gJ_J, gJ_I, gJ_D, true_and, and_true, false_and, and_false, if_true, if_false, false_implies, true_implies, not_true_eq_false, not_false_eq_true, bI_0, bI_1, Nat.reduceEqDiff, eq_self, nMax, nMin]
          refine ih (k + 1) _ _ _ (by omega) ((((hs.i 49 _ _ (by decide) (by decide)).i 50 _ _ (by decide) (by decide)).i 51 _ _ (by decide) (by decide)).f 19 _ (by decide)) ?_ ?_
          · unfold mSq
            rw [e3, e4, e5, e1]
            refine ⟨by simp (disch := first | omega | decide) only [nE_l, nE_r, nE_n, nLe_l, nLe_r, nLe_n, nLt_l, nLt_r, nLt_n, nA_l, nA_r, nI_add, nS_l, nS_n, nIn, nI_clamp, gI_I, gI_J, gI_D, gJ_J, gJ_I, gJ_D, true_and, and_true, false_and, and_false, if_true, if_false, false_implies, true_implies, not_true_eq_false, not_false_eq_true, bI_0, bI_1, Nat.reduceEqDiff, eq_self, nMax, nMin], by simp (disch := first | omega | decide) only [c2, nE_l, nE_r, nE_n, nLe_l, nLe_r, nLe_n, nLt_l, nLt_r, nLt_n, nA_l, nA_r, nI_add, nS_l, nS_n, nIn, nI_clamp, gI_I, gI_J, gI_D, gJ_J, gJ_I, gJ_D, true_and, and_true, false_and, and_false, if_true, if_false, false_implies, true_implies, not_true_eq_false, not_false_eq_true, bI_0, bI_1, Nat.reduceEqDiff, eq_self, nMax, nMin], (((c3.push).skip (by decide)).skip (by decide)).skip (by decide), ?_, (((c5.skip (by decide)).skip (by decide)).push).skip (by decide)⟩
            have h8 := ((((c4.skip (q' := 49) (i := tM T.c k) (v := nI k) (by decide)).push (v := T.c k)).skip (q' := 51) (i := tM T.c k) (v := nI (tSt T.c T.b k (tD T.c k))) (by decide)).skip (q' := 1) (i := 19) (v := nI (tM T.c k + 1)) (by decide))
            refine h8.eq (fun j hj => ?_)
            unfold upN
            split
            · rfl
            · rfl
          · rw [e1, e2]
            exact (((ho.skip (by decide)).skip (by decide)).skip (by decide)).skip (by decide)
        | true =>
          rw [if_neg h6, if_pos hm] at e1 e2
          rw [if_pos hm] at e3 e4 e5
          rw [e1] at hd1
          have go : ∀ v, v = lvIn (tSt T.c T.b k (tD T.c k)) (T.c k == 123) → ∀ y z, gWp none 160 (22, [some (.ref 1), some (.int (nI (k + 1))), y, z], [], gsI (gsI μ' 1 20 (nI (tD T.c k + 1))) 62 (tD T.c k + 1) (nI v)) 0 P := by
            intro v hv y z
            refine ih (k + 1) _ _ _ (by omega) ((hs.f 20 _ (by decide)).i 62 _ _ (by decide) (by decide)) ?_ ?_
            · unfold mSq
              rw [e3, e4, e5, e1]
              exact ⟨by simp (disch := first | omega | decide) only [c1, nE_l, nE_r, nE_n, nLe_l, nLe_r, nLe_n, nLt_l, nLt_r, nLt_n, nA_l, nA_r, nI_add, nS_l, nS_n, nIn, nI_clamp, gI_I, gI_J, gI_D, gJ_J, gJ_I, gJ_D, true_and, and_true, false_and, and_false, if_true, if_false, false_implies, true_implies, not_true_eq_false, not_false_eq_true, bI_0, bI_1, Nat.reduceEqDiff, eq_self, nMax, nMin], by simp (disch := first | omega | decide) only [nE_l, nE_r, nE_n, nLe_l, nLe_r, nLe_n, nLt_l, nLt_r, nLt_n, nA_l, nA_r, nI_add, nS_l, nS_n, nIn, nI_clamp, gI_I, gI_J, gI_D, gJ_J, gJ_I, gJ_D, true_and, and_true, false_and, and_false, if_true, if_false, false_implies, true_implies, not_true_eq_false, not_false_eq_true, bI_0, bI_1, Nat.reduceEqDiff, eq_self, nMax, nMin], (c3.skip (by decide)).skip (by decide), (c4.skip (by decide)).skip (by decide), (c5.skip (by decide)).skip (by decide)⟩
            · rw [e1, e2, ← hv]
              exact (ho.skip (by decide)).push
          have r2 := iR2 (e := tSt T.c T.b k (tD T.c k)) (by omega)
          simp (disch := first | omega | decide) only [h3, c2, h4, Bool.true_eq_false, i10, i01, i20, r2, show tD T.c k + 1 < 6 by omega, nE_l, nE_r, nE_n, nLe_l, nLe_r, nLe_n, nLt_l, nLt_r, nLt_n, nA_l, nA_r, nI_add, nS_l, nS_n, nIn, nI_clamp, gI_I, gI_J, gI_D, gJ_J, gJ_I, gJ_D, true_and, and_true, false_and, and_false, if_true, if_false, false_implies, true_implies, not_true_eq_false, not_false_eq_true, bI_0, bI_1, Nat.reduceEqDiff, eq_self, nMax, nMin]
          unfold lvIn at go
          refine ⟨fun h7 => ⟨fun q => ?_, fun q => ?_⟩, fun h7 => ⟨fun q => ?_, fun q => ?_⟩⟩
          · have h9 : T.c k = 123 := by
              unfold isMk at hm
              simp only [Bool.or_eq_true, beq_iff_eq] at hm
              omega
            refine go _ ?_ _ _
            rw [h9, if_neg (by unfold isOd; simp; omega)]
          · have h9 : T.c k = 123 := by
              unfold isMk at hm
              simp only [Bool.or_eq_true, beq_iff_eq] at hm
              omega
            refine go _ ?_ _ _
            rw [h9, if_pos (by unfold isOd; simp; omega)]
          · refine go _ ?_ _ _
            rw [h7, if_pos (by unfold isOd; simp; omega)]
          · refine go _ ?_ _ _
            rw [h7, if_neg (by unfold isOd; simp; omega)]
      · have hm : isMk (T.c k) = true := by rw [h6]; rfl
        rw [if_pos h6] at e1 e2
        rw [if_pos hm] at e3 e4 e5
        have h8 := hk.o k hlt h6
        refine ih (k + 1) _ _ _ (by omega) (hs.f 20 _ (by decide)) ?_ ?_
        · unfold mSq
          rw [e3, e4, e5, e1]
          exact ⟨by simp (disch := first | omega | decide) only [c1, nE_l, nE_r, nE_n, nLe_l, nLe_r, nLe_n, nLt_l, nLt_r, nLt_n, nA_l, nA_r, nI_add, nS_l, nS_n, nIn, nI_clamp, gI_I, gI_J, gI_D, gJ_J, gJ_I, gJ_D, true_and, and_true, false_and, and_false, if_true, if_false, false_implies, true_implies, not_true_eq_false, not_false_eq_true, bI_0, bI_1, Nat.reduceEqDiff, eq_self, nMax, nMin], by simp (disch := first | omega | decide) only [nE_l, nE_r, nE_n, nLe_l, nLe_r, nLe_n, nLt_l, nLt_r, nLt_n, nA_l, nA_r, nI_add, nS_l, nS_n, nIn, nI_clamp, gI_I, gI_J, gI_D, gJ_J, gJ_I, gJ_D, true_and, and_true, false_and, and_false, if_true, if_false, false_implies, true_implies, not_true_eq_false, not_false_eq_true, bI_0, bI_1, Nat.reduceEqDiff, eq_self, nMax, nMin], c3.skip (by decide), c4.skip (by decide), c5.skip (by decide)⟩
        · rw [e1, e2]
          exact (ho.skip (by decide)).sub (by omega)
  refine vc_160 (s_159 hk.b (by simp (disch := first | omega | decide) only [hT.2.2.2.1, nE_l, nE_r, nE_n, nLe_l, nLe_r, nLe_n, nLt_l, nLt_r, nLt_n, nA_l, nA_r, nI_add, nS_l, nS_n, nIn, nI_clamp, gI_I, gI_J, gI_D, gJ_J, gJ_I, gJ_D, true_and, and_true, false_and, and_false, if_true, if_false, false_implies, true_implies, not_true_eq_false, not_false_eq_true, bI_0, bI_1, Nat.reduceEqDiff, eq_self, nMax, nMin]) ⟨_, rfl, vp_in_nI (n := 0) (by decide) (by decide), ?_⟩)
  rw [sb_cl0]
  refine loop T.n 0 _ _ _ (by omega) ((((mF.rf _ _ μ).f 19 0 (by decide)).f 20 0 (by decide)).i 62 0 _ (by decide) (by decide)) ⟨by simp (disch := first | omega | decide) only [nE_l, nE_r, nE_n, nLe_l, nLe_r, nLe_n, nLt_l, nLt_r, nLt_n, nA_l, nA_r, nI_add, nS_l, nS_n, nIn, nI_clamp, gI_I, gI_J, gI_D, gJ_J, gJ_I, gJ_D, true_and, and_true, false_and, and_false, if_true, if_false, false_implies, true_implies, not_true_eq_false, not_false_eq_true, bI_0, bI_1, Nat.reduceEqDiff, eq_self, nMax, nMin]; rfl, by simp (disch := first | omega | decide) only [nE_l, nE_r, nE_n, nLe_l, nLe_r, nLe_n, nLt_l, nLt_r, nLt_n, nA_l, nA_r, nI_add, nS_l, nS_n, nIn, nI_clamp, gI_I, gI_J, gI_D, gJ_J, gJ_I, gJ_D, true_and, and_true, false_and, and_false, if_true, if_false, false_implies, true_implies, not_true_eq_false, not_false_eq_true, bI_0, bI_1, Nat.reduceEqDiff, eq_self, nMax, nMin]; rfl, gAr.nil _ _ _, gAr.nil _ _ _, gAr.nil _ _ _⟩ ?_
  intro j hj
  have : j = 0 := by
    have hj : j < 0 + 1 := hj
    omega
  subst this
  simp (disch := first | omega | decide) only [nE_l, nE_r, nE_n, nLe_l, nLe_r, nLe_n, nLt_l, nLt_r, nLt_n, nA_l, nA_r, nI_add, nS_l, nS_n, nIn, nI_clamp, gI_I, gI_J, gI_D, gJ_J, gJ_I, gJ_D, true_and, and_true, false_and, and_false, if_true, if_false, false_implies, true_implies, not_true_eq_false, not_false_eq_true, bI_0, bI_1, Nat.reduceEqDiff, eq_self, nMax, nMin]
  rfl
