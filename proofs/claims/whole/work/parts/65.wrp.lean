/-! THE LAW'S CALLS OF THE CLASS: which exception, by its number, or the answer in out -/
def cdF (l : List Nat) (e : Nat) : Nat := match l with | [] => 0 | a :: t => if e = a then 1 else 1 + cdF t e
def cdA {β : Type} (l : List Nat) (a : Nat ⊕ β) : Nat := match a with | .inl e => cdF l e | .inr _ => 0
def cW : List Nat := [0, 2, 3, 4, 5, 6, 7, 8, 9, 10, 11, 12, 13, 14, 15, 16, 17, 18, 19, 20, 21, 22, 23, 24, 25, 26, 27, 28, 29, 30, 31, 32, 33, 34, 35, 36, 37, 38, 39, 40, 41, 42, 43, 64, 65]
theorem cTab.sm {A : List Nat} {T : gS} {μ μ' : gMu} (h : cTab T μ) (hs : gSm A μ μ') (hA : ∀ a ∈ cC, a ∉ A) : cTab T μ' := by
  have z : ∀ a, a ∈ cC → a ∉ A := hA
  obtain ⟨a1, a2, a3, a4, a5, a6, a7, a8, a9, a10, a11, a12, a13⟩ := h
  exact ⟨cSq_sm a1 hs (z _ (by decide)) (z _ (by decide)) (z _ (by decide)) (z _ (by decide)) (z _ (by decide)), a2.sm hs (z _ (by decide)), a3.sm hs (z _ (by decide)), a4.sm hs (z _ (by decide)), by rw [hs.I (z _ (by decide)), a5], a6.sm hs (z _ (by decide)) (z _ (by decide)) (z _ (by decide)) (z _ (by decide)) (z _ (by decide)), a7.sm hs (z _ (by decide)), a8.sm hs (z _ (by decide)) (z _ (by decide)) (z _ (by decide)) (z _ (by decide)) (z _ (by decide)) (z _ (by decide)), by rw [hs.I (z _ (by decide)), a9], by rw [hs.I (z _ (by decide)), a10], by rw [hs.I (z _ (by decide)), a11], ⟨by rw [hs.I (z _ (by decide)), a12.1], by rw [hs.J (z _ (by decide)), a12.2.1], a12.2.2.sm hs (z _ (by decide))⟩, fun l hl => (a13 l hl).sm hs (z _ (by decide)) (z _ (by decide)) (z _ (by decide)) (z _ (by decide)) (z _ (by decide))⟩
theorem cI.sm {A : List Nat} {T : gS} {μ μ' : gMu} (h : cI T μ) (hs : gSm A μ μ') (hA : ∀ a ∈ cC, a ∉ A) : cI T μ' := by
  have z : ∀ a, a ∈ cC → a ∉ A := hA
  obtain ⟨a1, a2, a3, a4⟩ := h
  refine ⟨a1.sm hs (z _ (by decide)) (z _ (by decide)) (z _ (by decide)) (z _ (by decide)) (z _ (by decide)) (z _ (by decide)) (z _ (by decide)) (z _ (by decide)), by rw [hs.I (z _ (by decide)), a2], by rw [hs.I (z _ (by decide)), a3], ?_⟩
  rcases a4 with a4 | ⟨a4, a5⟩
  · exact Or.inl (by rw [hs.I (z _ (by decide)), a4])
  · exact Or.inr ⟨by rw [hs.I (z _ (by decide)), a4], a5.sm hs hA⟩
theorem bA_inr {β : Type} {a : Nat ⊕ Nat} {f : Nat → β} {e : Nat} (h : bA a (fun k => .inr (f k)) = .inl e) : a = .inl e := by
  cases a with
  | inl e2 => cases h; rfl
  | inr k => cases h
theorem slotA_e {T : gS} {x : Int32} {e : Nat} (h : slotA T x = .inl e) : e = 2 ∨ e = 3 := by
  unfold slotA at h
  split at h
  · cases h; exact Or.inl rfl
  · split at h
    · cases h; exact Or.inr rfl
    · cases h
theorem lnoA_e {T : gS} {x : Int32} {e : Nat} (h : lnoA T x = .inl e) : e = 1 ∨ e = 2 := by
  unfold lnoA at h
  split at h
  · split at h
    · cases h; exact Or.inr rfl
    · cases h
  · cases h; exact Or.inl rfl
theorem gilA_e {T : gS} {x : Int32} {e : Nat} (h : gilA T x = .inl e) : e = 2 ∨ e = 3 ∨ e = 1 ∨ e = 4 := by
  unfold gilA at h
  cases hs : slotA T x with
  | inl e2 =>
    rw [hs] at h
    cases h
    rcases slotA_e hs with r | r <;> omega
  | inr k =>
    rw [hs] at h
    have h : (if tTwT T = 0 then (if tCn T = 0 then (Sum.inl 4 : Nat ⊕ Nat) else .inr (tOw T k)) else .inl 1) = .inl e := h
    split at h
    · split at h
      · cases h; omega
      · cases h
    · cases h; omega
theorem plcA_e {T : gS} {x : Int32} {e : Nat} (h : plcA T x = .inl e) : e = 2 ∨ e = 3 ∨ e = 1 ∨ e = 4 := by
  unfold plcA at h
  cases hs : gilA T x with
  | inl e2 =>
    rw [hs] at h
    cases h
    exact gilA_e hs
  | inr g =>
    rw [hs] at h
    have h : (if lnE (tXx T) (tLs T) (lnOf T g) ≤ g then (Sum.inl 4 : Nat ⊕ Nat) else .inr g) = .inl e := h
    split at h
    · cases h; omega
    · cases h
theorem gatA_e {T : gS} {x y : Int32} {e : Nat} (h : gatA T x y = .inl e) : e = 1 ∨ e = 2 := by
  unfold gatA at h
  cases hs : lnoA T x with
  | inl e2 =>
    rw [hs] at h
    cases h
    exact lnoA_e hs
  | inr l =>
    rw [hs] at h
    have h : (match inx y (lnE (tXx T) (tLs T) l - lnS (tXx T) (tLs T) l) with | none => (Sum.inl 2 : Nat ⊕ Int32) | some r => .inr (nI (ixG T (oL (tGl T) (lnS (tXx T) (tLs T) l) (lnE (tXx T) (tLs T) l) (lnS (tXx T) (tLs T) l + r))))) = .inl e := h
    split at h
    · cases h; exact Or.inr rfl
    · cases h
theorem addA_e {T : gS} {a e : Nat} (h : addA T a = .inl e) : e = 0 ∨ e = 1 := by
  unfold addA at h
  split at h
  · split at h
    · cases h
    · cases h; exact Or.inr rfl
  · cases h; exact Or.inl rfl
theorem remA_e {T : gS} {e : Nat} (h : remA T = .inl e) : e = 4 := by
  unfold remA at h
  split at h
  · cases h; rfl
  · cases h
theorem swdA_e {T : gS} {a : Nat} {x : Int32} {e : Nat} (h : swdA T a x = .inl e) : e = 0 := by
  unfold swdA at h
  split at h
  · cases h; rfl
  · cases h
theorem slnA_e {T : gS} {x : Int32} {e : Nat} (h : slnA T x = .inl e) : e = 0 := by
  unfold slnA at h
  split at h
  · cases h; rfl
  · cases h
theorem ligO_e {T : gS} {x y : Int32} {a e : Nat} (h : ligO T x a y = .inl e) : e = 0 ∨ e = 1 := by
  unfold ligO at h
  split at h
  · split at h
    · split at h
      · cases h
      · cases h; exact Or.inr rfl
    · cases h; exact Or.inl rfl
  · cases h; exact Or.inl rfl
theorem ligA_e {T : gS} {x y : Int32} {a e : Nat} (h : ligA T x a y = .inl e) : e = 0 ∨ e = 1 := by
  unfold ligA at h
  cases hs : ligO T x a y with
  | inl e2 =>
    rw [hs] at h
    cases h
    exact ligO_e hs
  | inr p =>
    rw [hs] at h
    cases h
def chaA (T : gS) (x : Int32) : Nat ⊕ Int32 := match inx x T.n with | none => .inl 2 | some j => .inr (nI (T.c j))
theorem chaA_e {T : gS} {x : Int32} {e : Nat} (h : chaA T x = .inl e) : e = 2 := by
  unfold chaA at h
  split at h
  · cases h; rfl
  · cases h
theorem brkA_e {T : gS} {x : Int32} {e : Nat} (h : brkA T x = .inl e) : e = 2 := by
  unfold brkA at h
  split at h
  · cases h; rfl
  · cases h
theorem linA_e {T : gS} {e : Nat} (h : linA T = .inl e) : e = 1 := by
  unfold linA at h
  split at h
  · cases h
  · cases h; rfl
theorem ffiA_e {T : gS} {e : Nat} (h : ffiA T = .inl e) : e = 1 := by
  unfold ffiA at h
  split at h
  · cases h
  · cases h; rfl
theorem demA_e {T : gS} {e : Nat} (h : demA T = .inl e) : e = 1 := by
  unfold demA at h
  split at h
  · cases h
  · cases h; rfl
theorem dtrA_e {T : gS} {e : Nat} (h : dtrA T = .inl e) : e = 1 ∨ e = 3 := by
  unfold dtrA at h
  split at h
  · split at h
    · cases h; exact Or.inr rfl
    · cases h
  · cases h; exact Or.inl rfl
theorem ltrA_e {T : gS} {e : Nat} (h : ltrA T = .inl e) : e = 1 ∨ e = 3 := by
  unfold ltrA at h
  split at h
  · split at h
    · cases h; exact Or.inr rfl
    · cases h
  · cases h; exact Or.inl rfl
theorem hypA_e {T : gS} {e : Nat} (h : hypA T = .inl e) : e = 1 ∨ e = 5 := by
  unfold hypA at h
  split at h
  · split at h
    · cases h; exact Or.inr rfl
    · cases h
  · cases h; exact Or.inl rfl
theorem meaA_e {T : gS} {e : Nat} (h : meaA T = .inl e) : e = 1 ∨ e = 5 := by
  unfold meaA at h
  split at h
  · split at h
    · cases h; exact Or.inr rfl
    · cases h
  · cases h; exact Or.inl rfl
theorem s_89' {T : gS} {x : Int32} {μ : gMu} {P : gMu → gRes → Prop} (hk : gOk T) (hI : cI T μ) (h : ∀ μ', gSm cC μ μ' → cI T μ' → P μ' (rG (chaA T x))) : gCl' 89 [.ref 0, .int x] μ P := by
  have hp := h μ (gSm.rf _ _) hI
  unfold chaA at hp
  exact s_89 hk hI.1 (fun e => by rw [e] at hp; exact hp) (fun j e => by rw [e] at hp; exact hp)
theorem hypA_n {T : gS} {v : UInt32} (hk : gOk T) (h : hypA T = .inr v) : vf_n64 (FP.f2d v) := by
  have h50 := tX50 hk
  have hle := hyN_le T (tCn T)
  unfold hypA at h
  split at h
  · split at h
    · cases h
    · cases h
      exact (share_ok (by omega) (by omega) (by omega)).2
  · cases h
theorem gSm.d {A : List Nat} {μ μ' : gMu} (h : gSm A μ μ') (q j : Nat) (v : UInt64) (hq : q ∈ A) : gSm A μ (gsD μ' q j v) := by
  intro a ha
  have hne : a ≠ q := fun e => ha (e ▸ hq)
  refine ⟨(h a ha).1, (h a ha).2.1, ?_⟩
  show va_up μ'.2.2 q (vf_upd (μ'.2.2 q) j v) a = μ.2.2 a
  unfold va_up
  rw [if_neg hne]
  exact (h a ha).2.2
theorem w_75 {T : gS} {a : Nat} {μ : gMu} {P : gMu → gRes → Prop} (hk : gOk T) (ha : a < 65536) (hI : cI T μ) (h : ∀ μ', gSm cW μ μ' → cI (addT T a) μ' → (∀ v, addA T a = .inr v → gJ μ' 64 0 = v.toInt64) → P μ' (.inl (some (.int (nI (cdA [0, 1] (addA T a))))))) : gCl' 75 [.ref 0, .int (nI a), .ref 64] μ P := by
  refine vc_75 (s_74 hk hI ha (fun μ1 hs hI1 => ?_))
  cases hA : addA T a with
  | inr v =>
    refine Or.inl ⟨v, rfl, vp_in_nI (n := 0) (by decide) (by decide), ?_⟩
    rw [sb_cl0]
    have hs2 : gSm [64] μ1 (gsJ μ1 64 0 v.toInt64) := (gSm.rf [64] μ1).j 64 0 _ (by decide)
    have hp := h (gsJ μ1 64 0 v.toInt64) ((hs.up (by decide)).tr (hs2.up (by decide))) (hI1.sm hs2 (by decide)) (fun v' hv' => by rw [hA] at hv'; cases hv'; rw [gJ_J, if_pos ⟨rfl, rfl⟩])
    rw [hA] at hp
    exact hp
  | inl e =>
    have hp := h μ1 (hs.up (by decide)) hI1 (fun v hv => by rw [hA] at hv; cases hv)
    rw [hA] at hp
    have he := addA_e hA
    rcases he with rfl | rfl
    · exact Or.inr (Or.inl ⟨rfl, hp⟩)
    · exact Or.inr (Or.inr ⟨rfl, hp⟩)
theorem w_78 {T : gS} {μ : gMu} {P : gMu → gRes → Prop} (hk : gOk T) (hI : cI T μ) (h : ∀ μ', gSm cW μ μ' → cI (remT T) μ' → (∀ v, remA T = .inr v → gJ μ' 64 0 = v.toInt64) → P μ' (.inl (some (.int (nI (cdA [4] (remA T))))))) : gCl' 78 [.ref 0, .ref 64] μ P := by
  refine vc_78 (s_77 hk hI (fun μ1 hs hI1 => ?_))
  cases hA : remA T with
  | inr v =>
    refine Or.inl ⟨v, rfl, vp_in_nI (n := 0) (by decide) (by decide), ?_⟩
    rw [sb_cl0]
    have hs2 : gSm [64] μ1 (gsJ μ1 64 0 v.toInt64) := (gSm.rf [64] μ1).j 64 0 _ (by decide)
    have hp := h (gsJ μ1 64 0 v.toInt64) ((hs.up (by decide)).tr (hs2.up (by decide))) (hI1.sm hs2 (by decide)) (fun v' hv' => by rw [hA] at hv'; cases hv'; rw [gJ_J, if_pos ⟨rfl, rfl⟩])
    rw [hA] at hp
    exact hp
  | inl e =>
    have hp := h μ1 (hs.up (by decide)) hI1 (fun v hv => by rw [hA] at hv; cases hv)
    rw [hA] at hp
    have he := remA_e hA
    rcases he with rfl
    · exact Or.inr ⟨rfl, hp⟩
theorem w_81 {T : gS} {a : Nat} {x : Int32} {μ : gMu} {P : gMu → gRes → Prop} (hk : gOk T) (ha : a < 65536) (hI : cI T μ) (h : ∀ μ', gSm cW μ μ' → cI (swdT T a x) μ' → (∀ v, swdA T a x = .inr v → gJ μ' 64 0 = v.toInt64) → P μ' (.inl (some (.int (nI (cdA [0] (swdA T a x))))))) : gCl' 81 [.ref 0, .int (nI a), .int x, .ref 64] μ P := by
  refine vc_81 (s_80 hk hI ha (fun μ1 hs hI1 => ?_))
  cases hA : swdA T a x with
  | inr v =>
    refine Or.inl ⟨v, rfl, vp_in_nI (n := 0) (by decide) (by decide), ?_⟩
    rw [sb_cl0]
    have hs2 : gSm [64] μ1 (gsJ μ1 64 0 v.toInt64) := (gSm.rf [64] μ1).j 64 0 _ (by decide)
    have hp := h (gsJ μ1 64 0 v.toInt64) ((hs.up (by decide)).tr (hs2.up (by decide))) (hI1.sm hs2 (by decide)) (fun v' hv' => by rw [hA] at hv'; cases hv'; rw [gJ_J, if_pos ⟨rfl, rfl⟩])
    rw [hA] at hp
    exact hp
  | inl e =>
    have hp := h μ1 (hs.up (by decide)) hI1 (fun v hv => by rw [hA] at hv; cases hv)
    rw [hA] at hp
    have he := swdA_e hA
    rcases he with rfl
    · exact Or.inr ⟨rfl, hp⟩
theorem w_83 {T : gS} {x : Int32} {μ : gMu} {P : gMu → gRes → Prop} (hk : gOk T) (hI : cI T μ) (h : ∀ μ', gSm cW μ μ' → cI (slnT T x) μ' → (∀ v, slnA T x = .inr v → gJ μ' 64 0 = v.toInt64) → P μ' (.inl (some (.int (nI (cdA [0] (slnA T x))))))) : gCl' 83 [.ref 0, .int x, .ref 64] μ P := by
  refine vc_83 (s_82 hI (fun μ1 hs hI1 => ?_))
  cases hA : slnA T x with
  | inr v =>
    refine Or.inl ⟨v, rfl, vp_in_nI (n := 0) (by decide) (by decide), ?_⟩
    rw [sb_cl0]
    have hs2 : gSm [64] μ1 (gsJ μ1 64 0 v.toInt64) := (gSm.rf [64] μ1).j 64 0 _ (by decide)
    have hp := h (gsJ μ1 64 0 v.toInt64) ((hs.up (by decide)).tr (hs2.up (by decide))) (hI1.sm hs2 (by decide)) (fun v' hv' => by rw [hA] at hv'; cases hv'; rw [gJ_J, if_pos ⟨rfl, rfl⟩])
    rw [hA] at hp
    exact hp
  | inl e =>
    have hp := h μ1 (hs.up (by decide)) hI1 (fun v hv => by rw [hA] at hv; cases hv)
    rw [hA] at hp
    have he := slnA_e hA
    rcases he with rfl
    · exact Or.inr ⟨rfl, hp⟩
theorem w_87 {T : gS} {x y : Int32} {a : Nat} {μ : gMu} {P : gMu → gRes → Prop} (hk : gOk T) (ha : a < 65536) (hI : cI T μ) (h : ∀ μ', gSm cW μ μ' → cI (ligT T x a y) μ' → (∀ v, ligA T x a y = .inr v → gJ μ' 64 0 = v.toInt64) → P μ' (.inl (some (.int (nI (cdA [0, 1] (ligA T x a y))))))) : gCl' 87 [.ref 0, .int x, .int (nI a), .int y, .ref 64] μ P := by
  refine vc_87 (s_86 hk hI ha (fun μ1 hs hI1 => ?_))
  cases hA : ligA T x a y with
  | inr v =>
    refine Or.inl ⟨v, rfl, vp_in_nI (n := 0) (by decide) (by decide), ?_⟩
    rw [sb_cl0]
    have hs2 : gSm [64] μ1 (gsJ μ1 64 0 v.toInt64) := (gSm.rf [64] μ1).j 64 0 _ (by decide)
    have hp := h (gsJ μ1 64 0 v.toInt64) ((hs.up (by decide)).tr (hs2.up (by decide))) (hI1.sm hs2 (by decide)) (fun v' hv' => by rw [hA] at hv'; cases hv'; rw [gJ_J, if_pos ⟨rfl, rfl⟩])
    rw [hA] at hp
    exact hp
  | inl e =>
    have hp := h μ1 (hs.up (by decide)) hI1 (fun v hv => by rw [hA] at hv; cases hv)
    rw [hA] at hp
    have he := ligA_e hA
    rcases he with rfl | rfl
    · exact Or.inr (Or.inl ⟨rfl, hp⟩)
    · exact Or.inr (Or.inr ⟨rfl, hp⟩)
theorem w_90 {T : gS} {x : Int32} {μ : gMu} {P : gMu → gRes → Prop} (hk : gOk T) (hI : cI T μ) (h : ∀ μ', gSm cW μ μ' → cI (T) μ' → (∀ v, chaA T x = .inr v → gJ μ' 64 0 = v.toInt64) → P μ' (.inl (some (.int (nI (cdA [2] (chaA T x))))))) : gCl' 90 [.ref 0, .int x, .ref 64] μ P := by
  refine vc_90 (s_89' hk hI (fun μ1 hs hI1 => ?_))
  cases hA : chaA T x with
  | inr v =>
    refine Or.inl ⟨v, rfl, vp_in_nI (n := 0) (by decide) (by decide), ?_⟩
    rw [sb_cl0]
    have hs2 : gSm [64] μ1 (gsJ μ1 64 0 v.toInt64) := (gSm.rf [64] μ1).j 64 0 _ (by decide)
    have hp := h (gsJ μ1 64 0 v.toInt64) ((hs.up (by decide)).tr (hs2.up (by decide))) (hI1.sm hs2 (by decide)) (fun v' hv' => by rw [hA] at hv'; cases hv'; rw [gJ_J, if_pos ⟨rfl, rfl⟩])
    rw [hA] at hp
    exact hp
  | inl e =>
    have hp := h μ1 (hs.up (by decide)) hI1 (fun v hv => by rw [hA] at hv; cases hv)
    rw [hA] at hp
    have he := chaA_e hA
    rcases he with rfl
    · exact Or.inr ⟨rfl, hp⟩
theorem w_93 {T : gS} {x : Int32} {μ : gMu} {P : gMu → gRes → Prop} (hk : gOk T) (hI : cI T μ) (h : ∀ μ', gSm cW μ μ' → cI (T) μ' → (∀ v, embA T x = .inr v → gJ μ' 64 0 = v.toInt64) → P μ' (.inl (some (.int (nI (cdA [2, 3] (embA T x))))))) : gCl' 93 [.ref 0, .int x, .ref 64] μ P := by
  refine vc_93 (s_92 hk hI (fun μ1 hs hI1 => ?_))
  cases hA : embA T x with
  | inr v =>
    refine Or.inl ⟨v, rfl, vp_in_nI (n := 0) (by decide) (by decide), ?_⟩
    rw [sb_cl0]
    have hs2 : gSm [64] μ1 (gsJ μ1 64 0 v.toInt64) := (gSm.rf [64] μ1).j 64 0 _ (by decide)
    have hp := h (gsJ μ1 64 0 v.toInt64) ((hs.up (by decide)).tr (hs2.up (by decide))) (hI1.sm hs2 (by decide)) (fun v' hv' => by rw [hA] at hv'; cases hv'; rw [gJ_J, if_pos ⟨rfl, rfl⟩])
    rw [hA] at hp
    exact hp
  | inl e =>
    have hp := h μ1 (hs.up (by decide)) hI1 (fun v hv => by rw [hA] at hv; cases hv)
    rw [hA] at hp
    have hz := hA
    unfold embA at hz
    have he := slotA_e (bA_inr hz)
    rcases he with rfl | rfl
    · exact Or.inr (Or.inl ⟨rfl, hp⟩)
    · exact Or.inr (Or.inr ⟨rfl, hp⟩)
theorem w_95 {T : gS} {x : Int32} {μ : gMu} {P : gMu → gRes → Prop} (hk : gOk T) (hI : cI T μ) (h : ∀ μ', gSm cW μ μ' → cI (T) μ' → (∀ v, levA T x = .inr v → gJ μ' 64 0 = v.toInt64) → P μ' (.inl (some (.int (nI (cdA [2, 3] (levA T x))))))) : gCl' 95 [.ref 0, .int x, .ref 64] μ P := by
  refine vc_95 (s_94 hk hI (fun μ1 hs hI1 => ?_))
  cases hA : levA T x with
  | inr v =>
    refine Or.inl ⟨v, rfl, vp_in_nI (n := 0) (by decide) (by decide), ?_⟩
    rw [sb_cl0]
    have hs2 : gSm [64] μ1 (gsJ μ1 64 0 v.toInt64) := (gSm.rf [64] μ1).j 64 0 _ (by decide)
    have hp := h (gsJ μ1 64 0 v.toInt64) ((hs.up (by decide)).tr (hs2.up (by decide))) (hI1.sm hs2 (by decide)) (fun v' hv' => by rw [hA] at hv'; cases hv'; rw [gJ_J, if_pos ⟨rfl, rfl⟩])
    rw [hA] at hp
    exact hp
  | inl e =>
    have hp := h μ1 (hs.up (by decide)) hI1 (fun v hv => by rw [hA] at hv; cases hv)
    rw [hA] at hp
    have hz := hA
    unfold levA at hz
    have he := slotA_e (bA_inr hz)
    rcases he with rfl | rfl
    · exact Or.inr (Or.inl ⟨rfl, hp⟩)
    · exact Or.inr (Or.inr ⟨rfl, hp⟩)
theorem w_97 {T : gS} {x : Int32} {μ : gMu} {P : gMu → gRes → Prop} (hk : gOk T) (hI : cI T μ) (h : ∀ μ', gSm cW μ μ' → cI (T) μ' → (∀ v, scrA T x = .inr v → gJ μ' 64 0 = v.toInt64) → P μ' (.inl (some (.int (nI (cdA [2, 3] (scrA T x))))))) : gCl' 97 [.ref 0, .int x, .ref 64] μ P := by
  refine vc_97 (s_96 hk hI (fun μ1 hs hI1 => ?_))
  cases hA : scrA T x with
  | inr v =>
    refine Or.inl ⟨v, rfl, vp_in_nI (n := 0) (by decide) (by decide), ?_⟩
    rw [sb_cl0]
    have hs2 : gSm [64] μ1 (gsJ μ1 64 0 v.toInt64) := (gSm.rf [64] μ1).j 64 0 _ (by decide)
    have hp := h (gsJ μ1 64 0 v.toInt64) ((hs.up (by decide)).tr (hs2.up (by decide))) (hI1.sm hs2 (by decide)) (fun v' hv' => by rw [hA] at hv'; cases hv'; rw [gJ_J, if_pos ⟨rfl, rfl⟩])
    rw [hA] at hp
    exact hp
  | inl e =>
    have hp := h μ1 (hs.up (by decide)) hI1 (fun v hv => by rw [hA] at hv; cases hv)
    rw [hA] at hp
    have hz := hA
    unfold scrA at hz
    have he := slotA_e (bA_inr hz)
    rcases he with rfl | rfl
    · exact Or.inr (Or.inl ⟨rfl, hp⟩)
    · exact Or.inr (Or.inr ⟨rfl, hp⟩)
theorem w_99 {T : gS} {x : Int32} {μ : gMu} {P : gMu → gRes → Prop} (hk : gOk T) (hI : cI T μ) (h : ∀ μ', gSm cW μ μ' → cI (T) μ' → (∀ v, runA T x = .inr v → gJ μ' 64 0 = v.toInt64) → P μ' (.inl (some (.int (nI (cdA [2, 3] (runA T x))))))) : gCl' 99 [.ref 0, .int x, .ref 64] μ P := by
  refine vc_99 (s_98 hk hI (fun μ1 hs hI1 => ?_))
  cases hA : runA T x with
  | inr v =>
    refine Or.inl ⟨v, rfl, vp_in_nI (n := 0) (by decide) (by decide), ?_⟩
    rw [sb_cl0]
    have hs2 : gSm [64] μ1 (gsJ μ1 64 0 v.toInt64) := (gSm.rf [64] μ1).j 64 0 _ (by decide)
    have hp := h (gsJ μ1 64 0 v.toInt64) ((hs.up (by decide)).tr (hs2.up (by decide))) (hI1.sm hs2 (by decide)) (fun v' hv' => by rw [hA] at hv'; cases hv'; rw [gJ_J, if_pos ⟨rfl, rfl⟩])
    rw [hA] at hp
    exact hp
  | inl e =>
    have hp := h μ1 (hs.up (by decide)) hI1 (fun v hv => by rw [hA] at hv; cases hv)
    rw [hA] at hp
    have hz := hA
    unfold runA at hz
    have he := slotA_e (bA_inr hz)
    rcases he with rfl | rfl
    · exact Or.inr (Or.inl ⟨rfl, hp⟩)
    · exact Or.inr (Or.inr ⟨rfl, hp⟩)
theorem w_102 {T : gS} {x : Int32} {μ : gMu} {P : gMu → gRes → Prop} (hk : gOk T) (hI : cI T μ) (h : ∀ μ', gSm cW μ μ' → cI (T) μ' → (∀ v, glyA T x = .inr v → gJ μ' 64 0 = v.toInt64) → P μ' (.inl (some (.int (nI (cdA [2, 3] (glyA T x))))))) : gCl' 102 [.ref 0, .int x, .ref 64] μ P := by
  refine vc_102 (s_101 hk hI (fun μ1 hs hI1 => ?_))
  cases hA : glyA T x with
  | inr v =>
    refine Or.inl ⟨v, rfl, vp_in_nI (n := 0) (by decide) (by decide), ?_⟩
    rw [sb_cl0]
    have hs2 : gSm [64] μ1 (gsJ μ1 64 0 v.toInt64) := (gSm.rf [64] μ1).j 64 0 _ (by decide)
    have hp := h (gsJ μ1 64 0 v.toInt64) ((hs.up (by decide)).tr (hs2.up (by decide))) (hI1.sm hs2 (by decide)) (fun v' hv' => by rw [hA] at hv'; cases hv'; rw [gJ_J, if_pos ⟨rfl, rfl⟩])
    rw [hA] at hp
    exact hp
  | inl e =>
    have hp := h μ1 (hs.up (by decide)) hI1 (fun v hv => by rw [hA] at hv; cases hv)
    rw [hA] at hp
    have hz := hA
    unfold glyA at hz
    have he := slotA_e (bA_inr hz)
    rcases he with rfl | rfl
    · exact Or.inr (Or.inl ⟨rfl, hp⟩)
    · exact Or.inr (Or.inr ⟨rfl, hp⟩)
theorem w_104 {T : gS} {x : Int32} {μ : gMu} {P : gMu → gRes → Prop} (hk : gOk T) (hI : cI T μ) (h : ∀ μ', gSm cW μ μ' → cI (T) μ' → (∀ v, gstA T x = .inr v → gJ μ' 64 0 = v.toInt64) → P μ' (.inl (some (.int (nI (cdA [2, 3] (gstA T x))))))) : gCl' 104 [.ref 0, .int x, .ref 64] μ P := by
  refine vc_104 (s_103 hk hI (fun μ1 hs hI1 => ?_))
  cases hA : gstA T x with
  | inr v =>
    refine Or.inl ⟨v, rfl, vp_in_nI (n := 0) (by decide) (by decide), ?_⟩
    rw [sb_cl0]
    have hs2 : gSm [64] μ1 (gsJ μ1 64 0 v.toInt64) := (gSm.rf [64] μ1).j 64 0 _ (by decide)
    have hp := h (gsJ μ1 64 0 v.toInt64) ((hs.up (by decide)).tr (hs2.up (by decide))) (hI1.sm hs2 (by decide)) (fun v' hv' => by rw [hA] at hv'; cases hv'; rw [gJ_J, if_pos ⟨rfl, rfl⟩])
    rw [hA] at hp
    exact hp
  | inl e =>
    have hp := h μ1 (hs.up (by decide)) hI1 (fun v hv => by rw [hA] at hv; cases hv)
    rw [hA] at hp
    have hz := hA
    unfold gstA at hz
    have he := slotA_e (bA_inr hz)
    rcases he with rfl | rfl
    · exact Or.inr (Or.inl ⟨rfl, hp⟩)
    · exact Or.inr (Or.inr ⟨rfl, hp⟩)
theorem w_106 {T : gS} {x : Int32} {μ : gMu} {P : gMu → gRes → Prop} (hk : gOk T) (hI : cI T μ) (h : ∀ μ', gSm cW μ μ' → cI (T) μ' → (∀ v, brkA T x = .inr v → gJ μ' 64 0 = v.toInt64) → P μ' (.inl (some (.int (nI (cdA [2] (brkA T x))))))) : gCl' 106 [.ref 0, .int x, .ref 64] μ P := by
  refine vc_106 (s_105 hk hI (fun μ1 hs hI1 => ?_))
  cases hA : brkA T x with
  | inr v =>
    refine Or.inl ⟨v, rfl, vp_in_nI (n := 0) (by decide) (by decide), ?_⟩
    rw [sb_cl0]
    have hs2 : gSm [64] μ1 (gsJ μ1 64 0 v.toInt64) := (gSm.rf [64] μ1).j 64 0 _ (by decide)
    have hp := h (gsJ μ1 64 0 v.toInt64) ((hs.up (by decide)).tr (hs2.up (by decide))) (hI1.sm hs2 (by decide)) (fun v' hv' => by rw [hA] at hv'; cases hv'; rw [gJ_J, if_pos ⟨rfl, rfl⟩])
    rw [hA] at hp
    exact hp
  | inl e =>
    have hp := h μ1 (hs.up (by decide)) hI1 (fun v hv => by rw [hA] at hv; cases hv)
    rw [hA] at hp
    have he := brkA_e hA
    rcases he with rfl
    · exact Or.inr ⟨rfl, hp⟩
theorem w_109 {T : gS} {μ : gMu} {P : gMu → gRes → Prop} (hk : gOk T) (hI : cI T μ) (h : ∀ μ', gSm cW μ μ' → cI (T) μ' → (∀ v, linA T = .inr v → gJ μ' 64 0 = v.toInt64) → P μ' (.inl (some (.int (nI (cdA [1] (linA T))))))) : gCl' 109 [.ref 0, .ref 64] μ P := by
  refine vc_109 (s_108 hk hI (fun μ1 hs hI1 => ?_))
  cases hA : linA T with
  | inr v =>
    refine Or.inl ⟨v, rfl, vp_in_nI (n := 0) (by decide) (by decide), ?_⟩
    rw [sb_cl0]
    have hs2 : gSm [64] μ1 (gsJ μ1 64 0 v.toInt64) := (gSm.rf [64] μ1).j 64 0 _ (by decide)
    have hp := h (gsJ μ1 64 0 v.toInt64) ((hs.up (by decide)).tr (hs2.up (by decide))) (hI1.sm hs2 (by decide)) (fun v' hv' => by rw [hA] at hv'; cases hv'; rw [gJ_J, if_pos ⟨rfl, rfl⟩])
    rw [hA] at hp
    exact hp
  | inl e =>
    have hp := h μ1 (hs.up (by decide)) hI1 (fun v hv => by rw [hA] at hv; cases hv)
    rw [hA] at hp
    have he := linA_e hA
    rcases he with rfl
    · exact Or.inr ⟨rfl, hp⟩
theorem w_112 {T : gS} {μ : gMu} {P : gMu → gRes → Prop} (hk : gOk T) (hI : cI T μ) (h : ∀ μ', gSm cW μ μ' → cI (T) μ' → (∀ v, ffiA T = .inr v → gJ μ' 64 0 = v.toInt64) → P μ' (.inl (some (.int (nI (cdA [1] (ffiA T))))))) : gCl' 112 [.ref 0, .ref 64] μ P := by
  refine vc_112 (s_111 hk hI (fun μ1 hs hI1 => ?_))
  cases hA : ffiA T with
  | inr v =>
    refine Or.inl ⟨v, rfl, vp_in_nI (n := 0) (by decide) (by decide), ?_⟩
    rw [sb_cl0]
    have hs2 : gSm [64] μ1 (gsJ μ1 64 0 v.toInt64) := (gSm.rf [64] μ1).j 64 0 _ (by decide)
    have hp := h (gsJ μ1 64 0 v.toInt64) ((hs.up (by decide)).tr (hs2.up (by decide))) (hI1.sm hs2 (by decide)) (fun v' hv' => by rw [hA] at hv'; cases hv'; rw [gJ_J, if_pos ⟨rfl, rfl⟩])
    rw [hA] at hp
    exact hp
  | inl e =>
    have hp := h μ1 (hs.up (by decide)) hI1 (fun v hv => by rw [hA] at hv; cases hv)
    rw [hA] at hp
    have he := ffiA_e hA
    rcases he with rfl
    · exact Or.inr ⟨rfl, hp⟩
theorem w_115 {T : gS} {x : Int32} {μ : gMu} {P : gMu → gRes → Prop} (hk : gOk T) (hI : cI T μ) (h : ∀ μ', gSm cW μ μ' → cI (T) μ' → (∀ v, firA T x = .inr v → gJ μ' 64 0 = v.toInt64) → P μ' (.inl (some (.int (nI (cdA [1, 2] (firA T x))))))) : gCl' 115 [.ref 0, .int x, .ref 64] μ P := by
  refine vc_115 (s_114 hk hI (fun μ1 hs hI1 => ?_))
  cases hA : firA T x with
  | inr v =>
    refine Or.inl ⟨v, rfl, vp_in_nI (n := 0) (by decide) (by decide), ?_⟩
    rw [sb_cl0]
    have hs2 : gSm [64] μ1 (gsJ μ1 64 0 v.toInt64) := (gSm.rf [64] μ1).j 64 0 _ (by decide)
    have hp := h (gsJ μ1 64 0 v.toInt64) ((hs.up (by decide)).tr (hs2.up (by decide))) (hI1.sm hs2 (by decide)) (fun v' hv' => by rw [hA] at hv'; cases hv'; rw [gJ_J, if_pos ⟨rfl, rfl⟩])
    rw [hA] at hp
    exact hp
  | inl e =>
    have hp := h μ1 (hs.up (by decide)) hI1 (fun v hv => by rw [hA] at hv; cases hv)
    rw [hA] at hp
    have hz := hA
    unfold firA at hz
    have he := lnoA_e (bA_inr hz)
    rcases he with rfl | rfl
    · exact Or.inr (Or.inl ⟨rfl, hp⟩)
    · exact Or.inr (Or.inr ⟨rfl, hp⟩)
theorem w_120 {T : gS} {x : Int32} {μ : gMu} {P : gMu → gRes → Prop} (hk : gOk T) (hI : cI T μ) (h : ∀ μ', gSm cW μ μ' → cI (T) μ' → (∀ v, widA T x = .inr v → gJ μ' 64 0 = v.toInt64) → P μ' (.inl (some (.int (nI (cdA [1, 2] (widA T x))))))) : gCl' 120 [.ref 0, .int x, .ref 64] μ P := by
  refine vc_120 (s_119 hk hI (fun μ1 hs hI1 => ?_))
  cases hA : widA T x with
  | inr v =>
    refine Or.inl ⟨v, rfl, vp_in_nI (n := 0) (by decide) (by decide), ?_⟩
    rw [sb_cl0]
    have hs2 : gSm [64] μ1 (gsJ μ1 64 0 v.toInt64) := (gSm.rf [64] μ1).j 64 0 _ (by decide)
    have hp := h (gsJ μ1 64 0 v.toInt64) ((hs.up (by decide)).tr (hs2.up (by decide))) (hI1.sm hs2 (by decide)) (fun v' hv' => by rw [hA] at hv'; cases hv'; rw [gJ_J, if_pos ⟨rfl, rfl⟩])
    rw [hA] at hp
    exact hp
  | inl e =>
    have hp := h μ1 (hs.up (by decide)) hI1 (fun v hv => by rw [hA] at hv; cases hv)
    rw [hA] at hp
    have hz := hA
    unfold widA at hz
    have he := lnoA_e (bA_inr hz)
    rcases he with rfl | rfl
    · exact Or.inr (Or.inl ⟨rfl, hp⟩)
    · exact Or.inr (Or.inr ⟨rfl, hp⟩)
theorem w_122 {T : gS} {x : Int32} {μ : gMu} {P : gMu → gRes → Prop} (hk : gOk T) (hI : cI T μ) (h : ∀ μ', gSm cW μ μ' → cI (T) μ' → (∀ v, badA T x = .inr v → gJ μ' 64 0 = v.toInt64) → P μ' (.inl (some (.int (nI (cdA [1, 2] (badA T x))))))) : gCl' 122 [.ref 0, .int x, .ref 64] μ P := by
  refine vc_122 (s_121 hk hI (fun μ1 hs hI1 => ?_))
  cases hA : badA T x with
  | inr v =>
    refine Or.inl ⟨v, rfl, vp_in_nI (n := 0) (by decide) (by decide), ?_⟩
    rw [sb_cl0]
    have hs2 : gSm [64] μ1 (gsJ μ1 64 0 v.toInt64) := (gSm.rf [64] μ1).j 64 0 _ (by decide)
    have hp := h (gsJ μ1 64 0 v.toInt64) ((hs.up (by decide)).tr (hs2.up (by decide))) (hI1.sm hs2 (by decide)) (fun v' hv' => by rw [hA] at hv'; cases hv'; rw [gJ_J, if_pos ⟨rfl, rfl⟩])
    rw [hA] at hp
    exact hp
  | inl e =>
    have hp := h μ1 (hs.up (by decide)) hI1 (fun v hv => by rw [hA] at hv; cases hv)
    rw [hA] at hp
    have hz := hA
    unfold badA at hz
    have he := lnoA_e (bA_inr hz)
    rcases he with rfl | rfl
    · exact Or.inr (Or.inl ⟨rfl, hp⟩)
    · exact Or.inr (Or.inr ⟨rfl, hp⟩)
theorem w_134 {T : gS} {x : Int32} {μ : gMu} {P : gMu → gRes → Prop} (hk : gOk T) (hI : cI T μ) (h : ∀ μ', gSm cW μ μ' → cI (T) μ' → (∀ v, gofA T x = .inr v → gJ μ' 64 0 = v.toInt64) → P μ' (.inl (some (.int (nI (cdA [1, 2] (gofA T x))))))) : gCl' 134 [.ref 0, .int x, .ref 64] μ P := by
  refine vc_134 (s_133 hk hI (fun μ1 hs hI1 => ?_))
  cases hA : gofA T x with
  | inr v =>
    refine Or.inl ⟨v, rfl, vp_in_nI (n := 0) (by decide) (by decide), ?_⟩
    rw [sb_cl0]
    have hs2 : gSm [64] μ1 (gsJ μ1 64 0 v.toInt64) := (gSm.rf [64] μ1).j 64 0 _ (by decide)
    have hp := h (gsJ μ1 64 0 v.toInt64) ((hs.up (by decide)).tr (hs2.up (by decide))) (hI1.sm hs2 (by decide)) (fun v' hv' => by rw [hA] at hv'; cases hv'; rw [gJ_J, if_pos ⟨rfl, rfl⟩])
    rw [hA] at hp
    exact hp
  | inl e =>
    have hp := h μ1 (hs.up (by decide)) hI1 (fun v hv => by rw [hA] at hv; cases hv)
    rw [hA] at hp
    have hz := hA
    unfold gofA at hz
    have he := lnoA_e (bA_inr hz)
    rcases he with rfl | rfl
    · exact Or.inr (Or.inl ⟨rfl, hp⟩)
    · exact Or.inr (Or.inr ⟨rfl, hp⟩)
theorem w_136 {T : gS} {x y : Int32} {μ : gMu} {P : gMu → gRes → Prop} (hk : gOk T) (hI : cI T μ) (h : ∀ μ', gSm cW μ μ' → cI (T) μ' → (∀ v, gatA T x y = .inr v → gJ μ' 64 0 = v.toInt64) → P μ' (.inl (some (.int (nI (cdA [1, 2] (gatA T x y))))))) : gCl' 136 [.ref 0, .int x, .int y, .ref 64] μ P := by
  refine vc_136 (s_135 hk hI (fun μ1 hs hI1 => ?_))
  cases hA : gatA T x y with
  | inr v =>
    refine Or.inl ⟨v, rfl, vp_in_nI (n := 0) (by decide) (by decide), ?_⟩
    rw [sb_cl0]
    have hs2 : gSm [64] μ1 (gsJ μ1 64 0 v.toInt64) := (gSm.rf [64] μ1).j 64 0 _ (by decide)
    have hp := h (gsJ μ1 64 0 v.toInt64) ((hs.up (by decide)).tr (hs2.up (by decide))) (hI1.sm hs2 (by decide)) (fun v' hv' => by rw [hA] at hv'; cases hv'; rw [gJ_J, if_pos ⟨rfl, rfl⟩])
    rw [hA] at hp
    exact hp
  | inl e =>
    have hp := h μ1 (hs.up (by decide)) hI1 (fun v hv => by rw [hA] at hv; cases hv)
    rw [hA] at hp
    have he := gatA_e hA
    rcases he with rfl | rfl
    · exact Or.inr (Or.inl ⟨rfl, hp⟩)
    · exact Or.inr (Or.inr ⟨rfl, hp⟩)
theorem w_118 {T : gS} {x : Int32} {μ : gMu} {P : gMu → gRes → Prop} (hk : gOk T) (hI : cI T μ) (h : ∀ μ', gSm cW μ μ' → cI (T) μ' → (∀ v, lofA T x = .inr v → gJ μ' 64 0 = v.toInt64) → P μ' (.inl (some (.int (nI (cdA [2, 3, 1, 4] (lofA T x))))))) : gCl' 118 [.ref 0, .int x, .ref 64] μ P := by
  refine vc_118 (s_117 hk hI (fun μ1 hs hI1 => ?_))
  cases hA : lofA T x with
  | inr v =>
    refine Or.inl ⟨v, rfl, vp_in_nI (n := 0) (by decide) (by decide), ?_⟩
    rw [sb_cl0]
    have hs2 : gSm [64] μ1 (gsJ μ1 64 0 v.toInt64) := (gSm.rf [64] μ1).j 64 0 _ (by decide)
    have hp := h (gsJ μ1 64 0 v.toInt64) ((hs.up (by decide)).tr (hs2.up (by decide))) (hI1.sm hs2 (by decide)) (fun v' hv' => by rw [hA] at hv'; cases hv'; rw [gJ_J, if_pos ⟨rfl, rfl⟩])
    rw [hA] at hp
    exact hp
  | inl e =>
    have hp := h μ1 (hs.up (by decide)) hI1 (fun v hv => by rw [hA] at hv; cases hv)
    rw [hA] at hp
    have hz := hA
    unfold lofA at hz
    have he := gilA_e (bA_inr hz)
    rcases he with rfl | rfl | rfl | rfl
    · exact Or.inr (Or.inl ⟨rfl, hp⟩)
    · exact Or.inr (Or.inr (Or.inl ⟨rfl, hp⟩))
    · exact Or.inr (Or.inr (Or.inr (Or.inl ⟨rfl, hp⟩)))
    · exact Or.inr (Or.inr (Or.inr (Or.inr ⟨rfl, hp⟩)))
theorem w_139 {T : gS} {x : Int32} {μ : gMu} {P : gMu → gRes → Prop} (hk : gOk T) (hI : cI T μ) (h : ∀ μ', gSm cW μ μ' → cI (T) μ' → (∀ v, rnkA T x = .inr v → gJ μ' 64 0 = v.toInt64) → P μ' (.inl (some (.int (nI (cdA [2, 3, 1, 4] (rnkA T x))))))) : gCl' 139 [.ref 0, .int x, .ref 64] μ P := by
  refine vc_139 (s_138 hk hI (fun μ1 hs hI1 => ?_))
  cases hA : rnkA T x with
  | inr v =>
    refine Or.inl ⟨v, rfl, vp_in_nI (n := 0) (by decide) (by decide), ?_⟩
    rw [sb_cl0]
    have hs2 : gSm [64] μ1 (gsJ μ1 64 0 v.toInt64) := (gSm.rf [64] μ1).j 64 0 _ (by decide)
    have hp := h (gsJ μ1 64 0 v.toInt64) ((hs.up (by decide)).tr (hs2.up (by decide))) (hI1.sm hs2 (by decide)) (fun v' hv' => by rw [hA] at hv'; cases hv'; rw [gJ_J, if_pos ⟨rfl, rfl⟩])
    rw [hA] at hp
    exact hp
  | inl e =>
    have hp := h μ1 (hs.up (by decide)) hI1 (fun v hv => by rw [hA] at hv; cases hv)
    rw [hA] at hp
    have hz := hA
    unfold rnkA at hz
    have he := plcA_e (bA_inr hz)
    rcases he with rfl | rfl | rfl | rfl
    · exact Or.inr (Or.inl ⟨rfl, hp⟩)
    · exact Or.inr (Or.inr (Or.inl ⟨rfl, hp⟩))
    · exact Or.inr (Or.inr (Or.inr (Or.inl ⟨rfl, hp⟩)))
    · exact Or.inr (Or.inr (Or.inr (Or.inr ⟨rfl, hp⟩)))
theorem w_142 {T : gS} {x : Int32} {μ : gMu} {P : gMu → gRes → Prop} (hk : gOk T) (hI : cI T μ) (h : ∀ μ', gSm cW μ μ' → cI (T) μ' → (∀ v, rnkA T x = .inr v → gJ μ' 64 0 = v.toInt64) → P μ' (.inl (some (.int (nI (cdA [2, 3, 1, 4] (rnkA T x))))))) : gCl' 142 [.ref 0, .int x, .ref 64] μ P := by
  refine vc_142 (s_141 hk hI (fun μ1 hs hI1 => ?_))
  cases hA : rnkA T x with
  | inr v =>
    refine Or.inl ⟨v, rfl, vp_in_nI (n := 0) (by decide) (by decide), ?_⟩
    rw [sb_cl0]
    have hs2 : gSm [64] μ1 (gsJ μ1 64 0 v.toInt64) := (gSm.rf [64] μ1).j 64 0 _ (by decide)
    have hp := h (gsJ μ1 64 0 v.toInt64) ((hs.up (by decide)).tr (hs2.up (by decide))) (hI1.sm hs2 (by decide)) (fun v' hv' => by rw [hA] at hv'; cases hv'; rw [gJ_J, if_pos ⟨rfl, rfl⟩])
    rw [hA] at hp
    exact hp
  | inl e =>
    have hp := h μ1 (hs.up (by decide)) hI1 (fun v hv => by rw [hA] at hv; cases hv)
    rw [hA] at hp
    have hz := hA
    unfold rnkA at hz
    have he := plcA_e (bA_inr hz)
    rcases he with rfl | rfl | rfl | rfl
    · exact Or.inr (Or.inl ⟨rfl, hp⟩)
    · exact Or.inr (Or.inr (Or.inl ⟨rfl, hp⟩))
    · exact Or.inr (Or.inr (Or.inr (Or.inl ⟨rfl, hp⟩)))
    · exact Or.inr (Or.inr (Or.inr (Or.inr ⟨rfl, hp⟩)))
theorem w_144 {T : gS} {x : Int32} {μ : gMu} {P : gMu → gRes → Prop} (hk : gOk T) (hI : cI T μ) (h : ∀ μ', gSm cW μ μ' → cI (T) μ' → (∀ v, plaA T x = .inr v → gJ μ' 64 0 = v.toInt64) → P μ' (.inl (some (.int (nI (cdA [2, 3, 1, 4] (plaA T x))))))) : gCl' 144 [.ref 0, .int x, .ref 64] μ P := by
  refine vc_144 (s_143 hk hI (fun μ1 hs hI1 => ?_))
  cases hA : plaA T x with
  | inr v =>
    refine Or.inl ⟨v, rfl, vp_in_nI (n := 0) (by decide) (by decide), ?_⟩
    rw [sb_cl0]
    have hs2 : gSm [64] μ1 (gsJ μ1 64 0 v.toInt64) := (gSm.rf [64] μ1).j 64 0 _ (by decide)
    have hp := h (gsJ μ1 64 0 v.toInt64) ((hs.up (by decide)).tr (hs2.up (by decide))) (hI1.sm hs2 (by decide)) (fun v' hv' => by rw [hA] at hv'; cases hv'; rw [gJ_J, if_pos ⟨rfl, rfl⟩])
    rw [hA] at hp
    exact hp
  | inl e =>
    have hp := h μ1 (hs.up (by decide)) hI1 (fun v hv => by rw [hA] at hv; cases hv)
    rw [hA] at hp
    have hz := hA
    unfold plaA at hz
    have he := plcA_e (bA_inr hz)
    rcases he with rfl | rfl | rfl | rfl
    · exact Or.inr (Or.inl ⟨rfl, hp⟩)
    · exact Or.inr (Or.inr (Or.inl ⟨rfl, hp⟩))
    · exact Or.inr (Or.inr (Or.inr (Or.inl ⟨rfl, hp⟩)))
    · exact Or.inr (Or.inr (Or.inr (Or.inr ⟨rfl, hp⟩)))
theorem w_146 {T : gS} {x : Int32} {μ : gMu} {P : gMu → gRes → Prop} (hk : gOk T) (hI : cI T μ) (h : ∀ μ', gSm cW μ μ' → cI (T) μ' → (∀ v, jwdA T x = .inr v → gJ μ' 64 0 = v.toInt64) → P μ' (.inl (some (.int (nI (cdA [2, 3, 1, 4] (jwdA T x))))))) : gCl' 146 [.ref 0, .int x, .ref 64] μ P := by
  refine vc_146 (s_145 hk hI (fun μ1 hs hI1 => ?_))
  cases hA : jwdA T x with
  | inr v =>
    refine Or.inl ⟨v, rfl, vp_in_nI (n := 0) (by decide) (by decide), ?_⟩
    rw [sb_cl0]
    have hs2 : gSm [64] μ1 (gsJ μ1 64 0 v.toInt64) := (gSm.rf [64] μ1).j 64 0 _ (by decide)
    have hp := h (gsJ μ1 64 0 v.toInt64) ((hs.up (by decide)).tr (hs2.up (by decide))) (hI1.sm hs2 (by decide)) (fun v' hv' => by rw [hA] at hv'; cases hv'; rw [gJ_J, if_pos ⟨rfl, rfl⟩])
    rw [hA] at hp
    exact hp
  | inl e =>
    have hp := h μ1 (hs.up (by decide)) hI1 (fun v hv => by rw [hA] at hv; cases hv)
    rw [hA] at hp
    have hz := hA
    unfold jwdA at hz
    have he := plcA_e (bA_inr hz)
    rcases he with rfl | rfl | rfl | rfl
    · exact Or.inr (Or.inl ⟨rfl, hp⟩)
    · exact Or.inr (Or.inr (Or.inl ⟨rfl, hp⟩))
    · exact Or.inr (Or.inr (Or.inr (Or.inl ⟨rfl, hp⟩)))
    · exact Or.inr (Or.inr (Or.inr (Or.inr ⟨rfl, hp⟩)))
theorem w_124 {T : gS} {μ : gMu} {P : gMu → gRes → Prop} (hk : gOk T) (hI : cI T μ) (h : ∀ μ', gSm cW μ μ' → cI (T) μ' → (∀ v, demA T = .inr v → gJ μ' 64 0 = v) → P μ' (.inl (some (.int (nI (cdA [1] (demA T))))))) : gCl' 124 [.ref 0, .ref 64] μ P := by
  refine vc_124 (s_123 hk hI (fun μ1 hs hI1 => ?_))
  cases hA : demA T with
  | inr v =>
    refine Or.inl ⟨v, rfl, vp_in_nI (n := 0) (by decide) (by decide), ?_⟩
    rw [sb_cl0]
    have hs2 : gSm [64] μ1 (gsJ μ1 64 0 v) := (gSm.rf [64] μ1).j 64 0 _ (by decide)
    have hp := h (gsJ μ1 64 0 v) ((hs.up (by decide)).tr (hs2.up (by decide))) (hI1.sm hs2 (by decide)) (fun v' hv' => by rw [hA] at hv'; cases hv'; rw [gJ_J, if_pos ⟨rfl, rfl⟩])
    rw [hA] at hp
    exact hp
  | inl e =>
    have hp := h μ1 (hs.up (by decide)) hI1 (fun v hv => by rw [hA] at hv; cases hv)
    rw [hA] at hp
    have he := demA_e hA
    rcases he with rfl
    · exact Or.inr ⟨rfl, hp⟩
theorem w_130 {T : gS} {μ : gMu} {P : gMu → gRes → Prop} (hk : gOk T) (hI : cI T μ) (h : ∀ μ', gSm cW μ μ' → cI (T) μ' → (∀ v, dtrA T = .inr v → gJ μ' 64 0 = v) → P μ' (.inl (some (.int (nI (cdA [1, 3] (dtrA T))))))) : gCl' 130 [.ref 0, .ref 64] μ P := by
  refine vc_130 (s_129 hk hI (fun μ1 hs hI1 => ?_))
  cases hA : dtrA T with
  | inr v =>
    refine Or.inl ⟨v, rfl, vp_in_nI (n := 0) (by decide) (by decide), ?_⟩
    rw [sb_cl0]
    have hs2 : gSm [64] μ1 (gsJ μ1 64 0 v) := (gSm.rf [64] μ1).j 64 0 _ (by decide)
    have hp := h (gsJ μ1 64 0 v) ((hs.up (by decide)).tr (hs2.up (by decide))) (hI1.sm hs2 (by decide)) (fun v' hv' => by rw [hA] at hv'; cases hv'; rw [gJ_J, if_pos ⟨rfl, rfl⟩])
    rw [hA] at hp
    exact hp
  | inl e =>
    have hp := h μ1 (hs.up (by decide)) hI1 (fun v hv => by rw [hA] at hv; cases hv)
    rw [hA] at hp
    have he := dtrA_e hA
    rcases he with rfl | rfl
    · exact Or.inr (Or.inl ⟨rfl, hp⟩)
    · exact Or.inr (Or.inr ⟨rfl, hp⟩)
theorem w_132 {T : gS} {μ : gMu} {P : gMu → gRes → Prop} (hk : gOk T) (hI : cI T μ) (h : ∀ μ', gSm cW μ μ' → cI (T) μ' → (∀ v, ltrA T = .inr v → gJ μ' 64 0 = v.toInt64) → P μ' (.inl (some (.int (nI (cdA [1, 3] (ltrA T))))))) : gCl' 132 [.ref 0, .ref 64] μ P := by
  refine vc_132 (s_131 hk hI (fun μ1 hs hI1 => ?_))
  cases hA : ltrA T with
  | inr v =>
    refine Or.inl ⟨v, rfl, vp_in_nI (n := 0) (by decide) (by decide), ?_⟩
    rw [sb_cl0]
    have hs2 : gSm [64] μ1 (gsJ μ1 64 0 v.toInt64) := (gSm.rf [64] μ1).j 64 0 _ (by decide)
    have hp := h (gsJ μ1 64 0 v.toInt64) ((hs.up (by decide)).tr (hs2.up (by decide))) (hI1.sm hs2 (by decide)) (fun v' hv' => by rw [hA] at hv'; cases hv'; rw [gJ_J, if_pos ⟨rfl, rfl⟩])
    rw [hA] at hp
    exact hp
  | inl e =>
    have hp := h μ1 (hs.up (by decide)) hI1 (fun v hv => by rw [hA] at hv; cases hv)
    rw [hA] at hp
    have he := ltrA_e hA
    rcases he with rfl | rfl
    · exact Or.inr (Or.inl ⟨rfl, hp⟩)
    · exact Or.inr (Or.inr ⟨rfl, hp⟩)
theorem w_149 {T : gS} {μ : gMu} {P : gMu → gRes → Prop} (hk : gOk T) (hI : cI T μ) (h : ∀ μ', gSm cW μ μ' → cI (T) μ' → (∀ v, hypA T = .inr v → vf_n64 (FP.f2d v) → gD μ' 65 0 = FP.f2d v) → P μ' (.inl (some (.int (nI (cdA [1, 5] (hypA T))))))) : gCl' 149 [.ref 0, .ref 65] μ P := by
  refine vc_149 (s_148 hk hI (fun μ1 hs hI1 => ?_))
  cases hA : hypA T with
  | inr v =>
    have hv : vf_n64 (FP.f2d v) := hypA_n hk hA
    refine Or.inl ⟨v, rfl, hv, vp_in_nI (n := 0) (by decide) (by decide), ?_⟩
    rw [sb_cl0]
    have hs2 : gSm [65] μ1 (gsD μ1 65 0 (FP.f2d v)) := (gSm.rf [65] μ1).d 65 0 _ (by decide)
    have hp := h (gsD μ1 65 0 (FP.f2d v)) ((hs.up (by decide)).tr (hs2.up (by decide))) (hI1.sm hs2 (by decide)) (fun v' hv' _ => by rw [hA] at hv'; cases hv'; rw [gD_D, if_pos ⟨rfl, rfl⟩])
    rw [hA] at hp
    exact hp
  | inl e =>
    have hp := h μ1 (hs.up (by decide)) hI1 (fun v hv => by rw [hA] at hv; cases hv)
    rw [hA] at hp
    have he := hypA_e hA
    rcases he with rfl | rfl
    · exact Or.inr (Or.inl ⟨rfl, hp⟩)
    · exact Or.inr (Or.inr ⟨rfl, hp⟩)
theorem w_151 {T : gS} {μ : gMu} {P : gMu → gRes → Prop} (hk : gOk T) (hI : cI T μ) (h : ∀ μ', gSm cW μ μ' → cI (T) μ' → (∀ v, meaA T = .inr v → gD μ' 65 0 = v) → P μ' (.inl (some (.int (nI (cdA [1, 5] (meaA T))))))) : gCl' 151 [.ref 0, .ref 65] μ P := by
  refine vc_151 (s_150 hk hI (fun μ1 hs hI1 => ?_))
  cases hA : meaA T with
  | inr v =>
    refine Or.inl ⟨v, rfl, vp_in_nI (n := 0) (by decide) (by decide), ?_⟩
    rw [sb_cl0]
    have hs2 : gSm [65] μ1 (gsD μ1 65 0 v) := (gSm.rf [65] μ1).d 65 0 _ (by decide)
    have hp := h (gsD μ1 65 0 v) ((hs.up (by decide)).tr (hs2.up (by decide))) (hI1.sm hs2 (by decide)) (fun v' hv' => by rw [hA] at hv'; cases hv'; rw [gD_D, if_pos ⟨rfl, rfl⟩])
    rw [hA] at hp
    exact hp
  | inl e =>
    have hp := h μ1 (hs.up (by decide)) hI1 (fun v hv => by rw [hA] at hv; cases hv)
    rw [hA] at hp
    have he := meaA_e hA
    rcases he with rfl | rfl
    · exact Or.inr (Or.inl ⟨rfl, hp⟩)
    · exact Or.inr (Or.inr ⟨rfl, hp⟩)
