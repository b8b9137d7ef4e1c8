/-! TEXTS OF MARKS ALONE: what the law's methods do there, and how many exceptions they catch -/
theorem cTab.sm {A : List Nat} {T : gS} {μ μ' : gMu} (h : cTab T μ) (hs : gSm A μ μ') (hA : ∀ a ∈ cC, a ∉ A) : cTab T μ' := by
  have z : ∀ a, a ∈ cC → a ∉ A := hA
  obtain ⟨a1, a2, a3, a4, a5, a6, a7, a8, a9, a10, a11, a12, a13⟩ := h
  exact ⟨cSq_sm a1 hs (z _ (by decide)) (z _ (by decide)) (z _ (by decide)) (z _ (by decide)) (z _ (by decide)), a2.sm hs (z _ (by decide)), a3.sm hs (z _ (by decide)), a4.sm hs (z _ (by decide)), by rw [hs.I (z _ (by decide)), a5], a6.sm hs (z _ (by decide)) (z _ (by decide)) (z _ (by decide)) (z _ (by decide)) (z _ (by decide)), a7.sm hs (z _ (by decide)), a8.sm hs (z _ (by decide)) (z _ (by decide)) (z _ (by decide)) (z _ (by decide)) (z _ (by decide)) (z _ (by decide)), by rw [hs.I (z _ (by decide)), a9], by rw [hs.I (z _ (by decide)), a10], by rw [hs.I (z _ (by decide)), a11], ⟨by rw [hs.I (z _ (by decide)), a12.1], by rw [hs.J (z _ (by decide)), a12.2.1], a12.2.2.sm hs (z _ (by decide))⟩, fun l hl => (a13 l hl).sm hs (z _ (by decide)) (z _ (by decide)) (z _ (by decide)) (z _ (by decide)) (z _ (by decide))⟩
theorem cI.sm {A : List Nat} {T : gS} {μ μ' : gMu} (h : cI T μ) (hs : gSm A μ μ') (hA : ∀ a ∈ cC, a ∉ A) : cI T μ' := by
  have z : ∀ a, a ∈ cC → a ∉ A := hA
  obtain ⟨a1, a2, a3, a4⟩ := h
  refine ⟨a1.sm hs (z _ (by decide)) (z _ (by decide)) (z _ (by decide)) (z _ (by decide)) (z _ (by decide)) (z _ (by decide)) (z _ (by decide)) (z _ (by decide)), by rw [hs.I (z _ (by decide)), a2], by rw [hs.I (z _ (by decide)), a3], ?_⟩
  rcases a4 with a4 | ⟨a4, a5⟩
  · exact Or.inl (by rw [hs.I (z _ (by decide)), a4])
  · exact Or.inr ⟨by rw [hs.I (z _ (by decide)), a4], a5.sm hs hA⟩
theorem gSm.d {A : List Nat} {μ μ' : gMu} (h : gSm A μ μ') (q j : Nat) (v : UInt64) (hq : q ∈ A) : gSm A μ (gsD μ' q j v) := by
  intro a ha
  have hne : a ≠ q := fun e => ha (e ▸ hq)
  refine ⟨(h a ha).1, (h a ha).2.1, ?_⟩
  show va_up μ'.2.2 q (vf_upd (μ'.2.2 q) j v) a = μ.2.2 a
  unfold va_up
  rw [if_neg hne]
  exact (h a ha).2.2
theorem gSm.rf9 (A : List Nat) (μ : gMu) : gSm A μ μ := fun a _ => ⟨rfl, rfl, rfl⟩
theorem gBm_eq {μ : gMu} (h : gGh μ < 100000) : gGh (gBm μ) = gGh μ + 1 := by
  have e : (gBm μ).2.2 1001 0 = μ.2.2 1001 0 + 1 := by
    unfold gBm gsD va_up vf_upd
    simp
  unfold gGh at h ⊢
  rw [e, UInt64.toNat_add]
  have e1 : (1 : UInt64).toNat = 1 := rfl
  rw [e1]
  exact Nat.mod_eq_of_lt (by omega)
/-- the class holds T, and c exceptions have been caught -/
def lI (T : gS) (c : Nat) (μ : gMu) : Prop := cI T μ ∧ gGh μ = c
theorem lI.sm {T T' : gS} {c : Nat} {μ μ' : gMu} (h : lI T c μ) (hs : gSm cC μ μ') (hI : cI T' μ') : lI T' c μ' := by
  refine ⟨hI, ?_⟩
  rw [← h.2]
  unfold gGh
  rw [(hs 1001 (by decide)).2.2]
theorem lI.bm {T : gS} {c : Nat} {μ : gMu} (h : lI T c μ) (hc : c < 100000) : lI T (c + 1) (gBm μ) := by
  refine ⟨h.1.sm (A := [1001]) ((gSm.rf9 [1001] μ).d 1001 0 _ (by decide)) (by decide), ?_⟩
  rw [gBm_eq (by rw [h.2]; exact hc), h.2]
def chr9 (j : Nat) : Nat := if j % 2 = 0 then 123 else 125
/-- n marks, '{' and '}' by turns -/
def kT (n : Nat) : gS := (n, chr9, 0, fun _ => 4, 0, fun _ => 0, fun _ => 0, fun _ => 0, 60)
theorem chr9_mk (j : Nat) : isMk (chr9 j) = true := by unfold chr9; split <;> rfl
theorem kT_add : ∀ n, n < 40 → addOk (kT n) (chr9 n) = true := by decide +kernel
theorem kT_put (n : Nat) : putT (kT n) (chr9 n) = kT (n + 1) := by
  have e : upN chr9 n (chr9 n) = chr9 := by
    funext j
    unfold upN
    split
    · rename_i h
      rw [h]
    · rfl
  show ((n + 1, upN chr9 n (chr9 n), 0, fun _ => 4, 0, fun _ => 0, fun _ => 0, fun _ => 0, 60) : gS) = _
  rw [e]
  rfl
theorem kT_ok : ∀ n, n ≤ 40 → gOk (kT n)
  | 0, _ => by
    refine ⟨by decide, fun j h => absurd h (Nat.not_lt_zero j), fun j h => absurd h (Nat.not_lt_zero j), fun j h => ?_, by decide, fun j _ => ⟨by show (1 : Nat) ≤ 4; decide, by show (4 : Nat) ≤ 20; decide⟩, by decide, fun j h => absurd h (Nat.not_lt_zero j), fun j h => absurd h (Nat.not_lt_zero j), fun j h => absurd h (Nat.not_lt_zero j), by decide⟩
    have h : j ≤ 0 := h
    have e : j = 0 := by omega
    subst e
    decide
  | n + 1, h => by
    rw [← kT_put]
    exact putT_ok (kT_ok n (by omega)) (Or.inr (chr9_mk n)) (kT_add n (by omega))
theorem kT_adT {n : Nat} (h : n < 40) : addT (kT n) (chr9 n) = kT (n + 1) := by
  unfold addT
  rw [if_pos ⟨Or.inr (chr9_mk n), kT_add n h⟩, kT_put]
theorem kT_adA {n : Nat} (h : n < 40) : addA (kT n) (chr9 n) = .inr (nI (n + 1)) := by
  unfold addA
  rw [if_pos (Or.inr (chr9_mk n)), if_pos (kT_add n h)]
  rfl
theorem kT_M : ∀ n, n < 41 → tMn (kT n) = 0 := by decide +kernel
section ZERO
variable {T : gS}
theorem z_G (h : tMn T = 0) : tGT T = 0 := by
  unfold tGT
  rw [h]
  rfl
theorem z_Bl (h : tMn T = 0) : tBlT T = true := by
  unfold tBlT
  rw [z_G h]
  rfl
theorem z_Tw (h : tMn T = 0) : tTwT T = 0 := by
  unfold tTwT
  rw [if_pos (z_Bl h)]
theorem z_Ac (h : tMn T = 0) : tAc T = false := by
  unfold tAc
  rw [z_Bl h]
  simp
theorem z_Cn (h : tMn T = 0) : tCn T = 0 := by
  unfold tCn
  rw [z_Ac h]
  rfl
theorem z_Dm (h : tMn T = 0) : tDm T = 0 := by
  unfold tDm
  rw [z_Ac h]
  rfl
theorem z_P (hk : gOk T) (h : tMn T = 0) : (tXx T).P = 0 := by
  have := (tX50 hk).1
  rw [z_G h] at this
  omega
theorem z_lin (h : tMn T = 0) : linA T = .inr 0 := by
  unfold linA
  rw [if_pos (z_Tw h), z_Cn h]
  rfl
theorem z_ffi (h : tMn T = 0) : ffiA T = .inr 0 := by
  unfold ffiA
  rw [if_pos (z_Tw h), if_pos (z_Bl h)]
  rfl
theorem z_ltr (hk : gOk T) (h : tMn T = 0) : ltrA T = .inr 0 := by
  unfold ltrA
  rw [if_pos (z_Tw h), if_neg (by rw [z_P hk h]; decide), z_Cn h]
  rfl
theorem z_dem (h : tMn T = 0) : demA T = .inr (lN 0) := by
  unfold demA
  rw [if_pos (z_Tw h), z_Dm h]
theorem z_dtr (hk : gOk T) (h : tMn T = 0) : dtrA T = .inr (lN 0) := by
  unfold dtrA
  rw [if_pos (z_Tw h), if_neg (by rw [z_P hk h]; decide), z_Dm h]
theorem z_twd (h : tMn T = 0) : twdA T = -1 := by
  unfold twdA
  rw [if_pos (z_Tw h)]
theorem z_exc (h : tMn T = 0) : excA T = 0 := by
  unfold excA
  rw [if_pos (z_Tw h)]
theorem z_brk (hk : gOk T) (h : tMn T = 0) : nI ((tXx T).P - 1) = 0 := by
  rw [z_P hk h]
  rfl
end ZERO
theorem s_in {n j : Nat} (hj : j < n) (hn : n ≤ 40) : slotA (kT n) (nI j) = .inl 3 := by
  have e : inx (nI j) (kT n).n = some j := by
    rw [inx_nI (by omega)]
    exact if_neg (by show ¬ n ≤ j; omega)
  unfold slotA
  rw [e]
  exact if_pos (chr9_mk j)
theorem s_ot {x : Int32} {n : Nat} (e : inx x n = none) : slotA (kT n) x = .inl 2 := by
  unfold slotA
  rw [show inx x (kT n).n = none from e]
theorem bA_l {β : Type} {a : Nat ⊕ Nat} {f : Nat → Nat ⊕ β} {e : Nat} (h : a = .inl e) : bA a f = .inl e := by
  rw [h]
  rfl
theorem r_153m {T : gS} {c : Nat} {x w : Int32} {μ : gMu} {P : gMu → gRes → Prop} (hk : gOk T) (hI : lI T c μ) (hc : c < 100000) (e : slotA T x = .inl 3) (h : ∀ μ', lI T (c + 1) μ' → P μ' (.inl (some (.int (-1002))))) : gCl' 153 [.ref 0, .int x, .int w] μ P := by
  have go : ∀ μ1, gSm cC μ μ1 → cI T μ1 → P (gBm μ1) (.inl (some (.int (-1002)))) := fun μ1 hs hI1 => h _ ((hI.sm hs hI1).bm hc)
  refine vc_153 ⟨fun _ => ⟨fun _ => ⟨fun _ => ⟨fun _ => ?_, fun _ => ?_⟩, fun _ => ?_⟩, fun _ => ?_⟩, fun _ => ?_⟩
  · exact s_145 hk hI.1 (fun μ1 hs hI1 => by rw [show jwdA T x = .inl 3 from bA_l (bA_l (bA_l e))]; exact Or.inr (Or.inr (Or.inl ⟨rfl, go μ1 hs hI1⟩)))
  · exact s_143 hk hI.1 (fun μ1 hs hI1 => by rw [show plaA T x = .inl 3 from bA_l (bA_l (bA_l e))]; exact Or.inr (Or.inr (Or.inl ⟨rfl, go μ1 hs hI1⟩)))
  · exact s_141 hk hI.1 (fun μ1 hs hI1 => by rw [show rnkA T x = .inl 3 from bA_l (bA_l (bA_l e))]; exact Or.inr (Or.inr (Or.inl ⟨rfl, go μ1 hs hI1⟩)))
  · exact s_138 hk hI.1 (fun μ1 hs hI1 => by rw [show rnkA T x = .inl 3 from bA_l (bA_l (bA_l e))]; exact Or.inr (Or.inr (Or.inl ⟨rfl, go μ1 hs hI1⟩)))
  · exact s_117 hk hI.1 (fun μ1 hs hI1 => by rw [show lofA T x = .inl 3 from bA_l (bA_l e)]; exact Or.inr (Or.inr (Or.inl ⟨rfl, go μ1 hs hI1⟩)))
theorem r_159m {T : gS} {c : Nat} {x w : Int32} {μ : gMu} {P : gMu → gRes → Prop} (hk : gOk T) (hI : lI T c μ) (hc : c < 100000) (e : slotA T x = .inl 3) (h : ∀ μ', lI T (c + 1) μ' → P μ' (.inl (some (.int (-1002))))) : gCl' 159 [.ref 0, .int x, .int w] μ P := by
  have go : ∀ μ1, gSm cC μ μ1 → cI T μ1 → P (gBm μ1) (.inl (some (.int (-1002)))) := fun μ1 hs hI1 => h _ ((hI.sm hs hI1).bm hc)
  refine vc_159 ⟨fun _ => ⟨fun _ => ⟨fun _ => ⟨fun _ => ?_, fun _ => ?_⟩, fun _ => ?_⟩, fun _ => ?_⟩, fun _ => ?_⟩
  · exact s_92 hk hI.1 (fun μ1 hs hI1 => by rw [show embA T x = .inl 3 from bA_l e]; exact Or.inr (Or.inr ⟨rfl, go μ1 hs hI1⟩))
  · exact s_98 hk hI.1 (fun μ1 hs hI1 => by rw [show runA T x = .inl 3 from bA_l e]; exact Or.inr (Or.inr ⟨rfl, go μ1 hs hI1⟩))
  · exact s_94 hk hI.1 (fun μ1 hs hI1 => by rw [show levA T x = .inl 3 from bA_l e]; exact Or.inr (Or.inr ⟨rfl, go μ1 hs hI1⟩))
  · exact s_103 hk hI.1 (fun μ1 hs hI1 => by rw [show gstA T x = .inl 3 from bA_l e]; exact Or.inr (Or.inr ⟨rfl, go μ1 hs hI1⟩))
  · exact s_101 hk hI.1 (fun μ1 hs hI1 => by rw [show glyA T x = .inl 3 from bA_l e]; exact Or.inr (Or.inr ⟨rfl, go μ1 hs hI1⟩))
theorem r_153o {T : gS} {c : Nat} {x w : Int32} {μ : gMu} {P : gMu → gRes → Prop} (hk : gOk T) (hI : lI T c μ) (hc : c < 100000) (e : slotA T x = .inl 2) (h : ∀ μ', lI T (c + 1) μ' → P μ' (.inl (some (.int (-1001))))) : gCl' 153 [.ref 0, .int x, .int w] μ P := by
  have go : ∀ μ1, gSm cC μ μ1 → cI T μ1 → P (gBm μ1) (.inl (some (.int (-1001)))) := fun μ1 hs hI1 => h _ ((hI.sm hs hI1).bm hc)
  refine vc_153 ⟨fun _ => ⟨fun _ => ⟨fun _ => ⟨fun _ => ?_, fun _ => ?_⟩, fun _ => ?_⟩, fun _ => ?_⟩, fun _ => ?_⟩
  · exact s_145 hk hI.1 (fun μ1 hs hI1 => by rw [show jwdA T x = .inl 2 from bA_l (bA_l (bA_l e))]; exact Or.inr (Or.inl ⟨rfl, go μ1 hs hI1⟩))
  · exact s_143 hk hI.1 (fun μ1 hs hI1 => by rw [show plaA T x = .inl 2 from bA_l (bA_l (bA_l e))]; exact Or.inr (Or.inl ⟨rfl, go μ1 hs hI1⟩))
  · exact s_141 hk hI.1 (fun μ1 hs hI1 => by rw [show rnkA T x = .inl 2 from bA_l (bA_l (bA_l e))]; exact Or.inr (Or.inl ⟨rfl, go μ1 hs hI1⟩))
  · exact s_138 hk hI.1 (fun μ1 hs hI1 => by rw [show rnkA T x = .inl 2 from bA_l (bA_l (bA_l e))]; exact Or.inr (Or.inl ⟨rfl, go μ1 hs hI1⟩))
  · exact s_117 hk hI.1 (fun μ1 hs hI1 => by rw [show lofA T x = .inl 2 from bA_l (bA_l e)]; exact Or.inr (Or.inl ⟨rfl, go μ1 hs hI1⟩))
theorem r_159o {T : gS} {c : Nat} {x w : Int32} {μ : gMu} {P : gMu → gRes → Prop} (hk : gOk T) (hI : lI T c μ) (hc : c < 100000) (e : slotA T x = .inl 2) (h : ∀ μ', lI T (c + 1) μ' → P μ' (.inl (some (.int (-1001))))) : gCl' 159 [.ref 0, .int x, .int w] μ P := by
  have go : ∀ μ1, gSm cC μ μ1 → cI T μ1 → P (gBm μ1) (.inl (some (.int (-1001)))) := fun μ1 hs hI1 => h _ ((hI.sm hs hI1).bm hc)
  refine vc_159 ⟨fun _ => ⟨fun _ => ⟨fun _ => ⟨fun _ => ?_, fun _ => ?_⟩, fun _ => ?_⟩, fun _ => ?_⟩, fun _ => ?_⟩
  · exact s_92 hk hI.1 (fun μ1 hs hI1 => by rw [show embA T x = .inl 2 from bA_l e]; exact Or.inr (Or.inl ⟨rfl, go μ1 hs hI1⟩))
  · exact s_98 hk hI.1 (fun μ1 hs hI1 => by rw [show runA T x = .inl 2 from bA_l e]; exact Or.inr (Or.inl ⟨rfl, go μ1 hs hI1⟩))
  · exact s_94 hk hI.1 (fun μ1 hs hI1 => by rw [show levA T x = .inl 2 from bA_l e]; exact Or.inr (Or.inl ⟨rfl, go μ1 hs hI1⟩))
  · exact s_103 hk hI.1 (fun μ1 hs hI1 => by rw [show gstA T x = .inl 2 from bA_l e]; exact Or.inr (Or.inl ⟨rfl, go μ1 hs hI1⟩))
  · exact s_101 hk hI.1 (fun μ1 hs hI1 => by rw [show glyA T x = .inl 2 from bA_l e]; exact Or.inr (Or.inl ⟨rfl, go μ1 hs hI1⟩))
theorem r_161 {T : gS} {c : Nat} {w : Int32} {μ : gMu} {P : gMu → gRes → Prop} (hk : gOk T) (h0 : tMn T = 0) (hI : lI T c μ) (h : ∀ μ', lI T c μ' → P μ' (.inl (some (.int 0)))) : gCl' 161 [.ref 0, .int w] μ P := by
  have go : ∀ μ1, gSm cC μ μ1 → cI T μ1 → P μ1 (.inl (some (.int 0))) := fun μ1 hs hI1 => h _ (hI.sm hs hI1)
  refine vc_161 ⟨fun _ => ⟨fun _ => ?_, fun _ => ?_⟩, fun _ => ?_⟩
  · exact s_131 hk hI.1 (fun μ1 hs hI1 => by rw [z_ltr hk h0]; exact Or.inl ⟨_, rfl, go μ1 hs hI1⟩)
  · exact s_111 hk hI.1 (fun μ1 hs hI1 => by rw [z_ffi h0]; exact Or.inl ⟨_, rfl, go μ1 hs hI1⟩)
  · exact s_108 hk hI.1 (fun μ1 hs hI1 => by rw [z_lin h0]; exact Or.inl ⟨_, rfl, go μ1 hs hI1⟩)
theorem r_160 {T : gS} {c : Nat} {w : Int32} {μ : gMu} {P : gMu → gRes → Prop} (hk : gOk T) (h0 : tMn T = 0) (hI : lI T c μ) (h : ∀ μ', lI T c μ' → P μ' (.inl (some (.long (lN 0))))) : gCl' 160 [.ref 0, .int w] μ P := by
  have go : ∀ μ1, gSm cC μ μ1 → cI T μ1 → P μ1 (.inl (some (.long (lN 0)))) := fun μ1 hs hI1 => h _ (hI.sm hs hI1)
  refine vc_160 ⟨fun _ => ?_, fun _ => ?_⟩
  · exact s_123 hk hI.1 (fun μ1 hs hI1 => by rw [z_dem h0]; exact Or.inl ⟨_, rfl, go μ1 hs hI1⟩)
  · exact s_129 hk hI.1 (fun μ1 hs hI1 => by rw [z_dtr hk h0]; exact Or.inl ⟨_, rfl, go μ1 hs hI1⟩)
/-- one more mark -/
theorem r_154 {n c : Nat} {μ : gMu} {P : gMu → gRes → Prop} (hn : n < 40) (hI : lI (kT n) c μ) (h : ∀ μ', lI (kT (n + 1)) c μ' → P μ' (.inl (some (.int (nI (n + 1)))))) : gCl' 154 [.ref 0, .int (nI (chr9 n))] μ P := by
  have hch : chr9 n < 65536 := by unfold chr9; split <;> decide
  refine vc_154 (s_74 (kT_ok n (by omega)) hI.1 hch (fun μ1 hs hI1 => ?_))
  rw [kT_adA hn]
  rw [kT_adT hn] at hI1
  exact Or.inl ⟨_, rfl, h _ (hI.sm hs hI1)⟩
/-- a refused add -/
theorem r_154x {T : gS} {a c : Nat} {μ : gMu} {P : gMu → gRes → Prop} (hk : gOk T) (ha : a < 65536) (hr : ¬ (isSh a = true ∨ isMk a = true)) (hI : lI T c μ) (hc : c < 100000) (h : ∀ μ', lI T (c + 1) μ' → P μ' (.inl (some (.int (-1001))))) : gCl' 154 [.ref 0, .int (nI a)] μ P := by
  refine vc_154 (s_74 hk hI.1 ha (fun μ1 hs hI1 => ?_))
  have e1 : addA T a = .inl 0 := by unfold addA; rw [if_neg hr]
  have e2 : addT T a = T := by unfold addT; rw [if_neg (fun q => hr q.1)]
  rw [e1]
  rw [e2] at hI1
  exact Or.inr (Or.inl ⟨rfl, h _ ((hI.sm hs hI1).bm hc)⟩)
theorem r_156x {T : gS} {a c : Nat} {x : Int32} {μ : gMu} {P : gMu → gRes → Prop} (hk : gOk T) (ha : a < 65536) (hr : swdO a x = none) (hI : lI T c μ) (hc : c < 100000) (h : ∀ μ', lI T (c + 1) μ' → P μ' (.inl (some (.int (-1001))))) : gCl' 156 [.ref 0, .int (nI a), .int x] μ P := by
  refine vc_156 (s_80 hk hI.1 ha (fun μ1 hs hI1 => ?_))
  have e1 : swdA T a x = .inl 0 := by unfold swdA; rw [hr]
  have e2 : swdT T a x = T := by unfold swdT; rw [hr]
  rw [e1]
  rw [e2] at hI1
  exact Or.inr ⟨rfl, h _ ((hI.sm hs hI1).bm hc)⟩
theorem r_157x {T : gS} {c : Nat} {x : Int32} {μ : gMu} {P : gMu → gRes → Prop} (hr : slnO x = none) (hI : lI T c μ) (hc : c < 100000) (h : ∀ μ', lI T (c + 1) μ' → P μ' (.inl (some (.int (-1001))))) : gCl' 157 [.ref 0, .int x] μ P := by
  refine vc_157 (s_82 hI.1 (fun μ1 hs hI1 => ?_))
  have e1 : slnA T x = .inl 0 := by unfold slnA; rw [hr]
  have e2 : slnT T x = T := by unfold slnT; rw [hr]
  rw [e1]
  rw [e2] at hI1
  exact Or.inr ⟨rfl, h _ ((hI.sm hs hI1).bm hc)⟩
theorem r_158x {T : gS} {a c : Nat} {x y : Int32} {μ : gMu} {P : gMu → gRes → Prop} (hk : gOk T) (ha : a < 65536) (hr : ligO T x a y = .inl 0) (hI : lI T c μ) (hc : c < 100000) (h : ∀ μ', lI T (c + 1) μ' → P μ' (.inl (some (.int (-1001))))) : gCl' 158 [.ref 0, .int x, .int (nI a), .int y] μ P := by
  refine vc_158 (s_86 hk hI.1 ha (fun μ1 hs hI1 => ?_))
  have e1 : ligA T x a y = .inl 0 := by unfold ligA; rw [hr]
  have e2 : ligT T x a y = T := by unfold ligT; rw [hr]
  rw [e1]
  rw [e2] at hI1
  exact Or.inr (Or.inl ⟨rfl, h _ ((hI.sm hs hI1).bm hc)⟩)
/-- the law's sum: two exceptions a mark -/
theorem r_162 {n c : Nat} {μ : gMu} {P : gMu → gRes → Prop} (hn : n ≤ 40) (hI : lI (kT n) c μ) (hc : c < 50000) (h : ∀ μ' v, lI (kT n) (c + 2 * n) μ' → P μ' (.inl (some (.long v)))) : gCl' 162 [.ref 0] μ P := by
  have hk := kT_ok n hn
  have h0 := kT_M n (by omega)
  have loop : ∀ r k v cnt μ', k + r = n → cnt ≤ 6 + 8 * k → lI (kT n) (c + 2 * k) μ' → gWp none 162 (100, [some (.ref 0), some (.long v), none, some (.int (nI k))], [], μ') cnt P := by
    intro r
    induction r with
    | zero =>
      intro k v cnt μ' hr hcnt hI1
      have e : k = n := by omega
      subst e
      refine vc_162_100 (by omega) (s_2 hI1.1.1 ⟨_, rfl, fun _ => h _ _ hI1, fun q => absurd (show nI k ≤ nI k from Int32.le_refl _) q⟩)
    | succ r ih =>
      intro k v cnt μ' hr hcnt hI1
      have hlt : ¬ nI n ≤ nI k := by rw [nLe_n (by omega) (by omega)]; omega
      refine vc_162_100 (by omega) (s_2 hI1.1.1 ⟨_, rfl, fun q => absurd q hlt, fun _ => ?_⟩)
      refine s_89 hk hI1.1.1 (fun q => ?_) (fun j q => ?_)
      · have e : inx (nI k) (kT n).n = some k := by
          rw [inx_nI (by omega)]
          exact if_neg (by show ¬ n ≤ k; omega)
        rw [e] at q
        cases q
      · refine Or.inl ⟨_, rfl, by decide, ?_⟩
        refine r_159m hk hI1 (by omega) (s_in (by omega) hn) (fun μ2 hI2 => Or.inl ⟨_, rfl, by decide, ?_⟩)
        refine r_153m hk hI2 (by omega) (s_in (by omega) hn) (fun μ3 hI3 => Or.inl ⟨_, rfl, ?_⟩)
        have e1 : nI k + (1 : Int32) = nI (k + 1) := nI_add k 1
        rw [e1]
        exact ih (k + 1) _ _ μ3 (by omega) (by omega) (by rw [show c + 2 * (k + 1) = c + 2 * k + 1 + 1 by omega]; exact hI3)
  refine vc_162 (s_2 hI.1.1 ⟨_, rfl, s_5 hI.1.1 hk ⟨_, rfl, ?_⟩⟩)
  refine s_63 hk hI.1 (fun μ1 hs1 hI1 => ⟨_, rfl, s_64 hk hI1 (fun μ2 hs2 hI2 => ⟨_, rfl, s_66 hk hI2 (fun μ3 hs3 hI3 => ⟨_, rfl, s_68 hk hI3 (fun μ4 hs4 hI4 => ⟨_, rfl, s_69 hk hI4 (fun μ5 hs5 hI5 => ⟨_, rfl, ?_⟩)⟩)⟩)⟩)⟩)
  have hL := ((((hI.sm hs1 hI1).sm hs2 hI2).sm hs3 hI3).sm hs4 hI4).sm hs5 hI5
  refine r_161 hk h0 hL (fun μ6 h6 => Or.inl ⟨_, rfl, r_161 hk h0 h6 (fun μ7 h7 => Or.inl ⟨_, rfl, r_160 hk h0 h7 (fun μ8 h8 => Or.inl ⟨_, rfl, ?_⟩)⟩)⟩)
  exact loop n 0 _ _ μ8 (by omega) (by omega) h8
/-- the law's check: four exceptions a mark -/
theorem r_165 {n c : Nat} {w : Int32} {μ : gMu} {P : gMu → gRes → Prop} (hn : n ≤ 40) (hI : lI (kT n) c μ) (hc : c < 50000) (h : ∀ μ', lI (kT n) (c + 4 * n) μ' → P μ' (.inl (some (.int 1)))) : gCl' 165 [.ref 0, .int w] μ P := by
  have hk := kT_ok n hn
  have h0 := kT_M n (by omega)
  have loop : ∀ r k x1 x2 x3 cnt μ', k + r = n → cnt ≤ 10 + 14 * k → lI (kT n) (c + 4 * k) μ' → gWp none 165 (384, [some (.ref 0), some (.int x1), some (.int x2), some (.int x3), some (.int (nI k)), none, none, none, none, none], [], μ') cnt P := by
    intro r
    induction r with
    | zero =>
      intro k x1 x2 x3 cnt μ' hr hcnt hI1
      have e : k = n := by omega
      subst e
      refine vc_165_384 (by omega) (s_2 hI1.1.1 ⟨_, rfl, fun _ => h _ hI1, fun q => absurd (show nI k ≤ nI k from Int32.le_refl _) q⟩)
    | succ r ih =>
      intro k x1 x2 x3 cnt μ' hr hcnt hI1
      have hlt : ¬ nI n ≤ nI k := by rw [nLe_n (by omega) (by omega)]; omega
      refine vc_165_384 (by omega) (s_2 hI1.1.1 ⟨_, rfl, fun q => absurd q hlt, fun _ => ?_⟩)
      have hs := s_in (n := n) (j := k) (by omega) hn
      refine r_153m hk hI1 (by omega) hs (fun μ2 hI2 => Or.inl ⟨_, rfl, ?_⟩)
      refine r_153m hk hI2 (by omega) hs (fun μ3 hI3 => Or.inl ⟨_, rfl, fun q => q rfl, ?_⟩)
      refine r_159m hk hI3 (by omega) hs (fun μ4 hI4 => Or.inl ⟨_, rfl, fun q => q rfl, ?_⟩)
      refine r_159m hk hI4 (by omega) hs (fun μ5 hI5 => Or.inl ⟨_, rfl, fun q => q rfl, ?_⟩)
      have e1 : nI k + (1 : Int32) = nI (k + 1) := nI_add k 1
      rw [e1]
      exact ih (k + 1) _ _ _ _ μ5 (by omega) (by omega) (by rw [show c + 4 * (k + 1) = c + 4 * k + 1 + 1 + 1 + 1 by omega]; exact hI5)
  refine vc_165 (r_161 hk h0 hI (fun μ1 h1 => Or.inl ⟨_, rfl, fun q => q (by decide), ?_⟩))
  refine s_68 hk h1.1 (fun μ2 s2 i2 => ⟨_, rfl, fun q => q (z_twd h0), ?_⟩)
  have h2 := h1.sm s2 i2
  refine s_69 hk h2.1 (fun μ3 s3 i3 => ⟨_, rfl, fun q => q (z_exc h0), ?_⟩)
  have h3 := h2.sm s3 i3
  refine r_161 hk h0 h3 (fun μ4 h4 => Or.inl ⟨_, rfl, ?_⟩)
  refine s_66 hk h4.1 (fun μ5 s5 i5 => ⟨_, rfl, fun q => by rw [z_brk hk h0] at q; exact absurd q (by decide), ?_⟩)
  have h5 := h4.sm s5 i5
  refine s_66 hk h5.1 (fun μ6 s6 i6 => ⟨_, rfl, fun q => q (by rw [z_brk hk h0]; decide), ?_⟩)
  have h6 := h5.sm s6 i6
  refine s_66 hk h6.1 (fun μ7 s7 i7 => ⟨_, rfl, fun q => q (by rw [z_brk hk h0]; decide), ?_⟩)
  have h7 := h6.sm s7 i7
  refine r_160 hk h0 h7 (fun μ8 h8 => Or.inl ⟨_, rfl, ?_⟩)
  refine r_160 hk h0 h8 (fun μ9 h9 => Or.inl ⟨_, rfl, fun q => q (by decide), ?_⟩)
  refine r_161 hk h0 h9 (fun μ10 h10 => Or.inl ⟨_, rfl, fun q => q rfl, fun q => q (by decide), ?_⟩)
  exact loop n 0 _ _ _ _ μ10 (by omega) (by omega) h10
