/-! A FRAME OF A METHOD: a run of the small machine is one of the machine -/
def gInvP (n : Nat) (scr : gScr) (k : Nat) (r : gR) (f : gF) (cnt : Nat) (res : gMu × gRes) (na : Nat) : Prop :=
  (f.2.2.1.take na).reverse.length = na ∧ cnt + mCo r.2.2.1.1 ≤ mCo k ∧ ((f.2.2.1.drop na).map fun v => v.category).sum ≤ 8 ∧ r.2.2.1.1 < k ∧ (gEnt (f.2.2.1.take na).reverse (mML r.2.2.1.1)).length ≤ mML r.2.2.1.1 ∧
  ∃ μ' x, gRun n none r.2.2.1.1 (0, gEnt (f.2.2.1.take na).reverse (mML r.2.2.1.1), [], f.2.2.2) 0 = some (μ', x) ∧
    ((∃ v, x = .inl v ∧ gRun n scr k (f.1 + 3, f.2.1, v.toList ++ f.2.2.1.drop na, μ') (cnt + mCo r.2.2.1.1) = some res) ∨
     (∃ y, x = .inr y ∧ mHh k = [] ∧ res = (μ', .inr y)) ∨
     ∃ y i h r2 len, x = .inr y ∧ gHnd k f.1 y = some i ∧ (mHh k)[i]? = some h ∧ gAt k h.2.2.1 = some r2 ∧ ((∃ n9, r2.1 = .astore_n n9 ∧ len = 1) ∨ (∃ n9, r2.1 = .astore n9 ∧ len = 2)) ∧
       gRun n scr k (h.2.2.1 + len, (gKill f.2.1 r2.2.2.1.1).set r2.2.2.1.1 none, [], gBm μ') (cnt + mCo r.2.2.1.1) = some res)
theorem gRun_plain {n : Nat} {scr : gScr} {k : Nat} {r : gR} {f : gF} {cnt : Nat} {res : gMu × gRes} (h : (match gStp scr r f with
        | some (f', cs) => gIf (gAll cs) (gRun n scr k f' cnt) none
        | none => none) = some res) : ∃ f' cs, gStp scr r f = some (f', cs) ∧ gAll cs ∧ gRun n scr k f' cnt = some res := by
  split at h
  · rename_i f' cs hs
    unfold gIf at h
    split at h
    · rename_i hc
      exact ⟨f', cs, hs, hc, h⟩
    · cases h
  · cases h
theorem gRun_inv0 {n : Nat} {scr : gScr} {k : Nat} {r : gR} {f : gF} {cnt : Nat} {res : gMu × gRes} {na : Nat} (h : (if (f.2.2.1.take na).reverse.length = na ∧ cnt + mCo r.2.2.1.1 ≤ mCo k ∧ ((f.2.2.1.drop na).map fun v => v.category).sum ≤ 8 ∧ r.2.2.1.1 < k ∧ (gEnt (f.2.2.1.take na).reverse (mML r.2.2.1.1)).length ≤ mML r.2.2.1.1 then
          (match gRun n none r.2.2.1.1 (0, gEnt (f.2.2.1.take na).reverse (mML r.2.2.1.1), [], f.2.2.2) 0 with
            | some (μ', .inl v) => gRun n scr k (f.1 + 3, f.2.1, v.toList ++ f.2.2.1.drop na, μ') (cnt + mCo r.2.2.1.1)
            | some (μ', .inr y) => (match mHh k with
              | [] => some (μ', .inr y)
              | _ => (match gHnd k f.1 y with
                | some i => (match (mHh k)[i]? with
                  | some h => (match gAt k h.2.2.1 with
                    | some (.astore_n _, _, (j, _), _) => gRun n scr k (h.2.2.1 + 1, (gKill f.2.1 j).set j none, [], gBm μ') (cnt + mCo r.2.2.1.1)
                    | some (.astore _, _, (j, _), _) => gRun n scr k (h.2.2.1 + 2, (gKill f.2.1 j).set j none, [], gBm μ') (cnt + mCo r.2.2.1.1)
                    | _ => none)
                  | none => none)
                | none => none))
            | none => none)
        else none) = some res) : gInvP n scr k r f cnt res na := by
  split at h
  · rename_i hc
    obtain ⟨c1, c2, c3, c4, c5⟩ := hc
    refine ⟨c1, c2, c3, c4, c5, ?_⟩
    split at h
    · rename_i μ' v hr
      exact ⟨μ', _, hr, Or.inl ⟨v, rfl, h⟩⟩
    · rename_i μ' y hr
      refine ⟨μ', _, hr, Or.inr ?_⟩
      split at h
      · rename_i hh
        cases h
        exact Or.inl ⟨y, rfl, hh, rfl⟩
      · split at h
        · rename_i i hi
          split at h
          · rename_i hx hhx
            split at h
            · rename_i n9 len9 j a9 b9 hat
              exact Or.inr ⟨y, i, hx, _, 1, rfl, hi, hhx, hat, Or.inl ⟨_, rfl, rfl⟩, h⟩
            · rename_i n9 len9 j a9 b9 hat
              exact Or.inr ⟨y, i, hx, _, 2, rfl, hi, hhx, hat, Or.inr ⟨_, rfl, rfl⟩, h⟩
            · cases h
          · cases h
        · cases h
    · cases h
  · cases h
set_option maxHeartbeats 4000000 in
theorem gRun_inv {n : Nat} {scr : gScr} {k : Nat} {f : gF} {cnt : Nat} {res : gMu × gRes} (h : gRun (n + 1) scr k f cnt = some res) : ∃ r, gAt k f.1 = some r ∧
    ((∃ f' cs, gStp scr r f = some (f', cs) ∧ gAll cs ∧ gRun n scr k f' cnt = some res) ∨ gEnd k r f cnt = some res ∨
     (∃ i q, r.1 = .invokevirtual i ∧ (f.2.2.1.drop r.2.2.1.2.1).head? = some (.ref q) ∧ (gObj q).map (fun x => x.1) = some (mCi r.2.2.1.1) ∧ r.2.2.2 = .int 0 ∧ gInvP n scr k r f cnt res (r.2.2.1.2.1 + 1)) ∨
     (∃ i, r.1 = .invokestatic i ∧ (r.2.2.2 = .int 0 ∨ r.2.2.2 = .int 1) ∧ gInvP n scr k r f cnt res r.2.2.1.2.1)) := by
  unfold gRun at h
  split at h
  · cases h
  · rename_i r hr
    refine ⟨r, hr, ?_⟩
    obtain ⟨ins, len, ⟨a1, a2, a3⟩, cv⟩ := r
    cases ins
    case invokevirtual i =>
      dsimp only at h
      split at h
      · rename_i q hq
        split at h
        · exact Or.inl (gRun_plain h)
        · rename_i hc
          rw [not_or, not_or, not_or] at hc
          exact Or.inr (Or.inr (Or.inl ⟨i, q, rfl, hq, Classical.not_not.mp hc.2.2.1, Classical.not_not.mp hc.2.2.2, gRun_inv0 h⟩))
      · cases h
    case invokestatic i =>
      dsimp only at h
      split at h
      · exact Or.inr (Or.inr (Or.inr ⟨i, rfl, Or.inl rfl, gRun_inv0 h⟩))
      · exact Or.inr (Or.inr (Or.inr ⟨i, rfl, Or.inr rfl, gRun_inv0 h⟩))
      · exact Or.inl (gRun_plain h)
    case return_ => exact Or.inr (Or.inl h)
    case ireturn => exact Or.inr (Or.inl h)
    case lreturn => exact Or.inr (Or.inl h)
    case freturn => exact Or.inr (Or.inl h)
    case dreturn => exact Or.inr (Or.inl h)
    case new i => exact Or.inr (Or.inl h)
    all_goals exact Or.inl (gRun_plain h)
/-- a thrown exception is one of six, and is paid -/
theorem gEnd_thr {k cnt x : Nat} {r : gR} {f : gF} {μ' : gMu} (hr : gAt k f.1 = some r) (h : gEnd k r f cnt = some (μ', .inr x)) : cnt + 1 ≤ mCo k ∧ x < 5 ∧ k < 166 ∧ f.2.2.1 = [] ∧ mHh k = [] ∧ μ' = f.2.2.2 ∧ ∃ i q, r.1 = .new i ∧ q ∈ gThr ∧ q.1 = k ∧ q.2.1 = f.1 ∧ q.2.2.1 = x ∧ q.2.2.2.1 = i := by
  obtain ⟨hd, hc⟩ := g_row hr
  obtain ⟨ins, len, ⟨a1, a2, a3⟩, cv⟩ := r
  unfold gEnd at h
  cases ins
  case return_ => dsimp only at h; split at h <;> cases h
  case ireturn =>
    dsimp only at h
    split at h
    · unfold gIf at h
      split at h <;> cases h
    · cases h
  case lreturn => dsimp only at h; split at h <;> cases h
  case freturn => dsimp only at h; split at h <;> cases h
  case dreturn => dsimp only at h; split at h <;> cases h
  case new i =>
    dsimp only at h
    split at h
    · rename_i h1 h2
      split at h
      · rename_i h3
        have hc' : (decide (k = 166) || gThr.any fun q => decide (q.1 = k ∧ q.2.1 = f.1 ∧ q.2.2.1 = a1 ∧ q.2.2.2.1 = i)) = true := hc
        cases h
        rw [Bool.or_eq_true] at hc'
        rcases hc' with hc' | hc'
        · have := of_decide_eq_true hc'
          omega
        · obtain ⟨q, hq, h4⟩ := List.any_eq_true.mp hc'
          obtain ⟨q1, q2, q3, q4⟩ := of_decide_eq_true h4
          have h6 : ∀ q ∈ gThr, q.2.2.1 < 5 := by decide
          exact ⟨h3.1, by rw [← q3]; exact h6 q hq, h3.2, h1, h2, rfl, i, q, rfl, hq, q1, q2, q3, q4⟩
      · cases h
    · cases h
  all_goals cases h
theorem gRun_thr : ∀ (n : Nat) {scr : gScr} {k : Nat} {f : gF} {cnt : Nat} {μ' : gMu} {x : Nat}, gRun n scr k f cnt = some (μ', .inr x) → cnt + 1 ≤ mCo k ∧ x < 5
  | 0, _, _, _, _, _, _, h => by cases h
  | n + 1, scr, k, f, cnt, μ', x, h => by
    obtain ⟨r, hr, h1⟩ := gRun_inv h
    have key : ∀ na, gInvP n scr k r f cnt (μ', .inr x) na → cnt + 1 ≤ mCo k ∧ x < 5 := by
      rintro na ⟨-, c2, -, -, -, μ2, y, hy, h2⟩
      rcases h2 with ⟨v, -, h3⟩ | ⟨z, hz, -, h3⟩ | ⟨z, i, hh, r2, len, -, -, -, -, -, h3⟩
      · have := gRun_thr n h3
        exact ⟨by omega, this.2⟩
      · subst hz
        cases h3
        have := gRun_thr n hy
        exact ⟨by omega, this.2⟩
      · have := gRun_thr n h3
        exact ⟨by omega, this.2⟩
    rcases h1 with ⟨f', cs, -, -, h2⟩ | h2 | ⟨i, q, -, -, -, -, h2⟩ | ⟨i, -, -, h2⟩
    · exact gRun_thr n h2
    · have := gEnd_thr hr h2
      exact ⟨this.1, this.2.1⟩
    · exact key _ h2
    · exact key _ h2
/-- what is checked of the tables of handlers -/
def gHok (k : Nat) : Bool := decide ((mHe k).length = (mHh k).length) && (List.range (mHh k).length).all fun i => (match (mHh k)[i]?, (mHe k)[i]? with
  | some h, some x => decide (h.2.2.2 ≠ 0 ∧ x.1 < 5) && decide (gW x.2 = some (.classLink (mOw k) h.2.2.2 (gEx x.1)))
  | _, _ => false)
theorem gHok_all : ((List.range 167).all gHok) = true := by decide +kernel
theorem gHok_at {k i : Nat} {h : Nat × Nat × Nat × Nat} (hk : k < 167) (hi : (mHh k)[i]? = some h) : ∃ x, (mHe k)[i]? = some x ∧ h.2.2.2 ≠ 0 ∧ x.1 < 5 ∧ Cond.classLink (mOw k) h.2.2.2 (gEx x.1) ∈ gG := by
  have h1 := List.all_eq_true.mp gHok_all k (List.mem_range.mpr hk)
  unfold gHok at h1
  rw [Bool.and_eq_true] at h1
  have h2 := List.all_eq_true.mp h1.2 i (List.mem_range.mpr (List.getElem?_eq_some_iff.mp hi).1)
  rw [hi] at h2
  cases hx : (mHe k)[i]? with
  | none => rw [hx] at h2; cases h2
  | some x =>
    rw [hx] at h2
    simp only [Bool.and_eq_true, decide_eq_true_eq] at h2
    exact ⟨x, rfl, h2.1.1, h2.1.2, gG_W h2.2 rfl⟩
theorem gHsta : ((List.range 166).all fun k => (mHh k).isEmpty || (mSta k && decide (mCo k ≠ 0))) = true := by decide +kernel
theorem gVirt {k pc i : Nat} {r : gR} (hr : gAt k pc = some r) (hi : r.1 = .invokevirtual i) (hcv : r.2.2.2 = .int 0) (hk : r.2.2.1.1 < 166) : mHh r.2.2.1.1 = [] := by
  obtain ⟨hd, hc⟩ := g_row hr
  obtain ⟨ins, len, ⟨a1, a2, a3⟩, cv⟩ := r
  dsimp only at hi hcv
  subst hi
  subst hcv
  have hc9 : decide (a2 = mNp a1 ∧ mSta a1 = false ∧ gW a3 = some (.methodLink (mOw k) i (mY a1)) ∧ (mFr a1).1 + 1 ≤ (mFr k).1 ∧ 8 + (mML a1 + 11) + (mFr a1).2 ≤ (mFr k).2) = true := hc
  obtain ⟨-, c2, -⟩ := of_decide_eq_true hc9
  dsimp only at c2 hk ⊢
  have h1 := List.all_eq_true.mp gHsta a1 (List.mem_range.mpr hk)
  rw [c2] at h1
  simpa using h1
theorem gNestHh {k pc i : Nat} {r : gR} (hr : gAt k pc = some r) (hi : r.1 = .invokestatic i) (hv : r.2.2.2 = .int 1) (hk : r.2.2.1.1 < 166) : mHh r.2.2.1.1 = [] := by
  obtain ⟨hd, hc⟩ := g_row hr
  obtain ⟨ins, len, ⟨a1, a2, a3⟩, cv⟩ := r
  dsimp only at hi hv hk ⊢
  subst hi
  subst hv
  have hc' : (gCk k (.invokestatic i, len, (a1, a2, a3), .int 1) && decide (gW a3 = some (.methodLinkNest (mOw k) i (mY a1) "Glyphmill") ∧ mCo a1 = 0)) = true := hc
  rw [Bool.and_eq_true] at hc'
  obtain ⟨-, c6⟩ := of_decide_eq_true hc'.2
  have h1 := List.all_eq_true.mp gHsta a1 (List.mem_range.mpr hk)
  rw [c6] at h1
  simpa using h1
/-! the count of caught exceptions: only a catch moves it -/
theorem gPush_22 {f f' : gF} {len : Nat} {v : Value} {cs : List Prop} (h : gPush f len v = some (f', cs)) : f'.2.2.2.2.2 = f.2.2.2.2.2 := by
  cases h
  rfl
theorem gLdI_22 {f f' : gF} {len i : Nat} {cs : List Prop} (h : gLdI f len i = some (f', cs)) : f'.2.2.2.2.2 = f.2.2.2.2.2 := by
  unfold gLdI at h
  split at h
  · exact gPush_22 h
  · cases h
theorem gLdJ_22 {f f' : gF} {len i : Nat} {cs : List Prop} (h : gLdJ f len i = some (f', cs)) : f'.2.2.2.2.2 = f.2.2.2.2.2 := by
  unfold gLdJ at h
  split at h
  · exact gPush_22 h
  · cases h
theorem gLdF_22 {f f' : gF} {len i : Nat} {cs : List Prop} (h : gLdF f len i = some (f', cs)) : f'.2.2.2.2.2 = f.2.2.2.2.2 := by
  unfold gLdF at h
  split at h
  · exact gPush_22 h
  · cases h
theorem gLdD_22 {f f' : gF} {len i : Nat} {cs : List Prop} (h : gLdD f len i = some (f', cs)) : f'.2.2.2.2.2 = f.2.2.2.2.2 := by
  unfold gLdD at h
  split at h
  · exact gPush_22 h
  · cases h
theorem gLdA_22 {f f' : gF} {len i : Nat} {cs : List Prop} (h : gLdA f len i = some (f', cs)) : f'.2.2.2.2.2 = f.2.2.2.2.2 := by
  unfold gLdA at h
  split at h
  · exact gPush_22 h
  · cases h
theorem gSto_22 {f f' : gF} {len i : Nat} {cs : List Prop} (h : gSto f len i = some (f', cs)) : f'.2.2.2.2.2 = f.2.2.2.2.2 := by
  unfold gSto at h
  split at h <;> first | (cases h; rfl) | cases h
theorem gII_22 {f f' : gF} {g : Int32 → Int32 → Value × List Prop} {cs : List Prop} (h : gII f g = some (f', cs)) : f'.2.2.2.2.2 = f.2.2.2.2.2 := by
  unfold gII at h
  split at h <;> first | (cases h; rfl) | cases h
theorem gJJ_22 {f f' : gF} {g : Int64 → Int64 → Value × List Prop} {cs : List Prop} (h : gJJ f g = some (f', cs)) : f'.2.2.2.2.2 = f.2.2.2.2.2 := by
  unfold gJJ at h
  split at h <;> first | (cases h; rfl) | cases h
theorem gI1_22 {f f' : gF} {g : Int32 → Value} {cs : List Prop} (h : gI1 f g = some (f', cs)) : f'.2.2.2.2.2 = f.2.2.2.2.2 := by
  unfold gI1 at h
  split at h <;> first | (cases h; rfl) | cases h
theorem gJ1_22 {f f' : gF} {g : Int64 → Value} {cs : List Prop} (h : gJ1 f g = some (f', cs)) : f'.2.2.2.2.2 = f.2.2.2.2.2 := by
  unfold gJ1 at h
  split at h <;> first | (cases h; rfl) | cases h
theorem gALd_22 {scr : gScr} {f f' : gF} {t : Nat} {cs : List Prop} (h : gALd scr t f = some (f', cs)) : f'.2.2.2.2.2 = f.2.2.2.2.2 := by
  unfold gALd at h
  split at h
  · split at h
    · split at h <;> first | (cases h; rfl) | cases h
    · split at h
      · split at h <;> first | (cases h; rfl) | cases h
      · cases h
  · cases h
theorem gALen_22 {scr : gScr} {f f' : gF} {cs : List Prop} (h : gALen scr f = some (f', cs)) : f'.2.2.2.2.2 = f.2.2.2.2.2 := by
  unfold gALen at h
  split at h
  · split at h
    · split at h <;> first | (cases h; rfl) | cases h
    · split at h <;> first | (cases h; rfl) | cases h
  · cases h
theorem gIst_22 {f f' : gF} {t : Nat} {g : Int32 → Int32} {cs : List Prop} (h : gIst t g f = some (f', cs)) : f'.2.2.2.2.2 = f.2.2.2.2.2 := by
  unfold gIst at h
  split at h
  · split at h
    · cases h
    · split at h
      · split at h <;> first | (cases h; rfl) | cases h
      · cases h
  · cases h
theorem gJst_22 {f f' : gF} {cs : List Prop} (h : gJst f = some (f', cs)) : f'.2.2.2.2.2 = f.2.2.2.2.2 := by
  unfold gJst at h
  split at h
  · split at h
    · cases h
    · split at h
      · split at h <;> first | (cases h; rfl) | cases h
      · cases h
  · cases h
theorem gGet_22 {f f' : gF} {ci k : Nat} {cs : List Prop} (h : gGet ci k f = some (f', cs)) : f'.2.2.2.2.2 = f.2.2.2.2.2 := by
  unfold gGet at h
  split at h
  · split at h
    · cases h
    · split at h
      · split at h
        · split at h <;> first | (cases h; rfl) | cases h
        · cases h
      · cases h
  · cases h
theorem gPut_22 {f f' : gF} {ci k : Nat} {cs : List Prop} (h : gPut ci k f = some (f', cs)) : f'.2.2.2.2.2 = f.2.2.2.2.2 := by
  unfold gPut at h
  split at h
  · split at h
    · cases h
    · split at h
      · split at h
        · split at h <;> first | (cases h; rfl) | cases h
        · cases h
      · cases h
  · split at h
    · cases h
    · split at h
      · split at h
        · split at h <;> first | (cases h; rfl) | cases h
        · cases h
      · cases h
  · cases h
theorem gMath_22 {cv : Value} {f f' : gF} {cs : List Prop} (h : gMath cv f = some (f', cs)) : f'.2.2.2.2.2 = f.2.2.2.2.2 := by
  unfold gMath at h
  split at h <;> first | (cases h; rfl) | cases h
theorem gAtS_22 {scr : gScr} {f f' : gF} {cs : List Prop} (h : gAtS scr f = some (f', cs)) : f'.2.2.2.2.2 = f.2.2.2.2.2 := by
  unfold gAtS at h
  split at h
  · split at h <;> first | (cases h; rfl) | cases h
  · cases h
theorem gStM_22 {scr : gScr} {n : Nat} {cv : Value} {f f' : gF} {cs : List Prop} (h : gStM scr n cv f = some (f', cs)) : f'.2.2.2.2.2 = f.2.2.2.2.2 := by
  unfold gStM at h
  split at h
  · split at h <;> first | (cases h; rfl) | cases h
  · split at h <;> first | (cases h; rfl) | cases h
  · cases h
theorem gStp_22 {scr : gScr} {r : gR} {f f' : gF} {cs : List Prop} (h : gStp scr r f = some (f', cs)) : f'.2.2.2.2.2 = f.2.2.2.2.2 := by
  obtain ⟨ins, len, ⟨a1, a2, a3⟩, cv⟩ := r
  unfold gStp at h
  cases ins
  all_goals (dsimp only at h)
  all_goals first
    | exact gPush_22 h
    | exact gLdI_22 h
    | exact gLdJ_22 h
    | exact gLdF_22 h
    | exact gLdD_22 h
    | exact gLdA_22 h
    | exact gII_22 h
    | exact gJJ_22 h
    | exact gI1_22 h
    | exact gJ1_22 h
    | exact gALd_22 h
    | exact gALen_22 h
    | exact gIst_22 h
    | exact gJst_22 h
    | exact gGet_22 h
    | exact gPut_22 h
    | exact gStM_22 h
    | (cases h; done)
    | (cases h; rfl)
    | (split at h <;> first | exact gPush_22 h | exact gSto_22 h | exact gAtS_22 h | exact gMath_22 h | (cases h; rfl) | (cases h; done) | (split at h <;> first | (cases h; rfl) | (cases h; done) | (split at h <;> first | exact gPush_22 h | (cases h; rfl) | (cases h; done))))
theorem gStp_gh {scr : gScr} {r : gR} {f f' : gF} {cs : List Prop} (h : gStp scr r f = some (f', cs)) : gGh f'.2.2.2 = gGh f.2.2.2 := by
  unfold gGh
  rw [gStp_22 h]
theorem gBm_gh (μ : gMu) : gGh (gBm μ) ≤ gGh μ + 1 := by
  have e : (gBm μ).2.2 1001 0 = μ.2.2 1001 0 + 1 := by
    unfold gBm gsD va_up vf_upd
    simp
  unfold gGh
  rw [e, UInt64.toNat_add]
  exact Nat.mod_le _ _
theorem gWd_Bm (cA : Nat → ClassId) (ad : Nat → Nat) (μ : gMu) : gWd cA ad (gBm μ) = gWd cA ad μ := by
  unfold gWd
  refine List.ext_getElem? (fun i => ?_)
  rw [List.getElem?_mapIdx, List.getElem?_mapIdx]
  cases hi : gSh[i]? with
  | none => rfl
  | some x =>
    have hl : i < gSh.length := (List.getElem?_eq_some_iff.mp hi).1
    have hl9 : gSh.length = 43 := rfl
    have hne : i ≠ 1001 := by omega
    have e := gsD_off (μ := μ) (q := 1001) (j := 0) (v := μ.2.2 1001 0 + 1) hne
    rcases x with ⟨ci, ks⟩ | ⟨t, n⟩
    · show some (ad i, gCell cA ad (gBm μ) i (.inl (ci, ks))) = some (ad i, gCell cA ad μ i (.inl (ci, ks)))
      unfold gCell gFa gBm
      dsimp only
      rw [e.1, e.2.1]
    · show some (ad i, gCell cA ad (gBm μ) i (.inr (t, n))) = some (ad i, gCell cA ad μ i (.inr (t, n)))
      unfold gCell gBm
      dsimp only
      rw [e.1, e.2.1, e.2.2]
theorem gM_Bm {cA : Nat → ClassId} {ad : Nat → Nat} {dC : Nat → ClassId} {dI : Nat → Nat → Nat} {A : Nat → Prop} {s : State} {μ : gMu} {H : Heap} {locs : List Loc} (h : gM cA ad dC dI A s μ H locs) : gM cA ad dC dI A s (gBm μ) H locs := by
  unfold gM
  rw [gWd_Bm]
  exact h
theorem gHno : ((List.range 152).all fun k => (mHh k).isEmpty) = true := by decide +kernel
theorem gHno_at {k : Nat} (hk : k < 152) : mHh k = [] := by
  have h1 := List.all_eq_true.mp gHno k (List.mem_range.mpr hk)
  simpa using h1
set_option maxRecDepth 100000 in
theorem gNs_law : ((List.range 15).all fun i => match gCode[152 + i]? with | some t => t.all (fun q => gNst q.2.1) | none => false) = true := by decide +kernel
theorem gNs_at {k pc : Nat} {r : gR} (hk : k < 167) (hk2 : ¬ k < 152) (h : gAt k pc = some r) : gNst r.1 = true := by
  have h1 := List.all_eq_true.mp gNs_law (k - 152) (List.mem_range.mpr (by omega))
  rw [show 152 + (k - 152) = k by omega] at h1
  unfold gAt at h
  split at h
  · rename_i t ht
    rw [ht] at h1
    exact List.all_eq_true.mp h1 _ (g_lk h)
  · cases h
theorem gEnd_gh {k cnt : Nat} {r : gR} {f : gF} {res : gMu × gRes} (h : gEnd k r f cnt = some res) : res.1 = f.2.2.2 := by
  obtain ⟨ins, len, ⟨a1, a2, a3⟩, cv⟩ := r
  unfold gEnd at h
  cases ins
  case return_ => dsimp only at h; split at h <;> first | (cases h; rfl) | cases h
  case ireturn =>
    dsimp only at h
    split at h
    · unfold gIf at h
      split at h <;> first | (cases h; rfl) | cases h
    · cases h
  case lreturn => dsimp only at h; split at h <;> first | (cases h; rfl) | cases h
  case freturn => dsimp only at h; split at h <;> first | (cases h; rfl) | cases h
  case dreturn => dsimp only at h; split at h <;> first | (cases h; rfl) | cases h
  case new i =>
    dsimp only at h
    split at h
    · split at h <;> first | (cases h; rfl) | cases h
    · cases h
  all_goals cases h
theorem gRun_gh : ∀ (n : Nat) {scr : gScr} {k : Nat} {f : gF} {cnt : Nat} {res : gMu × gRes}, k < 152 → gRun n scr k f cnt = some res → gGh res.1 = gGh f.2.2.2
  | 0, _, _, _, _, _, _, h => by cases h
  | n + 1, scr, k, f, cnt, res, hk, h => by
    obtain ⟨r, hr, h1⟩ := gRun_inv h
    have key : ∀ na, gInvP n scr k r f cnt res na → gGh res.1 = gGh f.2.2.2 := by
      rintro na ⟨-, -, -, c4, -, μ2, y, hy, h2⟩
      have h0 := gRun_gh n (by omega) hy
      dsimp only at h0
      rcases h2 with ⟨v, -, h3⟩ | ⟨z, hz, -, h3⟩ | ⟨z, i, hh, r2, len, -, -, h4, -, -, h3⟩
      · rw [gRun_gh n hk h3]
        exact h0
      · subst h3
        exact h0
      · rw [gHno_at hk] at h4
        cases h4
    rcases h1 with ⟨f', cs, hs, -, h2⟩ | h2 | ⟨i, q, -, -, -, -, h2⟩ | ⟨i, -, -, h2⟩
    · rw [gRun_gh n hk h2]
      exact gStp_gh hs
    · rw [gEnd_gh h2]
    · exact key _ h2
    · exact key _ h2
section GFRAME
variable {p : Program} {l : Launch} {e : Env} {R : Room} {s : State} {m : MethodId} {args : Array Value} {below : List Frame} {meth : Method} {c : Code} {Q : State → Prop}
variable {k : Nat} {cA : Nat → ClassId} {ad : Nat → Nat} {dC : Nat → ClassId} {dI : Nat → Nat → Nat} {A : Nat → Prop} {scr : gScr}
/-- caught here -/
theorem g_hnd {H : Heap} {locs : List Loc} {cells slots : Nat} {ls : Array Slot} {rest : List Value} {pc y i len : Nat} {h : Nat × Nat × Nat × Nat} {r2 : gR} {ce : Cell} {q : Addr} {L0 : gL} (X : gX k p l e R s m args meth c cA ad dC dI A scr) (fx : gFx s) (hk : k < 167) (htab : c.exceptionTable.toList = tableOf (mHh k)) (hl : gLh ls (mML k) ad L0)
    (hi : gHnd k pc y = some i) (hh : (mHh k)[i]? = some h) (hr2 : gAt k h.2.2.1 = some r2) (hlen : (∃ n9, r2.1 = .astore_n n9 ∧ len = 1) ∨ (∃ n9, r2.1 = .astore n9 ∧ len = 2)) (hy : y < 5)
    (hcell : H[q]? = some ce) (hv : ce.vm = .none) (hcl : s.vm.findClass (gEx y) = some ce.cls)
    (kk : ∀ ls1, gLh ls1 (mML k) ad ((gKill L0 r2.2.2.1.1).set r2.2.2.1.1 none) → W p l e R s m args below meth c H locs cells slots Q (F0 m (h.2.2.1 + len) ls1 [])) :
    vx_W p l e R s m args below meth c H locs cells slots Q (F0 m pc ls rest) q := by
  obtain ⟨hx, hb, hml, hown, hts, hK, hA, hscr⟩ := X
  unfold gHnd at hi
  rw [List.find?_range_eq_some] at hi
  obtain ⟨h1, h2, h3⟩ := hi
  obtain ⟨x, hx1, hx2, hx3, hx4⟩ := gHok_at hk hh
  rw [hh, hx1] at h1
  simp only [Bool.and_eq_true, decide_eq_true_eq] at h1
  obtain ⟨⟨h4, h5⟩, h6⟩ := h1
  have hil : i < (tableOf (mHh k)).length := by
    unfold tableOf
    rw [List.length_map]
    exact (List.getElem?_eq_some_iff.mp hh).1
  have htx : (tableOf (mHh k))[i]? = some ⟨h.1, h.2.1, h.2.2.1, h.2.2.2⟩ := by
    unfold tableOf
    rw [List.getElem?_map, hh]
    rfl
  have hsplit : tableOf (mHh k) = (tableOf (mHh k)).take i ++ ⟨h.1, h.2.1, h.2.2.1, h.2.2.2⟩ :: (tableOf (mHh k)).drop (i + 1) := by
    have e1 : (tableOf (mHh k))[i] = ⟨h.1, h.2.1, h.2.2.1, h.2.2.2⟩ := (List.getElem?_eq_some_iff.mp htx).2
    rw [← e1, ← List.drop_eq_getElem_cons hil, List.take_append_drop]
  refine vx_catch hown ((tableOf (mHh k)).take i) ⟨h.1, h.2.1, h.2.2.1, h.2.2.2⟩ ((tableOf (mHh k)).drop (i + 1)) (by rw [htab]; exact hsplit) ?_ (by simp [covers, h4, h5]) hx2 (hts _ hx4) (va_Nw.use rfl (by rw [h6]; exact fx.2.2.2.1 y hy)) hcell hv hcl ?_
  · intro z hz
    obtain ⟨j, hj⟩ := List.getElem?_of_mem hz
    have hji : j < i := by
      have := (List.getElem?_eq_some_iff.mp hj).1
      rw [List.length_take] at this
      omega
    rw [List.getElem?_take_of_lt hji] at hj
    unfold tableOf at hj
    rw [List.getElem?_map] at hj
    cases hhj : (mHh k)[j]? with
    | none => rw [hhj] at hj; cases hj
    | some hj' =>
      rw [hhj] at hj
      cases hj
      obtain ⟨x', hx1', hx2', hx3', hx4'⟩ := gHok_at hk hhj
      have h7 := h3 j hji
      rw [hhj, hx1'] at h7
      by_cases hcov : hj'.1 ≤ pc ∧ pc < hj'.2.1
      · right
        refine ⟨hx2', gEx x'.1, hts _ hx4', fx.2.2.1 y x'.1 hy hx3' (fun hne => ?_)⟩
        subst hne
        simp [hcov] at h7
      · left
        show covers _ pc = false
        unfold covers
        simp only [Bool.and_eq_false_iff, decide_eq_false_iff_not]
        rcases Classical.not_and_iff_not_or_not.mp hcov with h8 | h8
        · exact Or.inl h8
        · exact Or.inr h8
  · obtain ⟨hd2, hc2⟩ := g_row hr2
    obtain ⟨ins, len2, ⟨a1, a2, a3⟩, cv⟩ := r2
    rcases hlen with ⟨n9, e9, el⟩ | ⟨n9, e9, el⟩
    · dsimp only at e9
      subst e9
      subst el
      obtain ⟨c1, c2⟩ := of_decide_eq_true hc2
      dsimp only at c1 c2
      exact lv_astore_n hx hb hd2 c1 hl c2 rfl (fun ls1 hl1 => kk ls1 (gLh_hnd hl1))
    · dsimp only at e9
      subst e9
      subst el
      obtain ⟨c1, c2⟩ := of_decide_eq_true hc2
      dsimp only at c1 c2
      subst c1
      exact lv_astore hx hb hd2 hl c2 rfl (fun ls1 hl1 => kk ls1 (gLh_hnd hl1))
set_option maxHeartbeats 4000000 in
theorem g_frame (N : Nat) {z : Nat} (ih : ∀ n, n < N → ∀ (k : Nat) (as : List Value) (μ : gMu) (res : gMu × gRes), k < 166 → (gEnt as (mML k)).length ≤ mML k → gRun n none k (0, gEnt as (mML k), [], μ) 0 = some res → gCt l k as μ res)
    (X : gX k p l e R s m args meth c cA ad dC dI A scr) (fx : gFx s) (th : gTh A s s.heap) (hk : k < 167) (htab : mHh k = [] ∨ c.exceptionTable.toList = tableOf (mHh k)) (hR : R.frames = (mFr k).1 ∧ R.locals = (mFr k).2) {c0 s0 : Nat} (hc0 : c0 + mCo k ≤ R.cells ∧ s0 + 6 * mCo k ≤ R.slots) {res : gMu × gRes}
    (kend : ∀ (f : gF) (cnt : Nat) (r : gR) (H : Heap) (locs : List Loc) (ls : Array Slot), gAt k f.1 = some r → gEnd k r f cnt = some res → cnt ≤ mCo k → gM cA ad dC dI A s f.2.2.2 H locs → s.heap.size + gGh f.2.2.2 ≤ H.size + z → gLh ls (mML k) ad f.2.1 → W p l e R s m args below meth c H locs (c0 + cnt) (s0 + 6 * cnt) Q (F0 m f.1 ls (f.2.2.1.map (gTr ad))))
    (kout : ∀ (μ' : gMu) (x pc cnt : Nat) (H : Heap) (locs : List Loc) (ls : Array Slot) (rest : List Value) (q9 : Addr) (ce : Cell), res = (μ', .inr x) → x < 5 → mHh k = [] → cnt ≤ mCo k → gM cA ad dC dI A s μ' H locs → s.heap.size + gGh μ' + 1 ≤ H.size + z → H[q9]? = some ce → ce.vm = .none → s.vm.findClass (gEx x) = some ce.cls → vx_W p l e R s m args below meth c H locs (c0 + cnt) (s0 + 6 * cnt) Q (F0 m pc ls rest) q9) :
    ∀ (n : Nat), n ≤ N → ∀ (f : gF) (cnt : Nat) (H : Heap) (locs : List Loc) (ls : Array Slot), gRun n scr k f cnt = some res → cnt ≤ mCo k → gM cA ad dC dI A s f.2.2.2 H locs → s.heap.size + gGh f.2.2.2 ≤ H.size + z → (k < 152 → gGh f.2.2.2 = z) → gLh ls (mML k) ad f.2.1 → W p l e R s m args below meth c H locs (c0 + cnt) (s0 + 6 * cnt) Q (F0 m f.1 ls (f.2.2.1.map (gTr ad))) := by
  intro n
  induction n with
  | zero => intro _ f cnt H locs ls h; cases h
  | succ n ihn =>
    intro hn f cnt H locs ls h hcnt hM hG hZ hl
    obtain ⟨r, hr, h1⟩ := gRun_inv h
    have hA := X.2.2.2.2.2.2.1
    have go : ∀ (na : Nat) (st0 : List Value) (a : Array Value), gInvP n scr k r f cnt res na →
        (∀ (res1 : gMu × gRes), gCt l r.2.2.1.1 (f.2.2.1.take na).reverse f.2.2.2 res1 → (mCo r.2.2.1.1 = 0 → ∃ v, res1.2 = .inl v) → (f.2.2.1.take na).reverse.length = na → ((f.2.2.1.drop na).map fun v => v.category).sum ≤ 8 → r.2.2.1.1 < 166 → (c0 + cnt + mCo r.2.2.1.1 ≤ R.cells ∧ s0 + 6 * cnt + 6 * mCo r.2.2.1.1 ≤ R.slots) →
          vx_Run p l e R s m args below meth c H locs (c0 + cnt) (s0 + 6 * cnt) (mCo r.2.2.1.1) (6 * mCo r.2.2.1.1) (F0 m f.1 ls st0) ((f.2.2.1.drop na).map (gTr ad)) (gQc cA ad dC dI H.size (gGh f.2.2.2) res1 a) (gXC cA ad dC dI H.size (gGh f.2.2.2) res1) (gA ad H.size)) →
        W p l e R s m args below meth c H locs (c0 + cnt) (s0 + 6 * cnt) Q (F0 m f.1 ls st0) := by
      intro na st0 a hP hrun
      obtain ⟨c1, c2, c3, c4, c5, μ', x, hx, h2⟩ := hP
      have e1 : c0 + cnt + mCo r.2.2.1.1 = c0 + (cnt + mCo r.2.2.1.1) := by omega
      have e2 : s0 + 6 * cnt + 6 * mCo r.2.2.1.1 = s0 + 6 * (cnt + mCo r.2.2.1.1) := by omega
      have hct := ih n (by omega) r.2.2.1.1 _ f.2.2.2 (μ', x) (by omega) c5 hx
      refine g_after hA hM (hrun (μ', x) hct (fun h0 => ?_) c1 c3 (by omega) ⟨by omega, by omega⟩) (fun v hv H1 locs1 hGc hM1 => ?_) (fun y hy hy6 q9 ce H1 locs1 hGc hM1 hce hcv hcl => ?_)
      · cases x with
        | inl v => exact ⟨v, rfl⟩
        | inr y =>
          have := gRun_thr n hx
          omega
      · dsimp only at hv
        subst hv
        rcases h2 with ⟨v', hv', h3⟩ | ⟨z, hz, -, -⟩ | ⟨z, i, hh, r2, len, hz, -⟩
        · cases hv'
          rw [e1, e2]
          have h4 := ihn (by omega) (f.1 + 3, f.2.1, v.toList ++ f.2.2.1.drop na, μ') (cnt + mCo r.2.2.1.1) H1 locs1 ls h3 c2 hM1 (by show s.heap.size + gGh μ' ≤ H1.size + z; dsimp only at hGc; omega) (fun h152 => (gRun_gh n (by omega) hx).trans (hZ h152)) hl
          dsimp only at h4
          rw [List.map_append] at h4
          have e3 : (v.map (gTr ad)).toList = v.toList.map (gTr ad) := by cases v <;> rfl
          rw [e3]
          exact h4
        · cases hz
        · cases hz
      · dsimp only at hy
        subst hy
        rw [e1, e2]
        rcases h2 with ⟨v', hv', -⟩ | ⟨z, hz, hh, h3⟩ | ⟨z, i, hh, r2, len, hz, g1, g2, g3, g4, h3⟩
        · cases hv'
        · cases hz
          exact kout μ' y f.1 (cnt + mCo r.2.2.1.1) H1 locs1 ls _ q9 ce h3 hy6 hh c2 hM1 (by dsimp only at hGc; omega) hce hcv hcl
        · cases hz
          exact g_hnd X fx hk (htab.resolve_left (fun e9 => by rw [e9] at g2; cases g2)) hl g1 g2 g3 g4 hy6 hce hcv hcl (fun ls1 hl1 => ihn (by omega) (hh.2.2.1 + len, _, [], gBm μ') (cnt + mCo r.2.2.1.1) H1 locs1 ls1 h3 c2 (gM_Bm hM1) (by have := gBm_gh μ'; show s.heap.size + gGh (gBm μ') ≤ H1.size + z; dsimp only at hGc; omega) (fun h152 => by rw [gHno_at h152] at g2; cases g2) hl1)
    rcases h1 with ⟨f', cs, hs, hcs, h2⟩ | h2 | ⟨i, q, hi, hq, hci, hcv0, h2⟩ | ⟨i, hi, h01, h2⟩
    · exact g_step X hR ⟨by omega, by omega⟩ hr hs hcs hM hl (fun H1 locs1 ls1 hns hM1 hl1 => ihn (by omega) f' cnt H1 locs1 ls1 h2 hcnt hM1 (by
        rw [gStp_gh hs]
        by_cases h152 : k < 152
        · have h8 := hZ h152
          have h9 := hM1.2.2.1
          omega
        · have h9 := hns (gNs_at hk h152 hr)
          omega) (fun h152 => (gStp_gh hs).trans (hZ h152)) hl1)
    · exact kend f cnt r H locs ls hr h2 hcnt hM hG hl
    · have hdrop : f.2.2.1.drop r.2.2.1.2.1 = .ref q :: f.2.2.1.drop (r.2.2.1.2.1 + 1) := by
        cases hd9 : f.2.2.1.drop r.2.2.1.2.1 with
        | nil => rw [hd9] at hq; cases hq
        | cons v9 t9 =>
          rw [hd9] at hq
          cases hq
          rw [← List.drop_drop, hd9]
          rfl
      have htake : f.2.2.1.take (r.2.2.1.2.1 + 1) = f.2.2.1.take r.2.2.1.2.1 ++ [.ref q] := by
        have hl9 : r.2.2.1.2.1 < f.2.2.1.length := by
          rcases Nat.lt_or_ge r.2.2.1.2.1 f.2.2.1.length with h9 | h9
          · exact h9
          · rw [List.drop_eq_nil_of_le h9] at hdrop
            cases hdrop
        rw [List.take_succ_eq_append_getElem hl9]
        rw [List.drop_eq_getElem_cons hl9] at hdrop
        rw [(List.cons.inj hdrop).1]
      obtain ⟨ks, hks⟩ : ∃ ks, gObj q = some (mCi r.2.2.1.1, ks) := by
        cases ho : gObj q with
        | none => rw [ho] at hci; cases hci
        | some x => rw [ho] at hci; exact ⟨x.2, by rw [← Option.some.inj hci]⟩
      refine go (r.2.2.1.2.1 + 1) _ (Value.ref (ad q) :: ((f.2.2.1.take r.2.2.1.2.1).reverse).map (gTr ad)).toArray h2 (fun res1 hct _ hlen9 hsum hk9 hcs9 => ?_)
      have e9 : (f.2.2.1.take (r.2.2.1.2.1 + 1)).reverse = .ref q :: (f.2.2.1.take r.2.2.1.2.1).reverse := by rw [htake]; simp
      rw [e9] at hct hlen9
      have hlen8 : (f.2.2.1.take r.2.2.1.2.1).reverse.length = r.2.2.1.2.1 := by simpa using hlen9
      have hst : f.2.2.1 = ((f.2.2.1.take r.2.2.1.2.1).reverse).reverse ++ .ref q :: f.2.2.1.drop (r.2.2.1.2.1 + 1) := by
        rw [List.reverse_reverse, ← hdrop, List.take_append_drop]
      have hmh : mHh r.2.2.1.1 = [] := gVirt hr hi hcv0 hk9
      have h10 := g_runV (below := below) (pc := f.1) (rest := f.2.2.1.drop (r.2.2.1.2.1 + 1)) X fx th hM hl hr hi hcv0 rfl hk9 hlen8 hks hct hmh hR hcs9 hsum
      rw [← hst] at h10
      exact h10
    · refine go r.2.2.1.2.1 _ ((f.2.2.1.take r.2.2.1.2.1).reverse.map (gTr ad)).toArray h2 (fun res1 hct h0 hlen9 hsum hk9 hcs9 => ?_)
      have hst : f.2.2.1 = ((f.2.2.1.take r.2.2.1.2.1).reverse).reverse ++ f.2.2.1.drop r.2.2.1.2.1 := by
        rw [List.reverse_reverse, List.take_append_drop]
      have h10 := g_runS (below := below) (pc := f.1) (rest := f.2.2.1.drop r.2.2.1.2.1) X fx th hM hl hr hi h01 rfl hk9 hlen9 hct hR hcs9 hsum h0 (fun h9 => gNestHh hr hi h9 hk9)
      rw [← hst] at h10
      exact h10
end GFRAME
