/-! EVERY RUN OF THE SMALL MACHINE IS A CONTRACT -/
theorem gEnt_args {ad : Nat → Nat} {r : Nat} : ∀ (as : List Value) (i j : Nat) (v : Value), ((as.flatMap fun v => if v.category = 2 then [some v, none] else [some v]) ++ List.replicate r none)[j]? = some (some v) → (i + j, gTr ad v) ∈ lv_args i (as.map (gTr ad))
  | [], i, j, v, h => by
    simp only [List.flatMap_nil, List.nil_append] at h
    have := List.mem_of_getElem? h
    have := (List.mem_replicate.mp this).2
    cases this
  | a :: as, i, j, v, h => by
    rw [List.flatMap_cons, List.append_assoc] at h
    rw [List.map_cons, lv_args, gTr_cat]
    by_cases hc : a.category = 2
    · rw [if_pos hc] at h ⊢
      match j, h with
      | 0, h =>
        cases h
        exact List.mem_cons_self
      | 1, h => cases h
      | j + 2, h =>
        have h1 := gEnt_args (ad := ad) as (i + 2) j v h
        rw [show i + 2 + j = i + (j + 2) by omega] at h1
        exact List.mem_cons_of_mem _ h1
    · rw [if_neg hc] at h ⊢
      match j, h with
      | 0, h =>
        cases h
        exact List.mem_cons_self
      | j + 1, h =>
        have h1 := gEnt_args (ad := ad) as (i + 1) j v h
        rw [show i + 1 + j = i + (j + 1) by omega] at h1
        exact List.mem_cons_of_mem _ h1
theorem gEnt_sl {ad : Nat → Nat} (as : List Value) : (lg_sl (as.map (gTr ad))).length = (as.flatMap fun v => if v.category = 2 then [some v, none] else [some v]).length := by
  induction as with
  | nil => rfl
  | cons a as ih =>
    unfold lg_sl at ih ⊢
    rw [List.map_cons, List.flatMap_cons, List.flatMap_cons, List.length_append, List.length_append, ih, gTr_cat]
    split <;> rfl
theorem gEnt_lh {ad : Nat → Nat} {as : List Value} {n : Nat} {ls : Array Slot} (h : lv_has ls n (lv_args 0 (as.map (gTr ad)))) : gLh ls n ad (gEnt as n) := by
  refine ⟨h.1, h.2.1, fun q hq => h.2.2 q ?_⟩
  obtain ⟨v, h1, h2⟩ := gAsc_mem.mp hq
  obtain ⟨j, w⟩ := q
  dsimp only at h1 h2
  subst h2
  have h3 := gEnt_args (ad := ad) as 0 j v h1
  rwa [Nat.zero_add] at h3
section GSOUND
variable {p : Program} {l : Launch} {e : Env} {R : Room} {s : State} {m : MethodId} {args : Array Value} {below : List Frame} {meth : Method} {c : Code}
variable {k : Nat} {cA : Nat → ClassId} {ad : Nat → Nat} {dC : Nat → ClassId} {dI : Nat → Nat → Nat}
theorem g_thrN {z : Nat} {H : Heap} {locs : List Loc} {ls : Array Slot} {pc cnt x : Nat} {L : gL} {μ : gMu} {scr : gScr} {q : Nat × Nat × Nat × Nat × Nat × Nat × Bool × String} (hfl : l.stackTraces = false) (X : gX k p l e R s m args meth c cA ad dC dI (gA ad s.heap.size) scr) (fx : gFx s) (th : gTh (gA ad s.heap.size) s s.heap)
    (htab : c.exceptionTable.toList = tableOf (mHh k)) (hlocks : meth.locks = false) (hR : R.frames = (mFr k).1 ∧ R.locals = (mFr k).2 ∧ R.cells = mCo k ∧ R.slots = 6 * mCo k)
    (hM : gM cA ad dC dI (gA ad s.heap.size) s μ H locs) (hG : s.heap.size + gGh μ ≤ H.size + z) (hl : gLh ls (mML k) ad L) (hcnt : cnt + 1 ≤ mCo k) (hh : mHh k = []) (hq : q ∈ gThr) (q1 : q.1 = k) (q2 : q.2.1 = pc) (q3 : q.2.2.1 = x) (hN : q.2.2.1 = 4) :
    W p l e R s m args below meth c H locs cnt (6 * cnt) (vx_MQ below (gQc cA ad dC dI s.heap.size z (μ, .inr x)) (gXC cA ad dC dI s.heap.size z (μ, .inr x)) args s (mCo k) (6 * mCo k) (gA ad s.heap.size)) (F0 m pc ls []) := by
  obtain ⟨hx, hb, hml, hown, hts, hK, hA, hscr⟩ := X
  have hok := gqOk_all q hq hN
  unfold gqOk at hok
  simp only [Bool.and_eq_true] at hok
  obtain ⟨⟨⟨⟨⟨⟨⟨b3, b4⟩, b5⟩, b6⟩, b7⟩, b8⟩, b9⟩, b10⟩ := hok
  obtain ⟨d1, d2, d3⟩ := of_decide_eq_true b10
  have hX4 : gEx x = gqX := by rw [← q3, hN]; rfl
  subst q1
  subst q2
  rw [d1] at hown
  have w3 : Cond.classLink "Glyphmill" q.2.2.2.1 gqX ∈ gG := List.mem_filter.mpr ⟨of_decide_eq_true b3, rfl⟩
  have w4 : Cond.initialized gqX ∈ gG := List.mem_filter.mpr ⟨of_decide_eq_true b4, rfl⟩
  have hat : ∀ w ∈ (gqAt "Glyphmill" q.2.2.2.2.2.1).filter vx_no, w.before args s = true := by
    intro w hw
    have h7 := List.all_eq_true.mp b5 w hw
    simp only [Bool.or_eq_true, Bool.and_eq_true, decide_eq_true_eq] at h7
    rcases h7 with (h7 | h7) | ⟨h7, h8⟩
    · obtain ⟨x9, rfl⟩ := gDe_form w h7
      exact va_Nw.use rfl (fx.1 _ h7)
    · rw [h7]
      exact va_Nw.use rfl (fx.2.2.2.1 4 (by omega))
    · exact hts _ (List.mem_filter.mpr ⟨h8, h7⟩)
  have hgood : ∀ w ∈ Cond.classLink "Glyphmill" q.2.2.2.1 gqX :: Cond.initialized gqX :: (gqAt "Glyphmill" q.2.2.2.2.2.1).filter vx_no, vx_ot w = true := fun w hw => List.all_eq_true.mp b6 w hw
  obtain ⟨sa, hsa⟩ := fx.2.2.2.2 q hq
  have hout : ∀ pc9, ∀ x ∈ c.exceptionTable.toList, covers x pc9 = false := by
    intro pc9 x9 hx9
    rw [htab, hh] at hx9
    cases hx9
  have hxc : ∀ t : State, s.vm.Alike t.vm → H.size + 1 ≤ t.heap.size → (∀ q : Nat, q < H.size → t.heap[q]? = H[q]?) → gXC cA ad dC dI s.heap.size z (μ, .inr x) gqX s t := by
    intro t _ hz hk9
    refine ⟨⟨x, rfl, by omega, hX4.symm⟩, hM.1.kept (fun j z hj => hk9 z.1 (hM.1 j z hj).lt), ⟨by have := hM.2.2.1; omega, fun z hz9 hnA => ?_⟩, by dsimp only; omega⟩
    rw [hk9 z (Nat.lt_of_lt_of_le hz9 hM.2.2.1)]
    exact hM.2.2.2.1 z hz9 hnA
  have hz : ls.size = c.maxLocals := by rw [hml]; exact hl.1
  by_cases hw : q.2.2.2.2.2.2.1 = true
  · rw [if_pos hw] at b9
    simp only [Bool.and_eq_true, decide_eq_true_eq] at b9
    exact gq_throw (o := 3) hx hb hfl hown (hts _ w3) (hts _ w4) hsa hat hgood th.1 th.2 hM.2.2 hz (of_decide_eq_true b7) (of_decide_eq_true b8) (Or.inr ⟨b9.1.1, rfl⟩) b9.1.2 b9.2 (hout _) (by rw [hR.1]; omega) (by rw [hR.2.1]; exact Nat.le_trans (Nat.le_refl 82) d3) (by rw [hR.2.2.1]; exact hcnt) (by rw [hR.2.2.2]; omega) hlocks hxc hM.2.2.2.2 hcnt (by omega)
  · rw [if_neg hw] at b9
    simp only [Bool.and_eq_true, decide_eq_true_eq] at b9
    exact gq_throw (o := 2) hx hb hfl hown (hts _ w3) (hts _ w4) hsa hat hgood th.1 th.2 hM.2.2 hz (of_decide_eq_true b7) (of_decide_eq_true b8) (Or.inl ⟨b9.1.1, rfl⟩) b9.1.2 b9.2 (hout _) (by rw [hR.1]; omega) (by rw [hR.2.1]; exact Nat.le_trans (Nat.le_refl 82) d3) (by rw [hR.2.2.1]; exact hcnt) (by rw [hR.2.2.2]; omega) hlocks hxc hM.2.2.2.2 hcnt (by omega)
/-- the end of a method -/
theorem g_end {z : Nat} {H : Heap} {locs : List Loc} {ls : Array Slot} {f : gF} {cnt : Nat} {r : gR} {res : gMu × gRes} {scr : gScr} (hfl : l.stackTraces = false) (X : gX k p l e R s m args meth c cA ad dC dI (gA ad s.heap.size) scr) (fx : gFx s) (th : gTh (gA ad s.heap.size) s s.heap)
    (htab : c.exceptionTable.toList = tableOf (mHh k)) (hret : meth.sig.returnType = mRt k) (hlocks : meth.locks = false) (hR : R.frames = (mFr k).1 ∧ R.locals = (mFr k).2 ∧ R.cells = mCo k ∧ R.slots = 6 * mCo k)
    (hr : gAt k f.1 = some r) (he : gEnd k r f cnt = some res) (hcnt : cnt ≤ mCo k) (hM : gM cA ad dC dI (gA ad s.heap.size) s f.2.2.2 H locs) (hG : s.heap.size + gGh f.2.2.2 ≤ H.size + z) (hl : gLh ls (mML k) ad f.2.1) :
    W p l e R s m args below meth c H locs cnt (6 * cnt) (vx_MQ below (gQc cA ad dC dI s.heap.size z res) (gXC cA ad dC dI s.heap.size z res) args s (mCo k) (6 * mCo k) (gA ad s.heap.size)) (F0 m f.1 ls (f.2.2.1.map (gTr ad))) := by
  have hX := X
  obtain ⟨hx, hb, hml, hown, hts, hK, hA, hscr⟩ := X
  obtain ⟨hd, hc⟩ := g_row hr
  obtain ⟨μ', x⟩ := res
  cases x with
  | inr y =>
    obtain ⟨h1, h2, h3, h4, h5, h6, i, q, hi, hq, q1, q2, q3, q4⟩ := gEnd_thr hr he
    obtain ⟨pc, L, st, μ⟩ := f
    dsimp only at h4 h6 q2 hM hG hl hd ⊢
    subst h4
    subst h6
    have hok0 := List.all_eq_true.mp gThr_ok q hq
    rw [Bool.or_eq_true] at hok0
    rcases hok0 with hN | hok
    · exact g_thrN hfl hX fx th htab hlocks hR hM hG hl h1 h5 hq q1 q2 q3 (of_decide_eq_true hN)
    unfold gThrOk at hok
    simp only [Bool.and_eq_true] at hok
    obtain ⟨⟨⟨⟨⟨⟨⟨⟨⟨b1, b2⟩, b3⟩, b4⟩, b5⟩, b6⟩, b7⟩, b8⟩, b9⟩, b10⟩ := hok
    obtain ⟨d1, d2, d3⟩ := of_decide_eq_true b10
    subst q1
    subst q2
    subst q3
    subst q4
    rw [d1] at hown
    have w3 : Cond.classLink "Glyphmill" q.2.2.2.1 (gEx q.2.2.1) ∈ gG := List.mem_filter.mpr ⟨of_decide_eq_true b3, rfl⟩
    have w4 : Cond.initialized (gEx q.2.2.1) ∈ gG := List.mem_filter.mpr ⟨of_decide_eq_true b4, rfl⟩
    have hat : ∀ w ∈ vx_atS "Glyphmill" q.2.2.2.2.2.1 (gEx q.2.2.1) gNm, w.before args s = true := by
      intro w hw
      have h7 := List.all_eq_true.mp b5 w hw
      simp only [Bool.or_eq_true, Bool.and_eq_true, decide_eq_true_eq] at h7
      rcases h7 with (h7 | h7) | ⟨h7, h8⟩
      · obtain ⟨x9, rfl⟩ := gDe_form w h7
        exact va_Nw.use rfl (fx.1 _ h7)
      · rw [h7]
        exact va_Nw.use rfl (fx.2.2.2.1 _ h2)
      · exact hts _ (List.mem_filter.mpr ⟨h8, h7⟩)
    have hgood : ∀ w ∈ Cond.classLink "Glyphmill" q.2.2.2.1 (gEx q.2.2.1) :: Cond.initialized (gEx q.2.2.1) :: vx_atS "Glyphmill" q.2.2.2.2.2.1 (gEx q.2.2.1) gNm, vx_ot w = true := fun w hw => List.all_eq_true.mp b6 w hw
    obtain ⟨sa, hsa⟩ := fx.2.2.2.2 q hq
    have hout : ∀ pc9, ∀ x ∈ c.exceptionTable.toList, covers x pc9 = false := by
      intro pc9 x9 hx9
      rw [htab, h5] at hx9
      cases hx9
    have hxc : ∀ t : State, s.vm.Alike t.vm → H.size + 1 ≤ t.heap.size → (∀ q : Nat, q < H.size → t.heap[q]? = H[q]?) → gXC cA ad dC dI s.heap.size z (μ', .inr q.2.2.1) (gEx q.2.2.1) s t := by
      intro t _ hz hk9
      refine ⟨⟨_, rfl, h2, rfl⟩, hM.1.kept (fun j z hj => hk9 z.1 (hM.1 j z hj).lt), ⟨by have := hM.2.2.1; omega, fun z hz9 hnA => ?_⟩, by dsimp only; omega⟩
      rw [hk9 z (Nat.lt_of_lt_of_le hz9 hM.2.2.1)]
      exact hM.2.2.2.1 z hz9 hnA
    have hz : ls.size = c.maxLocals := by rw [hml]; exact hl.1
    have hns : ∀ n ∈ gNm, Bundle.fit n = true := fun n hn => List.all_eq_true.mp b2 n hn
    by_cases hw : q.2.2.2.2.2.2.1 = true
    · rw [if_pos hw] at b9
      simp only [Bool.and_eq_true, decide_eq_true_eq] at b9
      exact vx_throwSW hx hb hfl hown b1 hns (hts _ w3) (hts _ w4) hsa hat hgood th.1 th.2 hM.2.2 hz (of_decide_eq_true b7) (of_decide_eq_true b8) b9.1.1 b9.1.2 b9.2 (hout _) (by rw [hR.1]; exact d2) (by rw [hR.2.1]; exact d3) (by rw [hR.2.2.1]; exact h1) (by rw [hR.2.2.2]; omega) hlocks hxc hM.2.2.2.2 h1 (by omega)
    · rw [if_neg hw] at b9
      simp only [Bool.and_eq_true, decide_eq_true_eq] at b9
      exact vx_throwS hx hb hfl hown b1 hns (hts _ w3) (hts _ w4) hsa hat hgood th.1 th.2 hM.2.2 hz (of_decide_eq_true b7) (of_decide_eq_true b8) b9.1.1 b9.1.2 b9.2 (hout _) (by rw [hR.1]; exact d2) (by rw [hR.2.1]; exact d3) (by rw [hR.2.2.1]; exact h1) (by rw [hR.2.2.2]; omega) hlocks hxc hM.2.2.2.2 h1 (by omega)
  | inl v =>
    have hQ : ∀ (w : Option Value), w = v.map (gTr ad) → f.2.2.2 = μ' → ∀ t : State, t.heap = H → s.WarmedH t.vm → gQc cA ad dC dI s.heap.size z (μ', .inl v) args s (.returned w) t := by
      intro w hw hμ t ht _
      subst hw
      subst hμ
      exact ⟨⟨v, rfl, rfl⟩, by rw [ht]; exact hM.1, hM.2.2.F ht, by rw [ht]; exact hG⟩
    obtain ⟨ins, len, ⟨a1, a2, a3⟩, cv⟩ := r
    obtain ⟨pc, L, st, μ⟩ := f
    dsimp only at hM hl hd hQ ⊢
    refine W.widen hcnt (Nat.mul_le_mul_left 6 hcnt) (vx_ret ?_)
    unfold gEnd at he
    cases ins
    case return_ =>
      dsimp only at he
      split at he
      · rename_i h1
        cases he
        exact W.vret hx hb (hret.trans h1) (hQ none rfl rfl) hM.2.2.2.2 hd hlocks
      · cases he
    case ireturn =>
      dsimp only at he
      split at he
      · rename_i x
        unfold gIf at he
        split at he
        · rename_i h1
          cases he
          cases hty : mRt k with
          | none => rw [hty] at h1; exact h1.elim
          | some ty =>
            rw [hty] at h1
            have hn : narrow ty (.int x) = .int x := by
              cases ty
              case int => rfl
              all_goals exact h1
            exact W.zret hx hb (hret.trans hty) hn (hQ (some (.int x)) rfl rfl) hM.2.2.2.2 hd hlocks
        · cases he
      · cases he
    case lreturn =>
      dsimp only at he
      split at he
      · rename_i x h1
        cases he
        exact W.lret hx hb (hret.trans h1) (hQ (some (.long x)) rfl rfl) hM.2.2.2.2 hd hlocks
      · cases he
    case freturn =>
      dsimp only at he
      split at he
      · rename_i x h1
        cases he
        exact W.fret hx hb (hret.trans h1) (hQ (some (.float x)) rfl rfl) hM.2.2.2.2 hd hlocks
      · cases he
    case dreturn =>
      dsimp only at he
      split at he
      · rename_i x h1
        cases he
        exact W.dret hx hb (hret.trans h1) (hQ (some (.double x)) rfl rfl) hM.2.2.2.2 hd hlocks
      · cases he
    case new i =>
      dsimp only at he
      split at he
      · split at he <;> cases he
      · cases he
    all_goals cases he
end GSOUND
set_option maxHeartbeats 4000000 in
theorem g_ct (l : Launch) (hfl : l.stackTraces = false) : ∀ (n k : Nat) (as : List Value) (μ : gMu) (res : gMu × gRes), k < 166 → (gEnt as (mML k)).length ≤ mML k → gRun n none k (0, gEnt as (mML k), [], μ) 0 = some res → gCt l k as μ res := by
  intro n
  induction n using Nat.strongRecOn with
  | ind n ih =>
    intro k as μ res hk hent hrun cA ad dC dI sz
    obtain ⟨-, -, -, -, f5, f6⟩ := gMf hk
    have hsl : (lg_sl (as.map (gTr ad))).length ≤ mML k := by
      rw [gEnt_sl]
      unfold gEnt at hent
      rw [List.length_append] at hent
      omega
    have body : ∀ p e s m args below meth c s₁, BodyLoose p l (mY k) (headSpec (mWs k) (mRm k)) (mBy k) (mML k) (mRt k) e s m args below meth c s₁ → c.maxLocals = mML k → c.exceptionTable.toList = tableOf (mHh k) → va_Pc (as.map (gTr ad)) (gPre cA ad dC dI sz μ) args s →
        W p l e (headSpec (mWs k) (mRm k)).room s m args below meth c s.heap [] 0 0 (vx_MQ below (gQc cA ad dC dI sz (gGh μ) res) (gXC cA ad dC dI sz (gGh μ) res) args s (mCo k) (6 * mCo k) (gA ad sz)) (entryFrame m args (mML k)) := by
      intro p e s m args below meth c s₁ B hml htab hv
      obtain ⟨rfl, hsz, hP, hK, hD0, fx, th⟩ := hv
      subst hsz
      have hts := atoms_spec (ws := mWs k) B.pre
      have hown : s.vm.findClass (mOw k) = some m.cls := findClass_of_methodNamed B.named
      have hA : ∀ q : Nat, s.heap.size ≤ q → gA ad s.heap.size q := fun q h => Or.inr h
      have X : gX k p l e (headSpec (mWs k) (mRm k)).room s m (as.map (gTr ad)).toArray meth c cA ad dC dI (gA ad s.heap.size) none := ⟨B.exec, B.bytes, hml, hown, fun w hw => hts w (List.mem_cons_of_mem _ hw), hK, hA, fun _ _ h => nomatch h⟩
      have hM : gM cA ad dC dI (gA ad s.heap.size) s μ s.heap [] := ⟨hP, gA_D hD0, va_S.rf⟩
      have hl := lv_entry (as.map (gTr ad)) (n := mML k) hsl
      rw [lg_entry_eq]
      generalize (lg_sl (as.map (gTr ad)) ++ List.replicate (mML k - (lg_sl (as.map (gTr ad))).length) Slot.unset).toArray = ls at hl ⊢
      have hl9 : gLh ls (mML k) ad (gEnt as (mML k)) := gEnt_lh hl
      refine g_frame (z := gGh μ) (c0 := 0) (s0 := 0) n ih X fx th (by omega) (Or.inr htab) ⟨rfl, rfl⟩ ⟨by rw [Nat.zero_add]; exact Nat.le_refl _, by rw [Nat.zero_add]; exact Nat.le_refl _⟩ (fun f cnt r H locs ls1 hr he hcnt hM1 hG1 hl1 => ?_) (fun μ' x pc cnt H locs ls1 rest q9 ce hres hx6 hh hcnt hM1 hG1 hce hcv hcl => ?_) n (Nat.le_refl n) (0, gEnt as (mML k), [], μ) 0 s.heap [] ls hrun (Nat.zero_le _) hM (Nat.le_refl _) (fun _ => rfl) hl9
      · rw [Nat.zero_add, Nat.zero_add]
        exact g_end hfl X fx th htab B.returns B.notSynchronized ⟨rfl, rfl, rfl, rfl⟩ hr he hcnt hM1 hG1 hl1
      · rw [Nat.zero_add, Nat.zero_add]
        subst hres
        exact vx_out (fun x9 hx9 => by rw [htab, hh] at hx9; cases hx9) B.notSynchronized hce hcv hcl (fun t ht _ => ⟨⟨x, rfl, hx6, rfl⟩, by rw [ht]; exact hM1.1, hM1.2.2.F ht, by rw [ht]; exact hG1⟩) hM1.2.2.2.2 hcnt (Nat.mul_le_mul_left 6 hcnt)
    cases hh : mHh k with
    | nil =>
      have hws : mWs k = Cond.code (mY k) (mBy k) (mML k) (mRt k) :: gG := by unfold mWs; rw [hh]
      exact vx_ofW f6 hws (fun p e s m args below meth c s₁ B hml ht hv => body p e s m args below meth c s₁ B hml (by
        rw [hh]
        exact List.eq_nil_iff_forall_not_mem.mpr (fun x hx => ht x hx)) hv)
    | cons h0 hs0 =>
      have hws : mWs k = Cond.codeWith (mY k) (mBy k) (mML k) (mRt k) (h0 :: hs0) :: gG := by unfold mWs; rw [hh]
      refine vx_ofWH f6 hws (fun p e s m args below meth c s₁ B hml hv => body p e s m args below meth c s₁ B hml ?_ hv)
      have h9 : (Cond.codeWith (mY k) (mBy k) (mML k) (mRt k) (h0 :: hs0)).before args s = true := atoms_spec (ws := mWs k) B.pre _ (by rw [hws]; exact List.mem_cons_self)
      have h8 := vx_table (x := mY k) (p := p) B h9
      rw [hh]
      exact h8
