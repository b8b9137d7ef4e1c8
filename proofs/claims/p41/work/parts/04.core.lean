/-! THE SMALL MACHINE: what the methods do, said over a memory of fixed shape. gI a j: the int in place j of cell a (a field or an element); gJ, gD: longs and doubles. A run has fuel; it fails (none) where it would leave its bounds. Part 05 shows that the machine does the same. -/
abbrev gMu : Type := (Nat → Nat → Int32) × (Nat → Nat → Int64) × (Nat → Nat → UInt64)
abbrev gL : Type := List (Option Value)
abbrev gF : Type := Nat × gL × List Value × gMu
abbrev gRes : Type := Option Value ⊕ Nat
abbrev gScr : Type := Option (Nat × (Nat → Int32))
abbrev gO : Type := Option (gF × List Prop)
def gsI (μ : gMu) (a j : Nat) (v : Int32) : gMu := (va_up μ.1 a (upd (μ.1 a) j v), μ.2.1, μ.2.2)
def gsJ (μ : gMu) (a j : Nat) (v : Int64) : gMu := (μ.1, va_up μ.2.1 a (vp_updL (μ.2.1 a) j v), μ.2.2)
def gsD (μ : gMu) (a j : Nat) (v : UInt64) : gMu := (μ.1, μ.2.1, va_up μ.2.2 a (vf_upd (μ.2.2 a) j v))
/-- the script's own number among the references; 1002: the text of signs -/
def gSC : Nat := 1000
/-- how many exceptions the law's methods have caught: a number kept beside the memory -/
def gGh (μ : gMu) : Nat := (μ.2.2 1001 0).toNat
def gBm (μ : gMu) : gMu := gsD μ 1001 0 (μ.2.2 1001 0 + 1)
/-- the law's text of signs -/
def gSg : List Int32 := [97, 97, 98, 98, 99, 110, 65, 32, 65, 66, 32, 49, 32, 50, 45, 44, 46, 91, 123, 125, 125, 32, 45, 32]
def gAll : List Prop → Prop
  | [] => True
  | [p] => p
  | p :: q :: r => p ∧ gAll (q :: r)
def gLk : List (Nat × gR) → Nat → Option gR
  | [], _ => none
  | (q, r) :: t, pc => if q = pc then some r else gLk t pc
def gAt (k pc : Nat) : Option gR := match gCode[k]? with
  | some t => gLk t pc
  | none => none
def mY (k : Nat) : MethodName := gYs.getD k ⟨"", "", ""⟩
def mBy (k : Nat) : ByteArray := gBys.getD k ⟨#[]⟩
def mML (k : Nat) : Nat := gMLs.getD k 0
def mRt (k : Nat) : Option FieldType := gRts.getD k none
def mHh (k : Nat) : List (Nat × Nat × Nat × Nat) := gHhs.getD k []
def mHe (k : Nat) : List (Nat × Nat) := gHes.getD k []
def mFr (k : Nat) : Nat × Nat := gFrs.getD k (0, 0)
def mCo (k : Nat) : Nat := gCos.getD k 0
def mNp (k : Nat) : Nat := gNps.getD k 0
def mPos (k : Nat) : Nat × Nat × Nat × Nat := gPos.getD k (0, 0, 0, 0)
def mSta (k : Nat) : Bool := gSta.getD k false
def mCi (k : Nat) : Nat := gCis.getD k 99
def gEx (k : Nat) : String := gExs.getD k ""
/-- a local that held the first half of a long just ahead of i is lost -/
def gKill (l : gL) (i : Nat) : gL := match i with
  | 0 => l
  | j + 1 => match l[j]? with
    | some (some v) => if v.category = 2 then l.set j none else l
    | _ => l
def gSt1 (l : gL) (i : Nat) (v : Value) : gL := (gKill l i).set i (some v)
def gSt2 (l : gL) (i : Nat) (v : Value) : gL := ((gKill l i).set i (some v)).set (i + 1) none
def gCond (c : Jvm.ClassFile.Cond) (x y : Int32) : Bool := match c with
  | .eq => decide (x = y)
  | .ne => decide (¬ x = y)
  | .lt => decide (x < y)
  | .ge => decide (y ≤ x)
  | .gt => decide (y < x)
  | .le => decide (x ≤ y)
/-- a field's value, with the references by the cells' numbers -/
def gFa (μ : gMu) (a j : Nat) (kd : Nat × Nat) : Value := match kd.1 with
  | 0 => .int (μ.1 a j)
  | 1 => .long (μ.2.1 a j)
  | _ => .ref kd.2
def gII (f : gF) (h : Int32 → Int32 → Value × List Prop) : gO := match f with
  | (pc, l, .int y :: .int x :: r, μ) => some ((pc + 1, l, (h x y).1 :: r, μ), (h x y).2)
  | _ => none
def gJJ (f : gF) (h : Int64 → Int64 → Value × List Prop) : gO := match f with
  | (pc, l, .long y :: .long x :: r, μ) => some ((pc + 1, l, (h x y).1 :: r, μ), (h x y).2)
  | _ => none
def gI1 (f : gF) (h : Int32 → Value) : gO := match f with
  | (pc, l, .int x :: r, μ) => some ((pc + 1, l, h x :: r, μ), [])
  | _ => none
def gJ1 (f : gF) (h : Int64 → Value) : gO := match f with
  | (pc, l, .long x :: r, μ) => some ((pc + 1, l, h x :: r, μ), [])
  | _ => none
def gPush (f : gF) (len : Nat) (v : Value) : gO := some ((f.1 + len, f.2.1, v :: f.2.2.1, f.2.2.2), [])
def gLdI (f : gF) (len i : Nat) : gO := match f.2.1[i]? with
  | some (some (.int x)) => gPush f len (.int x)
  | _ => none
def gLdJ (f : gF) (len i : Nat) : gO := match f.2.1[i]? with
  | some (some (.long x)) => gPush f len (.long x)
  | _ => none
def gLdF (f : gF) (len i : Nat) : gO := match f.2.1[i]? with
  | some (some (.float x)) => gPush f len (.float x)
  | _ => none
def gLdD (f : gF) (len i : Nat) : gO := match f.2.1[i]? with
  | some (some (.double x)) => gPush f len (.double x)
  | _ => none
def gLdA (f : gF) (len i : Nat) : gO := match f.2.1[i]? with
  | some (some (.ref x)) => gPush f len (.ref x)
  | _ => none
def gSto (f : gF) (len i : Nat) : gO := match f with
  | (pc, l, .int x :: r, μ) => some ((pc + len, gSt1 l i (.int x), r, μ), [])
  | (pc, l, .float x :: r, μ) => some ((pc + len, gSt1 l i (.float x), r, μ), [])
  | (pc, l, .ref x :: r, μ) => some ((pc + len, gSt1 l i (.ref x), r, μ), [])
  | (pc, l, .long x :: r, μ) => some ((pc + len, gSt2 l i (.long x), r, μ), [])
  | (pc, l, .double x :: r, μ) => some ((pc + len, gSt2 l i (.double x), r, μ), [])
  | _ => none
/-- the array that a reference names: its kind, its length -/
def gArr (q : Nat) : Option (Nat × Nat) := match gSh[q]? with
  | some (.inr x) => some x
  | _ => none
def gObj (q : Nat) : Option (Nat × List (Nat × Nat)) := match gSh[q]? with
  | some (.inl x) => some x
  | _ => none
def gALd (scr : gScr) (t : Nat) (f : gF) : gO := match f with
  | (pc, l, .int i :: .ref q :: r, μ) =>
    if q = gSC then (match scr, t with
      | some (L, xs), 0 => some ((pc + 1, l, .int (xs i.toNatClampNeg) :: r, μ), [vp_in i L])
      | _, _ => none)
    else match gArr q with
      | some (t', n) => if t' = t then some ((pc + 1, l, (if t = 4 then .double (μ.2.2 q i.toNatClampNeg) else if t = 3 then .long (μ.2.1 q i.toNatClampNeg) else .int (μ.1 q i.toNatClampNeg)) :: r, μ), [vp_in i n]) else none
      | none => none
  | _ => none
def gALen (scr : gScr) (f : gF) : gO := match f with
  | (pc, l, .ref q :: r, μ) =>
    if q = gSC then (match scr with
      | some (L, _) => some ((pc + 1, l, .int (Int32.ofNat L) :: r, μ), [])
      | none => none)
    else match gArr q with
      | some (_, n) => some ((pc + 1, l, .int (Int32.ofNat n) :: r, μ), [])
      | none => none
  | _ => none
def gIst (t : Nat) (g : Int32 → Int32) (f : gF) : gO := match f with
  | (pc, l, .int x :: .int i :: .ref q :: r, μ) =>
    if q = gSC then none else match gArr q with
      | some (t', n) => if t' = t then some ((pc + 1, l, r, gsI μ q i.toNatClampNeg (g x)), [vp_in i n]) else none
      | none => none
  | _ => none
def gJst (f : gF) : gO := match f with
  | (pc, l, .long x :: .int i :: .ref q :: r, μ) =>
    if q = gSC then none else match gArr q with
      | some (t', n) => if t' = 3 then some ((pc + 1, l, r, gsJ μ q i.toNatClampNeg x), [vp_in i n]) else none
      | none => none
  | _ => none
def gDst (f : gF) : gO := match f with
  | (pc, l, .double x :: .int i :: .ref q :: r, μ) =>
    if q = gSC then none else match gArr q with
      | some (t', n) => if t' = 4 then some ((pc + 1, l, r, gsD μ q i.toNatClampNeg x), [vp_in i n]) else none
      | none => none
  | _ => none
def gGet (ci k : Nat) (f : gF) : gO := match f with
  | (pc, l, .ref q :: r, μ) => if q = gSC then none else match gObj q with
    | some (ci', ks) => if ci' = ci then (match ks[k]? with
      | some kd => some ((pc + 3, l, gFa μ q k kd :: r, μ), [])
      | none => none) else none
    | none => none
  | _ => none
def gPut (ci k : Nat) (f : gF) : gO := match f with
  | (pc, l, .int x :: .ref q :: r, μ) => if q = gSC then none else match gObj q with
    | some (ci', ks) => if ci' = ci then (match ks[k]? with
      | some (0, 0) => some ((pc + 3, l, r, gsI μ q k x), [])
      | some (0, 1) => some ((pc + 3, l, r, gsI μ q k x), [x = 0 ∨ x = 1])
      | _ => none) else none
    | none => none
  | (pc, l, .long x :: .ref q :: r, μ) => if q = gSC then none else match gObj q with
    | some (ci', ks) => if ci' = ci then (match ks[k]? with
      | some (1, 0) => some ((pc + 3, l, r, gsJ μ q k x), [])
      | _ => none) else none
    | none => none
  | _ => none
def gMath (cv : Value) (f : gF) : gO := match cv, f with
  | .int 2, (pc, l, .int y :: .int x :: r, μ) => some ((pc + 3, l, .int (if x < y then y else x) :: r, μ), [(r.map fun v => v.category).sum ≤ 8])
  | .int 3, (pc, l, .int y :: .int x :: r, μ) => some ((pc + 3, l, .int (if y < x then y else x) :: r, μ), [(r.map fun v => v.category).sum ≤ 8])
  | .int 4, (pc, l, .int x :: r, μ) => some ((pc + 3, l, .int (if 0 ≤ x then x else 0 - x) :: r, μ), [(r.map fun v => v.category).sum ≤ 8])
  | .int 5, (pc, l, .long y :: .long x :: r, μ) => some ((pc + 3, l, .long (if y < x then y else x) :: r, μ), [(r.map fun v => v.category).sum ≤ 8])
  | _, _ => none
/-- the script's int at an index, 0 outside -/
def gAtS (scr : gScr) (f : gF) : gO := match scr, f with
  | some (L, xs), (pc, l, .int i :: .ref q :: r, μ) => if q = gSC then some ((pc + 3, l, .int (if i < Int32.ofNat L then xs i.toNatClampNeg else 0) :: r, μ), [(r.map fun v => v.category).sum ≤ 8, 0 ≤ i]) else none
  | _, _ => none
/-- length and charAt of the text of signs -/
def gStM (scr : gScr) (n : Nat) (cv : Value) (f : gF) : gO := match scr, n, cv, f with
  | some _, 0, .int 6, (pc, l, .ref q :: r, μ) => if q = 1002 then some ((pc + 3, l, .int 24 :: r, μ), [(r.map fun v => v.category).sum ≤ 8]) else none
  | some _, 1, .int 7, (pc, l, .int i :: .ref q :: r, μ) => if q = 1002 then some ((pc + 3, l, .int (gSg.getD i.toNatClampNeg 0) :: r, μ), [(r.map fun v => v.category).sum ≤ 8, vp_in i 24]) else none
  | _, _, _, _ => none
/-- one instruction that neither calls (but Math, texts and the script) nor ends -/
def gStp (scr : gScr) (r : gR) (f : gF) : gO := match r.1 with
  | .iconst _ => gPush f 1 r.2.2.2
  | .bipush _ => gPush f 2 r.2.2.2
  | .sipush _ => gPush f 3 r.2.2.2
  | .lconst _ => gPush f 1 r.2.2.2
  | .fconst _ => gPush f 1 r.2.2.2
  | .dconst _ => gPush f 1 r.2.2.2
  | .ldc _ => (match r.2.2.2 with | .int v => gPush f 2 (.int v) | .ref q => (match scr with | some _ => if q = 1002 then gPush f 2 (.ref q) else none | none => none) | _ => none)
  | .ldc_w _ => (match r.2.2.2 with | .int v => gPush f 3 (.int v) | _ => none)
  | .ldc2_w _ => (match r.2.2.2 with | .long v => gPush f 3 (.long v) | _ => none)
  | .iload_n _ => gLdI f 1 r.2.2.1.1
  | .iload _ => gLdI f 2 r.2.2.1.1
  | .lload_n _ => gLdJ f 1 r.2.2.1.1
  | .lload _ => gLdJ f 2 r.2.2.1.1
  | .fload _ => gLdF f 2 r.2.2.1.1
  | .dload _ => gLdD f 2 r.2.2.1.1
  | .aload_n _ => gLdA f 1 r.2.2.1.1
  | .aload _ => gLdA f 2 r.2.2.1.1
  | .istore_n _ => (match f.2.2.1 with | .int _ :: _ => gSto f 1 r.2.2.1.1 | _ => none)
  | .istore _ => (match f.2.2.1 with | .int _ :: _ => gSto f 2 r.2.2.1.1 | _ => none)
  | .lstore_n _ => (match f.2.2.1 with | .long _ :: _ => gSto f 1 r.2.2.1.1 | _ => none)
  | .lstore _ => (match f.2.2.1 with | .long _ :: _ => gSto f 2 r.2.2.1.1 | _ => none)
  | .fstore _ => (match f.2.2.1 with | .float _ :: _ => gSto f 2 r.2.2.1.1 | _ => none)
  | .dstore _ => (match f.2.2.1 with | .double _ :: _ => gSto f 2 r.2.2.1.1 | _ => none)
  | .astore_n _ => (match f.2.2.1 with | .ref _ :: _ => gSto f 1 r.2.2.1.1 | _ => none)
  | .astore _ => (match f.2.2.1 with | .ref _ :: _ => gSto f 2 r.2.2.1.1 | _ => none)
  | .iinc _ _ => (match f.2.1[r.2.2.1.1]?, r.2.2.2 with
    | some (some (.int x)), .int c => some ((f.1 + 3, gSt1 f.2.1 r.2.2.1.1 (.int (x + c)), f.2.2.1, f.2.2.2), [])
    | _, _ => none)
  | .dup => (match f with | (pc, l, v :: st, μ) => some ((pc + 1, l, v :: v :: st, μ), [v.category = 1]) | _ => none)
  | .pop => (match f with | (pc, l, v :: st, μ) => some ((pc + 1, l, st, μ), [v.category = 1]) | _ => none)
  | .dup2 => (match f with | (pc, l, v :: w :: st, μ) => some ((pc + 1, l, v :: w :: v :: w :: st, μ), [v.category = 1, w.category = 1]) | _ => none)
  | .iadd => gII f fun x y => (.int (x + y), [])
  | .isub => gII f fun x y => (.int (x - y), [])
  | .imul => gII f fun x y => (.int (x * y), [])
  | .iand => gII f fun x y => (.int (x &&& y), [])
  | .idiv => gII f fun x y => (.int (x / y), [¬ y = 0])
  | .irem => gII f fun x y => (.int (x - x / y * y), [¬ y = 0])
  | .ishl => gII f fun x y => (.int (x <<< (y &&& 31)), [])
  | .ishr => gII f fun x y => (.int (x >>> (y &&& 31)), [])
  | .iushr => gII f fun x y => (.int ((x.toUInt32 >>> (y.toUInt32 &&& Int32.toUInt32 31)).toInt32), [])
  | .ineg => gI1 f fun x => .int (-x)
  | .ladd => gJJ f fun x y => (.long (x + y), [])
  | .lmul => gJJ f fun x y => (.long (x * y), [])
  | .ldiv => gJJ f fun x y => (.long (x / y), [¬ y = 0])
  | .lcmp => gJJ f fun x y => (.int (lg_cmp x y), [])
  | .i2l => gI1 f fun x => .long x.toInt64
  | .l2i => gJ1 f fun x => .int x.toInt32
  | .i2c => gI1 f fun x => .int (x.toUInt32 % 65536).toInt32
  | .i2f => gI1 f fun x => .float (FP.i2f x)
  | .i2d => gI1 f fun x => .double (FP.i2d x)
  | .l2d => gJ1 f fun x => .double (FP.l2d x)
  | .fdiv => (match f with | (pc, l, .float y :: .float x :: st, μ) => some ((pc + 1, l, .float (FP.fdiv x y) :: st, μ), [vf_n32 (FP.fdiv x y)]) | _ => none)
  | .ddiv => (match f with | (pc, l, .double y :: .double x :: st, μ) => some ((pc + 1, l, .double (FP.ddiv x y) :: st, μ), [vf_n64 (FP.ddiv x y)]) | _ => none)
  | .f2d => (match f with | (pc, l, .float x :: st, μ) => some ((pc + 1, l, .double (FP.f2d x) :: st, μ), [vf_n64 (FP.f2d x)]) | _ => none)
  | .fcmp op => (match f with | (pc, l, .float y :: .float x :: st, μ) => some ((pc + 1, l, .int (Op.cmpValue (FP.fcmp x y) op) :: st, μ), []) | _ => none)
  | .dcmp op => (match f with | (pc, l, .double y :: .double x :: st, μ) => some ((pc + 1, l, .int (Op.cmpValue (FP.dcmp x y) op) :: st, μ), []) | _ => none)
  | .goto _ => some ((r.2.2.1.1, f.2), [])
  | .ifCond c _ => (match f with | (pc, l, .int x :: st, μ) => some ((if gCond c x 0 = true then r.2.2.1.1 else pc + 3, l, st, μ), []) | _ => none)
  | .if_icmp c _ => (match f with | (pc, l, .int y :: .int x :: st, μ) => some ((if gCond c x y = true then r.2.2.1.1 else pc + 3, l, st, μ), []) | _ => none)
  | .iaload => gALd scr 0 f
  | .caload => gALd none 1 f
  | .baload => gALd none 2 f
  | .laload => gALd none 3 f
  | .iastore => gIst 0 (fun x => x) f
  | .castore => gIst 1 (vp_nar .char) f
  | .bastore => gIst 2 (vp_nar .boolean) f
  | .lastore => gJst f
  | .arraylength => gALen scr f
  | .invokestatic _ => (match r.2.2.2 with | .int 8 => gAtS scr f | cv => gMath cv f)
  | .invokevirtual _ => gStM scr r.2.2.1.2.1 r.2.2.2 f
  | .getfield _ => gGet r.2.2.1.1 r.2.2.1.2.1 f
  | .putfield _ => gPut r.2.2.1.1 r.2.2.1.2.1 f
  | .tableswitch d lo hi offs => (match f with
    | (pc, l, .int x :: st, μ) => (match (if x.toInt < lo ∨ hi < x.toInt then some d else offs[(x.toInt - lo).toNat]?) with
      | some o => some ((((pc : Int) + o).toNat, l, st, μ), [0 ≤ (pc : Int) + o])
      | none => none)
    | _ => none)
  | _ => none
/-- an instruction that writes nothing into a cell -/
def gNst : Instr → Bool
  | .iastore => false
  | .castore => false
  | .bastore => false
  | .lastore => false
  | .putfield _ => false
  | _ => true
/-- a method's locals at its entry -/
def gEnt (as : List Value) (n : Nat) : gL := (as.flatMap fun v => if v.category = 2 then [some v, none] else [some v]) ++ List.replicate (n - (as.flatMap fun v => if v.category = 2 then [some v, none] else [some v]).length) none
def gRok (t : Option FieldType) (x : Int32) : Prop := match t with
  | some .int => True
  | some ty => narrow ty (.int x) = .int x
  | none => False
noncomputable def gIf {α : Type} (c : Prop) (a b : α) : α := @ite α c (Classical.propDecidable c) a b
/-- the instructions that end a method -/
noncomputable def gEnd (k : Nat) (r : gR) (f : gF) (cnt : Nat) : Option (gMu × gRes) := match r.1 with
  | .return_ => (match mRt k, f.2.2.1 with | none, [] => some (f.2.2.2, .inl none) | _, _ => none)
  | .ireturn => (match f.2.2.1 with | [.int x] => gIf (gRok (mRt k) x) (some (f.2.2.2, .inl (some (.int x)))) none | _ => none)
  | .lreturn => (match mRt k, f.2.2.1 with | some .long, [.long x] => some (f.2.2.2, .inl (some (.long x))) | _, _ => none)
  | .freturn => (match mRt k, f.2.2.1 with | some .float, [.float x] => some (f.2.2.2, .inl (some (.float x))) | _, _ => none)
  | .dreturn => (match mRt k, f.2.2.1 with | some .double, [.double x] => some (f.2.2.2, .inl (some (.double x))) | _, _ => none)
  | .new _ => (match f.2.2.1, mHh k with | [], [] => if cnt + 1 ≤ mCo k ∧ k < 166 then some (f.2.2.2, .inr r.2.2.1.1) else none | _, _ => none)
  | _ => none
/-- where a thrown e goes on in the method k: the number of the table's row -/
def gHnd (k pc e : Nat) : Option Nat := (List.range (mHh k).length).find? fun i => (match (mHh k)[i]?, (mHe k)[i]? with
  | some h, some x => decide (h.1 ≤ pc ∧ pc < h.2.1) && decide (x.1 = e)
  | _, _ => false)
/-- a run of a frame of the method k -/
noncomputable def gRun : Nat → gScr → Nat → gF → Nat → Option (gMu × gRes)
  | 0, _, _, _, _ => none
  | n + 1, scr, k, f, cnt => match gAt k f.1 with
    | none => none
    | some r =>
      let inv : Nat → Option (gMu × gRes) := fun na =>
        let k' := r.2.2.1.1
        let as := (f.2.2.1.take na).reverse
        let rest := f.2.2.1.drop na
        if as.length = na ∧ cnt + mCo k' ≤ mCo k ∧ (rest.map fun v => v.category).sum ≤ 8 ∧ k' < k ∧ (gEnt as (mML k')).length ≤ mML k' then
          (match gRun n none k' (0, gEnt as (mML k'), [], f.2.2.2) 0 with
            | some (μ', .inl v) => gRun n scr k (f.1 + 3, f.2.1, v.toList ++ rest, μ') (cnt + mCo k')
            | some (μ', .inr e) => (match mHh k with
              | [] => some (μ', .inr e)
              | _ => (match gHnd k f.1 e with
                | some i => (match (mHh k)[i]? with
                  | some h => (match gAt k h.2.2.1 with
                    | some (.astore_n _, _, (j, _), _) => gRun n scr k (h.2.2.1 + 1, (gKill f.2.1 j).set j none, [], gBm μ') (cnt + mCo k')
                    | some (.astore _, _, (j, _), _) => gRun n scr k (h.2.2.1 + 2, (gKill f.2.1 j).set j none, [], gBm μ') (cnt + mCo k')
                    | _ => none)
                  | none => none)
                | none => none))
            | none => none)
        else none
      match r.1 with
      | .invokevirtual _ => (match (f.2.2.1.drop r.2.2.1.2.1).head? with
        | some (.ref q) => if gObj q = none ∨ q = gSC ∨ (gObj q).map (fun x => x.1) ≠ some (mCi r.2.2.1.1) ∨ r.2.2.2 ≠ .int 0 then (match gStp scr r f with
            | some (f', cs) => gIf (gAll cs) (gRun n scr k f' cnt) none
            | none => none) else inv (r.2.2.1.2.1 + 1)
        | _ => none)
      | .invokestatic _ => (match r.2.2.2 with
        | .int 0 => inv r.2.2.1.2.1
        | .int 1 => inv r.2.2.1.2.1
        | _ => match gStp scr r f with
          | some (f', cs) => gIf (gAll cs) (gRun n scr k f' cnt) none
          | none => none)
      | .return_ => gEnd k r f cnt
      | .ireturn => gEnd k r f cnt
      | .lreturn => gEnd k r f cnt
      | .freturn => gEnd k r f cnt
      | .dreturn => gEnd k r f cnt
      | .new _ => gEnd k r f cnt
      | _ => match gStp scr r f with
        | some (f', cs) => gIf (gAll cs) (gRun n scr k f' cnt) none
        | none => none
