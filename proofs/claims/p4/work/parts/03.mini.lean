/-! ===== THE MINI MACHINE: a world is a list of contents, a reference is a place in it; names that begin with md_ are the program's own tables (02.data) ===== -/
def mm_XB : Nat := 1000000
abbrev mm_F : Type := Nat × List (Nat × Value) × List Value × mm_W × Nat × Nat
abbrev mm_O : Type := (Option Value ⊕ Nat) × mm_W × Nat × Nat
abbrev mm_T : Type := mm_F ⊕ mm_O ⊕ (Nat × List Value × Nat × Bool × mm_F)
def mm_cmp : Jvm.ClassFile.Cond → Int32 → Int32 → Bool
  | .eq, x, y => decide (x = y)
  | .ne, x, y => !decide (x = y)
  | .lt, x, y => decide (x < y)
  | .ge, x, y => decide (y ≤ x)
  | .gt, x, y => decide (y < x)
  | .le, x, y => decide (x ≤ y)
def mm_ib (i : Int32) (n : Nat) : Bool := !(decide (i < 0) || decide (n ≤ i.toNatClampNeg))
def mm_get : List (Nat × Value) → Nat → Option Value
  | [], _ => none
  | q :: l, i => if q.1 = i then some q.2 else mm_get l i
def mm_sto (lo : List (Nat × Value)) (i : Nat) (v : Value) : List (Nat × Value) := (i, v) :: lo.filter (fun q => !(q.1 == i) && !(q.1 + 1 == i && q.2.category == 2))
def mm_stl (lo : List (Nat × Value)) (i : Nat) (v : Value) : List (Nat × Value) := (i, v) :: lo.filter (fun q => !(q.1 == i) && (!(q.1 == i + 1) && !(q.1 + 1 == i && q.2.category == 2)))
/-- an array's element: its kind's number and the value -/
def mm_aget (xa : mm_Xa) (W : mm_W) (k : Nat) (i : Int32) : Option (Nat × Value) :=
  if k < mm_XB then
    match W[k]? with
    | some (.inl (t, n, .inl f)) => if mm_ib i n then some (t, .int (f i.toNatClampNeg)) else none
    | some (.inl (t, n, .inr (.inl f))) => if mm_ib i n then some (t, .long (f i.toNatClampNeg)) else none
    | some (.inl (t, n, .inr (.inr (.inr (.inr f))))) => if mm_ib i n then some (t, va_rf (f i.toNatClampNeg)) else none
    | _ => none
  else
    match xa (k - mm_XB) with
    | some (t, n, f) => if mm_ib i n then some (t, f i.toNatClampNeg) else none
    | none => none
def mm_alen (xa : mm_Xa) (W : mm_W) (k : Nat) : Option Nat :=
  if k < mm_XB then
    match W[k]? with
    | some (.inl (_, n, _)) => some n
    | _ => none
  else
    match xa (k - mm_XB) with
    | some (_, n, _) => some n
    | none => none
def mm_nar (t : Nat) (x : Int32) : Int32 := if t = 2 then vp_nar .byte x else if t = 3 then vp_nar .boolean x else x
/-- an int is stored: t is 0, 2 or 3 -/
def mm_aputi (W : mm_W) (k : Nat) (i : Int32) (x : Int32) : Option (Nat × mm_W) :=
  match W[k]? with
  | some (.inl (t, n, .inl f)) => if mm_ib i n then some (t, W.set k (.inl (t, n, .inl (upd f i.toNatClampNeg (mm_nar t x))))) else none
  | _ => none
def mm_aputl (W : mm_W) (k : Nat) (i : Int32) (x : Int64) : Option (Nat × mm_W) :=
  match W[k]? with
  | some (.inl (t, n, .inr (.inl f))) => if mm_ib i n then some (t, W.set k (.inl (t, n, .inr (.inl (vp_updL f i.toNatClampNeg x))))) else none
  | _ => none
/-- the class of what a reference is: a world's object's by its number, an outer object's by 1000 and its number -/
def mm_cls (W : mm_W) (k : Nat) : Option Nat :=
  if k < mm_XB then
    match W[k]? with
    | some (.inr (ci, _)) => some ci
    | _ => none
  else (md_xc (k - mm_XB)).map (fun n => 1000 + n)
def mm_aputr (W : mm_W) (k : Nat) (i : Int32) (v : Nat) : Option mm_W :=
  match W[k]? with
  | some (.inl (t, n, .inr (.inr (.inr (.inr f))))) => if mm_ib i n && decide (4 ≤ t) && decide (mm_cls W v = some (md_ac t)) then some (W.set k (.inl (t, n, .inr (.inr (.inr (.inr (va_up f i.toNatClampNeg (some v)))))))) else none
  | _ => none
/-- a field takes this value: 0 int, 1 long, 2 boolean, 3 a reference -/
def mm_nf : Nat → Value → Bool
  | 0, .int _ => true
  | 1, .long _ => true
  | 2, .int x => decide (x = 0) || decide (x = 1)
  | 3, .ref _ => true
  | 3, .null => true
  | _, _ => false
def mm_put (W : mm_W) (k ci f t : Nat) (v : Value) : Option mm_W :=
  match W[k]? with
  | some (.inr (c, fs)) => if c = ci ∧ f < fs.length ∧ mm_nf t v = true then some (W.set k (.inr (c, fs.set f v))) else none
  | _ => none
def mm_getf (W : mm_W) (k ci f : Nat) : Option Value :=
  match W[k]? with
  | some (.inr (c, fs)) => if c = ci then fs[f]? else none
  | _ => none
def mm_cpy (W : mm_W) (s : Nat) (sp : Int32) (d : Nat) (dp n : Int32) : Option mm_W :=
  if sp < 0 ∨ dp < 0 ∨ n < 0 ∨ ¬ s < mm_XB ∨ ¬ d < mm_XB then none else
  match W[s]?, W[d]? with
  | some (.inl (0, n0, .inl f)), some (.inl (0, n1, .inl g)) =>
    if sp.toNatClampNeg + n.toNatClampNeg ≤ n0 ∧ dp.toNatClampNeg + n.toNatClampNeg ≤ n1 then some (W.set d (.inl (0, n1, .inl (va_cpy f g sp.toNatClampNeg dp.toNatClampNeg n.toNatClampNeg)))) else none
  | some (.inl (1, n0, .inr (.inl f))), some (.inl (1, n1, .inr (.inl g))) =>
    if sp.toNatClampNeg + n.toNatClampNeg ≤ n0 ∧ dp.toNatClampNeg + n.toNatClampNeg ≤ n1 then some (W.set d (.inl (1, n1, .inr (.inl (va_cpy f g sp.toNatClampNeg dp.toNatClampNeg n.toNatClampNeg))))) else none
  | _, _ => none
/-- where a switch goes -/
def mm_at (pc : Nat) (off : Int) : Option Nat := if 0 ≤ (pc : Int) + off then some ((pc : Int) + off).toNat else none
def mm_tsw (pc : Nat) (dflt lo hi : Int) (offs : Array Int) (x : Int32) : Option Nat :=
  if x.toInt < lo ∨ hi < x.toInt then mm_at pc dflt else
  match offs[(x.toInt - lo).toNat]? with
  | some off => mm_at pc off
  | none => none
def mm_call (r1 r2 r3 pc nx : Nat) (lo : List (Nat × Value)) (st : List Value) (W : mm_W) (b c : Nat) : Option mm_T :=
  if st.length < r2 % 16 then none else
  let As := (st.take (r2 % 16)).reverse
  let rest := st.drop (r2 % 16)
  match r2 / 16 with
  | 0 => match rest with
    | .ref k :: rest => if mm_cls W k = some r3 ∧ (rest.map fun v => v.category).sum ≤ 8 then some (.inr (.inr (r1, .ref k :: As, nx, true, (pc, lo, rest, W, b, c)))) else none
    | _ => none
  | 2 => match rest with
    | .ref k :: rest => if mm_cls W k = some r3 ∧ (rest.map fun v => v.category).sum ≤ 8 then some (.inr (.inr (r1, .ref k :: As, nx, false, (pc, lo, rest, W, b, c)))) else none
    | _ => none
  | 1 => if (rest.map fun v => v.category).sum ≤ 8 then some (.inr (.inr (r1, As, nx, true, (pc, lo, rest, W, b, c)))) else none
  | 5 => match st with
    | .ref _ :: st => if (st.map fun v => v.category).sum ≤ 8 then some (.inl (nx, lo, st, W, b, c)) else none
    | _ => none
  | 6 => match st with
    | .int n :: .int dp :: .ref d :: .int sp :: .ref s :: st => if (st.map fun v => v.category).sum ≤ 8 then (mm_cpy W s sp d dp n).map (fun W2 => .inl (nx, lo, st, W2, b, c)) else none
    | _ => none
  | _ => none
def mm_stepI (xa : mm_Xa) (j : Nat) (ins : Instr) (nx r1 r2 r3 pc : Nat) (lo : List (Nat × Value)) (st : List Value) (W : mm_W) (b c : Nat) : Option mm_T :=
  match ins with
  | .iconst n => some (.inl (nx, lo, .int (Int32.ofInt n) :: st, W, b, c))
  | .bipush n => some (.inl (nx, lo, .int (Int8.ofInt n).toInt32 :: st, W, b, c))
  | .sipush n => some (.inl (nx, lo, .int (Int16.ofInt n).toInt32 :: st, W, b, c))
  | .lconst n => some (.inl (nx, lo, .long (Int64.ofNat (n : Nat)) :: st, W, b, c))
  | .aconst_null => some (.inl (nx, lo, .null :: st, W, b, c))
  | .ldc _ => if r1 = 0 then some (.inl (nx, lo, .int (Int32.ofNat r2) :: st, W, b, c)) else some (.inl (nx, lo, .ref (mm_XB + r2) :: st, W, b, c))
  | .ldc_w _ => some (.inl (nx, lo, .int (Int32.ofNat r2) :: st, W, b, c))
  | .ldc2_w _ => some (.inl (nx, lo, .long (Int64.ofNat r1) :: st, W, b, c))
  | .iload i => match mm_get lo i with
    | some (.int x) => some (.inl (nx, lo, .int x :: st, W, b, c))
    | _ => none
  | .iload_n i => match mm_get lo i with
    | some (.int x) => some (.inl (nx, lo, .int x :: st, W, b, c))
    | _ => none
  | .lload i => match mm_get lo i with
    | some (.long x) => some (.inl (nx, lo, .long x :: st, W, b, c))
    | _ => none
  | .lload_n i => match mm_get lo i with
    | some (.long x) => some (.inl (nx, lo, .long x :: st, W, b, c))
    | _ => none
  | .aload i => match mm_get lo i with
    | some (.ref x) => some (.inl (nx, lo, .ref x :: st, W, b, c))
    | _ => none
  | .aload_n i => match mm_get lo i with
    | some (.ref x) => some (.inl (nx, lo, .ref x :: st, W, b, c))
    | _ => none
  | .istore i => match st with
    | .int x :: st => some (.inl (nx, mm_sto lo i (.int x), st, W, b, c))
    | _ => none
  | .istore_n i => match st with
    | .int x :: st => some (.inl (nx, mm_sto lo i (.int x), st, W, b, c))
    | _ => none
  | .lstore i => match st with
    | .long x :: st => some (.inl (nx, mm_stl lo i (.long x), st, W, b, c))
    | _ => none
  | .lstore_n i => match st with
    | .long x :: st => some (.inl (nx, mm_stl lo i (.long x), st, W, b, c))
    | _ => none
  | .astore i => match st with
    | .ref x :: st => some (.inl (nx, mm_sto lo i (.ref x), st, W, b, c))
    | .retAddr x :: st => some (.inl (nx, mm_sto lo i (.retAddr x), st, W, b, c))
    | _ => none
  | .astore_n i => match st with
    | .ref x :: st => some (.inl (nx, mm_sto lo i (.ref x), st, W, b, c))
    | .retAddr x :: st => some (.inl (nx, mm_sto lo i (.retAddr x), st, W, b, c))
    | _ => none
  | .iinc i n => match mm_get lo i with
    | some (.int x) => some (.inl (nx, mm_sto lo i (.int (x + Int32.ofInt n)), st, W, b, c))
    | _ => none
  | .dup => match st with
    | v :: st => if v.category = 1 then some (.inl (nx, lo, v :: v :: st, W, b, c)) else none
    | _ => none
  | .pop => match st with
    | v :: st => if v.category = 1 then some (.inl (nx, lo, st, W, b, c)) else none
    | _ => none
  | .dup2 => match st with
    | v :: w :: st => if v.category = 1 ∧ w.category = 1 then some (.inl (nx, lo, v :: w :: v :: w :: st, W, b, c)) else none
    | _ => none
  | .iadd => match st with
    | .int y :: .int x :: st => some (.inl (nx, lo, .int (x + y) :: st, W, b, c))
    | _ => none
  | .isub => match st with
    | .int y :: .int x :: st => some (.inl (nx, lo, .int (x - y) :: st, W, b, c))
    | _ => none
  | .imul => match st with
    | .int y :: .int x :: st => some (.inl (nx, lo, .int (x * y) :: st, W, b, c))
    | _ => none
  | .iand => match st with
    | .int y :: .int x :: st => some (.inl (nx, lo, .int (x &&& y) :: st, W, b, c))
    | _ => none
  | .ior => match st with
    | .int y :: .int x :: st => some (.inl (nx, lo, .int (x ||| y) :: st, W, b, c))
    | _ => none
  | .ixor => match st with
    | .int y :: .int x :: st => some (.inl (nx, lo, .int (x ^^^ y) :: st, W, b, c))
    | _ => none
  | .idiv => match st with
    | .int y :: .int x :: st => if y = 0 then none else some (.inl (nx, lo, .int (x / y) :: st, W, b, c))
    | _ => none
  | .irem => match st with
    | .int y :: .int x :: st => if y = 0 then none else some (.inl (nx, lo, .int (x - x / y * y) :: st, W, b, c))
    | _ => none
  | .ineg => match st with
    | .int x :: st => some (.inl (nx, lo, .int (-x) :: st, W, b, c))
    | _ => none
  | .ishl => match st with
    | .int y :: .int x :: st => some (.inl (nx, lo, .int (x <<< (y &&& 31)) :: st, W, b, c))
    | _ => none
  | .ishr => match st with
    | .int y :: .int x :: st => some (.inl (nx, lo, .int (x >>> (y &&& 31)) :: st, W, b, c))
    | _ => none
  | .iushr => match st with
    | .int y :: .int x :: st => some (.inl (nx, lo, .int (x.toUInt32 >>> (y.toUInt32 &&& Int32.toUInt32 31)).toInt32 :: st, W, b, c))
    | _ => none
  | .land => match st with
    | .long y :: .long x :: st => some (.inl (nx, lo, .long (x &&& y) :: st, W, b, c))
    | _ => none
  | .lor => match st with
    | .long y :: .long x :: st => some (.inl (nx, lo, .long (x ||| y) :: st, W, b, c))
    | _ => none
  | .lshl => match st with
    | .int y :: .long x :: st => some (.inl (nx, lo, .long (x <<< (y.toInt64 &&& 63)) :: st, W, b, c))
    | _ => none
  | .lshr => match st with
    | .int y :: .long x :: st => some (.inl (nx, lo, .long (x >>> (y.toInt64 &&& 63)) :: st, W, b, c))
    | _ => none
  | .lcmp => match st with
    | .long y :: .long x :: st => some (.inl (nx, lo, .int (lg_cmp x y) :: st, W, b, c))
    | _ => none
  | .i2l => match st with
    | .int x :: st => some (.inl (nx, lo, .long x.toInt64 :: st, W, b, c))
    | _ => none
  | .l2i => match st with
    | .long x :: st => some (.inl (nx, lo, .int x.toInt32 :: st, W, b, c))
    | _ => none
  | .i2b => match st with
    | .int x :: st => some (.inl (nx, lo, .int x.toInt8.toInt32 :: st, W, b, c))
    | _ => none
  | .i2c => match st with
    | .int x :: st => some (.inl (nx, lo, .int (x.toUInt32 % 65536).toInt32 :: st, W, b, c))
    | _ => none
  | .ifCond k _ => match st with
    | .int x :: st => some (.inl (if mm_cmp k x 0 then r1 else nx, lo, st, W, b, c))
    | _ => none
  | .if_icmp k _ => match st with
    | .int y :: .int x :: st => some (.inl (if mm_cmp k x y then r1 else nx, lo, st, W, b, c))
    | _ => none
  | .if_acmp k _ => match st with
    | .ref y :: .ref x :: st =>
      if mm_XB < x ∧ mm_XB < y ∧ x ≤ mm_XB + md_ne ∧ y ≤ mm_XB + md_ne then some (.inl (if decide (x = y) == decide (k = .eq) then r1 else nx, lo, st, W, b, c)) else none
    | _ => none
  | .goto _ => some (.inl (r1, lo, st, W, b, c))
  | .tableswitch dflt l h offs => match st with
    | .int x :: st => match mm_tsw pc dflt l h offs x with
      | some t => some (.inl (t, lo, st, W, b, c))
      | none => none
    | _ => none
  | .lookupswitch dflt ps => match st with
    | .int x :: st => match mm_at pc (Op.lookupswitch.offset ps.toList dflt x.toInt) with
      | some t => some (.inl (t, lo, st, W, b, c))
      | none => none
    | _ => none
  | .iaload => match st with
    | .int i :: .ref k :: st => match mm_aget xa W k i with
      | some (t, v) => if t = 0 then some (.inl (nx, lo, v :: st, W, b, c)) else none
      | none => none
    | _ => none
  | .baload => match st with
    | .int i :: .ref k :: st => match mm_aget xa W k i with
      | some (t, v) => if t = 2 ∨ t = 3 then some (.inl (nx, lo, v :: st, W, b, c)) else none
      | none => none
    | _ => none
  | .laload => match st with
    | .int i :: .ref k :: st => match mm_aget xa W k i with
      | some (t, v) => if t = 1 then some (.inl (nx, lo, v :: st, W, b, c)) else none
      | none => none
    | _ => none
  | .aaload => match st with
    | .int i :: .ref k :: st => match mm_aget xa W k i with
      | some (t, v) => if 4 ≤ t then some (.inl (nx, lo, v :: st, W, b, c)) else none
      | none => none
    | _ => none
  | .iastore => match st with
    | .int x :: .int i :: .ref k :: st => if k < mm_XB then match mm_aputi W k i x with
      | some (t, W2) => if t = 0 then some (.inl (nx, lo, st, W2, b, c)) else none
      | none => none
      else none
    | _ => none
  | .bastore => match st with
    | .int x :: .int i :: .ref k :: st => if k < mm_XB then match mm_aputi W k i x with
      | some (t, W2) => if t = 2 ∨ t = 3 then some (.inl (nx, lo, st, W2, b, c)) else none
      | none => none
      else none
    | _ => none
  | .lastore => match st with
    | .long x :: .int i :: .ref k :: st => if k < mm_XB then match mm_aputl W k i x with
      | some (t, W2) => if t = 1 then some (.inl (nx, lo, st, W2, b, c)) else none
      | none => none
      else none
    | _ => none
  | .aastore => match st with
    | .ref v :: .int i :: .ref k :: st => if k < mm_XB then (mm_aputr W k i v).map (fun W2 => .inl (nx, lo, st, W2, b, c)) else none
    | _ => none
  | .arraylength => match st with
    | .ref k :: st => (mm_alen xa W k).map (fun n => .inl (nx, lo, .int (Int32.ofNat n) :: st, W, b, c))
    | _ => none
  | .getfield _ => match st with
    | .ref k :: st =>
      if r3 = 0 then (if k < mm_XB then (mm_getf W k r1 r2).map (fun v => .inl (nx, lo, v :: st, W, b, c)) else none)
      else if k < mm_XB then none else (md_xo (k - mm_XB) r1).map (fun v => .inl (nx, lo, v :: st, W, b, c))
    | _ => none
  | .putfield _ => match st with
    | v :: .ref k :: st => if k < mm_XB then (mm_put W k r1 r2 r3 v).map (fun W2 => .inl (nx, lo, st, W2, b, c)) else none
    | _ => none
  | .getstatic _ => if r3 = 0 then some (.inl (nx, lo, md_st r1 :: st, W, b, c)) else some (.inl (nx, lo, .retAddr 0 :: st, W, b, c))
  | .new _ =>
    if r3 = 0 then
      (if 1 ≤ b ∧ (md_df r1).length ≤ c ∧ W.length < mm_XB then some (.inl (nx, lo, .ref W.length :: st, W ++ [.inr (r1, md_df r1)], b - 1, c - (md_df r1).length)) else none)
    else if 1 ≤ b ∧ 6 ≤ c ∧ (st.map fun v => v.category).sum ≤ 8 then some (.inr (.inl (.inr r1, W, b - 1, c - 6))) else none
  | .newarray _ => match st with
    | .int n :: st =>
      if ¬ n < 0 ∧ 1 ≤ b ∧ n.toNatClampNeg ≤ c ∧ W.length < mm_XB ∧ n.toNatClampNeg ≤ 1000000 then
        some (.inl (nx, lo, .ref W.length :: st, W ++ [.inl (r1, n.toNatClampNeg, if r1 = 1 then .inr (.inl (fun _ => 0)) else .inl (fun _ => 0))], b - 1, c - n.toNatClampNeg))
      else none
    | _ => none
  | .anewarray _ => match st with
    | .int n :: st =>
      if ¬ n < 0 ∧ 1 ≤ b ∧ n.toNatClampNeg ≤ c ∧ W.length < mm_XB ∧ n.toNatClampNeg ≤ 1000000 then
        some (.inl (nx, lo, .ref W.length :: st, W ++ [.inl (r1, n.toNatClampNeg, .inr (.inr (.inr (.inr (fun _ => none)))))], b - 1, c - n.toNatClampNeg))
      else none
    | _ => none
  | .invokevirtual _ => mm_call r1 r2 r3 pc nx lo st W b c
  | .invokestatic _ => mm_call r1 r2 r3 pc nx lo st W b c
  | .invokespecial _ => mm_call r1 r2 r3 pc nx lo st W b c
  | .ireturn => match st with
    | [.int v] => (match (md_mt j).2.2.2.1 with
      | some ty => if narrow ty (.int v) = .int v then some (.inr (.inl (.inl (some (.int v)), W, b, c))) else none
      | none => none)
    | _ => none
  | .lreturn => match st with
    | [.long v] => if (md_mt j).2.2.2.1 = some .long then some (.inr (.inl (.inl (some (.long v)), W, b, c))) else none
    | _ => none
  | .areturn => match st with
    | [.ref v] => (match (md_mt j).2.2.2.1 with
      | some (.object _) => some (.inr (.inl (.inl (some (.ref v)), W, b, c)))
      | some (.array _) => some (.inr (.inl (.inl (some (.ref v)), W, b, c)))
      | _ => none)
    | _ => none
  | .return_ => match st with
    | [] => if (md_mt j).2.2.2.1 = none then some (.inr (.inl (.inl none, W, b, c))) else none
    | _ => none
  | _ => none
noncomputable def mm_step (xa : mm_Xa) (j : Nat) (F : mm_F) : Option mm_T :=
  match md_cd j F.1 with
  | none => none
  | some e => mm_stepI xa j e.1 e.2.1 e.2.2.1 e.2.2.2.1 e.2.2.2.2 F.1 F.2.1 F.2.2.1 F.2.2.2.1 F.2.2.2.2.1 F.2.2.2.2.2
/-- runs of at most f steps, calls of depth d -/
noncomputable def mm_ex (xa : mm_Xa) : Nat → Nat → Nat → mm_F → Option mm_O
  | 0, _, _, _ => none
  | f + 1, d, j, F =>
    match mm_step xa j F with
    | none => none
    | some (.inl F') => mm_ex xa f d j F'
    | some (.inr (.inl o)) => some o
    | some (.inr (.inr (j', as, nx, fl, G))) =>
      match d with
      | 0 => none
      | d' + 1 =>
        if (md_mt j').2.2.1 < (as.map fun v => v.category).sum then none else
        match mm_ex xa f d' j' (0, lv_args 0 as, [], G.2.2.2.1, G.2.2.2.2.1, G.2.2.2.2.2) with
        | none => none
        | some (.inl v, W2, b2, c2) => mm_ex xa f (d' + 1) j (nx, G.2.1, v.toList ++ G.2.2.1, W2, b2, c2)
        | some (.inr E, W2, b2, c2) =>
          if fl = false then none else
          if (md_mt j).2.2.2.2 = [] then some (.inr E, W2, b2, c2) else
          match md_hd j G.1 E with
          | none => none
          | some h => mm_ex xa f (d' + 1) j (h, G.2.1, [.retAddr 0], W2, b2, c2)
