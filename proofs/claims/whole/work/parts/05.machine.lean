/-! a small machine over logical cells: what the real one does, as a function; its soundness stands in part 04 -/
abbrev xE : Type := (Nat × vp_A) ⊕ (Nat × List Value)
abbrev xL : Type := List xE
abbrev xW : Type := xL × Nat × Nat
abbrev xR : Type := Option Value ⊕ String
abbrev xC : Type := Nat × List (Option Value) × List Value × xW
def xget (L : xL) (a ci k : Nat) : Option Value := match L[a]? with
  | some (.inr (c, fs)) => if c = ci then fs[k]? else none
  | _ => none
def xput (L : xL) (a ci k : Nat) (v : Value) : Option xL := match L[a]? with
  | some (.inr (c, fs)) => if c = ci ∧ k < fs.length then some (L.set a (.inr (c, fs.set k v))) else none
  | _ => none
def xis (L : xL) (a ci : Nat) : Bool := match L[a]? with
  | some (.inr (c, _)) => c == ci
  | _ => false
def xai (L : xL) (a t : Nat) : Option (Nat × (Nat → Int32)) := match L[a]? with
  | some (.inl (t', n, .inl f)) => if t' = t then some (n, f) else none
  | _ => none
def xal (L : xL) (a t : Nat) : Option (Nat × (Nat → Int64)) := match L[a]? with
  | some (.inl (t', n, .inr (.inl f))) => if t' = t then some (n, f) else none
  | _ => none
def xaq (L : xL) (a t : Nat) : Option (Nat × (Nat → Option Nat)) := match L[a]? with
  | some (.inl (t', n, .inr (.inr (.inr (.inr f))))) => if t' = t then some (n, f) else none
  | _ => none
def xlen (L : xL) (a : Nat) : Option Nat := match L[a]? with
  | some (.inl (t', n, _)) => if t' < 4 then some n else none
  | _ => none
def xlget (lv : List (Option Value)) (i : Nat) : Option Value := match lv[i]? with
  | some (some v) => some v
  | _ => none
def xclr (lv : List (Option Value)) (i : Nat) : List (Option Value) := match i with
  | 0 => lv
  | i + 1 => match lv[i]? with
    | some (some v) => if v.category = 2 then lv.set i none else lv
    | _ => lv
def xlset1 (lv : List (Option Value)) (i : Nat) (v : Value) : List (Option Value) := (xclr lv i).set i (some v)
def xlset2 (lv : List (Option Value)) (i : Nat) (v : Value) : List (Option Value) := ((xclr lv i).set i (some v)).set (i + 1) none
def xldel (lv : List (Option Value)) (i : Nat) : List (Option Value) := (xclr lv i).set i none
def xcats (st : List Value) : Nat := (st.map fun v => v.category).sum
def xfit (ty : FieldType) (v : Value) : Bool := match ty, v with
  | .int, .int _ => true
  | .long, .long _ => true
  | .boolean, .int x => x == 0 || x == 1
  | .object _, .ref _ => true
  | .array _, .ref _ => true
  | _, _ => false
def xjmp (pc : Nat) (off : Int) : Option Nat := match (pc : Int) + off with
  | .ofNat t => some t
  | _ => none
def xcnd (c : ClassFile.Cond) (x y : Int32) : Bool := match c with
  | .eq => decide (x = y)
  | .ne => decide (¬ x = y)
  | .lt => decide (x < y)
  | .ge => decide (y ≤ x)
  | .gt => decide (y < x)
  | .le => decide (x ≤ y)
def xat (y pc : Nat) : Option (Nat × Instr × Nat × List Nat) := (xins y).find? (fun q => q.1 == pc)
/-- the classes that the law's handlers name -/
def xct (k : Nat) : String := match k with
  | 13 => "java/lang/IllegalArgumentException"
  | 19 => "java/lang/IndexOutOfBoundsException"
  | 21 => "java/lang/IllegalStateException"
  | _ => ""
def xhan (hh : List (Nat × Nat × Nat × Nat)) (pc : Nat) (E : String) : Option Nat := match hh with
  | [] => none
  | h :: hh => if h.1 ≤ pc ∧ pc < h.2.1 then (if xct h.2.2.2 = "" then none else if xct h.2.2.2 = E then some h.2.2.1 else xhan hh pc E) else none
abbrev xO : Type := Nat → List Value → xW → Option (xR × xW)
def xcal (orc : xO) (y pc : Nat) (lv : List (Option Value)) (y' : Nat) (As rest : List Value) (w : xW) : Option (xC ⊕ (xR × xW)) := match orc y' As w with
  | some (.inl v, w') => some (.inl (pc + 3, lv, v.toList ++ rest, w'))
  | some (.inr E, w') => match xhan (xhh y) pc E with
    | some h => match xat y h with
      | some (_, .astore_n k, _, _) => if (k : Nat) < xmaxL y then some (.inl (h + 1, xldel lv k, [], w')) else none
      | some (_, .astore k, _, _) => if k < xmaxL y then some (.inl (h + 2, xldel lv k, [], w')) else none
      | _ => none
    | none => none
  | none => none
/-- one instruction; d + 1 frames are left, xs is the law's script (of L ints) -/
def xi (xs : Nat × (Nat → Int32)) (d : Nat) (orc : xO) (y : Nat) (i : Instr) (aux : List Nat) (pc : Nat) (lv : List (Option Value)) (st : List Value) (w : xW) : Option (xC ⊕ (xR × xW)) := match i with
  | .aload_n k => match xlget lv k with
    | some (.ref a) => some (.inl (pc + 1, lv, .ref a :: st, w))
    | some (.float a) => some (.inl (pc + 1, lv, .float a :: st, w))
    | _ => none
  | .aload k => match xlget lv k with
    | some (.ref a) => some (.inl (pc + 2, lv, .ref a :: st, w))
    | _ => none
  | .iload_n k => match xlget lv k with
    | some (.int x) => some (.inl (pc + 1, lv, .int x :: st, w))
    | _ => none
  | .iload k => match xlget lv k with
    | some (.int x) => some (.inl (pc + 2, lv, .int x :: st, w))
    | _ => none
  | .lload_n k => match xlget lv k with
    | some (.long x) => some (.inl (pc + 1, lv, .long x :: st, w))
    | _ => none
  | .dload k => match xlget lv k with
    | some (.double x) => some (.inl (pc + 2, lv, .double x :: st, w))
    | _ => none
  | .istore_n k => match st with
    | .int x :: st => if (k : Nat) < xmaxL y then some (.inl (pc + 1, xlset1 lv k (.int x), st, w)) else none
    | _ => none
  | .istore k => match st with
    | .int x :: st => if k < xmaxL y then some (.inl (pc + 2, xlset1 lv k (.int x), st, w)) else none
    | _ => none
  | .astore_n k => match st with
    | .ref x :: st => if (k : Nat) < xmaxL y then some (.inl (pc + 1, xlset1 lv k (.ref x), st, w)) else none
    | _ => none
  | .astore k => match st with
    | .ref x :: st => if k < xmaxL y then some (.inl (pc + 2, xlset1 lv k (.ref x), st, w)) else none
    | _ => none
  | .lstore_n k => match st with
    | .long x :: st => if (k : Nat) + 1 < xmaxL y then some (.inl (pc + 1, xlset2 lv k (.long x), st, w)) else none
    | _ => none
  | .dstore k => match st with
    | .double x :: st => if k + 1 < xmaxL y then some (.inl (pc + 2, xlset2 lv k (.double x), st, w)) else none
    | _ => none
  | .iinc k n => match xlget lv k with
    | some (.int x) => if k < xmaxL y then some (.inl (pc + 3, xlset1 lv k (.int (x + Int32.ofInt n)), st, w)) else none
    | _ => none
  | .iconst n => some (.inl (pc + 1, lv, .int (Int32.ofInt n) :: st, w))
  | .bipush n => some (.inl (pc + 2, lv, .int (Int8.ofInt n).toInt32 :: st, w))
  | .sipush n => some (.inl (pc + 3, lv, .int (Int16.ofInt n).toInt32 :: st, w))
  | .lconst n => some (.inl (pc + 1, lv, .long (Int64.ofNat (n : Nat)) :: st, w))
  | .dconst n => if n = 0 then some (.inl (pc + 1, lv, .double FP.dconst0 :: st, w)) else some (.inl (pc + 1, lv, .double FP.dconst1 :: st, w))
  | .ldc _ => match aux with
    | [_, v] => some (.inl (pc + 2, lv, .int (Int32.ofNat v) :: st, w))
    | _ => none
  | .ldc_w _ => match aux with
    | [_, v] => some (.inl (pc + 3, lv, .int (Int32.ofNat v) :: st, w))
    | _ => none
  | .ldc2_w _ => match aux with
    | [_, v] => some (.inl (pc + 3, lv, .long (Int64.ofNat v) :: st, w))
    | _ => none
  | .getfield _ => match aux, st with
    | [ci, k, _], .ref a :: st => match xget w.1 a ci k with
      | some v => some (.inl (pc + 3, lv, v :: st, w))
      | none => none
    | _, _ => none
  | .putfield _ => match aux, st with
    | [ci, k, _, _], v :: .ref a :: st => if xfit (xfty ci k) v = true then (match xput w.1 a ci k v with
      | some L => some (.inl (pc + 3, lv, st, (L, w.2)))
      | none => none) else none
    | _, _ => none
  | .iaload => match st with
    | .int i :: .ref a :: st => match xai w.1 a 0 with
      | some (n, f) => if i < 0 ∨ n ≤ i.toNatClampNeg then none else some (.inl (pc + 1, lv, .int (f i.toNatClampNeg) :: st, w))
      | none => none
    | .int i :: .float _ :: st => if i < 0 ∨ xs.1 - 1 ≤ i.toNatClampNeg then none else some (.inl (pc + 1, lv, .int (xs.2 i.toNatClampNeg) :: st, w))
    | _ => none
  | .iastore => match st with
    | .int x :: .int i :: .ref a :: st => match xai w.1 a 0 with
      | some (n, f) => if i < 0 ∨ n ≤ i.toNatClampNeg then none else some (.inl (pc + 1, lv, st, (w.1.set a (.inl (0, n, .inl (upd f i.toNatClampNeg x))), w.2)))
      | none => none
    | _ => none
  | .baload => match st with
    | .int i :: .ref a :: st => match xai w.1 a 2 with
      | some (n, f) => if i < 0 ∨ n ≤ i.toNatClampNeg then none else some (.inl (pc + 1, lv, .int (f i.toNatClampNeg) :: st, w))
      | none => none
    | _ => none
  | .bastore => match st with
    | .int x :: .int i :: .ref a :: st => match xai w.1 a 2 with
      | some (n, f) => if i < 0 ∨ n ≤ i.toNatClampNeg then none else some (.inl (pc + 1, lv, st, (w.1.set a (.inl (2, n, .inl (upd f i.toNatClampNeg (vp_nar .boolean x)))), w.2)))
      | none => none
    | _ => none
  | .laload => match st with
    | .int i :: .ref a :: st => match xal w.1 a 1 with
      | some (n, f) => if i < 0 ∨ n ≤ i.toNatClampNeg then none else some (.inl (pc + 1, lv, .long (f i.toNatClampNeg) :: st, w))
      | none => none
    | _ => none
  | .lastore => match st with
    | .long x :: .int i :: .ref a :: st => match xal w.1 a 1 with
      | some (n, f) => if i < 0 ∨ n ≤ i.toNatClampNeg then none else some (.inl (pc + 1, lv, st, (w.1.set a (.inl (1, n, .inr (.inl (vp_updL f i.toNatClampNeg x)))), w.2)))
      | none => none
    | _ => none
  | .aaload => match st with
    | .int i :: .ref a :: st => match xaq w.1 a 3 with
      | some (n, f) => if i < 0 ∨ n ≤ i.toNatClampNeg then none else some (.inl (pc + 1, lv, va_rf (f i.toNatClampNeg) :: st, w))
      | none => none
    | _ => none
  | .aastore => match st with
    | .ref v :: .int i :: .ref a :: st => match xaq w.1 a 3 with
      | some (n, f) => if i < 0 ∨ n ≤ i.toNatClampNeg ∨ xis w.1 v 5 = false then none else some (.inl (pc + 1, lv, st, (w.1.set a (.inl (3, n, .inr (.inr (.inr (.inr (va_up f i.toNatClampNeg (some v))))))), w.2)))
      | none => none
    | _ => none
  | .arraylength => match st with
    | .ref a :: st => match xlen w.1 a with
      | some n => some (.inl (pc + 1, lv, .int (Int32.ofNat n) :: st, w))
      | none => none
    | .float _ :: st => if xs.1 = 0 then none else some (.inl (pc + 1, lv, .int (Int32.ofNat (xs.1 - 1)) :: st, w))
    | _ => none
  | .iadd => match st with
    | .int b :: .int a :: st => some (.inl (pc + 1, lv, .int (a + b) :: st, w))
    | _ => none
  | .isub => match st with
    | .int b :: .int a :: st => some (.inl (pc + 1, lv, .int (a - b) :: st, w))
    | _ => none
  | .imul => match st with
    | .int b :: .int a :: st => some (.inl (pc + 1, lv, .int (a * b) :: st, w))
    | _ => none
  | .iand => match st with
    | .int b :: .int a :: st => some (.inl (pc + 1, lv, .int (a &&& b) :: st, w))
    | _ => none
  | .ior => match st with
    | .int b :: .int a :: st => some (.inl (pc + 1, lv, .int (a ||| b) :: st, w))
    | _ => none
  | .ixor => match st with
    | .int b :: .int a :: st => some (.inl (pc + 1, lv, .int (a ^^^ b) :: st, w))
    | _ => none
  | .ishl => match st with
    | .int b :: .int a :: st => some (.inl (pc + 1, lv, .int (a <<< (b &&& 31)) :: st, w))
    | _ => none
  | .ishr => match st with
    | .int b :: .int a :: st => some (.inl (pc + 1, lv, .int (a >>> (b &&& 31)) :: st, w))
    | _ => none
  | .iushr => match st with
    | .int b :: .int a :: st => some (.inl (pc + 1, lv, .int (a.toUInt32 >>> (b.toUInt32 &&& Int32.toUInt32 31)).toInt32 :: st, w))
    | _ => none
  | .idiv => match st with
    | .int b :: .int a :: st => if b = 0 then none else some (.inl (pc + 1, lv, .int (a / b) :: st, w))
    | _ => none
  | .irem => match st with
    | .int b :: .int a :: st => if b = 0 then none else some (.inl (pc + 1, lv, .int (a - a / b * b) :: st, w))
    | _ => none
  | .ladd => match st with
    | .long b :: .long a :: st => some (.inl (pc + 1, lv, .long (a + b) :: st, w))
    | _ => none
  | .lmul => match st with
    | .long b :: .long a :: st => some (.inl (pc + 1, lv, .long (a * b) :: st, w))
    | _ => none
  | .lcmp => match st with
    | .long b :: .long a :: st => some (.inl (pc + 1, lv, .int (lg_cmp a b) :: st, w))
    | _ => none
  | .i2l => match st with
    | .int a :: st => some (.inl (pc + 1, lv, .long a.toInt64 :: st, w))
    | _ => none
  | .i2d => match st with
    | .int a :: st => some (.inl (pc + 1, lv, .double (FP.i2d a) :: st, w))
    | _ => none
  | .ddiv => match st with
    | .double b :: .double a :: st => if FP.ddiv a b &&& 0x7fffffffffffffff ≤ 0x7ff0000000000000 then some (.inl (pc + 1, lv, .double (FP.ddiv a b) :: st, w)) else none
    | _ => none
  | .dmul => match st with
    | .double b :: .double a :: st => if FP.dmul a b &&& 0x7fffffffffffffff ≤ 0x7ff0000000000000 then some (.inl (pc + 1, lv, .double (FP.dmul a b) :: st, w)) else none
    | _ => none
  | .dcmp op => match st with
    | .double b :: .double a :: st => some (.inl (pc + 1, lv, .int (Op.cmpValue (FP.dcmp a b) op) :: st, w))
    | _ => none
  | .dup => match st with
    | v :: st => if v.category = 1 then some (.inl (pc + 1, lv, v :: v :: st, w)) else none
    | _ => none
  | .dup_x1 => match st with
    | v :: u :: st => if v.category = 1 ∧ u.category = 1 then some (.inl (pc + 1, lv, v :: u :: v :: st, w)) else none
    | _ => none
  | .dup2 => match st with
    | v :: u :: st => if v.category = 1 ∧ u.category = 1 then some (.inl (pc + 1, lv, v :: u :: v :: u :: st, w)) else none
    | _ => none
  | .pop => match st with
    | v :: st => if v.category = 1 then some (.inl (pc + 1, lv, st, w)) else none
    | _ => none
  | .goto off => match xjmp pc off with
    | some t => some (.inl (t, lv, st, w))
    | none => none
  | .ifCond c off => match xjmp pc off, st with
    | some t, .int x :: st => some (.inl (if xcnd c x 0 = true then t else pc + 3, lv, st, w))
    | _, _ => none
  | .if_icmp c off => match xjmp pc off, st with
    | some t, .int b :: .int a :: st => some (.inl (if xcnd c a b = true then t else pc + 3, lv, st, w))
    | _, _ => none
  | .tableswitch dflt lo hi offs => match st with
    | .int x :: st => if x.toInt < lo ∨ hi < x.toInt then (match xjmp pc dflt with
        | some t => some (.inl (t, lv, st, w))
        | none => none)
      else (match offs[(x.toInt - lo).toNat]? with
        | some off => match xjmp pc off with
          | some t => some (.inl (t, lv, st, w))
          | none => none
        | none => none)
    | _ => none
  | .lookupswitch dflt ps => match st with
    | .int x :: st => if (ps.toList.zip (ps.toList.drop 1)).all (fun (a, next) => a.1 < next.1) = true then (match xjmp pc (Op.lookupswitch.offset ps.toList dflt x.toInt) with
        | some t => some (.inl (t, lv, st, w))
        | none => none) else none
    | _ => none
  | .ireturn => match st with
    | [.int v] => if xret y = some .int ∨ (xret y = some .boolean ∧ (v = 0 ∨ v = 1)) then some (.inr (.inl (some (.int v)), w)) else none
    | _ => none
  | .lreturn => match st with
    | [.long v] => if xret y = some .long then some (.inr (.inl (some (.long v)), w)) else none
    | _ => none
  | .dreturn => match st with
    | [.double v] => if xret y = some .double then some (.inr (.inl (some (.double v)), w)) else none
    | _ => none
  | .return_ => match st with
    | [] => if xret y = none then some (.inr (.inl none, w)) else none
    | _ => none
  | .new _ => match aux with
    | [ci, _, _, _] => if w.2.1 = w.1.length then some (.inl (pc + 3, lv, .ref w.1.length :: st, (w.1 ++ [.inr (ci, xnew ci)], w.2.1 + 1, w.2.2 + (xnew ci).length))) else none
    | [e, _, _, _, _, _, _] => if 5 ≤ d ∧ xhh y = [] ∧ xcats st ≤ 8 then some (.inr (.inr (xexn (e - 100)), (w.1, w.2.1 + 1, w.2.2 + 6))) else none
    | _ => none
  | .newarray ty => match aux, st with
    | [_], .int n :: st => if w.2.1 = w.1.length ∧ ¬ n < 0 ∧ n.toNatClampNeg ≤ 1000 then (match ty with
        | .int => some (.inl (pc + 2, lv, .ref w.1.length :: st, (w.1 ++ [.inl (0, n.toNatClampNeg, .inl (fun _ => 0))], w.2.1 + 1, w.2.2 + n.toNatClampNeg)))
        | .long => some (.inl (pc + 2, lv, .ref w.1.length :: st, (w.1 ++ [.inl (1, n.toNatClampNeg, .inr (.inl (fun _ => 0)))], w.2.1 + 1, w.2.2 + n.toNatClampNeg)))
        | .boolean => some (.inl (pc + 2, lv, .ref w.1.length :: st, (w.1 ++ [.inl (2, n.toNatClampNeg, .inl (fun _ => 0))], w.2.1 + 1, w.2.2 + n.toNatClampNeg)))
        | _ => none) else none
    | _, _ => none
  | .anewarray _ => match aux, st with
    | [_], .int n :: st => if w.2.1 = w.1.length ∧ ¬ n < 0 ∧ n.toNatClampNeg ≤ 1000 then some (.inl (pc + 3, lv, .ref w.1.length :: st, (w.1 ++ [.inl (3, n.toNatClampNeg, .inr (.inr (.inr (.inr (fun _ => none)))))], w.2.1 + 1, w.2.2 + n.toNatClampNeg))) else none
    | _, _ => none
  | .invokevirtual _ => match aux with
    | [y', n, _, _, ci] => match st.drop n with
      | .ref a :: rest => if xis w.1 a ci = true ∧ xcats rest ≤ 8 then xcal orc y pc lv y' (.ref a :: (st.take n).reverse) rest w else none
      | _ => none
    | _ => none
  | .invokestatic _ => match aux with
    | [y', n, _, _, _] => if n ≤ st.length ∧ xcats (st.drop n) ≤ 8 then xcal orc y pc lv y' (st.take n).reverse (st.drop n) w else none
    | [_, _] => match st with
      | .int n :: .int dp :: .ref a :: .int sp :: .ref a0 :: rest => match xai w.1 a0 0, xai w.1 a 0 with
        | some (n0, f), some (n1, g) => if xcats rest ≤ 8 ∧ ¬ sp < 0 ∧ ¬ dp < 0 ∧ ¬ n < 0 ∧ sp.toNatClampNeg + n.toNatClampNeg ≤ n0 ∧ dp.toNatClampNeg + n.toNatClampNeg ≤ n1 then some (.inl (pc + 3, lv, rest, (w.1.set a (.inl (0, n1, .inl (va_cpy f g sp.toNatClampNeg dp.toNatClampNeg n.toNatClampNeg))), w.2))) else none
        | _, _ => none
      | _ => none
    | _ => none
  | .invokespecial _ => match aux with
    | [y', n, _, _, _] => match st.drop n with
      | .ref a :: rest => if xcats rest ≤ 8 then xcal orc y pc lv y' (.ref a :: (st.take n).reverse) rest w else none
      | _ => none
    | [_, _] => match st with
      | .ref _ :: rest => if xcats rest ≤ 8 then some (.inl (pc + 3, lv, rest, w)) else none
      | _ => none
    | _ => none
  | _ => none
def xnext (xs : Nat × (Nat → Int32)) (d : Nat) (orc : xO) (y : Nat) (c : xC) : Option (xC ⊕ (xR × xW)) := match xat y c.1 with
  | some q => xi xs d orc y q.2.1 q.2.2.2 c.1 c.2.1 c.2.2.1 c.2.2.2
  | none => none
def xrun (xs : Nat × (Nat → Int32)) (d : Nat) (orc : xO) (y : Nat) : Nat → xC → Option (xR × xW)
  | 0, _ => none
  | n + 1, c => match xnext xs d orc y c with
    | some (.inl c') => xrun xs d orc y n c'
    | some (.inr r) => some r
    | none => none
noncomputable def xlim {α : Type} (f : Nat → Option α) : Option α := by
  classical exact if h : ∃ n, (f n).isSome then f (Classical.choose h) else none
noncomputable def rn' (xs : Nat × (Nat → Int32)) (d : Nat) (orc : xO) (y : Nat) (c : xC) : Option (xR × xW) := xlim (fun n => xrun xs d orc y n c)
def xent (nL : Nat) : List Value → List (Option Value)
  | [] => List.replicate nL none
  | v :: vs => if v.category = 2 then some v :: none :: xent (nL - 2) vs else some v :: xent (nL - 1) vs
noncomputable def ev' (xs : Nat × (Nat → Int32)) : Nat → xO
  | 0 => fun _ _ _ => none
  | d + 1 => fun y as w => if xcats as ≤ xmaxL y then rn' xs d (ev' xs d) y (0, xent (xmaxL y) as, [], w) else none
/-- no call reads the script: the methods that are called run with an empty one -/
noncomputable def ev : Nat → xO := ev' (0, fun _ => 0)
noncomputable def rn (d y pc : Nat) (lv : List (Option Value)) (st : List Value) (w : xW) : Option (xR × xW) := rn' (0, fun _ => 0) d (ev d) y (pc, lv, st, w)
theorem xrun_mono {xs : Nat × (Nat → Int32)} {d : Nat} {orc : xO} {y : Nat} : ∀ (n : Nat) (c : xC) (r : xR × xW), xrun xs d orc y n c = some r → ∀ k, xrun xs d orc y (n + k) c = some r := by
  intro n
  induction n with
  | zero => intro c r h; cases h
  | succ n ih =>
    intro c r h k
    rw [show n + 1 + k = (n + k) + 1 by omega]
    simp only [xrun] at h ⊢
    cases hn : xnext xs d orc y c with
    | none => rw [hn] at h; cases h
    | some q =>
      rw [hn] at h
      cases q with
      | inl c' => exact ih c' r h k
      | inr r' => exact h
theorem xlim_of {α : Type} {f : Nat → Option α} (hm : ∀ n r, f n = some r → ∀ k, f (n + k) = some r) {n : Nat} {r : α} (h : f n = some r) : xlim f = some r := by
  have he : ∃ n, (f n).isSome := ⟨n, by rw [h]; rfl⟩
  unfold xlim
  rw [dif_pos he]
  obtain ⟨r', hr'⟩ := Option.isSome_iff_exists.mp (Classical.choose_spec he)
  have h1 := hm _ _ hr' n
  have h2 := hm _ _ h (Classical.choose he)
  rw [Nat.add_comm] at h1
  rw [h1] at h2
  rw [hr', h2]
theorem xlim_some {α : Type} {f : Nat → Option α} {r : α} (h : xlim f = some r) : ∃ n, f n = some r := by
  unfold xlim at h
  split at h
  · exact ⟨_, h⟩
  · cases h
theorem rn'_some {xs : Nat × (Nat → Int32)} {d : Nat} {orc : xO} {y : Nat} {c : xC} {r : xR × xW} : rn' xs d orc y c = some r ↔ ∃ n, xrun xs d orc y n c = some r :=
  ⟨xlim_some, fun ⟨_, h⟩ => xlim_of (fun n r h k => xrun_mono n c r h k) h⟩
theorem rn'_eq {xs : Nat × (Nat → Int32)} {d : Nat} {orc : xO} {y : Nat} (c : xC) : rn' xs d orc y c = (match xnext xs d orc y c with
    | some (.inl c') => rn' xs d orc y c'
    | some (.inr r) => some r
    | none => none) := by
  apply Option.ext
  intro r
  rw [rn'_some]
  constructor
  · rintro ⟨n, h⟩
    cases n with
    | zero => cases h
    | succ n =>
      simp only [xrun] at h
      cases hn : xnext xs d orc y c with
      | none => rw [hn] at h; cases h
      | some q =>
        rw [hn] at h
        cases q with
        | inl c' => exact rn'_some.mpr ⟨n, h⟩
        | inr r' => exact h
  · intro h
    cases hn : xnext xs d orc y c with
    | none => rw [hn] at h; cases h
    | some q =>
      rw [hn] at h
      cases q with
      | inl c' =>
        obtain ⟨n, h⟩ := rn'_some.mp h
        exact ⟨n + 1, by simp only [xrun, hn]; exact h⟩
      | inr r' => exact ⟨1, by simp only [xrun, hn]; exact h⟩
theorem ev_succ (d y : Nat) (as : List Value) (w : xW) (h : xcats as ≤ xmaxL y) : ev (d + 1) y as w = rn d y 0 (xent (xmaxL y) as) [] w := if_pos h
