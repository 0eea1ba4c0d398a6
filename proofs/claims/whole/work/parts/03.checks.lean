/-! what each row of the tables is checked for, by the kernel -/
def xdef (ty : FieldType) : Value := match ty with
  | .int | .boolean => .int 0
  | .long => .long 0
  | _ => .null
def xm (y : Nat) : xM := (xms[y]?).getD (⟨"", "", ""⟩, ⟨#[]⟩, 0, none, [], [], [])
def xname (y : Nat) : MethodName := (xm y).1
def xcode (y : Nat) : ByteArray := (xm y).2.1
def xmaxL (y : Nat) : Nat := (xm y).2.2.1
def xret (y : Nat) : Option FieldType := (xm y).2.2.2.1
def xhh (y : Nat) : List (Nat × Nat × Nat × Nat) := (xm y).2.2.2.2.1
def xmi (y : Nat) : List Nat := (xm y).2.2.2.2.2.1
def xins (y : Nat) : List (Nat × Instr × Nat × List Nat) := (xm y).2.2.2.2.2.2
def xexn (e : Nat) : String := match e with
  | 0 => "java/lang/IllegalArgumentException"
  | 1 => "java/lang/IndexOutOfBoundsException"
  | _ => "java/lang/IllegalStateException"
def xfty (ci k : Nat) : FieldType := match xcls[ci]? with
  | some q => match q.2[k]? with
    | some f => f.2.2.2
    | none => .int
  | none => .int
def xnew (ci : Nat) : List Value := match xcls[ci]? with
  | some q => q.2.map (fun f => xdef f.2.2.2)
  | none => []
def xT (C : String) (fs : List (String × String × Bool × FieldType)) : u_T := fun k => match fs[k]? with
  | some f => (C, f.1, f.2.1, f.2.2.1)
  | none => ("", "", "", false)
def xgood : List Cond := lw_tbl.filter goodWord
def xword (i : Nat) (w : Cond) : Bool := decide (lw_tbl[i]? = some w) && goodWord w
theorem xword_in {i : Nat} {w : Cond} (h : xword i w = true) : w ∈ xgood := by
  simp only [xword, Bool.and_eq_true, decide_eq_true_eq] at h
  exact List.mem_filter.mpr ⟨List.mem_of_getElem? h.1, h.2⟩
theorem xgood_in {ws : List Cond} (h : ∀ w ∈ ws, w ∈ xgood) : GoodIn xgood ws := fun w hw => ⟨h w hw, good_of_word (List.mem_filter.mp (h w hw)).2⟩
def xown (y : Nat) : String := (xname y).cls
def xkind (y : Nat) : Nat := (xmi y).headD 9
def xnarg (y : Nat) : Nat := (xmi y).getD 1 99
def xfld (ci k : Nat) : Option (String × String × String × Bool) := match xcls[ci]? with
  | some q => match q.2[k]? with
    | some f => some (q.1, f.1, f.2.1, f.2.2.1)
    | none => none
  | none => none
def xcn (ci : Nat) : String := match xcls[ci]? with
  | some q => q.1
  | none => ""
def xctor (e : Nat) : Nat := match e with
  | 100 => 47
  | 101 => 67
  | _ => 78
def xstr (i : Nat) (own : String) (k : Nat) : Bool := match lw_tbl[i]? with
  | some (.stringRef o k' _) => o == own && k' == k
  | _ => false
def xdec (y pc : Nat) (i : Instr) (n : Nat) : Bool := decide (decode (xcode y) pc = .ok (i, n))
def xokI (y : Nat) (q : Nat × Instr × Nat × List Nat) : Bool := xdec y q.1 q.2.1 q.2.2.1 && (match q.2.1, q.2.2.2 with
  | .getfield ix, [ci, k, li] => (match xfld ci k with
    | some f => xword li (.fieldLink (xown y) ix f.1 f.2.1 f.2.2.1)
    | none => false)
  | .putfield ix, [ci, k, li, _] => (match xfld ci k with
    | some f => xword li (.fieldLink (xown y) ix f.1 f.2.1 f.2.2.1) && (!f.2.2.2 || (xown y == f.1 && (xname y).name == "<init>"))
    | none => false)
  | .ldc ix, [li, v] => xword li (.constant (xown y) ix (Int32.ofNat v))
  | .ldc_w ix, [li, v] => xword li (.constant (xown y) ix (Int32.ofNat v))
  | .ldc2_w ix, [li, v] => xword li (.constantLong (xown y) ix (Int64.ofNat v))
  | .new ix, [ci, l1, l2, l3] => decide (ci < 9) && xword l1 (.classLink (xown y) ix (xcn ci)) && xword l2 (.instantiable (xcn ci) (xnew ci).length) && xword l3 (.initialized (xcn ci))
  | .new ix, [e, l1, l2, si, wide, ic, ls] => (e == 100 || e == 101 || e == 102) && xown y == "LaunchCountdown" && ic == xctor e && xword l1 (.classLink (xown y) ix (xexn (e - 100))) && xword l2 (.initialized (xexn (e - 100))) && xstr ls (xown y) si && xdec y (q.1 + 3) .dup 1 &&
      (if wide = 0 then xdec y (q.1 + 4) (.ldc si) 2 && xdec y (q.1 + 6) (.invokespecial ic) 3 && xdec y (q.1 + 9) .athrow 1 else xdec y (q.1 + 4) (.ldc_w si) 3 && xdec y (q.1 + 7) (.invokespecial ic) 3 && xdec y (q.1 + 10) .athrow 1)
  | .newarray ty, [l] => xword l (.arrayClass (newarray.typeOf ty))
  | .anewarray ix, [l] => xword l (.classLink (xown y) ix "LaunchCountdown$State")
  | .invokevirtual ix, [y', n, li, _, ci] => decide (y' < 238) && xkind y' == 0 && xnarg y' == n && xcn ci == xown y' && decide (ci < 9) && xhh y' == [] && xword li (.methodLink (xown y) ix (xname y'))
  | .invokestatic ix, [y', n, li, nest, _] => decide (y' < 238) && xkind y' == 1 && xnarg y' == n && (if nest = 0 then xword li (.methodLink (xown y) ix (xname y')) else xhh y' == [] && decide (lw_tbl[li]? = some (.methodLinkNest (xown y) ix (xname y') "LaunchCountdown")))
  | .invokestatic ix, [_, li] => xword li (.methodLink (xown y) ix arraycopyName)
  | .invokespecial ix, [y', n, li, nest, _] => decide (y' < 238) && xkind y' == 2 && xnarg y' == n && xhh y' == [] && (if nest = 0 then xword li (.methodLink (xown y) ix (xname y')) else decide (lw_tbl[li]? = some (.methodLinkNest (xown y) ix (xname y') "LaunchCountdown")))
  | .invokespecial ix, [_, li] => xword li (.methodLink (xown y) ix objectInit)
  | _, _ => true)
def xcodeW (y : Nat) : Cond := if xhh y = [] then .code (xname y) (xcode y) (xmaxL y) (xret y) else .codeWith (xname y) (xcode y) (xmaxL y) (xret y) (xhh y)
def xokM (y : Nat) : Bool := (xins y).all (xokI y) && (match xmi y with
  | [kind, n, ic, ii, ia, ib] => xword ic (xcodeW y) && xword ii (.initialized (xown y)) && plainName (xown y) && decide (xmaxL y ≤ 16) && decide (xown y ≠ "java/lang/invoke/MethodHandle" ∧ xown y ≠ "java/lang/invoke/VarHandle" ∧ (parseMethodDescriptor (xname y).desc).map (fun d => d.parameters.length) = some n) &&
    (if kind = 0 then xword ia (.instanceMethod (xname y)) && xword ib (.selects (xown y) (xname y) (xname y)) else if kind = 1 then xword ia (.static (xname y)) else xword ia (.instanceMethod (xname y)) && (xname y).name == "<init>" && decide (xret y = none))
  | _ => false)
/-- how long an instruction is -/
def xil (i : Instr) : Nat := match i with
  | .aload _ | .iload _ | .dload _ | .istore _ | .astore _ | .dstore _ | .bipush _ | .ldc _ | .newarray _ => 2
  | .iinc _ _ | .sipush _ | .ldc_w _ | .ldc2_w _ | .getfield _ | .putfield _ | .goto _ | .ifCond _ _ | .if_icmp _ _ | .new _ | .anewarray _ | .invokevirtual _ | .invokestatic _ | .invokespecial _ => 3
  | _ => 1
def xokL (q : Nat × Instr × Nat × List Nat) : Bool := match q.2.1 with
  | .tableswitch _ _ _ _ => true
  | .lookupswitch _ _ => true
  | i => q.2.2.1 == xil i
