/-! the small machine, an equation an instruction; written by wip/whole/gen_steps.py -/
noncomputable def rx (xs : Nat × (Nat → Int32)) (d y pc : Nat) (lv : List (Option Value)) (st : List Value) (w : xW) : Option (xR × xW) := rn' xs d (ev d) y (pc, lv, st, w)
abbrev x0 : Nat × (Nat → Int32) := (0, fun _ => 0)
theorem ev_s (d y : Nat) (as : List Value) (w : xW) (h : xcats as ≤ xmaxL y) : ev (d + 1) y as w = rx x0 d y 0 (xent (xmaxL y) as) [] w := if_pos h
section
variable {xs : Nat × (Nat → Int32)} {d y pc : Nat} {lv : List (Option Value)} {st : List Value} {w : xW}
theorem rx_at {q : Nat × Instr × Nat × List Nat} (h : xat y pc = some q) : rx xs d y pc lv st w = (match xi xs d (ev d) y q.2.1 q.2.2.2 pc lv st w with
    | some (.inl c) => rx xs d y c.1 c.2.1 c.2.2.1 c.2.2.2
    | some (.inr r) => some r
    | none => none) := by
  unfold rx
  rw [rn'_eq]
  simp only [xnext, h]
  cases xi xs d (ev d) y q.2.1 q.2.2.2 pc lv st w with
  | none => rfl
  | some z => cases z <;> rfl
theorem set_self {α : Type} {l : List α} {i : Nat} {o : α} (h : l[i]? = some o) : l.set i o = l := by
  apply List.ext_getElem?
  intro j
  rw [List.getElem?_set]
  by_cases hj : i = j
  · subst hj
    have hlt := (List.getElem?_eq_some_iff.mp h).1
    rw [if_pos rfl, if_pos hlt, h]
  · rw [if_neg hj]
/-- an old local, where the next one is stored -/
def xc (o : Option Value) : Option Value := match o with
  | some v => if v.category = 2 then none else some v
  | none => none
theorem xc_n : xc none = none := rfl
theorem xc_i (x : Int32) : xc (some (.int x)) = some (.int x) := rfl
theorem xc_r (x : Nat) : xc (some (.ref x)) = some (.ref x) := rfl
theorem xc_l (x : Int64) : xc (some (.long x)) = none := rfl
theorem xc_d (x : UInt64) : xc (some (.double x)) = none := rfl
theorem xc_f (x : UInt32) : xc (some (.float x)) = some (.float x) := rfl
theorem xclr_c (lv : List (Option Value)) (i : Nat) (o : Option Value) (h : lv[i]? = some o) : xclr lv (i + 1) = lv.set i (xc o) := by
  simp only [xclr, h]
  cases o with
  | none => simp only [xc]; exact (set_self h).symm
  | some v =>
    simp only [xc]
    split
    · rfl
    · exact (set_self h).symm
/-- a place in a row -/
def ixb (i : Int32) (n : Nat) : Bool := !(decide (i < 0 ∨ n ≤ i.toNatClampNeg))
theorem ixb_if {i : Int32} {n : Nat} {α : Type} (X Y : α) : (if i < 0 ∨ n ≤ i.toNatClampNeg then Y else X) = if ixb i n = true then X else Y := by
  by_cases hc : i < 0 ∨ n ≤ i.toNatClampNeg
  · rw [if_pos hc, if_neg (by unfold ixb; simp only [hc, decide_true, Bool.not_true]; exact Bool.false_ne_true)]
  · rw [if_neg hc, if_pos (by unfold ixb; simp only [hc, decide_false, Bool.not_false])]
def xk (f : Option Value → xW → Option (xR × xW)) (q : Option (xR × xW)) : Option (xR × xW) := match q with
  | some (.inl v, w) => f v w
  | _ => none
theorem xk_s (f : Option Value → xW → Option (xR × xW)) (v : Option Value) (w : xW) : xk f (some (.inl v, w)) = f v w := rfl
theorem ts_s (v : Value) (st : List Value) : (some v).toList ++ st = v :: st := rfl
theorem ts_n (st : List Value) : (none : Option Value).toList ++ st = st := rfl
theorem r_get {ix ci k li a : Nat} (h : xat y pc = some (pc, .getfield ix, 3, [ci, k, li])) : rx xs d y pc lv (.ref a :: st) w = (xget w.1 a ci k).bind (fun v => rx xs d y (pc + 3) lv (v :: st) w) := by
  rw [rx_at h]
  simp only [xi]
  cases xget w.1 a ci k <;> rfl
theorem r_put {ix ci k li fi a : Nat} {v : Value} (h : xat y pc = some (pc, .putfield ix, 3, [ci, k, li, fi])) (hf : xfit (xfty ci k) v = true) : rx xs d y pc lv (v :: .ref a :: st) w = (xput w.1 a ci k v).bind (fun L => rx xs d y (pc + 3) lv st (L, w.2)) := by
  rw [rx_at h]
  simp only [xi, hf, if_true]
  cases xput w.1 a ci k v <;> rfl
theorem r_iald {a : Nat} {i : Int32} (h : xat y pc = some (pc, .iaload, 1, [])) : rx xs d y pc lv (.int i :: .ref a :: st) w = (xai w.1 a 0).bind (fun q => if ixb i q.1 = true then rx xs d y (pc + 1) lv (.int (q.2 i.toNatClampNeg) :: st) w else none) := by
  rw [rx_at h]
  simp only [xi]
  cases xai w.1 a 0 with
  | none => rfl
  | some q =>
    obtain ⟨n, f⟩ := q
    simp only [Option.bind_some, ← ixb_if]
    by_cases hc : i < 0 ∨ n ≤ i.toNatClampNeg
    · rw [if_pos hc, if_pos hc]
    · rw [if_neg hc, if_neg hc]
theorem r_iast {a : Nat} {i x : Int32} (h : xat y pc = some (pc, .iastore, 1, [])) : rx xs d y pc lv (.int x :: .int i :: .ref a :: st) w = (xai w.1 a 0).bind (fun q => if ixb i q.1 = true then rx xs d y (pc + 1) lv st (w.1.set a (.inl (0, q.1, .inl (upd q.2 i.toNatClampNeg x))), w.2) else none) := by
  rw [rx_at h]
  simp only [xi]
  cases xai w.1 a 0 with
  | none => rfl
  | some q =>
    obtain ⟨n, f⟩ := q
    simp only [Option.bind_some, ← ixb_if]
    by_cases hc : i < 0 ∨ n ≤ i.toNatClampNeg
    · rw [if_pos hc, if_pos hc]
    · rw [if_neg hc, if_neg hc]
theorem r_bald {a : Nat} {i : Int32} (h : xat y pc = some (pc, .baload, 1, [])) : rx xs d y pc lv (.int i :: .ref a :: st) w = (xai w.1 a 2).bind (fun q => if ixb i q.1 = true then rx xs d y (pc + 1) lv (.int (q.2 i.toNatClampNeg) :: st) w else none) := by
  rw [rx_at h]
  simp only [xi]
  cases xai w.1 a 2 with
  | none => rfl
  | some q =>
    obtain ⟨n, f⟩ := q
    simp only [Option.bind_some, ← ixb_if]
    by_cases hc : i < 0 ∨ n ≤ i.toNatClampNeg
    · rw [if_pos hc, if_pos hc]
    · rw [if_neg hc, if_neg hc]
theorem r_bast {a : Nat} {i x : Int32} (h : xat y pc = some (pc, .bastore, 1, [])) : rx xs d y pc lv (.int x :: .int i :: .ref a :: st) w = (xai w.1 a 2).bind (fun q => if ixb i q.1 = true then rx xs d y (pc + 1) lv st (w.1.set a (.inl (2, q.1, .inl (upd q.2 i.toNatClampNeg (vp_nar .boolean x)))), w.2) else none) := by
  rw [rx_at h]
  simp only [xi]
  cases xai w.1 a 2 with
  | none => rfl
  | some q =>
    obtain ⟨n, f⟩ := q
    simp only [Option.bind_some, ← ixb_if]
    by_cases hc : i < 0 ∨ n ≤ i.toNatClampNeg
    · rw [if_pos hc, if_pos hc]
    · rw [if_neg hc, if_neg hc]
theorem r_lald {a : Nat} {i : Int32} (h : xat y pc = some (pc, .laload, 1, [])) : rx xs d y pc lv (.int i :: .ref a :: st) w = (xal w.1 a 1).bind (fun q => if ixb i q.1 = true then rx xs d y (pc + 1) lv (.long (q.2 i.toNatClampNeg) :: st) w else none) := by
  rw [rx_at h]
  simp only [xi]
  cases xal w.1 a 1 with
  | none => rfl
  | some q =>
    obtain ⟨n, f⟩ := q
    simp only [Option.bind_some, ← ixb_if]
    by_cases hc : i < 0 ∨ n ≤ i.toNatClampNeg
    · rw [if_pos hc, if_pos hc]
    · rw [if_neg hc, if_neg hc]
theorem r_last {a : Nat} {i : Int32} {x : Int64} (h : xat y pc = some (pc, .lastore, 1, [])) : rx xs d y pc lv (.long x :: .int i :: .ref a :: st) w = (xal w.1 a 1).bind (fun q => if ixb i q.1 = true then rx xs d y (pc + 1) lv st (w.1.set a (.inl (1, q.1, .inr (.inl (vp_updL q.2 i.toNatClampNeg x)))), w.2) else none) := by
  rw [rx_at h]
  simp only [xi]
  cases xal w.1 a 1 with
  | none => rfl
  | some q =>
    obtain ⟨n, f⟩ := q
    simp only [Option.bind_some, ← ixb_if]
    by_cases hc : i < 0 ∨ n ≤ i.toNatClampNeg
    · rw [if_pos hc, if_pos hc]
    · rw [if_neg hc, if_neg hc]
theorem r_aald {a : Nat} {i : Int32} (h : xat y pc = some (pc, .aaload, 1, [])) : rx xs d y pc lv (.int i :: .ref a :: st) w = (xaq w.1 a 3).bind (fun q => if ixb i q.1 = true then rx xs d y (pc + 1) lv (va_rf (q.2 i.toNatClampNeg) :: st) w else none) := by
  rw [rx_at h]
  simp only [xi]
  cases xaq w.1 a 3 with
  | none => rfl
  | some q =>
    obtain ⟨n, f⟩ := q
    simp only [Option.bind_some, ← ixb_if]
    by_cases hc : i < 0 ∨ n ≤ i.toNatClampNeg
    · rw [if_pos hc, if_pos hc]
    · rw [if_neg hc, if_neg hc]
theorem r_alen {a : Nat} (h : xat y pc = some (pc, .arraylength, 1, [])) : rx xs d y pc lv (.ref a :: st) w = (xlen w.1 a).bind (fun n => rx xs d y (pc + 1) lv (.int (Int32.ofNat n) :: st) w) := by
  rw [rx_at h]
  simp only [xi]
  cases xlen w.1 a <;> rfl
theorem r_if {P : Prop} {t f : Nat} (hp : Decidable P) : rx xs d y (if decide P = true then t else f) lv st w = if P then rx xs d y t lv st w else rx xs d y f lv st w := by
  by_cases h : P <;> simp [h]
theorem r_ifn {P : Prop} {t f : Nat} (hp : Decidable P) : rx xs d y (if decide (¬ P) = true then t else f) lv st w = if P then rx xs d y f lv st w else rx xs d y t lv st w := by
  by_cases h : P <;> simp [h]
theorem r_ifl {a b : Int32} {t f : Nat} : rx xs d y (if decide (b ≤ a) = true then t else f) lv st w = if a < b then rx xs d y f lv st w else rx xs d y t lv st w := by
  by_cases h : a < b
  · rw [if_pos h, if_neg]
    simp only [decide_eq_true_eq]
    exact Int32.not_le.mpr h
  · rw [if_neg h, if_pos]
    simp only [decide_eq_true_eq]
    exact Int32.not_lt.mp h
theorem r_callV {ix y' n li z ci a : Nat} {As rest : List Value} (h : xat y pc = some (pc, .invokevirtual ix, 3, [y', n, li, z, ci])) (hh : xhh y = []) (hn : As.length = n) : rx xs d y pc lv (As.reverse ++ .ref a :: rest) w = if xis w.1 a ci = true ∧ xcats rest ≤ 8 then xk (fun v w' => rx xs d y (pc + 3) lv (v.toList ++ rest) w') (ev d y' (.ref a :: As) w) else none := by
  subst hn
  rw [rx_at h]
  simp only [xi, ← List.length_reverse (as := As), List.drop_left, List.take_left, List.reverse_reverse]
  by_cases hc : xis w.1 a ci = true ∧ xcats rest ≤ 8
  · rw [if_pos hc, if_pos hc]
    simp only [xcal, hh, xhan]
    cases ev d y' (.ref a :: As) w with
    | none => rfl
    | some q => obtain ⟨r, w'⟩ := q; cases r <;> rfl
  · rw [if_neg hc, if_neg hc]
theorem r_callS {ix y' n li z ci : Nat} {As rest : List Value} (h : xat y pc = some (pc, .invokestatic ix, 3, [y', n, li, z, ci])) (hh : xhh y = []) (hn : As.length = n) : rx xs d y pc lv (As.reverse ++ rest) w = if xcats rest ≤ 8 then xk (fun v w' => rx xs d y (pc + 3) lv (v.toList ++ rest) w') (ev d y' As w) else none := by
  subst hn
  rw [rx_at h]
  simp only [xi, ← List.length_reverse (as := As), List.drop_left, List.take_left, List.reverse_reverse, List.length_append, Nat.le_add_right, true_and]
  by_cases hc : xcats rest ≤ 8
  · rw [if_pos hc, if_pos hc]
    simp only [xcal, hh, xhan]
    cases ev d y' As w with
    | none => rfl
    | some q => obtain ⟨r, w'⟩ := q; cases r <;> rfl
  · rw [if_neg hc, if_neg hc]
theorem r_callI {ix y' n li z ci a : Nat} {As rest : List Value} (h : xat y pc = some (pc, .invokespecial ix, 3, [y', n, li, z, ci])) (hh : xhh y = []) (hn : As.length = n) : rx xs d y pc lv (As.reverse ++ .ref a :: rest) w = if xcats rest ≤ 8 then xk (fun v w' => rx xs d y (pc + 3) lv (v.toList ++ rest) w') (ev d y' (.ref a :: As) w) else none := by
  subst hn
  rw [rx_at h]
  simp only [xi, ← List.length_reverse (as := As), List.drop_left, List.take_left, List.reverse_reverse]
  by_cases hc : xcats rest ≤ 8
  · rw [if_pos hc, if_pos hc]
    simp only [xcal, hh, xhan]
    cases ev d y' (.ref a :: As) w with
    | none => rfl
    | some q => obtain ⟨r, w'⟩ := q; cases r <;> rfl
  · rw [if_neg hc, if_neg hc]
end
