/-! THE CLAIM OUT OF ONE WALK OF THE LAW'S BODY. Your part is whole_start (and what it stands on); all else here is the same for every law, but numbers. -/
def R_law : String := "LaunchCountdownLaw"
def lw_P (b : Addr) (xs : List Int32) (args : Array Value) (s : State) : Prop := args = #[.ref b] ∧ s.IntsAt b xs ∧ xs.length ≤ 2048 ∧ (Jvm.Cond.and given_1 narrow_1).before args s = true
/-- what a walk over the start with the record d0 says of its end, said of the start itself -/
theorem lw_closed {s t : State} {o : Outcome} {d0 : Drawn} {L : List Loc} {k n : Nat} (hd0 : s.drawn.sameBut d0 lw_cs) (hv : ∃ v, o = .returned v) (hW : (s.setDrawn d0).WarmedH t.vm) (hs : (s.setDrawn d0).sameButNew ({ t with vm := s.vm } : State) L k n) : State.butDraws s t lw_cs (fun t1 => Framed s o t1 L k n) := by
  have h2 : t.drawn = d0 := congrArg State.drawn hs.1
  refine ⟨⟨hv, hW, State.sameButNew.setDrawn hs s.drawn⟩, ?_, by decide⟩
  rw [h2]
  exact hd0
def lw_Q (_ : Array Value) (s : State) (o : Outcome) (t : State) : Prop := o = .returned (some (.int 1)) ∧ State.butDraws s t lw_cs (fun t1 => Framed s o t1 [] 603531 7285512)
def lw_Z (below : List Frame) (a : Array Value) (s : State) : State → Prop := fun t => ∃ o, t.status = .running ∧ Ended t below o ∧ lw_Q a s o t
/-- the law's own end, with 1 on the stack, nothing written that was there before, its room as the claim has it; d0: the record of draws at this point (at the entry s.drawn: begin with 'refine W.base ?_' and 'have hd0 := Drawn.sameBut.refl s.drawn lw_cs') -/
theorem lw_ret {p : Program} {l : Launch} {e : Env} {s : State} {m : MethodId} {below : List Frame} {meth : Method} {c : Code} {b : Nat} {d0 : Drawn} (hd0 : s.drawn.sameBut d0 lw_cs) (hx : p.tables.exec = Jvm.exec) (hb : c.code = code) (hr : meth.sig.returnType = ret) (hlocks : meth.locks = false) {pc : Nat} {H : Heap} {ls : Array Slot} (hdg : decode code pc = .ok (.ireturn, 1)) : W p l e room_1 (s.setDrawn d0) m #[Value.ref b] below meth c H [] 603531 7285512 (lw_Z below #[Value.ref b] s) (F0 m pc ls [.int 1]) := by
  intro T hT X
  obtain ⟨fs, hret, hrun, hended, hW, hframe⟩ := X.leave (v := some (.int 1)) (hlocks := hlocks) (fun h => by rw [hr] at h; cases h)
  have hmeth' : T.vm.method? m = some meth := X.method'
  refine ⟨T.setFrames fs, ?_, .returned (some (.int 1)), hrun, hended, rfl, lw_closed hd0 ⟨_, rfl⟩ hW hframe⟩
  jvm_step X.here [X.here.top, hx, hb, hdg, hmeth', hr, ret, narrow_b1]
  (try refine ⟨rfl, ?_⟩); (try refine ⟨rfl, ?_⟩)
  first | (intro acts; rw [hret _ acts rfl rfl rfl]) | rw [hret _ _ rfl rfl rfl]
  exact Steps.refl _
/-- what holds at the law's entry: the machine, the code, the tables' words (any of lw_tbl by 'hts w (by decide +kernel)'), the script of L ints xs at the cell b, what the Statement gives of the start (any of its parts by flat_of_before) -/
def lw_At (p : Program) (s : State) (m : MethodId) (meth : Method) (c : Code) (b L : Nat) (xs : Nat → Int32) : Prop :=
  p.tables.exec = Jvm.exec ∧ c.code = code ∧ meth.sig.returnType = ret ∧ c.maxLocals = 9 ∧ s.vm.findClass R_law = some m.cls ∧ (∀ w ∈ lw_tbl, w.before #[Value.ref b] s = true) ∧ va_X b L xs s s.heap ∧ b < s.heap.size ∧ meth.locks = false ∧ (Jvm.Cond.and given_1 narrow_1).before #[Value.ref b] s = true


theorem xinst : xcls.zipIdx.all (fun q => xword ([311, 221, 167, 100, 201, 161, 186, 92, 1056].getD q.2 0) (.instantiable q.1.1 q.1.2.length)) = true := by decide +kernel
theorem xw_ai : Cond.arrayClass .int ∈ xgood := xword_in (i := 159) (by decide +kernel)
theorem xw_al : Cond.arrayClass .long ∈ xgood := xword_in (i := 1478) (by decide +kernel)
theorem xw_az : Cond.arrayClass .boolean ∈ xgood := xword_in (i := 1141) (by decide +kernel)
theorem xw_ao : Cond.arrayOver (.object "LaunchCountdown$State") ∈ lw_tbl := List.mem_of_getElem? (i := 309) (by decide +kernel)
theorem xw_t1 : Cond.laysStatic Bundle.tN "UNASSIGNED_STACK" Bundle.steD ∈ lw_tbl := List.mem_of_getElem? (i := 558) (by decide +kernel)
theorem xw_t2 : Cond.laysStatic Bundle.tN "SUPPRESSED_SENTINEL" Bundle.listD ∈ lw_tbl := List.mem_of_getElem? (i := 560) (by decide +kernel)
theorem xw_t3 : Cond.initialized Bundle.tN ∈ lw_tbl := List.mem_of_getElem? (i := 83) (by decide +kernel)

theorem xarr {s : State} {args : Array Value} {ty : FieldType} (h : (Cond.arrayClass ty).before args s = true) : ∃ cA, ArrOfT s cA ty ∧ s.vm.findClass ("[" ++ ty.toString) = some cA := by
  obtain ⟨cA, kA, comp, h1, h2, h3⟩ := Cond.arrayClass_spec h
  exact ⟨cA, fun n z => ⟨fun k h => (by cases h), kA, h2, comp, h3⟩, h1⟩
theorem xarrO {s : State} {args : Array Value} {C : String} (h : (Cond.arrayOver (.object C)).before args s = true) : ∃ cA, ArrOfT s cA (.object C) ∧ va_RA s cA (.object C) := by
  obtain ⟨comp, cA, kA, h1, h2, h3, h4, h5⟩ := Cond.arrayOver_spec h
  exact ⟨cA, fun n z => ⟨fun k h => (by cases h), kA, h3, comp, h4⟩, kA, comp, h3, h4, h1, h5⟩
theorem xknown {s : State} {args : Array Value} (hts : ∀ w ∈ xgood, w.before args s = true) : ∃ D : va_G, ∀ (c : Nat) (q : vw_C), xcl[c]? = some q → u_Kn s q.1 q.2.1 q.2.2 (D.1 c) (D.2 c) := by
  have h : ∀ c : Nat, ∃ z : ClassId × (Nat → Nat), ∀ q : vw_C, xcl[c]? = some q → u_Kn s q.1 q.2.1 q.2.2 z.1 z.2 := by
    intro c
    cases hc : xcls[c]? with
    | none => exact ⟨(0, fun _ => 0), fun q hq => by unfold xcl at hq; rw [List.getElem?_map, hc] at hq; cases hq⟩
    | some r =>
      have hi : (Cond.instantiable r.1 r.2.length).before args s = true := hts _ (xword_in (List.all_eq_true.mp xinst (r, c) (List.mem_zipIdx_iff_getElem?.mpr hc)))
      obtain ⟨cC, iS, hKn⟩ := u_known (C := r.1) (T := xT r.1 r.2) (N := r.2.length) hts (xlin_all c r hc) hi
      refine ⟨(cC, iS), fun q hq => ?_⟩
      rw [xcl_get hc] at hq
      cases hq
      exact hKn
  exact ⟨(fun c => (Classical.choose (h c)).1, fun c => (Classical.choose (h c)).2), fun c q hq => Classical.choose_spec (h c) q hq⟩
theorem xenv0 {s : State} {b : Nat} (hts : ∀ w ∈ lw_tbl, w.before #[Value.ref b] s = true) (hgv : (Jvm.Cond.and given_1 narrow_1).before #[Value.ref b] s = true) : ∃ (D : va_G) (dA : Nat → ClassId), xEnv D dA s.heap.size s s.heap := by
  have htg : ∀ w ∈ xgood, w.before #[Value.ref b] s = true := fun w hw => hts w (List.mem_filter.mp hw).1
  have hfl := flat_of_before _ hgv
  obtain ⟨D, hD⟩ := xknown htg
  obtain ⟨a0, f0, g0⟩ := xarr (htg _ xw_ai)
  obtain ⟨a1, f1, g1⟩ := xarr (htg _ xw_al)
  obtain ⟨a2, f2, g2⟩ := xarr (htg _ xw_az)
  obtain ⟨a3, f3, g3⟩ := xarrO (hts _ xw_ao)
  refine ⟨D, fun k => if k = 0 then a0 else if k = 1 then a1 else if k = 2 then a2 else a3, ⟨hD, fun k q hk => ?_⟩, fun w hw hs => va_Nw.of (xspecial_tab hs) (hts w hw), fun own k tx hm => ?_, va_AO.of (hts _ xw_ao), fun i j hi hj hn => ?_, vx_Zqof (hts _ xw_t1) (hts _ xw_t3) (hfl _ (by decide +kernel)) (fun a ha => Nat.not_le.mpr ha), vx_Zqof (hts _ xw_t2) (hts _ xw_t3) (hfl _ (by decide +kernel)) (fun a ha => Nat.not_le.mpr ha)⟩
  · match k, hk with
    | 0, hk => cases hk; exact ⟨f0, g0⟩
    | 1, hk => cases hk; exact ⟨f1, g1⟩
    | 2, hk => cases hk; exact ⟨f2, g2⟩
    | 3, hk => cases hk; exact ⟨f3, g3⟩
    | k + 4, hk => simp [xtys] at hk
  · have h1 := hts _ hm
    have hcur : ∃ cur, s.vm.findClass own = some cur := by
      have h2 := h1
      simp only [Cond.before, Cond.holds, Cond.value] at h2
      cases hc : s.vm.findClass own with
      | none => simp [hc] at h2
      | some cur => exact ⟨cur, rfl⟩
    obtain ⟨cur, hcur⟩ := hcur
    obtain ⟨k9, cf9, i9, a9, -, -, -, -, -, hev⟩ := Cond.stringRef_spec hcur h1
    have h3 : (Cond.stringRef own k tx).before #[] s = true := by
      have h4 := h1
      simp only [Cond.before, Cond.holds, Cond.value, State.names, State.poolOf?, State.resolvedAt?] at h4 ⊢
      exact h4
    exact ⟨a9, h3, (Term.string_eval_of_vm (args := #[]) (args' := #[Value.ref b]) (U := s) (V := s) rfl).trans hev⟩

  · match i, j, hi, hj, hn with
    | 0, 0, _, _, hn => exact absurd rfl hn
    | 0, 1, _, _, _ => exact va_Nc.of (hfl (Cond.not (.castable "java/lang/IllegalArgumentException" "java/lang/IndexOutOfBoundsException")) (by decide +kernel))
    | 0, 2, _, _, _ => exact va_Nc.of (hfl (Cond.not (.castable "java/lang/IllegalArgumentException" "java/lang/IllegalStateException")) (by decide +kernel))
    | 1, 0, _, _, _ => exact va_Nc.of (hfl (Cond.not (.castable "java/lang/IndexOutOfBoundsException" "java/lang/IllegalArgumentException")) (by decide +kernel))
    | 1, 1, _, _, hn => exact absurd rfl hn
    | 1, 2, _, _, _ => exact va_Nc.of (hfl (Cond.not (.castable "java/lang/IndexOutOfBoundsException" "java/lang/IllegalStateException")) (by decide +kernel))
    | 2, 0, _, _, _ => exact va_Nc.of (hfl (Cond.not (.castable "java/lang/IllegalStateException" "java/lang/IllegalArgumentException")) (by decide +kernel))
    | 2, 1, _, _, _ => exact va_Nc.of (hfl (Cond.not (.castable "java/lang/IllegalStateException" "java/lang/IndexOutOfBoundsException")) (by decide +kernel))
    | 2, 2, _, _, hn => exact absurd rfl hn
set_option maxHeartbeats 4000000 in
/-- THE LAW, from its entry, out of a run of the small machine -/
theorem start_of {p : Program} {e : Env} {s : State} {m : MethodId} {below : List Frame} {meth : Method} {c : Code} (l : Launch) (hflags : l.flags = flags0) {b L : Nat} {xs : Nat → Int32} (C0 : lw_At p s m meth c b L xs)
    {n : Nat} {w' : xW} (hrun : xrun (L + 1, xs) 10 (ev 10) iL_law n (0, xent 9 [.float 0], [], ([], 0, 0)) = some (.inl (some (.int 1)), w')) (hw1 : w'.2.1 ≤ 603531) (hw2 : w'.2.2 ≤ 7285512) : W p l e room_1 s m #[Value.ref b] below meth c s.heap [] 0 0 (lw_Z below #[Value.ref b] s) (entryFrame m ([Value.ref b] : List Value).toArray 9) := by
  obtain ⟨hx, hb, hr, hml, hown, hts, hX, hbl, hlocks, hgv⟩ := C0
  have htr : l.stackTraces = false := by unfold Launch.stackTraces; rw [hflags]; decide
  obtain ⟨D, dA, henv⟩ := xenv0 hts hgv
  have htg : ∀ w ∈ xgood, w.before #[Value.ref b] s = true := fun w hw => hts w (List.mem_filter.mp hw).1
  have CX : xCtx p l room_1 s m #[Value.ref b] meth c D dA s.heap.size iL_law 10 0 := ⟨hx, hb, hml, hown, htg, hlocks, hr, fun h9 => absurd h9 (by decide), henv, Nat.le_refl _, Nat.le_refl _, htr, Nat.le_of_ble_eq_true rfl, Nat.le_of_ble_eq_true rfl⟩
  have hscr : xScr (L + 1, xs) s.heap.size b s := Or.inr ⟨hX, hbl, Nat.not_le.mpr hbl⟩
  have hall : ∀ q ∈ xins iL_law, xokI iL_law q = true := fun q hq => List.all_eq_true.mp xok_law q hq
  have hG := xsim (e := e) (below := below) (Q := lw_Z below #[Value.ref b] s) (b := b) (s0 := 0) CX hscr hall (ev'_cnt _ 10) (xmet htr D dA s.heap.size b 10) (.inl (some (.int 1))) w' hw1 hw2 (fun q lv st w hq hlen hxi hc0 hs0 => ?_) n _ hrun (Nat.le_refl _) (Nat.le_refl _)
  · have hW := hG s.heap [] _ (fun k q hk => by simp [xws] at hk) va_S.rf (xentry (as := [.float 0]) (nL := 9) (Nat.le_of_ble_eq_true rfl))
    rw [show ([Value.ref b] : List Value).toArray = (([.float 0] : List Value).map (xv s.heap.size b)).toArray from rfl, lg_entry_eq]
    exact hW
  · obtain ⟨pc, i, len, aux⟩ := q
    have hok := hall _ hq
    have hdg : decode code pc = .ok (i, len) := by
      simp only [xokI, Bool.and_eq_true] at hok
      have h1 : decode (xcode iL_law) pc = .ok (i, len) := by simpa [xdec] using hok.1
      exact h1
    have h2 := hxi
    cases i with
    | ireturn =>
      cases (beq_iff_eq.mp hlen : len = 1)
      simp only [xi] at hxi
      split at hxi
      · rename_i v
        split at hxi
        · cases hxi
          intro H locs ls hR hS hl
          refine va_forget (fun q hq => hS.2.2 q hq) ?_
          refine W.widen (k := 603531) (n := 7285512) (by show w'.2.1 - 0 ≤ _; omega) (by show w'.2.2 - 0 ≤ _; omega) ?_
          refine W.base ?_
          exact lw_ret (Drawn.sameBut.refl s.drawn lw_cs) hx hb hr hlocks hdg
        · cases hxi
      · cases hxi
    | lreturn =>
      exfalso
      simp only [xi] at hxi
      split at hxi
      · split at hxi <;> cases hxi
      · cases hxi
    | dreturn =>
      exfalso
      simp only [xi] at hxi
      split at hxi
      · split at hxi <;> cases hxi
      · cases hxi
    | return_ =>
      exfalso
      simp only [xi] at hxi
      split at hxi
      · split at hxi <;> cases hxi
      · cases hxi
    | new ix =>
      exfalso
      simp only [xi] at hxi
      split at hxi
      · split at hxi <;> cases hxi
      · split at hxi <;> cases hxi
      · cases hxi
    | invokevirtual ix =>
      exfalso
      simp only [xi] at hxi
      split at hxi
      · split at hxi
        · split at hxi
          · exact xcal_inr hxi
          · cases hxi
        · cases hxi
      · cases hxi
    | invokestatic ix =>
      exfalso
      simp only [xi] at hxi
      split at hxi
      · split at hxi
        · exact xcal_inr hxi
        · cases hxi
      · split at hxi
        · split at hxi
          · split at hxi <;> cases hxi
          · cases hxi
        · cases hxi
      · cases hxi
    | invokespecial ix =>
      exfalso
      simp only [xi] at hxi
      split at hxi
      · split at hxi
        · split at hxi
          · exact xcal_inr hxi
          · cases hxi
        · cases hxi
      · split at hxi
        · split at hxi <;> cases hxi
        · cases hxi
      · cases hxi
    | _ =>
      exfalso
      simp only [xi] at hxi
      first
        | (cases hxi; done)
        | (split at hxi <;> first
            | (cases hxi; done)
            | (split at hxi <;> first
                | (cases hxi; done)
                | (split at hxi <;> first
                    | (cases hxi; done)
                    | (split at hxi <;> first | (cases hxi; done) | (split at hxi <;> cases hxi)))))
