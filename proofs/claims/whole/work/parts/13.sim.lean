/-! ends of methods; whole runs; the contracts of all methods -/
theorem xspecial_tab {w : Cond} (h : xspecial w = true) : w.onTables = true := by
  cases w <;> first | rfl | cases h
theorem xthrow_words {args : Array Value} {s : State} (hts : ∀ w ∈ xgood, w.before args s = true) (hsp : ∀ w ∈ lw_tbl, xspecial w = true → va_Nw w s) {e : Nat} (he : e = 100 ∨ e = 101 ∨ e = 102) :
    (∀ w ∈ vx_atS "LaunchCountdown" (xctor e) (xexn (e - 100)) ["java/lang/RuntimeException", "java/lang/Exception"], w.before args s = true) ∧ (∀ w ∈ vx_atS "LaunchCountdown" (xctor e) (xexn (e - 100)) ["java/lang/RuntimeException", "java/lang/Exception"], vx_ot w = true) ∧ Bundle.fit (xexn (e - 100)) = true := by
  have gen : ∀ (L : List Cond), (∀ w ∈ L.filter goodWord, w ∈ lw_tbl) → (L.filter (fun w => !goodWord w)).all (fun w => match w with | .declares _ => decide (w ∈ lw_tbl) | .castable _ _ => decide (w ∈ lw_tbl) | _ => false) = true → ∀ w ∈ L, w.before args s = true := by
    intro L h1 h2
    refine vx_hat (B := lw_tbl.filter xspecial) (fun w hw => hts w (List.mem_filter.mpr ⟨h1 w hw, (List.mem_filter.mp hw).2⟩)) (fun w hw => ?_) (fun w hw => ?_)
    · have h3 := List.all_eq_true.mp h2 w hw
      split at h3
      · exact List.mem_filter.mpr ⟨by simpa using h3, rfl⟩
      · exact List.mem_filter.mpr ⟨by simpa using h3, rfl⟩
      · cases h3
    · obtain ⟨g1, g2⟩ := List.mem_filter.mp hw
      exact va_Nw.use (xspecial_tab g2) (hsp w g1 g2)
  rcases he with rfl | rfl | rfl
  · exact ⟨gen _ xth_g0 xth_b0, fun w hw => List.all_eq_true.mp xth_o0 w hw, xth_f0⟩
  · exact ⟨gen _ xth_g1 xth_b1, fun w hw => List.all_eq_true.mp xth_o1 w hw, xth_f1⟩
  · exact ⟨gen _ xth_g2 xth_b2, fun w hw => List.all_eq_true.mp xth_o2 w hw, xth_f2⟩
theorem xcal_inr {orc : xO} {y pc y' : Nat} {lv : List (Option Value)} {As rest : List Value} {w : xW} {q : xR × xW} (h : xcal orc y pc lv y' As rest w = some (.inr q)) : False := by
  unfold xcal at h
  split at h
  · cases h
  · split at h
    · split at h
      · split at h <;> cases h
      · split at h <;> cases h
      · cases h
    · cases h
  · cases h
theorem xcal_cnt {orc : xO} (hm : ∀ (y : Nat) (as : List Value) (w : xW) (r : xR) (w' : xW), orc y as w = some (r, w') → w.2.1 ≤ w'.2.1 ∧ w.2.2 ≤ w'.2.2) {y pc y' : Nat} {lv : List (Option Value)} {As rest : List Value} {w : xW} {k : xC} (h : xcal orc y pc lv y' As rest w = some (.inl k)) : w.2.1 ≤ k.2.2.2.2.1 ∧ w.2.2 ≤ k.2.2.2.2.2 := by
  unfold xcal at h
  split at h
  · rename_i ho
    cases h
    exact hm _ _ _ _ _ ho
  · rename_i ho
    split at h
    · split at h
      · split at h
        · cases h
          exact hm _ _ _ _ _ ho
        · cases h
      · split at h
        · cases h
          exact hm _ _ _ _ _ ho
        · cases h
      · cases h
    · cases h
  · cases h
section XSM
variable {p : Program} {l : Launch} {e : Env} {R : Room} {s : State} {m : MethodId} {args : Array Value} {below : List Frame} {meth : Method} {c : Code} {Q : State → Prop}
variable {D : va_G} {dA : Nat → ClassId} {B b y d c0 s0 : Nat} {xs : Nat × (Nat → Int32)} {orc : xO}
set_option maxHeartbeats 4000000 in
set_option maxRecDepth 100000 in
theorem xfin (C0 : xCtx p l R s m args meth c D dA B y d c0) (h69 : (xmi y).length = 6) {pc len : Nat} {i : Instr} {aux : List Nat} {lv : List (Option Value)} {st : List Value} {w w' : xW} {r : xR}
    (hok : xokI y (pc, i, len, aux) = true) (hlen : xokL (pc, i, len, aux) = true) (h : xi xs d orc y i aux pc lv st w = some (.inr (r, w'))) (hc0 : c0 ≤ w.2.1) (hs0 : s0 ≤ w.2.2) (hRc : w'.2.1 - c0 ≤ R.cells) (hRs : w'.2.2 - s0 ≤ R.slots) :
    xG p l e R s m args below meth c (vx_MQ below (xQc D dA B b r w') (xXC D dA B b r w') args s (w'.2.1 - c0) (w'.2.2 - s0) (xA B)) D dA B b y c0 s0 (pc, lv, st, w) := by
  obtain ⟨hx, hb, hml, hown, hts, hlocks, hr, hnt, henv, hB, hB2, htr, hRf, hRl⟩ := C0
  have hdec : xdec y pc i len = true := by
    simp only [xokI, Bool.and_eq_true] at hok
    exact hok.1
  have hdg : decode (xcode y) pc = .ok (i, len) := by simpa [xdec] using hdec
  cases i with
  | ireturn =>
    cases (beq_iff_eq.mp hlen : len = 1)
    simp only [xi] at h
    split at h
    · rename_i v
      split at h
      · rename_i hret
        cases h
        intro H locs ls hR hS hl
        rcases hret with h1 | ⟨h1, h2⟩
        · exact vx_ret (W.zret (ty := .int) hx hb (hr.trans h1) rfl (fun t ht hW => ⟨⟨some (.int v), rfl, rfl, by rw [ht]; exact hR⟩, hS.F ht⟩) hS.2.2 hdg hlocks)
        · exact vx_ret (W.zret (ty := .boolean) hx hb (hr.trans h1) (by rcases h2 with rfl | rfl <;> rfl) (fun t ht hW => ⟨⟨some (.int v), rfl, rfl, by rw [ht]; exact hR⟩, hS.F ht⟩) hS.2.2 hdg hlocks)
      · cases h
    · cases h
  | lreturn =>
    cases (beq_iff_eq.mp hlen : len = 1)
    simp only [xi] at h
    split at h
    · rename_i v
      split at h
      · rename_i hret
        cases h
        intro H locs ls hR hS hl
        exact vx_ret (W.lret hx hb (hr.trans hret) (fun t ht hW => ⟨⟨some (.long v), rfl, rfl, by rw [ht]; exact hR⟩, hS.F ht⟩) hS.2.2 hdg hlocks)
      · cases h
    · cases h
  | dreturn =>
    cases (beq_iff_eq.mp hlen : len = 1)
    simp only [xi] at h
    split at h
    · rename_i v
      split at h
      · rename_i hret
        cases h
        intro H locs ls hR hS hl
        exact vx_ret (W.dret hx hb (hr.trans hret) (fun t ht hW => ⟨⟨some (.double v), rfl, rfl, by rw [ht]; exact hR⟩, hS.F ht⟩) hS.2.2 hdg hlocks)
      · cases h
    · cases h
  | return_ =>
    cases (beq_iff_eq.mp hlen : len = 1)
    simp only [xi] at h
    split at h
    · split at h
      · rename_i hret
        cases h
        intro H locs ls hR hS hl
        exact vx_ret (W.vret hx hb (hr.trans hret) (fun t ht hW => ⟨⟨none, rfl, rfl, by rw [ht]; exact hR⟩, hS.F ht⟩) hS.2.2 hdg hlocks)
      · cases h
    · cases h
  | new ix =>
    cases (beq_iff_eq.mp hlen : len = 3)
    simp only [xi] at h
    split at h
    · split at h <;> cases h
    · rename_i en l1 l2 si wide ic lst
      split at h
      · rename_i hcond
        obtain ⟨hd, hhh, hcat⟩ := hcond
        cases h
        intro H locs ls hR hS hl
        simp only [xokI, Bool.and_eq_true, Bool.or_eq_true, beq_iff_eq] at hok
        obtain ⟨-, ⟨⟨⟨⟨⟨⟨he, how⟩, hic⟩, hw1⟩, hw2⟩, hstr⟩, hd3⟩, hrest⟩ := hok
        have he' : en = 100 ∨ en = 101 ∨ en = 102 := by omega
        rw [how] at hown hw1 hstr
        subst hic
        obtain ⟨t1, t2, t3⟩ := xthrow_words hts henv.2.1 he'
        obtain ⟨tx, hsm⟩ : ∃ tx, Cond.stringRef "LaunchCountdown" si tx ∈ lw_tbl := by
          unfold xstr at hstr
          split at hstr
          · rename_i o k' tx hlk
            simp only [Bool.and_eq_true, beq_iff_eq] at hstr
            refine ⟨tx, ?_⟩
            rw [← hstr.1, ← hstr.2]
            exact List.mem_of_getElem? hlk
          · cases hstr
        obtain ⟨sa, hsa⟩ := henv.2.2.1 _ _ _ hsm
        have hgood : ∀ z ∈ Cond.classLink "LaunchCountdown" ix (xexn (en - 100)) :: Cond.initialized (xexn (en - 100)) :: vx_atS "LaunchCountdown" (xctor en) (xexn (en - 100)) ["java/lang/RuntimeException", "java/lang/Exception"], vx_ot z = true := by
          intro z hz
          rcases List.mem_cons.mp hz with rfl | hz
          · rfl
          · rcases List.mem_cons.mp hz with rfl | hz
            · rfl
            · exact t2 z hz
        have hout : ∀ pc9, ∀ x ∈ c.exceptionTable.toList, covers x pc9 = false := by
          intro pc9 x hx9
          rw [(hnt h69).2, hhh] at hx9
          cases hx9
        have hxx : ∀ t : State, s.vm.Alike t.vm → H.size ≤ t.heap.size → (∀ q : Nat, q < H.size → t.heap[q]? = H[q]?) → xXC D dA B b (.inr (xexn (en - 100))) (w.1, w.2.1 + 1, w.2.2 + 6) (xexn (en - 100)) s t := by
          intro t _ hsz hk
          exact ⟨rfl, va_P.kept hR (fun k x hx => hk x.1 ((hR k x hx).lt)), ⟨Nat.le_trans hS.1 hsz, fun q h1 h2 => (hk q (Nat.lt_of_lt_of_le h1 hS.1)).trans (hS.2.1 q h1 h2)⟩⟩
        have hd3 : decode (xcode y) (pc + 3) = .ok (.dup, 1) := by simpa [xdec] using hd3
        simp only at hRc hRs
        by_cases hwide : wide = 0
        · rw [if_pos hwide] at hrest
          simp only [Bool.and_eq_true] at hrest
          obtain ⟨⟨r1, r2⟩, r3⟩ := hrest
          exact vx_throwS (names := ["java/lang/RuntimeException", "java/lang/Exception"]) hx hb htr hown t3 xth_n (hts _ (xword_in hw1)) (hts _ (xword_in hw2)) hsa t1 hgood henv.2.2.2.2.2.1 henv.2.2.2.2.2.2 hS (hl.1.trans hml.symm) hdg hd3 (by simpa [xdec] using r1) (by simpa [xdec] using r2) (by simpa [xdec] using r3) (hout _) (by show 2 + 3 < _; omega) (by rw [xv_cats]; show xcats st + (13 * 3 + 43) ≤ _; omega) (by show w.2.1 - c0 + 1 ≤ _; omega) (by show w.2.2 - s0 + 6 ≤ _; omega) hlocks hxx hS.2.2 (by show w.2.1 - c0 + 1 ≤ w.2.1 + 1 - c0; omega) (by show w.2.2 - s0 + 6 ≤ w.2.2 + 6 - s0; omega)
        · rw [if_neg hwide] at hrest
          simp only [Bool.and_eq_true] at hrest
          obtain ⟨⟨r1, r2⟩, r3⟩ := hrest
          exact vx_throwSW (names := ["java/lang/RuntimeException", "java/lang/Exception"]) hx hb htr hown t3 xth_n (hts _ (xword_in hw1)) (hts _ (xword_in hw2)) hsa t1 hgood henv.2.2.2.2.2.1 henv.2.2.2.2.2.2 hS (hl.1.trans hml.symm) hdg hd3 (by simpa [xdec] using r1) (by simpa [xdec] using r2) (by simpa [xdec] using r3) (hout _) (by show 2 + 3 < _; omega) (by rw [xv_cats]; show xcats st + (13 * 3 + 43) ≤ _; omega) (by show w.2.1 - c0 + 1 ≤ _; omega) (by show w.2.2 - s0 + 6 ≤ _; omega) hlocks hxx hS.2.2 (by show w.2.1 - c0 + 1 ≤ w.2.1 + 1 - c0; omega) (by show w.2.2 - s0 + 6 ≤ w.2.2 + 6 - s0; omega)
      · cases h
    · cases h
  | invokevirtual ix =>
    exfalso
    simp only [xi] at h
    split at h
    · split at h
      · split at h
        · exact xcal_inr h
        · cases h
      · cases h
    · cases h
  | invokestatic ix =>
    exfalso
    simp only [xi] at h
    split at h
    · split at h
      · exact xcal_inr h
      · cases h
    · split at h
      · split at h
        · split at h <;> cases h
        · cases h
      · cases h
    · cases h
  | invokespecial ix =>
    exfalso
    simp only [xi] at h
    split at h
    · split at h
      · split at h
        · exact xcal_inr h
        · cases h
      · cases h
    · split at h
      · split at h <;> cases h
      · cases h
    · cases h
  | _ =>
    exfalso
    simp only [xi] at h
    first
      | (cases h; done)
      | (split at h <;> first
          | (cases h; done)
          | (split at h <;> first
              | (cases h; done)
              | (split at h <;> first
                  | (cases h; done)
                  | (split at h <;> first | (cases h; done) | (split at h <;> cases h)))))
set_option maxHeartbeats 4000000 in
set_option maxRecDepth 100000 in
theorem xi_cnt (hm : ∀ (y : Nat) (as : List Value) (w : xW) (r : xR) (w' : xW), orc y as w = some (r, w') → w.2.1 ≤ w'.2.1 ∧ w.2.2 ≤ w'.2.2) {pc : Nat} {i : Instr} {aux : List Nat} {lv : List (Option Value)} {st : List Value} {w : xW} :
    (∀ k, xi xs d orc y i aux pc lv st w = some (.inl k) → w.2.1 ≤ k.2.2.2.2.1 ∧ w.2.2 ≤ k.2.2.2.2.2) ∧ (∀ r w', xi xs d orc y i aux pc lv st w = some (.inr (r, w')) → w.2.1 ≤ w'.2.1 ∧ w.2.2 ≤ w'.2.2) := by
  have rf : w.2.1 ≤ w.2.1 ∧ w.2.2 ≤ w.2.2 := ⟨Nat.le_refl _, Nat.le_refl _⟩
  cases i with
  | invokevirtual ix =>
    refine ⟨fun k h => ?_, fun r w' h => ?_⟩ <;> simp only [xi] at h
    · split at h
      · split at h
        · split at h
          · exact xcal_cnt hm h
          · cases h
        · cases h
      · cases h
    · split at h
      · split at h
        · split at h
          · exact (xcal_inr h).elim
          · cases h
        · cases h
      · cases h
  | invokestatic ix =>
    refine ⟨fun k h => ?_, fun r w' h => ?_⟩ <;> simp only [xi] at h
    · split at h
      · split at h
        · exact xcal_cnt hm h
        · cases h
      · split at h
        · split at h
          · split at h
            · cases h; exact rf
            · cases h
          · cases h
        · cases h
      · cases h
    · split at h
      · split at h
        · exact (xcal_inr h).elim
        · cases h
      · split at h
        · split at h
          · split at h <;> cases h
          · cases h
        · cases h
      · cases h
  | invokespecial ix =>
    refine ⟨fun k h => ?_, fun r w' h => ?_⟩ <;> simp only [xi] at h
    · split at h
      · split at h
        · split at h
          · exact xcal_cnt hm h
          · cases h
        · cases h
      · split at h
        · split at h
          · cases h; exact rf
          · cases h
        · cases h
      · cases h
    · split at h
      · split at h
        · split at h
          · exact (xcal_inr h).elim
          · cases h
        · cases h
      · split at h
        · split at h <;> cases h
        · cases h
      · cases h
  | _ =>
    refine ⟨fun k h => ?_, fun r w' h => ?_⟩ <;> simp only [xi] at h <;> first
      | (cases h; done)
      | (cases h; exact rf)
      | (split at h <;> first
          | (cases h; done)
          | (cases h; exact rf)
          | (split at h <;> first
              | (cases h; done)
              | (cases h; exact rf)
              | (cases h; exact ⟨Nat.le_succ _, Nat.le_add_right _ _⟩)
              | (split at h <;> first
                  | (cases h; done)
                  | (cases h; exact rf)
                  | (cases h; exact ⟨Nat.le_succ _, Nat.le_add_right _ _⟩)
                  | (split at h <;> first | (cases h; done) | (cases h; exact rf) | (split at h <;> first | (cases h; done) | (cases h; exact rf))))))
theorem xrun_cnt (hm : ∀ (y : Nat) (as : List Value) (w : xW) (r : xR) (w' : xW), orc y as w = some (r, w') → w.2.1 ≤ w'.2.1 ∧ w.2.2 ≤ w'.2.2) : ∀ (n : Nat) (k : xC) (r : xR) (w' : xW), xrun xs d orc y n k = some (r, w') → k.2.2.2.2.1 ≤ w'.2.1 ∧ k.2.2.2.2.2 ≤ w'.2.2 := by
  intro n
  induction n with
  | zero => intro k r w' h; cases h
  | succ n ih =>
    intro k r w' h
    simp only [xrun, xnext] at h
    cases hq : xat y k.1 with
    | none => rw [hq] at h; cases h
    | some q =>
      rw [hq] at h
      simp only at h
      cases hz : xi xs d orc y q.2.1 q.2.2.2 k.1 k.2.1 k.2.2.1 k.2.2.2 with
      | none => rw [hz] at h; cases h
      | some z =>
        rw [hz] at h
        cases z with
        | inl k' =>
          have h1 := (xi_cnt hm).1 k' hz
          have h2 := ih k' r w' h
          exact ⟨Nat.le_trans h1.1 h2.1, Nat.le_trans h1.2 h2.2⟩
        | inr z =>
          cases h
          exact (xi_cnt hm).2 r w' hz
set_option maxHeartbeats 4000000 in
theorem xsim (C0 : xCtx p l R s m args meth c D dA B y d c0) (hscr : xScr xs B b s) (hall : ∀ q ∈ xins y, xokI y q = true) (hm : ∀ (y : Nat) (as : List Value) (w : xW) (r : xR) (w' : xW), orc y as w = some (r, w') → w.2.1 ≤ w'.2.1 ∧ w.2.2 ≤ w'.2.2) (hO : xOk l D dA B b d orc) (r : xR) (w' : xW) (hRc : w'.2.1 - c0 ≤ R.cells) (hRs : w'.2.2 - s0 ≤ R.slots)
    (hfin : ∀ (q : Nat × Instr × Nat × List Nat) (lv : List (Option Value)) (st : List Value) (w : xW), q ∈ xins y → xokL q = true → xi xs d orc y q.2.1 q.2.2.2 q.1 lv st w = some (.inr (r, w')) → c0 ≤ w.2.1 → s0 ≤ w.2.2 → xG p l e R s m args below meth c Q D dA B b y c0 s0 (q.1, lv, st, w)) :
    ∀ (n : Nat) (k : xC), xrun xs d orc y n k = some (r, w') → c0 ≤ k.2.2.2.2.1 → s0 ≤ k.2.2.2.2.2 → xG p l e R s m args below meth c Q D dA B b y c0 s0 k := by
  intro n
  induction n with
  | zero => intro k h; cases h
  | succ n ih =>
    intro k h hc0 hs0
    simp only [xrun, xnext] at h
    cases hq : xat y k.1 with
    | none => rw [hq] at h; cases h
    | some q =>
      rw [hq] at h
      simp only at h
      obtain ⟨hmem, hpc⟩ := xat_mem hq
      have hok := hall q hmem
      have hlen := xat_len hq
      obtain ⟨pc, lv, st, w⟩ := k
      obtain ⟨pc', i, len, aux⟩ := q
      simp only at hpc hc0 hs0 h hq
      subst hpc
      cases hz : xi xs d orc y i aux pc' lv st w with
      | none => rw [hz] at h; cases h
      | some z =>
        rw [hz] at h
        cases z with
        | inl k' =>
          have h1 := (xi_cnt hm).1 k' hz
          have h2 := xrun_cnt hm n k' r w' h
          have hG := ih k' h (Nat.le_trans hc0 h1.1) (Nat.le_trans hs0 h1.2)
          by_cases hmk : (∃ x, i = .new x) ∨ (∃ x, i = .newarray x) ∨ (∃ x, i = .anewarray x)
          · exact (xstep2 C0 hok hlen hz hmk hc0 hs0).2 (by omega) (by omega) hG
          · by_cases hcl : (∃ x, i = .invokevirtual x) ∨ (∃ x, i = .invokestatic x) ∨ (∃ x, i = .invokespecial x)
            · exact (xstep3 C0 hall hO hok hlen hz hcl hc0 hs0).2 (by omega) (by omega) hG
            · exact (xstep1 C0 hscr (fun e => by rw [e] at hmem; cases hmem) hok hlen hz ⟨fun x hx => hmk (Or.inl ⟨x, hx⟩), fun x hx => hmk (Or.inr (Or.inl ⟨x, hx⟩)), fun x hx => hmk (Or.inr (Or.inr ⟨x, hx⟩)), fun x hx => hcl (Or.inl ⟨x, hx⟩), fun x hx => hcl (Or.inr (Or.inl ⟨x, hx⟩)), fun x hx => hcl (Or.inr (Or.inr ⟨x, hx⟩))⟩).2 hG
        | inr z =>
          cases h
          exact hfin (pc', i, len, aux) lv st w hmem hlen hz hc0 hs0
end XSM
theorem xent_args {B b : Nat} : ∀ (as : List Value) (nL j i : Nat) (v : Value), (xent nL as)[i]? = some (some v) → (j + i, xv B b v) ∈ lv_args j (as.map (xv B b)) := by
  intro as
  induction as with
  | nil =>
    intro nL j i v h
    simp only [xent] at h
    rw [List.getElem?_replicate] at h
    split at h <;> cases h
  | cons a as ih =>
    intro nL j i v h
    simp only [List.map_cons, lv_args, xv_cat]
    simp only [xent] at h
    split at h
    · rename_i hc
      rw [if_pos hc]
      match i, h with
      | 0, h => cases h; exact List.mem_cons_self
      | 1, h => cases h
      | i + 2, h =>
        have := ih (nL - 2) (j + 2) i v h
        rw [show j + (i + 2) = j + 2 + i by omega]
        exact List.mem_cons_of_mem _ this
    · rename_i hc
      rw [if_neg hc]
      match i, h with
      | 0, h => cases h; exact List.mem_cons_self
      | i + 1, h =>
        have := ih (nL - 1) (j + 1) i v h
        rw [show j + (i + 1) = j + 1 + i by omega]
        exact List.mem_cons_of_mem _ this
theorem xsl_len {B b : Nat} (as : List Value) : (lg_sl (as.map (xv B b))).length = xcats as := by
  induction as with
  | nil => rfl
  | cons a as ih =>
    simp only [lg_sl, xcats, List.map_cons, List.flatMap_cons, List.length_append, List.sum_cons] at ih ⊢
    rw [ih]
    have := lv_cat a
    rw [xv_cat]
    rcases this with h | h <;> simp [h]
theorem xentry {B b : Nat} {as : List Value} {nL : Nat} (h : xcats as ≤ nL) : xls B b ((lg_sl (as.map (xv B b)) ++ List.replicate (nL - (lg_sl (as.map (xv B b))).length) Slot.unset).toArray) nL (xent nL as) := by
  have hl := lv_entry (as.map (xv B b)) (n := nL) (by rw [xsl_len]; exact h)
  refine ⟨hl.1, hl.2.1, fun i v hi => ?_⟩
  have h1 := xent_args (B := B) (b := b) as nL 0 i v hi
  rw [Nat.zero_add] at h1
  exact hl.2.2 _ h1
theorem ev'_cnt (xs : Nat × (Nat → Int32)) : ∀ (d y : Nat) (as : List Value) (w : xW) (r : xR) (w' : xW), ev' xs d y as w = some (r, w') → w.2.1 ≤ w'.2.1 ∧ w.2.2 ≤ w'.2.2 := by
  intro d
  induction d with
  | zero => intro y as w r w' h; cases h
  | succ d ih =>
    intro y as w r w' h
    simp only [ev'] at h
    split at h
    · obtain ⟨n, hn⟩ := rn'_some.mp h
      exact xrun_cnt ih n _ r w' hn
    · cases h
set_option maxHeartbeats 4000000 in
/-- every call that the small machine carries out, the real one carries out alike -/
theorem xmet {l : Launch} (hl : l.stackTraces = false) (D : va_G) (dA : Nat → ClassId) (B b : Nat) : ∀ d, xOk l D dA B b d (ev d) := by
  intro d
  induction d with
  | zero => intro y as w r w' hy h; cases h
  | succ d ih =>
    intro y as w r w' hy h
    refine ⟨ev'_cnt _ _ _ _ _ _ _ h, ?_⟩
    have hcnt := ev'_cnt _ _ _ _ _ _ _ h
    simp only [ev, ev'] at h
    split at h
    · rename_i hcats
      obtain ⟨n, hn⟩ := rn'_some.mp h
      obtain ⟨m1, m2, m3, m4, m5, m6, m7, m8, m9⟩ := xokM_spec (xok_all y hy)
      have h69 : (xmi y).length = 6 := xmi_len (xok_all y hy)
      have body : ∀ (p : Program) (e : Env) (s : State) (m : MethodId) (args : Array Value) (below : List Frame) (meth : Method) (c : Code) (s₁ : State), BodyLoose p l (xname y) (headSpec (xwm y) (xroom (d + 1) (w'.2.1 - w.2.1) (w'.2.2 - w.2.2))) (xcode y) (xmaxL y) (xret y) e s m args below meth c s₁ → c.maxLocals = xmaxL y → c.exceptionTable.toList = tableOf (xhh y) → xPc D dA B b as w args s →
          W p l e (headSpec (xwm y) (xroom (d + 1) (w'.2.1 - w.2.1) (w'.2.2 - w.2.2))).room s m args below meth c s.heap [] 0 0 (vx_MQ below (xQc D dA B b r w') (xXC D dA B b r w') args s (w'.2.1 - w.2.1) (w'.2.2 - w.2.2) (xA B)) (entryFrame m args (xmaxL y)) := by
        intro p e s m args below meth c s₁ Bd hml htab hPc
        obtain ⟨rfl, hrel, hsz, hBs, henv⟩ := hPc
        have hts0 := atoms_spec (ws := xwm y) Bd.pre
        have C0 : xCtx p l (headSpec (xwm y) (xroom (d + 1) (w'.2.1 - w.2.1) (w'.2.2 - w.2.2))).room s m (as.map (xv B b)).toArray meth c D dA B y d w.2.1 :=
          ⟨Bd.exec, Bd.bytes, hml, findClass_of_methodNamed Bd.named, fun z hz => hts0 z (List.mem_cons_of_mem _ hz), Bd.notSynchronized, Bd.returns, fun _ => ⟨(name_of_methodNamed Bd.named Bd.method).1, htab⟩, henv, hBs, hsz, hl, Nat.le_refl _, Nat.le_refl _⟩
        rw [lg_entry_eq]
        have hG := xsim (e := e) (below := below) (Q := vx_MQ below (xQc D dA B b r w') (xXC D dA B b r w') (as.map (xv B b)).toArray s (w'.2.1 - w.2.1) (w'.2.2 - w.2.2) (xA B)) (s0 := w.2.2) C0 (Or.inl rfl : xScr (0, fun _ => 0) B b s) m9 (ev'_cnt _ d) ih r w' (Nat.le_refl _) (Nat.le_refl _) (fun q lv st w1 hq hlen hxi hc0 hs0 => xfin C0 h69 (m9 q hq) hlen hxi hc0 hs0 (Nat.le_refl _) (Nat.le_refl _)) n _ hn (Nat.le_refl _) (Nat.le_refl _)
        have hW := hG s.heap [] _ hrel va_S.rf (xentry hcats)
        simp only [Nat.sub_self] at hW
        exact hW
      unfold xMet
      by_cases hhh : xhh y = []
      · refine vx_ofW m3 (xwm_code hhh) (fun p e s m args below meth c s₁ Bd hml ht hP => body p e s m args below meth c s₁ Bd hml ?_ hP)
        rw [hhh]
        cases hz : c.exceptionTable.toList with
        | nil => rfl
        | cons x t => exact (ht x (by rw [hz]; exact List.mem_cons_self)).elim
      · refine vx_ofWH m3 (xwm_codeW hhh) (fun p e s m args below meth c s₁ Bd hml hP => body p e s m args below meth c s₁ Bd hml ?_ hP)
        refine vx_table (x := xname y) (bytes := xcode y) (maxL' := xmaxL y) (ret' := xret y) Bd ?_
        exact atoms_spec (ws := xwm y) Bd.pre _ (by rw [xwm_codeW hhh]; exact List.mem_cons_self)
    · cases h
