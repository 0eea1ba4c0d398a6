/-! making cells -/
theorem xdf_all : xcls.all (fun q => q.2.all (fun f => decide (defaultValue f.2.2.2 = xdef f.2.2.2))) = true := by decide +kernel
theorem xv_def (B b : Nat) (ty : FieldType) : xv B b (xdef ty) = xdef ty := by cases ty <;> rfl
theorem xnew_len {ci : Nat} {q : String × List (String × String × Bool × FieldType)} (h : xcls[ci]? = some q) : (xnew ci).length = q.2.length := by
  unfold xnew
  rw [h]
  simp
theorem xnew_at {B b ci : Nat} {q : String × List (String × String × Bool × FieldType)} (h : xcls[ci]? = some q) (k : Nat) (hk : k < q.2.length) : defaultValue (xfty ci k) = vp_V ((xnew ci).map (xv B b)) k := by
  have h1 := List.all_eq_true.mp (List.all_eq_true.mp xdf_all q (List.mem_of_getElem? h)) (q.2[k]) (List.getElem_mem hk)
  simp only [decide_eq_true_eq] at h1
  have h2 : q.2[k]? = some q.2[k] := List.getElem?_eq_getElem hk
  have h3 : xfty ci k = q.2[k].2.2.2 := by
    unfold xfty
    rw [h]
    simp only [h2]
  rw [h3, h1]
  unfold vp_V xnew
  rw [h]
  simp only [List.map_map, List.getD_eq_getElem?_getD, List.getElem?_map, h2, Option.map_some, Option.getD_some, Function.comp]
  exact (xv_def B b _).symm
theorem xcls_get {ci : Nat} (h : ci < 9) : ∃ q, xcls[ci]? = some q ∧ xcn ci = q.1 := by
  match ci, h with
  | 0, _ => exact ⟨_, rfl, rfl⟩
  | 1, _ => exact ⟨_, rfl, rfl⟩
  | 2, _ => exact ⟨_, rfl, rfl⟩
  | 3, _ => exact ⟨_, rfl, rfl⟩
  | 4, _ => exact ⟨_, rfl, rfl⟩
  | 5, _ => exact ⟨_, rfl, rfl⟩
  | 6, _ => exact ⟨_, rfl, rfl⟩
  | 7, _ => exact ⟨_, rfl, rfl⟩
  | 8, _ => exact ⟨_, rfl, rfl⟩
section XM
variable {p : Program} {l : Launch} {e : Env} {R : Room} {s : State} {m : MethodId} {args : Array Value} {below : List Frame} {meth : Method} {c : Code} {Q : State → Prop}
variable {D : va_G} {dA : Nat → ClassId} {B b y d c0 s0 : Nat} {xs : Nat × (Nat → Int32)} {orc : xO}
theorem xlow {H : Heap} {w : xW} {H0 : Heap} {locs : List Loc} (hR : xRel D B b dA H w) (hS : va_S (xA B) H0 H locs) (hB : B ≤ H0.size) : B + w.1.length ≤ H.size := by
  cases hl : w.1.length with
  | zero => have := hS.1; omega
  | succ n =>
    have hn : n < w.1.length := by omega
    have h1 := hR n _ (xws_at (List.getElem?_eq_getElem hn))
    have := h1.lt
    simp only at this
    omega
theorem xgrow {H H1 : Heap} {w : xW} {H0 : Heap} {locs : List Loc} {el : xE} (hR : xRel D B b dA H w) (hS : va_S (xA B) H0 H locs) (hsz : H.size = B + w.1.length) (o1 : ∀ q : Nat, q < H.size → H1[q]? = H[q]?) (z1 : H1.size = H.size + 1) (hat : va_at D xcl (H.size, xe B b dA el) H1) (n1 n2 : Nat) : xRel D B b dA H1 (w.1 ++ [el], n1, n2) ∧ va_S (xA B) H0 H1 locs := by
  refine ⟨?_, ⟨Nat.le_trans hS.1 (by omega), fun x h1 h2 => (o1 x (Nat.lt_of_lt_of_le h1 hS.1)).trans (hS.2.1 x h1 h2), hS.2.2⟩⟩
  show va_P D xcl (xws B b dA (w.1 ++ [el])) H1
  rw [← xws_app]
  refine va_P.app (va_P.kept hR (fun k x hx => o1 x.1 ((hR k x hx).lt))) (fun k x hx => ?_)
  have hz : k < 1 := (List.getElem?_eq_some_iff.mp hx).1
  rw [show k = 0 by omega] at hx
  cases hx
  rw [← hsz]
  exact hat
set_option maxHeartbeats 1000000 in
set_option maxRecDepth 100000 in
theorem xstep2 (C0 : xCtx p l R s m args meth c D dA B y d c0) {pc len : Nat} {i : Instr} {aux : List Nat} {lv : List (Option Value)} {st : List Value} {w : xW} {k' : xC}
    (hok : xokI y (pc, i, len, aux) = true) (hlen : xokL (pc, i, len, aux) = true) (h : xi xs d orc y i aux pc lv st w = some (.inl k'))
    (hyes : (∃ x, i = .new x) ∨ (∃ x, i = .newarray x) ∨ (∃ x, i = .anewarray x)) (hc0 : c0 ≤ w.2.1) (hs0 : s0 ≤ w.2.2) :
    (w.2.1 ≤ k'.2.2.2.2.1 ∧ w.2.2 ≤ k'.2.2.2.2.2) ∧ (k'.2.2.2.2.1 - c0 ≤ R.cells → k'.2.2.2.2.2 - s0 ≤ R.slots → xG p l e R s m args below meth c Q D dA B b y c0 s0 k' → xG p l e R s m args below meth c Q D dA B b y c0 s0 (pc, lv, st, w)) := by
  obtain ⟨hx, hb, hml, hown, hts, hlocks, hr, hnt, henv, hB, hB2, htr, hRf, hRl⟩ := C0
  have hK : va_K D xcl (xtys dA) s := henv.1
  have hdec : xdec y pc i len = true := by
    simp only [xokI, Bool.and_eq_true] at hok
    exact hok.1
  have hdg : decode (xcode y) pc = .ok (i, len) := by simpa [xdec] using hdec
  rcases hyes with ⟨ix, rfl⟩ | ⟨ty, rfl⟩ | ⟨ix, rfl⟩
  · cases (beq_iff_eq.mp hlen : len = 3)
    simp only [xi] at h
    split at h
    · rename_i ci l1 l2 l3
      split at h
      · rename_i htight
        cases h
        refine ⟨⟨Nat.le_succ _, Nat.le_add_right _ _⟩, fun hRc hRs kk H locs ls hR hS hl => ?_⟩
        simp only [xokI, Bool.and_eq_true, decide_eq_true_eq] at hok
        obtain ⟨-, ⟨⟨hci, hw1⟩, hw2⟩, hw3⟩ := hok
        obtain ⟨q, hq, hqn⟩ := xcls_get hci
        rw [hqn] at hw1 hw2 hw3
        rw [xnew_len hq] at hw2
        simp only at hRc hRs
        rw [xnew_len hq] at hRs
        intro T hT X
        have hup := xsize X
        have hlo := xlow hR hS hB
        simp only at hup hlo htight
        rw [hT] at hup
        have hsz : H.size = B + w.1.length := by omega
        have hKn := hK.1 ci _ (xcl_get hq)
        have f1 : (Cond.classLink (xown y) ix q.1).before args s = true := hts _ (xword_in hw1)
        have f2 : (Cond.instantiable q.1 q.2.length).before args s = true := hts _ (xword_in hw2)
        have f3 : (Cond.initialized q.1).before args s = true := hts _ (xword_in hw3)
        have b1 : w.2.1 - c0 + 1 ≤ R.cells := by omega
        have b2 : w.2.2 - s0 + q.2.length ≤ R.slots := by omega
        have hfc : s.vm.findClass q.1 = some (D.1 ci) := hKn.2.1
        refine W.newcK (cc := xcode y) (own := xown y) (C := q.1) (n := q.2.length) (index := ix) (cC := D.1 ci) (h := H.size) hx hb hown f1 f2 f3 (g := F0 m pc ls (st.map (xv B b))) rfl hdg b1 b2 hfc rfl (fun H1 kC hkC e1 z1 o1 => ?_) T hT X
        obtain ⟨g1, g2⟩ := xgrow (el := .inr (ci, xnew ci)) hR hS hsz o1 z1 (⟨_, xcl_get hq, (u_born (xfty ci) hts (xlin_all ci q hq) hKn hkC e1 (xpd_all ci q hq)).to (fun k hk => xnew_at hq k hk)⟩) (w.2.1 + 1) (w.2.2 + (xnew ci).length)
        have kk := kk H1 locs ls g1 g2 hl
        refine W.cs (cells' := w.2.1 + 1 - c0) (slots' := w.2.2 + (xnew ci).length - s0) (by show w.2.1 - c0 + 1 = _; omega) (by rw [xnew_len hq]; show w.2.2 - s0 + q.2.length = _; omega) ?_
        refine W.eq ?_ kk
        show F0 m (pc + 3) ls (.ref H.size :: st.map (xv B b)) = F0 m (pc + 3) ls (.ref (B + w.1.length) :: st.map (xv B b))
        rw [hsz]
      · cases h
    · split at h <;> cases h
    · cases h
  · cases (beq_iff_eq.mp hlen : len = 2)
    simp only [xi] at h
    split at h
    · rename_i l0 n st
      split at h
      · rename_i htight
        obtain ⟨ht1, ht2, ht3⟩ := htight
        simp only [xokI, Bool.and_eq_true] at hok
        replace hok := hok.2
        cases ty with
        | int =>
          cases h
          refine ⟨⟨Nat.le_succ _, Nat.le_add_right _ _⟩, fun hRc hRs kk H locs ls hR hS hl => ?_⟩
          intro T hT X
          have hup := xsize X
          have hlo := xlow hR hS hB
          simp only at hup hlo ht1 hRc hRs
          rw [hT] at hup
          have hsz : H.size = B + w.1.length := by omega
          have f1 : (Cond.arrayClass (newarray.typeOf .int)).before args s = true := hts _ (xword_in hok)
          have b1 : w.2.1 - c0 + 1 ≤ R.cells := by omega
          have b2 : w.2.2 - s0 + n.toNatClampNeg ≤ R.slots := by omega
          have b3 : n.toNatClampNeg * componentBytes (newarray.typeOf .int) ≤ 536870912 := by
            show n.toNatClampNeg * 4 ≤ 536870912
            omega
          refine va_newaK (cc := xcode y) (atype := .int) (N := n.toNatClampNeg) (n := n) (rest := st.map (xv B b)) (h := H.size) hx hb f1 (g := F0 m pc ls (.int n :: st.map (xv B b))) rfl hdg rfl ht2 rfl b3 b1 b2 rfl (fun H1 cA e1 z1 o1 hAr hNm => ?_) T hT X
          have hcA : cA = dA 0 := Option.some.inj (hNm.symm.trans (hK.2 0 _ rfl).2)
          subst hcA
          obtain ⟨g1, g2⟩ := xgrow (el := .inl (0, n.toNatClampNeg, .inl (fun _ => 0))) hR hS hsz o1 z1 e1 (w.2.1 + 1) (w.2.2 + n.toNatClampNeg)
          have kk := kk H1 locs ls g1 g2 hl
          refine W.cs (cells' := w.2.1 + 1 - c0) (slots' := w.2.2 + n.toNatClampNeg - s0) (by show w.2.1 - c0 + 1 = _; omega) (by show w.2.2 - s0 + n.toNatClampNeg = _; omega) ?_
          refine W.eq ?_ kk
          show F0 m (pc + 2) ls (.ref H.size :: st.map (xv B b)) = F0 m (pc + 2) ls (.ref (B + w.1.length) :: st.map (xv B b))
          rw [hsz]
        | long =>
          cases h
          refine ⟨⟨Nat.le_succ _, Nat.le_add_right _ _⟩, fun hRc hRs kk H locs ls hR hS hl => ?_⟩
          intro T hT X
          have hup := xsize X
          have hlo := xlow hR hS hB
          simp only at hup hlo ht1 hRc hRs
          rw [hT] at hup
          have hsz : H.size = B + w.1.length := by omega
          have f1 : (Cond.arrayClass (newarray.typeOf .long)).before args s = true := hts _ (xword_in hok)
          have b1 : w.2.1 - c0 + 1 ≤ R.cells := by omega
          have b2 : w.2.2 - s0 + n.toNatClampNeg ≤ R.slots := by omega
          have b3 : n.toNatClampNeg * componentBytes (newarray.typeOf .long) ≤ 536870912 := by
            show n.toNatClampNeg * 8 ≤ 536870912
            omega
          refine va_newaK (cc := xcode y) (atype := .long) (N := n.toNatClampNeg) (n := n) (rest := st.map (xv B b)) (h := H.size) hx hb f1 (g := F0 m pc ls (.int n :: st.map (xv B b))) rfl hdg rfl ht2 rfl b3 b1 b2 rfl (fun H1 cA e1 z1 o1 hAr hNm => ?_) T hT X
          have hcA : cA = dA 1 := Option.some.inj (hNm.symm.trans (hK.2 1 _ rfl).2)
          subst hcA
          obtain ⟨g1, g2⟩ := xgrow (el := .inl (1, n.toNatClampNeg, .inr (.inl (fun _ => 0)))) hR hS hsz o1 z1 e1 (w.2.1 + 1) (w.2.2 + n.toNatClampNeg)
          have kk := kk H1 locs ls g1 g2 hl
          refine W.cs (cells' := w.2.1 + 1 - c0) (slots' := w.2.2 + n.toNatClampNeg - s0) (by show w.2.1 - c0 + 1 = _; omega) (by show w.2.2 - s0 + n.toNatClampNeg = _; omega) ?_
          refine W.eq ?_ kk
          show F0 m (pc + 2) ls (.ref H.size :: st.map (xv B b)) = F0 m (pc + 2) ls (.ref (B + w.1.length) :: st.map (xv B b))
          rw [hsz]
        | boolean =>
          cases h
          refine ⟨⟨Nat.le_succ _, Nat.le_add_right _ _⟩, fun hRc hRs kk H locs ls hR hS hl => ?_⟩
          intro T hT X
          have hup := xsize X
          have hlo := xlow hR hS hB
          simp only at hup hlo ht1 hRc hRs
          rw [hT] at hup
          have hsz : H.size = B + w.1.length := by omega
          have f1 : (Cond.arrayClass (newarray.typeOf .boolean)).before args s = true := hts _ (xword_in hok)
          have b1 : w.2.1 - c0 + 1 ≤ R.cells := by omega
          have b2 : w.2.2 - s0 + n.toNatClampNeg ≤ R.slots := by omega
          have b3 : n.toNatClampNeg * componentBytes (newarray.typeOf .boolean) ≤ 536870912 := by
            show n.toNatClampNeg * 1 ≤ 536870912
            omega
          refine va_newaK (cc := xcode y) (atype := .boolean) (N := n.toNatClampNeg) (n := n) (rest := st.map (xv B b)) (h := H.size) hx hb f1 (g := F0 m pc ls (.int n :: st.map (xv B b))) rfl hdg rfl ht2 rfl b3 b1 b2 rfl (fun H1 cA e1 z1 o1 hAr hNm => ?_) T hT X
          have hcA : cA = dA 2 := Option.some.inj (hNm.symm.trans (hK.2 2 _ rfl).2)
          subst hcA
          obtain ⟨g1, g2⟩ := xgrow (el := .inl (2, n.toNatClampNeg, .inl (fun _ => 0))) hR hS hsz o1 z1 e1 (w.2.1 + 1) (w.2.2 + n.toNatClampNeg)
          have kk := kk H1 locs ls g1 g2 hl
          refine W.cs (cells' := w.2.1 + 1 - c0) (slots' := w.2.2 + n.toNatClampNeg - s0) (by show w.2.1 - c0 + 1 = _; omega) (by show w.2.2 - s0 + n.toNatClampNeg = _; omega) ?_
          refine W.eq ?_ kk
          show F0 m (pc + 2) ls (.ref H.size :: st.map (xv B b)) = F0 m (pc + 2) ls (.ref (B + w.1.length) :: st.map (xv B b))
          rw [hsz]
        | _ => cases h
      · cases h
    · cases h
  · cases (beq_iff_eq.mp hlen : len = 3)
    simp only [xi] at h
    split at h
    · rename_i l0 n st
      split at h
      · rename_i htight
        obtain ⟨ht1, ht2, ht3⟩ := htight
        simp only [xokI, Bool.and_eq_true] at hok
        replace hok := hok.2
        cases h
        refine ⟨⟨Nat.le_succ _, Nat.le_add_right _ _⟩, fun hRc hRs kk H locs ls hR hS hl => ?_⟩
        intro T hT X
        have hup := xsize X
        have hlo := xlow hR hS hB
        simp only at hup hlo ht1 hRc hRs
        rw [hT] at hup
        have hsz : H.size = B + w.1.length := by omega
        have k1 : (Cond.classLink (xown y) ix "LaunchCountdown$State").before args s = true := hts _ (xword_in hok)
        have k2 : (Cond.arrayOver (.object "LaunchCountdown$State")).before args s = true := va_AO.use henv.2.2.2.1
        have b1 : w.2.1 - c0 + 1 ≤ R.cells := by omega
        have b2 : w.2.2 - s0 + n.toNatClampNeg ≤ R.slots := by omega
        have b3 : n.toNatClampNeg * 4 ≤ 536870912 := by omega
        refine W.anew (cc := xcode y) (own := xown y) (C := "LaunchCountdown$State") (index := ix) (n := n) (rest := st.map (xv B b)) hx hb hown k1 k2 (g := F0 m pc ls (.int n :: st.map (xv B b))) rfl hdg rfl ht2 b3 b1 b2 (fun cA kA comp f1 f2 f3 f4 => ?_) T hT X
        have hcA : cA = dA 3 := by
          obtain ⟨kA', comp', -, -, -, h4⟩ := (hK.2 3 _ rfl).2
          exact Option.some.inj (f1.symm.trans h4)
        subst hcA
        generalize hH1 : H.push ({ cls := dA 3, slots := Array.replicate n.toNatClampNeg .null, vm := .none } : Cell) = H1
        have z1 : H1.size = H.size + 1 := by rw [← hH1, Array.size_push]
        have e1 : H1[H.size]? = some (arrV (dA 3) n.toNatClampNeg (fun _ => .null)) := by rw [← hH1, Array.getElem?_push_size, ← arrV_new]
        have o1 : ∀ q : Nat, q < H.size → H1[q]? = H[q]? := fun q hq => by rw [← hH1, Array.getElem?_push, if_neg (Nat.ne_of_lt hq)]
        obtain ⟨g1, g2⟩ := xgrow (el := .inl (3, n.toNatClampNeg, .inr (.inr (.inr (.inr (fun _ => none)))))) hR hS hsz o1 z1 e1 (w.2.1 + 1) (w.2.2 + n.toNatClampNeg)
        have kk := kk H1 locs ls g1 g2 hl
        refine W.cs (cells' := w.2.1 + 1 - c0) (slots' := w.2.2 + n.toNatClampNeg - s0) (by show w.2.1 - c0 + 1 = _; omega) (by show w.2.2 - s0 + n.toNatClampNeg = _; omega) ?_
        refine W.eq ?_ kk
        show F0 m (pc + 3) ls (.ref H.size :: st.map (xv B b)) = F0 m (pc + 3) ls (.ref (B + w.1.length) :: st.map (xv B b))
        rw [hsz]
      · cases h
    · cases h
end XM
