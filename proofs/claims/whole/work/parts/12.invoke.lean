/-! the three kinds of calls, arraycopy, Object's constructor -/
section XIV
variable {p : Program} {l : Launch} {e : Env} {R : Room} {s : State} {m : MethodId} {args : Array Value} {below : List Frame} {meth : Method} {c : Code} {Q : State → Prop}
variable {D : va_G} {dA : Nat → ClassId} {B b y d c0 s0 : Nat} {xs : Nat × (Nat → Int32)} {orc : xO}
theorem xpre (C0 : xCtx p l R s m args meth c D dA B y d c0) {H : Heap} {locs : List Loc} {w : xW} {as : List Value} (hR : xRel D B b dA H w) (hS : va_S (xA B) s.heap H locs) (hup : H.size ≤ B + w.2.1) : ∀ U : State, U.heap = H → s.WarmedH U.vm → xPc D dA B b as w (as.map (xv B b)).toArray U := by
  obtain ⟨hx, hb, hml, hown, hts, hlocks, hr, hnt, henv, hB, hB2, htr, hRf, hRl⟩ := C0
  intro U hU hW
  refine ⟨rfl, by rw [hU]; exact hR, by rw [hU]; exact hup, by rw [hU]; exact Nat.le_trans hB hS.1, ?_⟩
  rw [hU]
  exact xEnv.warm hW (henv.kept hS.2.1)
theorem xstk {st rest : List Value} {n a : Nat} (hd : st.drop n = .ref a :: rest) : st.map (xv B b) = (((st.take n).reverse).map (xv B b)).reverse ++ .ref (B + a) :: rest.map (xv B b) ∧ (((st.take n).reverse).map (xv B b)).length = n := by
  have h1 : st = st.take n ++ (.ref a :: rest) := by rw [← hd]; exact (List.take_append_drop n st).symm
  have h2 : n < st.length := by
    rcases Nat.lt_or_ge n st.length with h | h
    · exact h
    · rw [List.drop_eq_nil_of_le h] at hd; cases hd
  refine ⟨?_, by simp; omega⟩
  conv => lhs; rw [h1]
  simp [xv]
theorem xstk2 {st : List Value} {n : Nat} (hd : n ≤ st.length) : st.map (xv B b) = (((st.take n).reverse).map (xv B b)).reverse ++ (st.drop n).map (xv B b) ∧ (((st.take n).reverse).map (xv B b)).length = n := by
  have h1 : st = st.take n ++ st.drop n := (List.take_append_drop n st).symm
  refine ⟨?_, by simp; omega⟩
  conv => lhs; rw [h1]
  simp
set_option maxHeartbeats 1000000 in
set_option maxRecDepth 100000 in
theorem xstep3 (C0 : xCtx p l R s m args meth c D dA B y d c0) (hall : ∀ q ∈ xins y, xokI y q = true) (hO : xOk l D dA B b d orc) {pc len : Nat} {i : Instr} {aux : List Nat} {lv : List (Option Value)} {st : List Value} {w : xW} {k' : xC}
    (hok : xokI y (pc, i, len, aux) = true) (hlen : xokL (pc, i, len, aux) = true) (h : xi xs d orc y i aux pc lv st w = some (.inl k'))
    (hyes : (∃ x, i = .invokevirtual x) ∨ (∃ x, i = .invokestatic x) ∨ (∃ x, i = .invokespecial x)) (hc0 : c0 ≤ w.2.1) (hs0 : s0 ≤ w.2.2) :
    (w.2.1 ≤ k'.2.2.2.2.1 ∧ w.2.2 ≤ k'.2.2.2.2.2) ∧ (k'.2.2.2.2.1 - c0 ≤ R.cells → k'.2.2.2.2.2 - s0 ≤ R.slots → xG p l e R s m args below meth c Q D dA B b y c0 s0 k' → xG p l e R s m args below meth c Q D dA B b y c0 s0 (pc, lv, st, w)) := by
  have hC := C0
  obtain ⟨hx, hb, hml, hown, hts, hlocks, hr, hnt, henv, hB, hB2, htr, hRf, hRl⟩ := C0
  have hK : va_K D xcl (xtys dA) s := henv.1
  have hdec : xdec y pc i len = true := by
    simp only [xokI, Bool.and_eq_true] at hok
    exact hok.1
  have hdg : decode (xcode y) pc = .ok (i, len) := by simpa [xdec] using hdec
  rcases hyes with ⟨ix, rfl⟩ | ⟨ix, rfl⟩ | ⟨ix, rfl⟩
  · cases (beq_iff_eq.mp hlen : len = 3)
    simp only [xi] at h
    split at h
    · rename_i y' n li nest ci
      split at h
      · rename_i a rest hdrop
        split at h
        · rename_i hcond
          obtain ⟨his, hcat⟩ := hcond
          simp only [xokI, Bool.and_eq_true, decide_eq_true_eq, beq_iff_eq] at hok
          obtain ⟨-, ⟨⟨⟨⟨⟨hy', hkind⟩, hnarg⟩, hcn⟩, hci⟩, hhh⟩, hlink⟩ := hok
          obtain ⟨m1, m2, m3, m4, m5, m6, m7, m8, m9⟩ := xokM_spec (xok_all y' hy')
          obtain ⟨hst, hln⟩ := xstk (B := B) (b := b) hdrop
          obtain ⟨fs, hfs⟩ := xis_spec his
          obtain ⟨q, hq, hqn⟩ := xcls_get hci
          have hrun : ∀ (r : xR) (w1 : xW), orc y' (.ref a :: (st.take n).reverse) w = some (r, w1) → w1.2.1 - c0 ≤ R.cells → w1.2.2 - s0 ≤ R.slots → ∀ (H : Heap) (locs : List Loc) (ls : Array Slot), xRel D B b dA H w → va_S (xA B) s.heap H locs → ls.size = xmaxL y → H.size ≤ B + w.2.1 → ∃ a', vx_Run p l e R s m args below meth c H locs (w.2.1 - c0) (w.2.2 - s0) (w1.2.1 - w.2.1) (w1.2.2 - w.2.2) (F0 m pc ls (st.map (xv B b))) (rest.map (xv B b)) (xQc D dA B b r w1 a') (xXC D dA B b r w1) (xA B) := by
            intro r w1 ho hRc hRs H locs ls hR hS hsz hup
            obtain ⟨⟨o1, o2⟩, hM⟩ := hO y' _ w r w1 hy' ho
            refine ⟨_, vx_runV (C := xown y') (bytes := xcode y') (maxL := xmaxL y') (ret := xret y') (b := B + a) (As := ((st.take n).reverse).map (xv B b)) ⟨hx, hb, hml, hown, hts⟩ hM (cwV (ws' := xgood) n hts (xgood_app (fun z hz => ?_) (xwm_good m1)) (xwm_code hhh) rfl rfl ⟨rfl, by rw [← hnarg]; exact m5⟩ ⟨by show d + 1 ≤ _; exact hRf, by show 8 + (xmaxL y' + 11) + 35 * d ≤ _; omega⟩) ⟨xPc.blind, ?_, xpre hC hR hS hup⟩ rfl hln hsz hst (lv_room (by rw [xv_cats]; exact hcat)) hdg ⟨by omega, by omega⟩⟩
            · simp only [List.mem_cons, List.not_mem_nil, or_false] at hz
              rcases hz with rfl | rfl | rfl | rfl
              · exact xword_in hlink
              · exact (m6 hkind).1
              · exact (m6 hkind).2
              · exact m2
            · have hrc := va_recv hK hR (xcl_get hq) (xws_at hfs)
              rw [show xown y' = q.1 from hcn.symm.trans hqn]
              exact hrc
          exact xcal_sound (ph := st.map (xv B b)) hC hall h hc0 hs0 (fun r w1 ho => (hO y' _ w r w1 hy' ho).1) hrun
        · cases h
      · cases h
    · cases h
  · cases (beq_iff_eq.mp hlen : len = 3)
    simp only [xi] at h
    split at h
    · rename_i y' n li nest ci
      split at h
      · rename_i hcond
        obtain ⟨hn, hcat⟩ := hcond
        simp only [xokI, Bool.and_eq_true, decide_eq_true_eq, beq_iff_eq] at hok
        obtain ⟨-, ⟨⟨hy', hkind⟩, hnarg⟩, hlink⟩ := hok
        obtain ⟨m1, m2, m3, m4, m5, m6, m7, m8, m9⟩ := xokM_spec (xok_all y' hy')
        obtain ⟨hst, hln⟩ := xstk2 (B := B) (b := b) hn
        have hrun : ∀ (r : xR) (w1 : xW), orc y' (st.take n).reverse w = some (r, w1) → w1.2.1 - c0 ≤ R.cells → w1.2.2 - s0 ≤ R.slots → ∀ (H : Heap) (locs : List Loc) (ls : Array Slot), xRel D B b dA H w → va_S (xA B) s.heap H locs → ls.size = xmaxL y → H.size ≤ B + w.2.1 → ∃ a', vx_Run p l e R s m args below meth c H locs (w.2.1 - c0) (w.2.2 - s0) (w1.2.1 - w.2.1) (w1.2.2 - w.2.2) (F0 m pc ls (st.map (xv B b))) ((st.drop n).map (xv B b)) (xQc D dA B b r w1 a') (xXC D dA B b r w1) (xA B) := by
          intro r w1 ho hRc hRs H locs ls hR hS hsz hup
          obtain ⟨⟨o1, o2⟩, hM⟩ := hO y' _ w r w1 hy' ho
          have hRR : (xroom d (w1.2.1 - w.2.1) (w1.2.2 - w.2.2)).frames + 1 ≤ R.frames ∧ 8 + (xmaxL y' + 11) + (xroom d (w1.2.1 - w.2.1) (w1.2.2 - w.2.2)).locals ≤ R.locals := ⟨by show d + 1 ≤ _; exact hRf, by show 8 + (xmaxL y' + 11) + 35 * d ≤ _; omega⟩
          by_cases hnest : nest = 0
          · rw [if_pos hnest] at hlink
            have hgd : GoodIn xgood (va_wsS (xown y) ix (xname y') (xwm y')) := by
              refine xgood_app (fun z hz => ?_) (xwm_good m1)
              simp only [List.mem_cons, List.not_mem_nil, or_false] at hz
              rcases hz with rfl | rfl | rfl
              · exact xword_in hlink
              · exact m7 hkind
              · exact m2
            by_cases hhh : xhh y' = []
            · exact ⟨_, vx_runS (bytes := xcode y') (maxL := xmaxL y') (ret := xret y') (As := ((st.take n).reverse).map (xv B b)) ⟨hx, hb, hml, hown, hts⟩ hM (va_cwS (ws' := xgood) n hts hgd (xwm_code hhh) rfl rfl (by rw [← hnarg]; exact m5) hRR) ⟨xPc.blind, xpre hC hR hS hup⟩ rfl hln hsz hst (lv_room (by rw [xv_cats]; exact hcat)) hdg ⟨by omega, by omega⟩⟩
            · exact ⟨_, vx_runSX (bytes := xcode y') (maxL := xmaxL y') (ret := xret y') (hh := xhh y') (As := ((st.take n).reverse).map (xv B b)) ⟨hx, hb, hml, hown, hts⟩ hM (vx_cwSW (ws' := xgood) n hts hgd (xwm_codeW hhh) rfl rfl (by rw [← hnarg]; exact m5) hRR) ⟨xPc.blind, xpre hC hR hS hup⟩ rfl hln hsz hst (lv_room (by rw [xv_cats]; exact hcat)) hdg ⟨by omega, by omega⟩⟩
          · rw [if_neg hnest, Bool.and_eq_true, beq_iff_eq, decide_eq_true_eq] at hlink
            obtain ⟨hhh, hlink⟩ := hlink
            exact ⟨_, vx_runSN (host := "LaunchCountdown") (bytes := xcode y') (maxL := xmaxL y') (ret := xret y') (As := ((st.take n).reverse).map (xv B b)) ⟨hx, hb, hml, hown, hts⟩ hM ⟨va_cnB (ws' := xgood) n hts (xgood_in (xwm_good m1)) (xwm_code hhh) rfl rfl (henv.2.1 _ (List.mem_of_getElem? hlink) rfl) (hts _ m2) (by rw [← hnarg]; exact m5) hRR, hts _ (m7 hkind), trivial⟩ ⟨xPc.blind, xpre hC hR hS hup⟩ rfl hln hsz hst (lv_room (by rw [xv_cats]; exact hcat)) hdg ⟨by omega, by omega⟩⟩
        exact xcal_sound (ph := st.map (xv B b)) hC hall h hc0 hs0 (fun r w1 ho => (hO y' _ w r w1 hy' ho).1) hrun
      · cases h
    · rename_i z0 li
      split at h
      · rename_i n dp a sp a0 rest
        split at h
        · rename_i n0 f n1 g hf hg
          split at h
          · rename_i hcond
            obtain ⟨hcat, c1, c2, c3, c4, c5⟩ := hcond
            cases h
            refine ⟨⟨Nat.le_refl _, Nat.le_refl _⟩, fun _ _ kk H locs ls hR hS hl => ?_⟩
            simp only [xokI, Bool.and_eq_true] at hok
            replace hok := hok.2
            refine va_copyi hx hb (hml.trans hl.1.symm) hown (hts _ (xword_in hok)) (hts _ xw_acn) (hts _ xw_acs) (hts _ xw_sys) hK hR (xws_D w.1) hS a0 a 0 0 (xws_at (xai_spec hf)) (xws_at (xai_spec hg)) (rfl : (xtys dA)[0]? = some (dA 0, .int)) (rfl : (xtys dA)[0]? = some (dA 0, .int)) rfl c1 c2 c3 c4 c5 (fun _ _ => rfl) (by omega) (by rw [xv_cats]; show _ + (7 + 11) ≤ _; omega) hdg (fun H1 locs1 hP1 _ hS1 => ?_)
            rw [← xe_i (B := B) (b := b), xws_set] at hP1
            exact kk H1 locs1 ls hP1 hS1 hl
          · cases h
        · cases h
      · cases h
    · cases h
  · cases (beq_iff_eq.mp hlen : len = 3)
    simp only [xi] at h
    split at h
    · rename_i y' n li nest ci
      split at h
      · rename_i a rest hdrop
        split at h
        · rename_i hcat
          simp only [xokI, Bool.and_eq_true, decide_eq_true_eq, beq_iff_eq] at hok
          obtain ⟨-, ⟨⟨⟨hy', hkind⟩, hnarg⟩, hhh⟩, hlink⟩ := hok
          obtain ⟨m1, m2, m3, m4, m5, m6, m7, m8, m9⟩ := xokM_spec (xok_all y' hy')
          obtain ⟨hst, hln⟩ := xstk (B := B) (b := b) hdrop
          obtain ⟨k1, k2, k3⟩ := m8 hkind
          have hwm : xwm y' = Cond.code (xname y') (xcode y') (xmaxL y') none :: xgood := by rw [xwm_code hhh, k3]
          have hrun : ∀ (r : xR) (w1 : xW), orc y' (.ref a :: (st.take n).reverse) w = some (r, w1) → w1.2.1 - c0 ≤ R.cells → w1.2.2 - s0 ≤ R.slots → ∀ (H : Heap) (locs : List Loc) (ls : Array Slot), xRel D B b dA H w → va_S (xA B) s.heap H locs → ls.size = xmaxL y → H.size ≤ B + w.2.1 → ∃ a', vx_Run p l e R s m args below meth c H locs (w.2.1 - c0) (w.2.2 - s0) (w1.2.1 - w.2.1) (w1.2.2 - w.2.2) (F0 m pc ls (st.map (xv B b))) (rest.map (xv B b)) (xQc D dA B b r w1 a') (xXC D dA B b r w1) (xA B) := by
            intro r w1 ho hRc hRs H locs ls hR hS hsz hup
            obtain ⟨⟨o1, o2⟩, hM⟩ := hO y' _ w r w1 hy' ho
            have hRR : (xroom d (w1.2.1 - w.2.1) (w1.2.2 - w.2.2)).frames + 1 ≤ R.frames ∧ 8 + (xmaxL y' + 11) + (xroom d (w1.2.1 - w.2.1) (w1.2.2 - w.2.2)).locals ≤ R.locals := ⟨by show d + 1 ≤ _; exact hRf, by show 8 + (xmaxL y' + 11) + 35 * d ≤ _; omega⟩
            by_cases hnest : nest = 0
            · rw [if_pos hnest] at hlink
              exact ⟨_, vx_runI (bytes := xcode y') (maxL := xmaxL y') (b := B + a) (As := ((st.take n).reverse).map (xv B b)) ⟨hx, hb, hml, hown, hts⟩ hM (cwI (ws' := xgood) n hts (xgood_in (xwm_good m1)) hwm rfl rfl (hts _ m2) (hts _ (xword_in hlink)) (hts _ k1) k2 (by rw [← hnarg]; exact m5) hRR) ⟨xPc.blind, xpre hC hR hS hup⟩ rfl hln hsz hst (lv_room (by rw [xv_cats]; exact hcat)) hdg ⟨by omega, by omega⟩⟩
            · rw [if_neg hnest, decide_eq_true_eq] at hlink
              exact ⟨_, vx_runIN (host := "LaunchCountdown") (bytes := xcode y') (maxL := xmaxL y') (b := B + a) (As := ((st.take n).reverse).map (xv B b)) ⟨hx, hb, hml, hown, hts⟩ hM ⟨va_cnB (ws' := xgood) n hts (xgood_in (xwm_good m1)) hwm rfl rfl (henv.2.1 _ (List.mem_of_getElem? hlink) rfl) (hts _ m2) (by rw [← hnarg]; exact m5) hRR, k2, hts _ k1⟩ ⟨xPc.blind, xpre hC hR hS hup⟩ rfl hln hsz hst (lv_room (by rw [xv_cats]; exact hcat)) hdg ⟨by omega, by omega⟩⟩
          exact xcal_sound (ph := st.map (xv B b)) hC hall h hc0 hs0 (fun r w1 ho => (hO y' _ w r w1 hy' ho).1) hrun
        · cases h
      · cases h
    · rename_i z0 li
      split at h
      · rename_i a rest
        split at h
        · rename_i hcat
          cases h
          refine ⟨⟨Nat.le_refl _, Nat.le_refl _⟩, fun _ _ kk H locs ls hR hS hl => ?_⟩
          simp only [xokI, Bool.and_eq_true] at hok
          replace hok := hok.2
          exact W.objInit hx hb hown (hts _ (xword_in hok)) (hts _ xw_oi) (hts _ xw_oc) rfl (by rw [hml]; exact hl.1) rfl hdg (by omega) (by show 2 * 0 + _ + 12 ≤ _; rw [xv_cats]; omega) (kk H locs ls hR hS hl)
        · cases h
      · cases h
    · cases h
end XIV
