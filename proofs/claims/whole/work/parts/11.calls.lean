/-! calls -/
theorem xokM_spec {y : Nat} (h : xokM y = true) : xcodeW y ∈ xgood ∧ Cond.initialized (xown y) ∈ xgood ∧ plainName (xown y) = true ∧ xmaxL y ≤ 16 ∧ (xown y ≠ "java/lang/invoke/MethodHandle" ∧ xown y ≠ "java/lang/invoke/VarHandle" ∧ (parseMethodDescriptor (xname y).desc).map (fun d => d.parameters.length) = some (xnarg y)) ∧
    (xkind y = 0 → Cond.instanceMethod (xname y) ∈ xgood ∧ Cond.selects (xown y) (xname y) (xname y) ∈ xgood) ∧ (xkind y = 1 → Cond.static (xname y) ∈ xgood) ∧ (xkind y = 2 → Cond.instanceMethod (xname y) ∈ xgood ∧ (xname y).name = "<init>" ∧ xret y = none) ∧ ∀ q ∈ xins y, xokI y q = true := by
  unfold xokM at h
  rw [Bool.and_eq_true] at h
  obtain ⟨hall, h⟩ := h
  split at h
  · rename_i kind n ic ii ia ib hmi
    simp only [Bool.and_eq_true, decide_eq_true_eq] at h
    obtain ⟨⟨⟨⟨⟨h1, h2⟩, h3⟩, h4⟩, h5⟩, h6⟩ := h
    have hk : xkind y = kind := by unfold xkind; rw [hmi]; rfl
    have hn : xnarg y = n := by unfold xnarg; rw [hmi]; rfl
    rw [hk, hn]
    refine ⟨xword_in h1, xword_in h2, h3, h4, h5, fun h0 => ?_, fun h0 => ?_, fun h0 => ?_, fun q hq => List.all_eq_true.mp hall q hq⟩
    · rw [if_pos h0, Bool.and_eq_true] at h6
      exact ⟨xword_in h6.1, xword_in h6.2⟩
    · subst h0
      rw [if_neg (by decide), if_pos rfl] at h6
      exact xword_in h6
    · subst h0
      rw [if_neg (by decide), if_neg (by decide)] at h6
      simp only [Bool.and_eq_true, beq_iff_eq, decide_eq_true_eq] at h6
      exact ⟨xword_in h6.1.1, h6.1.2, h6.2⟩
  · cases h
theorem xmi_len {y : Nat} (h : xokM y = true) : (xmi y).length = 6 := by
  unfold xokM at h
  rw [Bool.and_eq_true] at h
  replace h := h.2
  split at h
  · rename_i hmi
    rw [hmi]
    rfl
  · cases h
theorem xwm_code {y : Nat} (h : xhh y = []) : xwm y = Cond.code (xname y) (xcode y) (xmaxL y) (xret y) :: xgood := by unfold xwm xcodeW; rw [if_pos h]
theorem xwm_codeW {y : Nat} (h : xhh y ≠ []) : xwm y = Cond.codeWith (xname y) (xcode y) (xmaxL y) (xret y) (xhh y) :: xgood := by unfold xwm xcodeW; rw [if_neg h]
theorem xwm_good {y : Nat} (h : xcodeW y ∈ xgood) : ∀ w ∈ xwm y, w ∈ xgood := fun w hw => by
  rcases List.mem_cons.mp hw with rfl | hw
  · exact h
  · exact hw
theorem xgood_app {a b : List Cond} (ha : ∀ w ∈ a, w ∈ xgood) (hb : ∀ w ∈ b, w ∈ xgood) : GoodIn xgood (a ++ b) := xgood_in fun w h => (List.mem_append.mp h).elim (ha w) (hb w)
section XCL
variable {p : Program} {l : Launch} {e : Env} {R : Room} {s : State} {m : MethodId} {args : Array Value} {below : List Frame} {meth : Method} {c : Code} {Q : State → Prop}
variable {D : va_G} {dA : Nat → ClassId} {B b y d c0 s0 : Nat} {xs : Nat × (Nat → Int32)} {orc : xO}
set_option maxHeartbeats 4000000 in
set_option maxRecDepth 100000 in
theorem xcatch (C0 : xCtx p l R s m args meth c D dA B y d c0) {pc h : Nat} {E : String} {ce : Cell} {q : Addr} {H : Heap} {locs : List Loc} {cells slots : Nat} {ls : Array Slot} {rest : List Value} (hh : xhan (xhh y) pc E = some h) (hcell : H[q]? = some ce) (hv : ce.vm = .none) (hcl : s.vm.findClass E = some ce.cls)
    (kk : W p l e R s m args below meth c H locs cells slots Q (F0 m h ls [.ref q])) : vx_W p l e R s m args below meth c H locs cells slots Q (F0 m pc ls rest) q := by
  obtain ⟨hx, hb, hml, hown, hts, hlocks, hr, hnt, henv, hB, hB2, htr, hRf, hRl⟩ := C0
  obtain ⟨pre, x, suf, h1, h2, h3, h4, h5, h6⟩ := xhan_spec _ _ _ _ hh
  have hne : xhh y ≠ [] := by rw [h1]; simp
  have hlaw := xhh_law hne
  rw [hlaw] at hown
  have hcw : ∀ k, xct k ≠ "" → (Cond.classLink "LaunchCountdownLaw" k (xct k)).before args s = true := by
    intro k hk
    unfold xct at hk ⊢
    split at hk
    · exact hts _ xw_cl13
    · exact hts _ xw_cl19
    · exact hts _ xw_cl21
    · exact absurd rfl hk
  obtain ⟨iE, hiE, hE, hx0⟩ := xct_ix x.2.2.2 (by rw [h5]; exact h6)
  have hEi : E = xexn iE := h5.symm.trans hE
  have hcast : (Cond.castable E E).before args s = true := by
    have hm : Cond.castable E E ∈ lw_tbl := by
      rw [hEi]
      match iE, hiE with
      | 0, _ => exact xw_ca13
      | 1, _ => exact xw_ca19
      | 2, _ => exact xw_ca21
    exact va_Nw.use rfl (henv.2.1 _ hm rfl)
  refine vx_catch hown (pre.map fun q => ⟨q.1, q.2.1, q.2.2.1, q.2.2.2⟩) ⟨x.1, x.2.1, x.2.2.1, x.2.2.2⟩ (suf.map fun q => ⟨q.1, q.2.1, q.2.2.1, q.2.2.2⟩) ?_ ?_ ?_ hx0 (name := E) ?_ hcast hcell hv hcl ?_
  · rw [(hnt (xmi_hh hne)).2, h1]
    simp [tableOf]
  · intro z hz
    obtain ⟨z0, hz0, rfl⟩ := List.mem_map.mp hz
    obtain ⟨g1, g2⟩ := h2 z0 hz0
    obtain ⟨j, hj, hj2, hj0⟩ := xct_ix z0.2.2.2 g1
    refine Or.inr ⟨hj0, xct z0.2.2.2, hcw _ g1, ?_⟩
    rw [hEi, hj2]
    exact henv.2.2.2.2.1 iE j hiE hj (fun q => g2 (by rw [hj2, hEi, q]))
  · show (decide (x.1 ≤ pc) && decide (pc < x.2.1)) = true
    simp [h3.1, h3.2]
  · have h7 := hcw x.2.2.2 (by rw [h5]; exact h6)
    rw [h5] at h7
    exact h7
  · rw [show (⟨x.1, x.2.1, x.2.2.1, x.2.2.2⟩ : ExceptionTableEntry).handlerPc = h from h4]
    exact kk
set_option maxHeartbeats 4000000 in
set_option maxRecDepth 100000 in
theorem xcal_sound (C0 : xCtx p l R s m args meth c D dA B y d c0) (hall : ∀ q ∈ xins y, xokI y q = true) {pc y' : Nat} {lv : List (Option Value)} {As rest ph : List Value} {w : xW} {k' : xC} (h : xcal orc y pc lv y' As rest w = some (.inl k')) (hc0 : c0 ≤ w.2.1) (hs0 : s0 ≤ w.2.2)
    (hmono : ∀ (r : xR) (w1 : xW), orc y' As w = some (r, w1) → w.2.1 ≤ w1.2.1 ∧ w.2.2 ≤ w1.2.2)
    (hrun : ∀ (r : xR) (w1 : xW), orc y' As w = some (r, w1) → w1.2.1 - c0 ≤ R.cells → w1.2.2 - s0 ≤ R.slots → ∀ (H : Heap) (locs : List Loc) (ls : Array Slot), xRel D B b dA H w → va_S (xA B) s.heap H locs → ls.size = xmaxL y → H.size ≤ B + w.2.1 → ∃ a, vx_Run p l e R s m args below meth c H locs (w.2.1 - c0) (w.2.2 - s0) (w1.2.1 - w.2.1) (w1.2.2 - w.2.2) (F0 m pc ls ph) (rest.map (xv B b)) (xQc D dA B b r w1 a) (xXC D dA B b r w1) (xA B)) :
    (w.2.1 ≤ k'.2.2.2.2.1 ∧ w.2.2 ≤ k'.2.2.2.2.2) ∧ (k'.2.2.2.2.1 - c0 ≤ R.cells → k'.2.2.2.2.2 - s0 ≤ R.slots → xG p l e R s m args below meth c Q D dA B b y c0 s0 k' → ∀ (H : Heap) (locs : List Loc) (ls : Array Slot), xRel D B b dA H w → va_S (xA B) s.heap H locs → xls B b ls (xmaxL y) lv → W p l e R s m args below meth c H locs (w.2.1 - c0) (w.2.2 - s0) Q (F0 m pc ls ph)) := by
  have hC := C0
  obtain ⟨hx, hb, hml, hown, hts, hlocks, hr, hnt, henv, hB, hB2, htr, hRf, hRl⟩ := C0
  unfold xcal at h
  split at h
  · rename_i v w1 ho
    cases h
    have hm := hmono _ _ ho
    refine ⟨hm, fun hRc hRs kk H locs ls hR hS hl => ?_⟩
    simp only at hRc hRs
    intro T hT X
    have hup := xsize X
    rw [hT] at hup
    obtain ⟨a, hrr⟩ := hrun _ _ ho hRc hRs H locs ls hR hS hl.1 (by omega)
    refine xrun_call hrr hS (fun E hE => by cases hE) (fun v2 hv H1 locs1 hR1 hS1 => ?_) T hT X
    cases hv
    have kk := kk H1 locs1 ls hR1 hS1 hl
    refine W.cs (cells' := w1.2.1 - c0) (slots' := w1.2.2 - s0) (by omega) (by omega) ?_
    refine W.eq ?_ kk
    show F0 m (pc + 3) ls _ = F0 m (pc + 3) ls ((v.toList ++ rest).map (xv B b))
    cases v <;> simp
  · rename_i E w1 ho
    split at h
    · rename_i hd hhd
      have hm := hmono _ _ ho
      split at h
      · rename_i q0 k0 q1 q2 hat
        split at h
        · rename_i hk0
          cases h
          refine ⟨hm, fun hRc hRs kk H locs ls hR hS hl => ?_⟩
          simp only at hRc hRs
          intro T hT X
          have hup := xsize X
          rw [hT] at hup
          obtain ⟨a, hrr⟩ := hrun _ _ ho hRc hRs H locs ls hR hS hl.1 (by omega)
          refine xrun_call hrr hS (fun E2 hE ce q9 H1 locs1 hR1 hS1 g1 g2 g3 => ?_) (fun v2 hv => by cases hv) T hT X
          cases hE
          refine xcatch hC hhd g1 g2 g3 ?_
          have hmem := xat_mem hat
          have hok1 := hall _ hmem.1
          have hl1 := xat_len hat
          have hq1 : q1 = 1 := beq_iff_eq.mp hl1
          have hq0 : q0 = hd := hmem.2
          subst hq1; subst hq0
          have hdg : decode (xcode y) q0 = .ok (.astore_n k0, 1) := by
            simp only [xokI, Bool.and_eq_true] at hok1
            simpa [xdec] using hok1.1
          refine lv_astore_n hx hb hdg rfl hl.has hk0 rfl (fun ls' hl' => ?_)
          have kk := kk H1 locs1 ls' hR1 hS1 (xls.del hl')
          exact W.cs (cells' := w1.2.1 - c0) (slots' := w1.2.2 - s0) (by omega) (by omega) kk
        · cases h
      · rename_i q0 k0 q1 q2 hat
        split at h
        · rename_i hk0
          cases h
          refine ⟨hm, fun hRc hRs kk H locs ls hR hS hl => ?_⟩
          simp only at hRc hRs
          intro T hT X
          have hup := xsize X
          rw [hT] at hup
          obtain ⟨a, hrr⟩ := hrun _ _ ho hRc hRs H locs ls hR hS hl.1 (by omega)
          refine xrun_call hrr hS (fun E2 hE ce q9 H1 locs1 hR1 hS1 g1 g2 g3 => ?_) (fun v2 hv => by cases hv) T hT X
          cases hE
          refine xcatch hC hhd g1 g2 g3 ?_
          have hmem := xat_mem hat
          have hok1 := hall _ hmem.1
          have hl1 := xat_len hat
          have hq1 : q1 = 2 := beq_iff_eq.mp hl1
          have hq0 : q0 = hd := hmem.2
          subst hq1; subst hq0
          have hdg : decode (xcode y) q0 = .ok (.astore k0, 2) := by
            simp only [xokI, Bool.and_eq_true] at hok1
            simpa [xdec] using hok1.1
          refine lv_astore hx hb hdg hl.has hk0 rfl (fun ls' hl' => ?_)
          have kk := kk H1 locs1 ls' hR1 hS1 (xls.del hl')
          exact W.cs (cells' := w1.2.1 - c0) (slots' := w1.2.2 - s0) (by omega) (by omega) kk
        · cases h
      · cases h
    · cases h
  · cases h
end XCL
