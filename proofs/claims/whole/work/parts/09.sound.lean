/-! each step of the small machine is a step of the real one -/
theorem xfld_spec {ci k : Nat} {f : String × String × String × Bool} (h : xfld ci k = some f) : ∃ q fl, xcls[ci]? = some q ∧ q.2[k]? = some fl ∧ f = (q.1, fl.1, fl.2.1, fl.2.2.1) := by
  unfold xfld at h
  split at h
  · rename_i q hq
    split at h
    · rename_i fl hf
      cases h
      exact ⟨q, fl, hq, hf, rfl⟩
    · cases h
  · cases h
theorem xcl_get {ci : Nat} {q : String × List (String × String × Bool × FieldType)} (h : xcls[ci]? = some q) : xcl[ci]? = some (q.1, xT q.1 q.2, q.2.length) := by
  unfold xcl
  rw [List.getElem?_map, h]
  rfl
theorem xT_get {C : String} {fs : List (String × String × Bool × FieldType)} {k : Nat} {f : String × String × Bool × FieldType} (h : fs[k]? = some f) : xT C fs k = (C, f.1, f.2.1, f.2.2.1) := by
  unfold xT
  rw [h]
theorem xfit_spec {B b : Nat} {ty : FieldType} {v : Value} (h : xfit ty v = true) : narrow ty (xv B b v) = xv B b v ∧ fits ty (xv B b v) = true := by
  unfold xfit at h
  split at h
  · exact ⟨rfl, rfl⟩
  · exact ⟨rfl, rfl⟩
  · rename_i x
    simp only [Bool.or_eq_true, beq_iff_eq] at h
    rcases h with rfl | rfl <;> exact ⟨rfl, rfl⟩
  · exact ⟨rfl, rfl⟩
  · exact ⟨rfl, rfl⟩
  · cases h
theorem xin_of {i : Int32} {n : Nat} (h : ¬ (i < 0 ∨ n ≤ i.toNatClampNeg)) : vp_in i n := h
theorem xe_i {B b : Nat} {dA : Nat → ClassId} (t n : Nat) (f : Nat → Int32) : xe B b dA (.inl (t, n, .inl f)) = .inl (dA t, n, .inl f) := rfl
theorem xe_l {B b : Nat} {dA : Nat → ClassId} (t n : Nat) (f : Nat → Int64) : xe B b dA (.inl (t, n, .inr (.inl f))) = .inl (dA t, n, .inr (.inl f)) := rfl
theorem xe_q {B b : Nat} {dA : Nat → ClassId} (t n : Nat) (f : Nat → Option Nat) : xe B b dA (.inl (t, n, .inr (.inr (.inr (.inr f))))) = .inl (dA t, n, .inr (.inr (.inr (.inr (fun j => (f j).map (B + ·)))))) := rfl
theorem xe_o {B b : Nat} {dA : Nat → ClassId} (ci : Nat) (fs : List Value) : xe B b dA (.inr (ci, fs)) = .inr (ci, fs.map (xv B b)) := rfl
theorem xjmp_spec {pc t : Nat} {off : Int} (h : xjmp pc off = some t) : (pc : Int) + off = (t : Int) := by
  unfold xjmp at h
  split at h
  · rename_i t' ht
    cases h
    exact ht
  · cases h
section XS
variable {p : Program} {l : Launch} {e : Env} {R : Room} {s : State} {m : MethodId} {args : Array Value} {below : List Frame} {meth : Method} {c : Code} {Q : State → Prop}
variable {D : va_G} {dA : Nat → ClassId} {B b y d c0 s0 : Nat} {xs : Nat × (Nat → Int32)} {orc : xO}
/-- from here the machine comes to Q -/
def xG (p : Program) (l : Launch) (e : Env) (R : Room) (s : State) (m : MethodId) (args : Array Value) (below : List Frame) (meth : Method) (c : Code) (Q : State → Prop) (D : va_G) (dA : Nat → ClassId) (B b y c0 s0 : Nat) (k : xC) : Prop :=
  ∀ (H : Heap) (locs : List Loc) (ls : Array Slot), xRel D B b dA H k.2.2.2 → va_S (xA B) s.heap H locs → xls B b ls (xmaxL y) k.2.1 → W p l e R s m args below meth c H locs (k.2.2.2.2.1 - c0) (k.2.2.2.2.2 - s0) Q (F0 m k.1 ls (k.2.2.1.map (xv B b)))
def xScr (xs : Nat × (Nat → Int32)) (B b : Nat) (s : State) : Prop := xs.1 = 0 ∨ (va_X b (xs.1 - 1) xs.2 s s.heap ∧ b < s.heap.size ∧ ¬ xA B b)
set_option maxHeartbeats 4000000 in
set_option maxRecDepth 100000 in
/-- the instructions that neither call nor make nor end -/
theorem xstep1 (C0 : xCtx p l R s m args meth c D dA B y d c0) (hscr : xScr xs B b s) {pc len : Nat} {i : Instr} {aux : List Nat} {lv : List (Option Value)} {st : List Value} {w : xW} {k' : xC}
    (hne9 : xins y ≠ []) (hok : xokI y (pc, i, len, aux) = true) (hlen : xokL (pc, i, len, aux) = true) (h : xi xs d orc y i aux pc lv st w = some (.inl k'))
    (hno : (∀ x, i ≠ .new x) ∧ (∀ x, i ≠ .newarray x) ∧ (∀ x, i ≠ .anewarray x) ∧ (∀ x, i ≠ .invokevirtual x) ∧ (∀ x, i ≠ .invokestatic x) ∧ (∀ x, i ≠ .invokespecial x)) :
    k'.2.2.2.2 = w.2 ∧ (xG p l e R s m args below meth c Q D dA B b y c0 s0 k' → xG p l e R s m args below meth c Q D dA B b y c0 s0 (pc, lv, st, w)) := by
  obtain ⟨hx, hb, hml, hown, hts, hlocks, hr, hnt, henv, hB, hB2, htr, hRf, hRl⟩ := C0
  have hK : va_K D xcl (xtys dA) s := henv.1
  have hdec : xdec y pc i len = true := by
    simp only [xokI, Bool.and_eq_true] at hok
    exact hok.1
  have hdg : decode (xcode y) pc = .ok (i, len) := by simpa [xdec] using hdec
  have hty0 : (xtys dA)[0]? = some (dA 0, .int) := rfl
  have hty1 : (xtys dA)[1]? = some (dA 1, .long) := rfl
  have hty2 : (xtys dA)[2]? = some (dA 2, .boolean) := rfl
  have hty3 : (xtys dA)[3]? = some (dA 3, .object "LaunchCountdown$State") := rfl
  cases i with
  | aload_n k =>
    cases (beq_iff_eq.mp hlen : len = 1)
    simp only [xi] at h
    split at h
    · rename_i a ha
      cases h
      exact ⟨rfl, fun kk H locs ls hR hS hl => lv_aload_n hx hb hdg rfl (hl.get ha) (kk H locs ls hR hS hl)⟩
    · rename_i a ha
      cases h
      exact ⟨rfl, fun kk H locs ls hR hS hl => lv_aload_n hx hb hdg rfl (hl.get ha) (kk H locs ls hR hS hl)⟩
    · cases h
  | aload k =>
    cases (beq_iff_eq.mp hlen : len = 2)
    simp only [xi] at h
    split at h
    · rename_i a ha
      cases h
      exact ⟨rfl, fun kk H locs ls hR hS hl => lv_aload hx hb hdg (hl.get ha) (kk H locs ls hR hS hl)⟩
    · cases h
  | iload_n k =>
    cases (beq_iff_eq.mp hlen : len = 1)
    simp only [xi] at h
    split at h
    · rename_i a ha
      cases h
      exact ⟨rfl, fun kk H locs ls hR hS hl => lv_iload_n hx hb hdg rfl (hl.get ha) (kk H locs ls hR hS hl)⟩
    · cases h
  | iload k =>
    cases (beq_iff_eq.mp hlen : len = 2)
    simp only [xi] at h
    split at h
    · rename_i a ha
      cases h
      exact ⟨rfl, fun kk H locs ls hR hS hl => lv_iload hx hb hdg (hl.get ha) (kk H locs ls hR hS hl)⟩
    · cases h
  | lload_n k =>
    cases (beq_iff_eq.mp hlen : len = 1)
    simp only [xi] at h
    split at h
    · rename_i a ha
      cases h
      exact ⟨rfl, fun kk H locs ls hR hS hl => lv_lload_n hx hb hdg rfl (hl.get ha) (kk H locs ls hR hS hl)⟩
    · cases h
  | dload k =>
    cases (beq_iff_eq.mp hlen : len = 2)
    simp only [xi] at h
    split at h
    · rename_i a ha
      cases h
      exact ⟨rfl, fun kk H locs ls hR hS hl => lv_dload hx hb hdg (hl.get ha) (kk H locs ls hR hS hl)⟩
    · cases h
  | istore_n k =>
    cases (beq_iff_eq.mp hlen : len = 1)
    simp only [xi] at h
    split at h
    · split at h
      · rename_i hk
        cases h
        exact ⟨rfl, fun kk H locs ls hR hS hl => lv_istore_n hx hb hdg rfl hl.has hk rfl (fun ls' hl' => kk H locs ls' hR hS (xls.set1 hl'))⟩
      · cases h
    · cases h
  | istore k =>
    cases (beq_iff_eq.mp hlen : len = 2)
    simp only [xi] at h
    split at h
    · split at h
      · rename_i hk
        cases h
        exact ⟨rfl, fun kk H locs ls hR hS hl => lv_istore hx hb hdg hl.has hk rfl (fun ls' hl' => kk H locs ls' hR hS (xls.set1 hl'))⟩
      · cases h
    · cases h
  | astore_n k =>
    cases (beq_iff_eq.mp hlen : len = 1)
    simp only [xi] at h
    split at h
    · split at h
      · rename_i hk
        cases h
        exact ⟨rfl, fun kk H locs ls hR hS hl => lv_astore_n hx hb hdg rfl hl.has hk rfl (fun ls' hl' => kk H locs ls' hR hS (xls.set1 hl'))⟩
      · cases h
    · cases h
  | astore k =>
    cases (beq_iff_eq.mp hlen : len = 2)
    simp only [xi] at h
    split at h
    · split at h
      · rename_i hk
        cases h
        exact ⟨rfl, fun kk H locs ls hR hS hl => lv_astore hx hb hdg hl.has hk rfl (fun ls' hl' => kk H locs ls' hR hS (xls.set1 hl'))⟩
      · cases h
    · cases h
  | lstore_n k =>
    cases (beq_iff_eq.mp hlen : len = 1)
    simp only [xi] at h
    split at h
    · split at h
      · rename_i hk
        cases h
        exact ⟨rfl, fun kk H locs ls hR hS hl => lv_lstore_n hx hb hdg rfl hl.has hk rfl (fun ls' hl' => kk H locs ls' hR hS (xls.set2 hl'))⟩
      · cases h
    · cases h
  | dstore k =>
    cases (beq_iff_eq.mp hlen : len = 2)
    simp only [xi] at h
    split at h
    · split at h
      · rename_i hk
        cases h
        exact ⟨rfl, fun kk H locs ls hR hS hl => lv_dstore hx hb hdg hl.has hk rfl (fun ls' hl' => kk H locs ls' hR hS (xls.set2 hl'))⟩
      · cases h
    · cases h
  | iinc k n =>
    cases (beq_iff_eq.mp hlen : len = 3)
    simp only [xi] at h
    split at h
    · rename_i x hxk
      split at h
      · rename_i hk
        cases h
        refine ⟨rfl, fun kk H locs ls hR hS hl => ?_⟩
        have hm : (k, Value.int x) ∈ xal2 B b lv := by
          unfold xlget at hxk
          split at hxk
          · rename_i v' hv'
            cases hxk
            exact xal2_of (B := B) (b := b) hv'
          · cases hxk
        obtain ⟨j, hj⟩ := List.getElem?_of_mem hm
        exact lv_iinc hx hb hdg hl.has hj rfl hk rfl (fun ls' hl' => kk H locs ls' hR hS (xls.set1 hl'))
      · cases h
    · cases h
  | iconst n =>
    cases (beq_iff_eq.mp hlen : len = 1)
    simp only [xi] at h
    cases h
    exact ⟨rfl, fun kk H locs ls hR hS hl => lv_iconst hx hb hdg rfl (kk H locs ls hR hS hl)⟩
  | bipush n =>
    cases (beq_iff_eq.mp hlen : len = 2)
    simp only [xi] at h
    cases h
    exact ⟨rfl, fun kk H locs ls hR hS hl => lv_bipush hx hb hdg rfl (kk H locs ls hR hS hl)⟩
  | sipush n =>
    cases (beq_iff_eq.mp hlen : len = 3)
    simp only [xi] at h
    cases h
    exact ⟨rfl, fun kk H locs ls hR hS hl => lv_sipush hx hb hdg rfl (kk H locs ls hR hS hl)⟩
  | lconst n =>
    cases (beq_iff_eq.mp hlen : len = 1)
    simp only [xi] at h
    cases h
    exact ⟨rfl, fun kk H locs ls hR hS hl => lv_lconst hx hb hdg rfl (kk H locs ls hR hS hl)⟩
  | dconst n =>
    cases (beq_iff_eq.mp hlen : len = 1)
    simp only [xi] at h
    split at h
    · rename_i hn
      subst hn
      cases h
      exact ⟨rfl, fun kk H locs ls hR hS hl => lv_dconst0 hx hb hdg (kk H locs ls hR hS hl)⟩
    · rename_i hn
      have h1 : n = 1 := by omega
      subst h1
      cases h
      exact ⟨rfl, fun kk H locs ls hR hS hl => lv_dconst1 hx hb hdg (kk H locs ls hR hS hl)⟩
  | ldc ix =>
    cases (beq_iff_eq.mp hlen : len = 2)
    simp only [xi] at h
    split at h
    · cases h
      exact ⟨rfl, fun kk H locs ls hR hS hl => lv_ldc hx hb hown (hts _ (xword_in (by simp only [xokI, Bool.and_eq_true] at hok; exact hok.2))) hdg (kk H locs ls hR hS hl)⟩
    · cases h
  | ldc_w ix =>
    cases (beq_iff_eq.mp hlen : len = 3)
    simp only [xi] at h
    split at h
    · cases h
      exact ⟨rfl, fun kk H locs ls hR hS hl => lv_ldcw hx hb hown (hts _ (xword_in (by simp only [xokI, Bool.and_eq_true] at hok; exact hok.2))) hdg (kk H locs ls hR hS hl)⟩
    · cases h
  | ldc2_w ix =>
    cases (beq_iff_eq.mp hlen : len = 3)
    simp only [xi] at h
    split at h
    · cases h
      exact ⟨rfl, fun kk H locs ls hR hS hl => lv_ldc2 hx hb hown (hts _ (xword_in (by simp only [xokI, Bool.and_eq_true] at hok; exact hok.2))) hdg (kk H locs ls hR hS hl)⟩
    · cases h
  | getfield ix =>
    cases (beq_iff_eq.mp hlen : len = 3)
    simp only [xi] at h
    split at h
    · rename_i ci k li a st
      split at h
      · rename_i v hv
        cases h
        refine ⟨rfl, fun kk H locs ls hR hS hl => ?_⟩
        simp only [xokI, Bool.and_eq_true] at hok
        replace hok := hok.2
        split at hok
        · rename_i f hf
          obtain ⟨q, fl, hq, hfl, rfl⟩ := xfld_spec hf
          obtain ⟨fs, h1, h2⟩ := xget_spec hv
          have hlt : k < q.2.length := (List.getElem?_eq_some_iff.mp hfl).1
          exact va_get (D := D) (cl := xcl) (ci := ci) (v := xv B b v) (C := q.1) (T := xT q.1 q.2) (N := q.2.length) (ref := q.1) hx hb hts (xlin_all ci q hq) hown hK hR a (xws_at h1) (xcl_get hq) k hlt (by rw [xT_get hfl]; exact hts _ (xword_in hok)) (by rw [xT_get hfl]; exact fun _ h9 => h9) (by rw [List.getElem?_map, h2]; rfl) hdg (kk H locs ls hR hS hl)
        · cases hok
      · cases h
    · cases h
  | putfield ix =>
    cases (beq_iff_eq.mp hlen : len = 3)
    simp only [xi] at h
    split at h
    · rename_i ci k li fin v a st
      split at h
      · rename_i hfit
        split at h
        · rename_i L' hL'
          cases h
          refine ⟨rfl, fun kk H locs ls hR hS hl => ?_⟩
          simp only [xokI, Bool.and_eq_true] at hok
          replace hok := hok.2
          split at hok
          · rename_i f hf
            obtain ⟨q, fl, hq, hfl, rfl⟩ := xfld_spec hf
            obtain ⟨fs, h1, h2, rfl⟩ := xput_spec hL'
            have hlt : k < q.2.length := (List.getElem?_eq_some_iff.mp hfl).1
            simp only [Bool.and_eq_true] at hok
            obtain ⟨hn, hf2⟩ := xfit_spec (B := B) (b := b) hfit
            have hset : (xws B b dA w.1).set a (B + a, .inr (ci, (fs.map (xv B b)).set k (xv B b v))) = xws B b dA (w.1.set a (.inr (ci, fs.set k v))) := by
              rw [← xws_set, xe_o, List.map_set]
            cases hfin : fl.2.2.1 with
            | false =>
              refine va_put (D := D) (cl := xcl) (ci := ci) (v := xv B b v) (ty := xfty ci k) (C := q.1) (T := xT q.1 q.2) (N := q.2.length) (ref := q.1) (fs := fs.map (xv B b)) hx hb hts (xlin_all ci q hq) (xfty ci) (xpd_all ci q hq) (xnm_all ci q hq) hown hK hR (xws_D w.1) hS a (xws_at h1) (xcl_get hq) k hlt (by rw [xT_get hfl]; exact hts _ (xword_in hok.1)) (by rw [xT_get hfl]; exact fun _ h9 => h9) (by rw [xT_get hfl]; exact hfin) (xpd_all ci q hq k hlt) hn hf2 (by rw [List.length_map]; exact h2) hdg (fun H1 locs1 hP1 _ hS1 => ?_)
              rw [hset] at hP1
              exact kk H1 locs1 ls hP1 hS1 hl
            | true =>
              have hc2 := hok.2
              rw [hfin] at hc2
              simp only [Bool.not_true, Bool.false_or, Bool.and_eq_true, beq_iff_eq] at hc2
              refine va_putF (D := D) (cl := xcl) (ci := ci) (v := xv B b v) (ty := xfty ci k) (C := q.1) (T := xT q.1 q.2) (N := q.2.length) (ref := q.1) (fs := fs.map (xv B b)) hx hb hts (xlin_all ci q hq) (xfty ci) (xpd_all ci q hq) (xnm_all ci q hq) hown hK hR (xws_D w.1) hS a (xws_at h1) (xcl_get hq) k hlt (by rw [xT_get hfl]; exact hts _ (xword_in hok.1)) (by rw [xT_get hfl]; exact fun _ h9 => h9) (by rw [xT_get hfl]; exact hfin) ((hnt (xmi_in hne9 hc2.2)).1.trans hc2.2) (by rw [xT_get hfl]; exact hc2.1.symm) (xpd_all ci q hq k hlt) hn hf2 (by rw [List.length_map]; exact h2) hdg (fun H1 locs1 hP1 _ hS1 => ?_)
              rw [hset] at hP1
              exact kk H1 locs1 ls hP1 hS1 hl
          · cases hok
        · cases h
      · cases h
    · cases h
  | iaload =>
    cases (beq_iff_eq.mp hlen : len = 1)
    simp only [xi] at h
    split at h
    · rename_i i a st
      split at h
      · rename_i n f hf
        split at h
        · cases h
        · rename_i hin
          cases h
          exact ⟨rfl, fun kk H locs ls hR hS hl => va_iald hx hb hK hR a 0 (xws_at (xai_spec hf)) hty0 (xin_of hin) hdg (kk H locs ls hR hS hl)⟩
      · cases h
    · rename_i i a st
      split at h
      · cases h
      · rename_i hin
        cases h
        refine ⟨rfl, fun kk H locs ls hR hS hl => ?_⟩
        rcases hscr with h0 | ⟨hX, hbl, hbA⟩
        · rw [h0] at hin
          exact absurd (Or.inr (Nat.zero_le _)) hin
        · exact va_sld hx hb hX hbl hbA hS (xin_of hin) hdg (kk H locs ls hR hS hl)
    · cases h
  | iastore =>
    cases (beq_iff_eq.mp hlen : len = 1)
    simp only [xi] at h
    split at h
    · rename_i x i a st
      split at h
      · rename_i n f hf
        split at h
        · cases h
        · rename_i hin
          cases h
          refine ⟨rfl, fun kk H locs ls hR hS hl => va_iast hx hb hK hR (xws_D w.1) hS a 0 (xws_at (xai_spec hf)) hty0 (xin_of hin) hdg (fun H1 locs1 hP1 _ hS1 => ?_)⟩
          rw [← xe_i (B := B) (b := b), xws_set] at hP1
          exact kk H1 locs1 ls hP1 hS1 hl
      · cases h
    · cases h
  | baload =>
    cases (beq_iff_eq.mp hlen : len = 1)
    simp only [xi] at h
    split at h
    · rename_i i a st
      split at h
      · rename_i n f hf
        split at h
        · cases h
        · rename_i hin
          cases h
          exact ⟨rfl, fun kk H locs ls hR hS hl => va_zald hx hb hK hR a 2 (xws_at (xai_spec hf)) hty2 (xin_of hin) hdg (kk H locs ls hR hS hl)⟩
      · cases h
    · cases h
  | bastore =>
    cases (beq_iff_eq.mp hlen : len = 1)
    simp only [xi] at h
    split at h
    · rename_i x i a st
      split at h
      · rename_i n f hf
        split at h
        · cases h
        · rename_i hin
          cases h
          refine ⟨rfl, fun kk H locs ls hR hS hl => va_zast hx hb hK hR (xws_D w.1) hS a 2 (xws_at (xai_spec hf)) hty2 (xin_of hin) hdg (fun H1 locs1 hP1 _ hS1 => ?_)⟩
          rw [← xe_i (B := B) (b := b), xws_set] at hP1
          exact kk H1 locs1 ls hP1 hS1 hl
      · cases h
    · cases h
  | laload =>
    cases (beq_iff_eq.mp hlen : len = 1)
    simp only [xi] at h
    split at h
    · rename_i i a st
      split at h
      · rename_i n f hf
        split at h
        · cases h
        · rename_i hin
          cases h
          exact ⟨rfl, fun kk H locs ls hR hS hl => va_lald hx hb hK hR a 1 (xws_at (xal_spec hf)) hty1 (xin_of hin) hdg (kk H locs ls hR hS hl)⟩
      · cases h
    · cases h
  | lastore =>
    cases (beq_iff_eq.mp hlen : len = 1)
    simp only [xi] at h
    split at h
    · rename_i x i a st
      split at h
      · rename_i n f hf
        split at h
        · cases h
        · rename_i hin
          cases h
          refine ⟨rfl, fun kk H locs ls hR hS hl => va_last hx hb hK hR (xws_D w.1) hS a 1 (xws_at (xal_spec hf)) hty1 (xin_of hin) hdg (fun H1 locs1 hP1 _ hS1 => ?_)⟩
          rw [← xe_l (B := B) (b := b), xws_set] at hP1
          exact kk H1 locs1 ls hP1 hS1 hl
      · cases h
    · cases h
  | aaload =>
    cases (beq_iff_eq.mp hlen : len = 1)
    simp only [xi] at h
    split at h
    · rename_i i a st
      split at h
      · rename_i n f hf
        split at h
        · cases h
        · rename_i hin
          cases h
          refine ⟨rfl, fun kk H locs ls hR hS hl => va_aldq hx hb hK hR a 3 (xws_at (xaq_spec hf)) hty3 (xin_of hin) hdg ?_⟩
          have hv : va_rf ((f i.toNatClampNeg).map (B + ·)) = xv B b (va_rf (f i.toNatClampNeg)) := by cases f i.toNatClampNeg <;> rfl
          show W _ _ _ _ _ _ _ _ _ _ _ _ _ _ _ (F0 m (pc + 1) ls (va_rf ((f i.toNatClampNeg).map (B + ·)) :: _))
          rw [hv]
          exact kk H locs ls hR hS hl
      · cases h
    · cases h
  | aastore =>
    cases (beq_iff_eq.mp hlen : len = 1)
    simp only [xi] at h
    split at h
    · rename_i v i a st
      split at h
      · rename_i n f hf
        split at h
        · cases h
        · rename_i hin
          cases h
          have hin1 : vp_in i n := fun q => hin (q.elim Or.inl (fun z => Or.inr (Or.inl z)))
          have hin2 : xis w.1 v 5 = true := by
            cases hz : xis w.1 v 5
            · exact absurd (Or.inr (Or.inr hz)) hin
            · rfl
          obtain ⟨fs, hfs⟩ := xis_spec hin2
          refine ⟨rfl, fun kk H locs ls hR hS hl => va_astq (r := ("LaunchCountdown$State", xT "LaunchCountdown$State" fX5, 18)) hx hb hK hR (xws_D w.1) hS a 3 v 5 (xws_at (xaq_spec hf)) hty3 (xws_at hfs) (xcl_get (q := ("LaunchCountdown$State", fX5)) rfl) hin1 hdg (fun H1 locs1 hP1 _ hS1 => ?_)⟩
          have hfn : va_up (fun j => (f j).map (B + ·)) i.toNatClampNeg (some (B + v)) = (fun j => (va_up f i.toNatClampNeg (some v) j).map (B + ·)) := by
            funext j
            unfold va_up
            by_cases hj : j = i.toNatClampNeg
            · simp [hj]
            · simp [hj]
          rw [hfn, ← xe_q (B := B) (b := b), xws_set] at hP1
          exact kk H1 locs1 ls hP1 hS1 hl
      · cases h
    · cases h
  | arraylength =>
    cases (beq_iff_eq.mp hlen : len = 1)
    simp only [xi] at h
    split at h
    · rename_i a st
      split at h
      · rename_i n hn
        cases h
        refine ⟨rfl, fun kk H locs ls hR hS hl => ?_⟩
        obtain ⟨t, x, ht, hx2⟩ := xlen_spec hn
        have hx3 := xws_at (B := B) (b := b) (dA := dA) hx2
        obtain ⟨z, hz⟩ : ∃ z, xe B b dA (.inl (t, n, x)) = .inl (dA t, n, z) := by
          rcases x with x | x | x | x | x <;> exact ⟨_, rfl⟩
        rw [hz] at hx3
        have hty : ∃ ty, (xtys dA)[t]? = some (dA t, ty) := by
          match t, ht with
          | 0, _ => exact ⟨_, rfl⟩
          | 1, _ => exact ⟨_, rfl⟩
          | 2, _ => exact ⟨_, rfl⟩
          | 3, _ => exact ⟨_, rfl⟩
        obtain ⟨ty, hty⟩ := hty
        exact va_alen hx hb hK hR a t hx3 hty rfl hdg (kk H locs ls hR hS hl)
      · cases h
    · rename_i st
      split at h
      · cases h
      · rename_i hne
        cases h
        refine ⟨rfl, fun kk H locs ls hR hS hl => ?_⟩
        rcases hscr with h0 | ⟨hX, hbl, hbA⟩
        · exact absurd h0 hne
        · exact va_slen hx hb hX hbl hbA hS hdg (kk H locs ls hR hS hl)
    · cases h
  | iadd =>
    cases (beq_iff_eq.mp hlen : len = 1)
    simp only [xi] at h
    split at h
    · cases h
      exact ⟨rfl, fun kk H locs ls hR hS hl => lv_iadd hx hb hdg (kk H locs ls hR hS hl)⟩
    · cases h
  | isub =>
    cases (beq_iff_eq.mp hlen : len = 1)
    simp only [xi] at h
    split at h
    · cases h
      exact ⟨rfl, fun kk H locs ls hR hS hl => lv_isub hx hb hdg (kk H locs ls hR hS hl)⟩
    · cases h
  | imul =>
    cases (beq_iff_eq.mp hlen : len = 1)
    simp only [xi] at h
    split at h
    · cases h
      exact ⟨rfl, fun kk H locs ls hR hS hl => lv_imul hx hb hdg (kk H locs ls hR hS hl)⟩
    · cases h
  | iand =>
    cases (beq_iff_eq.mp hlen : len = 1)
    simp only [xi] at h
    split at h
    · cases h
      exact ⟨rfl, fun kk H locs ls hR hS hl => lv_iand hx hb hdg (kk H locs ls hR hS hl)⟩
    · cases h
  | ior =>
    cases (beq_iff_eq.mp hlen : len = 1)
    simp only [xi] at h
    split at h
    · cases h
      exact ⟨rfl, fun kk H locs ls hR hS hl => lv_ior hx hb hdg (kk H locs ls hR hS hl)⟩
    · cases h
  | ixor =>
    cases (beq_iff_eq.mp hlen : len = 1)
    simp only [xi] at h
    split at h
    · cases h
      exact ⟨rfl, fun kk H locs ls hR hS hl => lv_ixor hx hb hdg (kk H locs ls hR hS hl)⟩
    · cases h
  | ishl =>
    cases (beq_iff_eq.mp hlen : len = 1)
    simp only [xi] at h
    split at h
    · cases h
      exact ⟨rfl, fun kk H locs ls hR hS hl => lv_ishl hx hb hdg (kk H locs ls hR hS hl)⟩
    · cases h
  | ishr =>
    cases (beq_iff_eq.mp hlen : len = 1)
    simp only [xi] at h
    split at h
    · cases h
      exact ⟨rfl, fun kk H locs ls hR hS hl => lv_ishr hx hb hdg (kk H locs ls hR hS hl)⟩
    · cases h
  | iushr =>
    cases (beq_iff_eq.mp hlen : len = 1)
    simp only [xi] at h
    split at h
    · cases h
      exact ⟨rfl, fun kk H locs ls hR hS hl => lv_iushr hx hb hdg rfl (kk H locs ls hR hS hl)⟩
    · cases h
  | idiv =>
    cases (beq_iff_eq.mp hlen : len = 1)
    simp only [xi] at h
    split at h
    · split at h
      · cases h
      · rename_i hne
        cases h
        exact ⟨rfl, fun kk H locs ls hR hS hl => lv_idiv hx hb hdg hne (kk H locs ls hR hS hl)⟩
    · cases h
  | irem =>
    cases (beq_iff_eq.mp hlen : len = 1)
    simp only [xi] at h
    split at h
    · split at h
      · cases h
      · rename_i hne
        cases h
        exact ⟨rfl, fun kk H locs ls hR hS hl => lv_irem hx hb hdg hne (kk H locs ls hR hS hl)⟩
    · cases h
  | ladd =>
    cases (beq_iff_eq.mp hlen : len = 1)
    simp only [xi] at h
    split at h
    · cases h
      exact ⟨rfl, fun kk H locs ls hR hS hl => lv_ladd hx hb hdg (kk H locs ls hR hS hl)⟩
    · cases h
  | lmul =>
    cases (beq_iff_eq.mp hlen : len = 1)
    simp only [xi] at h
    split at h
    · cases h
      exact ⟨rfl, fun kk H locs ls hR hS hl => lv_lmul hx hb hdg (kk H locs ls hR hS hl)⟩
    · cases h
  | lcmp =>
    cases (beq_iff_eq.mp hlen : len = 1)
    simp only [xi] at h
    split at h
    · cases h
      exact ⟨rfl, fun kk H locs ls hR hS hl => W.lcmp hx hb hdg (kk H locs ls hR hS hl)⟩
    · cases h
  | i2l =>
    cases (beq_iff_eq.mp hlen : len = 1)
    simp only [xi] at h
    split at h
    · cases h
      exact ⟨rfl, fun kk H locs ls hR hS hl => lv_i2l hx hb hdg rfl (kk H locs ls hR hS hl)⟩
    · cases h
  | i2d =>
    cases (beq_iff_eq.mp hlen : len = 1)
    simp only [xi] at h
    split at h
    · cases h
      exact ⟨rfl, fun kk H locs ls hR hS hl => lv_i2d hx hb hdg (kk H locs ls hR hS hl)⟩
    · cases h
  | ddiv =>
    cases (beq_iff_eq.mp hlen : len = 1)
    simp only [xi] at h
    split at h
    · split at h
      · rename_i hne
        cases h
        exact ⟨rfl, fun kk H locs ls hR hS hl => lv_ddiv hx hb hdg hne (kk H locs ls hR hS hl)⟩
      · cases h
    · cases h
  | dmul =>
    cases (beq_iff_eq.mp hlen : len = 1)
    simp only [xi] at h
    split at h
    · split at h
      · rename_i hne
        cases h
        exact ⟨rfl, fun kk H locs ls hR hS hl => lv_dmul hx hb hdg hne (kk H locs ls hR hS hl)⟩
      · cases h
    · cases h
  | dcmp op =>
    cases (beq_iff_eq.mp hlen : len = 1)
    simp only [xi] at h
    split at h
    · cases h
      exact ⟨rfl, fun kk H locs ls hR hS hl => lv_dcmp hx hb hdg (kk H locs ls hR hS hl)⟩
    · cases h
  | dup =>
    cases (beq_iff_eq.mp hlen : len = 1)
    simp only [xi] at h
    split at h
    · split at h
      · rename_i hc
        cases h
        exact ⟨rfl, fun kk H locs ls hR hS hl => lv_dup hx hb hdg ((xv_cat B b _).trans hc) (kk H locs ls hR hS hl)⟩
      · cases h
    · cases h
  | dup_x1 =>
    cases (beq_iff_eq.mp hlen : len = 1)
    simp only [xi] at h
    split at h
    · split at h
      · rename_i hc
        cases h
        exact ⟨rfl, fun kk H locs ls hR hS hl => lv_dup_x1 hx hb hdg ((xv_cat B b _).trans hc.1) ((xv_cat B b _).trans hc.2) (kk H locs ls hR hS hl)⟩
      · cases h
    · cases h
  | dup2 =>
    cases (beq_iff_eq.mp hlen : len = 1)
    simp only [xi] at h
    split at h
    · split at h
      · rename_i hc
        cases h
        exact ⟨rfl, fun kk H locs ls hR hS hl => lv_dup2_11 hx hb hdg ((xv_cat B b _).trans hc.1) ((xv_cat B b _).trans hc.2) (kk H locs ls hR hS hl)⟩
      · cases h
    · cases h
  | pop =>
    cases (beq_iff_eq.mp hlen : len = 1)
    simp only [xi] at h
    split at h
    · split at h
      · rename_i hc
        cases h
        exact ⟨rfl, fun kk H locs ls hR hS hl => lv_pop hx hb hdg ((xv_cat B b _).trans hc) (kk H locs ls hR hS hl)⟩
      · cases h
    · cases h
  | goto off =>
    cases (beq_iff_eq.mp hlen : len = 3)
    simp only [xi] at h
    split at h
    · rename_i t ht
      cases h
      exact ⟨rfl, fun kk H locs ls hR hS hl => lv_goto hx hb hdg (xjmp_spec ht) (kk H locs ls hR hS hl)⟩
    · cases h
  | ifCond cd off =>
    cases (beq_iff_eq.mp hlen : len = 3)
    simp only [xi] at h
    split at h
    · rename_i t x st ht
      cases h
      refine ⟨rfl, fun kk H locs ls hR hS hl => ?_⟩
      have kk := kk H locs ls hR hS hl
      cases cd with
      | eq =>
        refine lv_if_eq hx hb hdg (xjmp_spec ht) (fun hc => ?_) (fun hc => ?_)
        · simp only [xcnd, hc, decide_true, if_true, not_false_eq_true, not_true_eq_false] at kk
          exact kk
        · simp only [xcnd, hc, decide_false, Bool.false_eq_true, if_false, not_false_eq_true, not_true_eq_false] at kk
          exact kk
      | ne =>
        refine lv_if_ne hx hb hdg (xjmp_spec ht) (fun hc => ?_) (fun hc => ?_)
        · simp only [xcnd, hc, decide_true, if_true, not_false_eq_true, not_true_eq_false] at kk
          exact kk
        · simp only [xcnd, hc, decide_false, Bool.false_eq_true, if_false, not_false_eq_true, not_true_eq_false] at kk
          exact kk
      | lt =>
        refine lv_if_lt hx hb hdg (xjmp_spec ht) (fun hc => ?_) (fun hc => ?_)
        · simp only [xcnd, hc, decide_true, if_true, not_false_eq_true, not_true_eq_false] at kk
          exact kk
        · simp only [xcnd, hc, decide_false, Bool.false_eq_true, if_false, not_false_eq_true, not_true_eq_false] at kk
          exact kk
      | ge =>
        refine lv_if_ge hx hb hdg (xjmp_spec ht) (fun hc => ?_) (fun hc => ?_)
        · simp only [xcnd, hc, decide_true, if_true, not_false_eq_true, not_true_eq_false] at kk
          exact kk
        · simp only [xcnd, hc, decide_false, Bool.false_eq_true, if_false, not_false_eq_true, not_true_eq_false] at kk
          exact kk
      | gt =>
        refine lv_if_gt hx hb hdg (xjmp_spec ht) (fun hc => ?_) (fun hc => ?_)
        · simp only [xcnd, hc, decide_true, if_true, not_false_eq_true, not_true_eq_false] at kk
          exact kk
        · simp only [xcnd, hc, decide_false, Bool.false_eq_true, if_false, not_false_eq_true, not_true_eq_false] at kk
          exact kk
      | le =>
        refine lv_if_le hx hb hdg (xjmp_spec ht) (fun hc => ?_) (fun hc => ?_)
        · simp only [xcnd, hc, decide_true, if_true, not_false_eq_true, not_true_eq_false] at kk
          exact kk
        · simp only [xcnd, hc, decide_false, Bool.false_eq_true, if_false, not_false_eq_true, not_true_eq_false] at kk
          exact kk
    · cases h
  | if_icmp cd off =>
    cases (beq_iff_eq.mp hlen : len = 3)
    simp only [xi] at h
    split at h
    · rename_i t x z st ht
      cases h
      refine ⟨rfl, fun kk H locs ls hR hS hl => ?_⟩
      have kk := kk H locs ls hR hS hl
      cases cd with
      | eq =>
        refine lv_icmp_eq hx hb hdg (xjmp_spec ht) (fun hc => ?_) (fun hc => ?_)
        · simp only [xcnd, hc, decide_true, if_true, not_false_eq_true, not_true_eq_false] at kk
          exact kk
        · simp only [xcnd, hc, decide_false, Bool.false_eq_true, if_false, not_false_eq_true, not_true_eq_false] at kk
          exact kk
      | ne =>
        refine lv_icmp_ne hx hb hdg (xjmp_spec ht) (fun hc => ?_) (fun hc => ?_)
        · simp only [xcnd, hc, decide_true, if_true, not_false_eq_true, not_true_eq_false] at kk
          exact kk
        · simp only [xcnd, hc, decide_false, Bool.false_eq_true, if_false, not_false_eq_true, not_true_eq_false] at kk
          exact kk
      | lt =>
        refine lv_icmp_lt hx hb hdg (xjmp_spec ht) (fun hc => ?_) (fun hc => ?_)
        · simp only [xcnd, hc, decide_true, if_true, not_false_eq_true, not_true_eq_false] at kk
          exact kk
        · simp only [xcnd, hc, decide_false, Bool.false_eq_true, if_false, not_false_eq_true, not_true_eq_false] at kk
          exact kk
      | ge =>
        refine lv_icmp_ge hx hb hdg (xjmp_spec ht) (fun hc => ?_) (fun hc => ?_)
        · simp only [xcnd, hc, decide_true, if_true, not_false_eq_true, not_true_eq_false] at kk
          exact kk
        · simp only [xcnd, hc, decide_false, Bool.false_eq_true, if_false, not_false_eq_true, not_true_eq_false] at kk
          exact kk
      | gt =>
        refine lv_icmp_gt hx hb hdg (xjmp_spec ht) (fun hc => ?_) (fun hc => ?_)
        · simp only [xcnd, hc, decide_true, if_true, not_false_eq_true, not_true_eq_false] at kk
          exact kk
        · simp only [xcnd, hc, decide_false, Bool.false_eq_true, if_false, not_false_eq_true, not_true_eq_false] at kk
          exact kk
      | le =>
        refine lv_icmp_le hx hb hdg (xjmp_spec ht) (fun hc => ?_) (fun hc => ?_)
        · simp only [xcnd, hc, decide_true, if_true, not_false_eq_true, not_true_eq_false] at kk
          exact kk
        · simp only [xcnd, hc, decide_false, Bool.false_eq_true, if_false, not_false_eq_true, not_true_eq_false] at kk
          exact kk
    · cases h
  | tableswitch dflt lo hi offs =>
    simp only [xi] at h
    split at h
    · rename_i x st
      split at h
      · rename_i hout
        split at h
        · rename_i t ht
          cases h
          exact ⟨rfl, fun kk H locs ls hR hS hl => lv_tableOut hx hb hdg hout (xjmp_spec ht) (kk H locs ls hR hS hl)⟩
        · cases h
      · rename_i hin
        split at h
        · rename_i off hoff
          split at h
          · rename_i t ht
            cases h
            exact ⟨rfl, fun kk H locs ls hR hS hl => lv_tableIn hx hb hdg (fun q => hin (Or.inl q)) (fun q => hin (Or.inr q)) hoff (xjmp_spec ht) (kk H locs ls hR hS hl)⟩
          · cases h
        · cases h
    · cases h
  | lookupswitch dflt ps =>
    simp only [xi] at h
    split at h
    · rename_i x st
      split at h
      · rename_i hsrt
        split at h
        · rename_i t ht
          cases h
          exact ⟨rfl, fun kk H locs ls hR hS hl => lv_lookup hx hb hdg hsrt rfl (xjmp_spec ht) (kk H locs ls hR hS hl)⟩
        · cases h
      · cases h
    · cases h
  | ireturn =>
    simp only [xi] at h
    split at h
    · split at h <;> cases h
    · cases h
  | lreturn =>
    simp only [xi] at h
    split at h
    · split at h <;> cases h
    · cases h
  | dreturn =>
    simp only [xi] at h
    split at h
    · split at h <;> cases h
    · cases h
  | return_ =>
    simp only [xi] at h
    split at h
    · split at h <;> cases h
    · cases h
  | new x => exact absurd rfl (hno.1 x)
  | newarray x => exact absurd rfl (hno.2.1 x)
  | anewarray x => exact absurd rfl (hno.2.2.1 x)
  | invokevirtual x => exact absurd rfl (hno.2.2.2.1 x)
  | invokestatic x => exact absurd rfl (hno.2.2.2.2.1 x)
  | invokespecial x => exact absurd rfl (hno.2.2.2.2.2 x)
  | _ => cases h
end XS
