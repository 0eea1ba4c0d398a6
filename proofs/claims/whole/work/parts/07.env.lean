/-! what a method's start gives beside the good words; contracts of the small machine's methods -/
def xspecial : Cond → Bool
  | .methodLinkNest .. => true
  | .castable .. => true
  | .declares _ => true
  | _ => false
def xEnv (D : va_G) (dA : Nat → ClassId) (B : Nat) (U : State) (H : Heap) : Prop :=
  va_K D xcl (xtys dA) U ∧ (∀ w ∈ lw_tbl, xspecial w = true → va_Nw w U) ∧ (∀ (own : String) (k : Nat) (tx : String), Cond.stringRef own k tx ∈ lw_tbl → ∃ sa, vk_R own k tx sa U) ∧ va_AO "LaunchCountdown$State" U ∧ (∀ i j : Nat, i < 3 → j < 3 → i ≠ j → va_Nc (xexn i) (xexn j) U) ∧ vx_Zq Bundle.tN "UNASSIGNED_STACK" Bundle.steD (xA B) U H ∧ vx_Zq Bundle.tN "SUPPRESSED_SENTINEL" Bundle.listD (xA B) U H
theorem xEnv.warm {D : va_G} {dA : Nat → ClassId} {B : Nat} {s U : State} {H : Heap} (hW : s.WarmedH U.vm) (h : xEnv D dA B s H) : xEnv D dA B U H := by
  obtain ⟨h1, h2, h3, h4, h5, h6, h7⟩ := h
  refine ⟨va_K.moved hW.alike h1, fun w hw hsp => ?_, fun own k tx hm => ?_, va_AO.moved hW.alike h4, fun i j hi hj hn => (h5 i j hi hj hn).moved hW.alike, h6.moved hW.alike, h7.moved hW.alike⟩
  · have hz := h2 w hw hsp
    match w, hsp, hz with
    | .methodLinkNest a i x hh, _, hz => exact va_Nw.warmM hW hz
    | .castable C E, _, hz => exact va_tabs (A := #[]) (A' := #[]) (u := s.setVm U.vm) (U := U) rfl rfl (by rw [Cond.castable_setVm hW.alike]; exact hz)
    | .declares x, _, hz => exact va_tabs (A := #[]) (A' := #[]) (u := s.setVm U.vm) (U := U) rfl rfl (by rw [Cond.declares_setVm hW.alike]; exact hz)
  · obtain ⟨sa, hr⟩ := h3 own k tx hm
    exact ⟨sa, vk_R.warm hW hr⟩
theorem xEnv.kept {D : va_G} {dA : Nat → ClassId} {B : Nat} {U : State} {H H1 : Heap} (h : xEnv D dA B U H) (hq : ∀ a : Nat, a < H.size → ¬ xA B a → H1[a]? = H[a]?) : xEnv D dA B U H1 := by
  obtain ⟨h1, h2, h3, h4, h5, h6, h7⟩ := h
  exact ⟨h1, h2, h3, h4, h5, h6.kept hq, h7.kept hq⟩
def xPc (D : va_G) (dA : Nat → ClassId) (B b : Nat) (as : List Value) (w : xW) : Array Value → State → Prop := va_Pc (as.map (xv B b)) (fun U => xRel D B b dA U.heap w ∧ U.heap.size ≤ B + w.2.1 ∧ B ≤ U.heap.size ∧ xEnv D dA B U U.heap)
def xQc (D : va_G) (dA : Nat → ClassId) (B b : Nat) (r : xR) (w' : xW) : Array Value → State → Outcome → State → Prop := fun _ st o t => (∃ v, r = .inl v ∧ o = .returned (v.map (xv B b)) ∧ xRel D B b dA t.heap w') ∧ va_F (xA B) st t
def xXC (D : va_G) (dA : Nat → ClassId) (B b : Nat) (r : xR) (w' : xW) : String → State → State → Prop := fun E st t => r = .inr E ∧ xRel D B b dA t.heap w' ∧ va_F (xA B) st t
def xroom (d mc ms : Nat) : Room := { frames := d, cells := mc, slots := ms, locals := 35 * d }
def xwm (y : Nat) : List Cond := xcodeW y :: xgood
def xMet (l : Launch) (D : va_G) (dA : Nat → ClassId) (B b d y : Nat) (as : List Value) (w : xW) (r : xR) (w' : xW) : Prop :=
  vx_Met l (xname y) (xwm y) (xroom d (w'.2.1 - w.2.1) (w'.2.2 - w.2.2)) (xPc D dA B b as w) (xQc D dA B b r w') (xXC D dA B b r w') (w'.2.1 - w.2.1) (w'.2.2 - w.2.2) (xA B)
/-- the calls that the small machine takes as done are done -/
def xOk (l : Launch) (D : va_G) (dA : Nat → ClassId) (B b d : Nat) (orc : xO) : Prop :=
  ∀ (y : Nat) (as : List Value) (w : xW) (r : xR) (w' : xW), y < 238 → orc y as w = some (r, w') → (w.2.1 ≤ w'.2.1 ∧ w.2.2 ≤ w'.2.2) ∧ xMet l D dA B b d y as w r w'
theorem xPc.blind {D : va_G} {dA : Nat → ClassId} {B b : Nat} {as : List Value} {w : xW} : FrameBlind (xPc D dA B b as w) := by
  intro a U g mk h
  obtain ⟨h1, h2, h3, h4, h5⟩ := h
  exact ⟨h1, h2, h3, h4, xEnv.warm (show U.WarmedH (U.calling g mk a).vm from State.WarmedH.refl U) h5⟩
def xCtx (p : Program) (l : Launch) (R : Room) (s : State) (m : MethodId) (args : Array Value) (meth : Method) (c : Code) (D : va_G) (dA : Nat → ClassId) (B y d c0 : Nat) : Prop :=
  p.tables.exec = Jvm.exec ∧ c.code = xcode y ∧ c.maxLocals = xmaxL y ∧ s.vm.findClass (xown y) = some m.cls ∧ (∀ w ∈ xgood, w.before args s = true) ∧ meth.locks = false ∧ meth.sig.returnType = xret y ∧ ((xmi y).length = 6 → meth.name = (xname y).name ∧ c.exceptionTable.toList = tableOf (xhh y)) ∧ xEnv D dA B s s.heap ∧ B ≤ s.heap.size ∧ s.heap.size ≤ B + c0 ∧ l.stackTraces = false ∧ d + 1 ≤ R.frames ∧ 35 * (d + 1) ≤ R.locals
section XR
variable {p : Program} {l : Launch} {e : Env} {R : Room} {s : State} {m : MethodId} {args : Array Value} {below : List Frame} {meth : Method} {c : Code} {H : Heap} {locs : List Loc} {cells slots : Nat} {Q : State → Prop}
variable {D : va_G} {dA : Nat → ClassId} {B b : Nat}
theorem xrun_call {r : xR} {w' : xW} {mc ms pc : Nat} {ls : Array Slot} {st0 rest : List Value} {a : Array Value} {H0 : Heap} (hr : vx_Run p l e R s m args below meth c H locs cells slots mc ms (F0 m pc ls st0) rest (xQc D dA B b r w' a) (xXC D dA B b r w') (xA B)) (hS : va_S (xA B) H0 H locs)
    (kx : ∀ E : String, r = .inr E → ∀ (ce : Cell) (q9 : Addr) (H1 : Heap) (locs1 : List Loc), xRel D B b dA H1 w' → va_S (xA B) H0 H1 locs1 → H1[q9]? = some ce → ce.vm = .none → s.vm.findClass E = some ce.cls → vx_W p l e R s m args below meth c H1 locs1 (cells + mc) (slots + ms) Q (F0 m pc ls rest) q9)
    (kk : ∀ v : Option Value, r = .inl v → ∀ (H1 : Heap) (locs1 : List Loc), xRel D B b dA H1 w' → va_S (xA B) H0 H1 locs1 → W p l e R s m args below meth c H1 locs1 (cells + mc) (slots + ms) Q (F0 m (pc + 3) ls ((v.map (xv B b)).toList ++ rest))) : W p l e R s m args below meth c H locs cells slots Q (F0 m pc ls st0) := by
  intro T hT X
  rcases hr T hT X with ⟨v, st₀, t, T', L, h0, X', hL, e1, e2, ⟨⟨v', hv, ho, hrel⟩, hF⟩, st⟩ | ⟨q, st₀, t, T', L, E, ce, h0, X', hL, e1, e2, ⟨hE, hrel, hF⟩, hce, hcv, hcl, st⟩
  · cases ho
    obtain ⟨k1, k2, k3⟩ := vx_keep h0 e1 hS (fun q _ h => h) (fun q h => h) hL hF
    obtain ⟨t2, a1, b1⟩ := kk v' hv T'.heap (locs ++ L) (by rw [e1]; exact hrel) k3 T' rfl X'
    exact ⟨t2, st t2 a1, b1⟩
  · obtain ⟨k1, k2, k3⟩ := vx_keep h0 e1 hS (fun q _ h => h) (fun q h => h) hL hF
    obtain ⟨t2, a1, b1⟩ := kx E hE ce q T'.heap (locs ++ L) (by rw [e1]; exact hrel) k3 (by rw [e1]; exact hce) hcv hcl T' rfl X'
    exact ⟨t2, st.trans a1, b1⟩
/-- how large the heap can be here -/
theorem xsize {T : State} (X : Stand p l e R s m args below meth c T locs cells slots) : T.heap.size ≤ s.heap.size + cells := X.same.2.2.1
end XR
theorem xhan_spec : ∀ (hh : List (Nat × Nat × Nat × Nat)) (pc h : Nat) (E : String), xhan hh pc E = some h → ∃ pre x suf, hh = pre ++ x :: suf ∧ (∀ z ∈ pre, xct z.2.2.2 ≠ "" ∧ xct z.2.2.2 ≠ E) ∧ (x.1 ≤ pc ∧ pc < x.2.1) ∧ x.2.2.1 = h ∧ xct x.2.2.2 = E ∧ E ≠ "" := by
  intro hh
  induction hh with
  | nil => intro pc h E hq; cases hq
  | cons z hh ih =>
    intro pc h E hq
    simp only [xhan] at hq
    split at hq
    · rename_i hcov
      split at hq
      · cases hq
      · rename_i hne
        split at hq
        · rename_i he
          cases hq
          exact ⟨[], z, hh, rfl, fun _ h => absurd h List.not_mem_nil, hcov, rfl, he, fun q => hne (he.trans q)⟩
        · rename_i he
          obtain ⟨pre, x, suf, h1, h2, h3⟩ := ih pc h E hq
          refine ⟨z :: pre, x, suf, by rw [h1]; rfl, fun q hq => ?_, h3⟩
          rcases List.mem_cons.mp hq with rfl | hq
          · exact ⟨hne, he⟩
          · exact h2 q hq
    · cases hq
theorem xct_ix (k : Nat) (h : xct k ≠ "") : ∃ i, i < 3 ∧ xct k = xexn i ∧ k ≠ 0 := by
  unfold xct at h ⊢
  split at h
  · exact ⟨0, by decide, rfl, by decide⟩
  · exact ⟨1, by decide, rfl, by decide⟩
  · exact ⟨2, by decide, rfl, by decide⟩
  · exact absurd rfl h
