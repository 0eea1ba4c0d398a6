/-! the small machine's cells as cells of the heap: cell k lies at B + k -/
def xv (B b : Nat) : Value → Value
  | .ref k => .ref (B + k)
  | .float _ => .ref b
  | v => v
theorem xv_cat (B b : Nat) (v : Value) : (xv B b v).category = v.category := by cases v <;> rfl
theorem xv_cats (B b : Nat) (st : List Value) : ((st.map (xv B b)).map fun v => v.category).sum = xcats st := by
  unfold xcats
  rw [List.map_map]
  congr 2
  funext v
  exact xv_cat B b v
def xe (B b : Nat) (dA : Nat → ClassId) : xE → va_E
  | .inl (t, n, .inr (.inr (.inr (.inr f)))) => .inl (dA t, n, .inr (.inr (.inr (.inr (fun j => (f j).map (B + ·))))))
  | .inl (t, a) => .inl (dA t, a)
  | .inr (ci, fs) => .inr (ci, fs.map (xv B b))
def xws (B b : Nat) (dA : Nat → ClassId) (L : xL) : va_W := L.zipIdx.map (fun q => (B + q.2, xe B b dA q.1))
theorem xws_get {B b : Nat} {dA : Nat → ClassId} (L : xL) (k : Nat) : (xws B b dA L)[k]? = (L[k]?).map (fun e => (B + k, xe B b dA e)) := by
  unfold xws
  rw [List.getElem?_map, List.getElem?_zipIdx]
  cases L[k]? <;> simp
theorem xws_len {B b : Nat} {dA : Nat → ClassId} (L : xL) : (xws B b dA L).length = L.length := by simp [xws]
theorem xws_set {B b : Nat} {dA : Nat → ClassId} (L : xL) (k : Nat) (e : xE) : (xws B b dA L).set k (B + k, xe B b dA e) = xws B b dA (L.set k e) := by
  apply List.ext_getElem?
  intro j
  rw [xws_get, List.getElem?_set, List.getElem?_set, xws_len, xws_get]
  by_cases h : k = j
  · subst h
    by_cases h2 : k < L.length
    · simp [h2]
    · simp [h2]
  · simp [h]
theorem xws_app {B b : Nat} {dA : Nat → ClassId} (L : xL) (e : xE) : xws B b dA L ++ [(B + L.length, xe B b dA e)] = xws B b dA (L ++ [e]) := by
  simp [xws, List.zipIdx_append]
def xA (B : Nat) : Nat → Prop := fun q => B ≤ q
theorem xws_D {B b : Nat} {dA : Nat → ClassId} (L : xL) : va_D (xA B) (xws B b dA L) := by
  refine ⟨fun i j p q hi hj h => ?_, fun k q hk => ?_⟩
  · rw [xws_get] at hi hj
    cases h1 : L[i]? with
    | none => rw [h1] at hi; cases hi
    | some x =>
      cases h2 : L[j]? with
      | none => rw [h2] at hj; cases hj
      | some z =>
        rw [h1] at hi; rw [h2] at hj
        cases hi; cases hj
        simp only at h
        omega
  · rw [xws_get] at hk
    cases h1 : L[k]? with
    | none => rw [h1] at hk; cases hk
    | some x => rw [h1] at hk; cases hk; exact Nat.le_add_right _ _
def xcl : List vw_C := xcls.map (fun q => (q.1, xT q.1 q.2, q.2.length))
def xtys (dA : Nat → ClassId) : List (ClassId × FieldType) := [(dA 0, .int), (dA 1, .long), (dA 2, .boolean), (dA 3, .object "LaunchCountdown$State")]
def xRel (D : va_G) (B b : Nat) (dA : Nat → ClassId) (H : Heap) (w : xW) : Prop := va_P D xcl (xws B b dA w.1) H
def xls (B b : Nat) (ls : Array Slot) (nL : Nat) (lv : List (Option Value)) : Prop := ls.size = nL ∧ lv_wf ls ∧ ∀ (i : Nat) (v : Value), lv[i]? = some (some v) → ls[i]? = some (.val (xv B b v))
theorem xls.get {B b : Nat} {ls : Array Slot} {nL : Nat} {lv : List (Option Value)} (h : xls B b ls nL lv) {i : Nat} {v : Value} (hg : xlget lv i = some v) : ls[i]? = some (.val (xv B b v)) := by
  unfold xlget at hg
  split at hg
  · rename_i v' h'
    cases hg
    exact h.2.2 _ _ h'
  · cases hg
def xal2 (B b : Nat) (lv : List (Option Value)) : List (Nat × Value) := lv.zipIdx.filterMap (fun q => q.1.map (fun v => (q.2, xv B b v)))
theorem xal2_mem {B b : Nat} {lv : List (Option Value)} {q : Nat × Value} (h : q ∈ xal2 B b lv) : ∃ v, lv[q.1]? = some (some v) ∧ q.2 = xv B b v := by
  obtain ⟨⟨o, i⟩, h1, h2⟩ := List.mem_filterMap.mp h
  have h3 := List.mem_zipIdx_iff_getElem?.mp h1
  cases o with
  | none => cases h2
  | some v => cases h2; exact ⟨v, h3, rfl⟩
theorem xal2_of {B b : Nat} {lv : List (Option Value)} {i : Nat} {v : Value} (h : lv[i]? = some (some v)) : (i, xv B b v) ∈ xal2 B b lv :=
  List.mem_filterMap.mpr ⟨(some v, i), List.mem_zipIdx_iff_getElem?.mpr h, rfl⟩
theorem xls.has {B b : Nat} {ls : Array Slot} {nL : Nat} {lv : List (Option Value)} (h : xls B b ls nL lv) : lv_has ls nL (xal2 B b lv) := by
  refine ⟨h.1, h.2.1, fun q hq => ?_⟩
  obtain ⟨v, h1, h2⟩ := xal2_mem hq
  rw [h2]
  exact h.2.2 _ _ h1
theorem xclr_sub {lv : List (Option Value)} {i j : Nat} {v : Value} (h : (xclr lv i)[j]? = some (some v)) : lv[j]? = some (some v) ∧ ¬ (j + 1 = i ∧ v.category = 2) := by
  cases i with
  | zero => exact ⟨h, fun q => by omega⟩
  | succ i =>
    simp only [xclr] at h
    split at h
    · rename_i v' hv'
      split at h
      · rename_i hc
        rw [List.getElem?_set] at h
        split at h
        · split at h <;> cases h
        · rename_i hne
          exact ⟨h, fun q => hne (by omega)⟩
      · rename_i hc
        refine ⟨h, fun q => ?_⟩
        have : j = i := by omega
        subst this
        rw [hv'] at h
        cases h
        exact hc q.2
    · rename_i hn
      refine ⟨h, fun q => ?_⟩
      have : j = i := by omega
      subst this
      exact hn v h
theorem xls.set1 {B b : Nat} {ls' : Array Slot} {nL : Nat} {lv : List (Option Value)} {i : Nat} {v : Value} (h : lv_has ls' nL ((i, xv B b v) :: (xal2 B b lv).filter (fun q => !(q.1 == i) && !(q.1 + 1 == i && q.2.category == 2)))) : xls B b ls' nL (xlset1 lv i v) := by
  refine ⟨h.1, h.2.1, fun j u hj => ?_⟩
  unfold xlset1 at hj
  rw [List.getElem?_set] at hj
  split at hj
  · rename_i hij
    subst hij
    split at hj
    · cases hj
      exact h.2.2 (i, xv B b v) List.mem_cons_self
    · cases hj
  · rename_i hij
    obtain ⟨h1, h2⟩ := xclr_sub hj
    refine h.2.2 (j, xv B b u) (List.mem_cons_of_mem _ (List.mem_filter.mpr ⟨xal2_of h1, ?_⟩))
    have : ¬ j = i := fun q => hij q.symm
    simp only [xv_cat, Bool.and_eq_true, Bool.not_eq_true', beq_eq_false_iff_ne, ne_eq, Bool.and_eq_false_imp, beq_iff_eq]
    exact ⟨this, fun q c2 => h2 ⟨q, c2⟩⟩
theorem xls.set2 {B b : Nat} {ls' : Array Slot} {nL : Nat} {lv : List (Option Value)} {i : Nat} {v : Value} (h : lv_has ls' nL ((i, xv B b v) :: (xal2 B b lv).filter (fun q => !(q.1 == i) && (!(q.1 == i + 1) && !(q.1 + 1 == i && q.2.category == 2))))) : xls B b ls' nL (xlset2 lv i v) := by
  refine ⟨h.1, h.2.1, fun j u hj => ?_⟩
  unfold xlset2 at hj
  rw [List.getElem?_set] at hj
  split at hj
  · split at hj <;> cases hj
  · rename_i hi1
    rw [List.getElem?_set] at hj
    split at hj
    · rename_i hij
      subst hij
      split at hj
      · cases hj
        exact h.2.2 (i, xv B b v) List.mem_cons_self
      · cases hj
    · rename_i hij
      obtain ⟨h1, h2⟩ := xclr_sub hj
      refine h.2.2 (j, xv B b u) (List.mem_cons_of_mem _ (List.mem_filter.mpr ⟨xal2_of h1, ?_⟩))
      have e1 : ¬ j = i := fun q => hij q.symm
      have e2 : ¬ j = i + 1 := fun q => hi1 q.symm
      simp only [xv_cat, Bool.and_eq_true, Bool.not_eq_true', beq_eq_false_iff_ne, ne_eq, Bool.and_eq_false_imp, beq_iff_eq]
      exact ⟨e1, e2, fun q c2 => h2 ⟨q, c2⟩⟩
theorem xls.del {B b : Nat} {ls' : Array Slot} {nL : Nat} {lv : List (Option Value)} {i : Nat} {x : Value} (h : lv_has ls' nL ((i, x) :: (xal2 B b lv).filter (fun q => !(q.1 == i) && !(q.1 + 1 == i && q.2.category == 2)))) : xls B b ls' nL (xldel lv i) := by
  refine ⟨h.1, h.2.1, fun j u hj => ?_⟩
  unfold xldel at hj
  rw [List.getElem?_set] at hj
  split at hj
  · split at hj <;> cases hj
  · rename_i hij
    obtain ⟨h1, h2⟩ := xclr_sub hj
    refine h.2.2 (j, xv B b u) (List.mem_cons_of_mem _ (List.mem_filter.mpr ⟨xal2_of h1, ?_⟩))
    have : ¬ j = i := fun q => hij q.symm
    simp only [xv_cat, Bool.and_eq_true, Bool.not_eq_true', beq_eq_false_iff_ne, ne_eq, Bool.and_eq_false_imp, beq_iff_eq]
    exact ⟨this, fun q c2 => h2 ⟨q, c2⟩⟩
theorem xget_spec {L : xL} {a ci k : Nat} {v : Value} (h : xget L a ci k = some v) : ∃ fs, L[a]? = some (.inr (ci, fs)) ∧ fs[k]? = some v := by
  unfold xget at h
  split at h
  · rename_i c fs hL
    split at h
    · rename_i hc
      subst hc
      exact ⟨fs, hL, h⟩
    · cases h
  · cases h
theorem xput_spec {L L' : xL} {a ci k : Nat} {v : Value} (h : xput L a ci k v = some L') : ∃ fs, L[a]? = some (.inr (ci, fs)) ∧ k < fs.length ∧ L' = L.set a (.inr (ci, fs.set k v)) := by
  unfold xput at h
  split at h
  · rename_i c fs hL
    split at h
    · rename_i hc
      cases hc.1
      cases h
      exact ⟨fs, hL, hc.2, rfl⟩
    · cases h
  · cases h
theorem xis_spec {L : xL} {a ci : Nat} (h : xis L a ci = true) : ∃ fs, L[a]? = some (.inr (ci, fs)) := by
  unfold xis at h
  split at h
  · rename_i c fs hL
    simp only [beq_iff_eq] at h
    subst h
    exact ⟨fs, hL⟩
  · cases h
theorem xai_spec {L : xL} {a t n : Nat} {f : Nat → Int32} (h : xai L a t = some (n, f)) : L[a]? = some (.inl (t, n, .inl f)) := by
  unfold xai at h
  split at h
  · rename_i t' n' f' hL
    split at h
    · rename_i hc
      subst hc; cases h
      exact hL
    · cases h
  · cases h
theorem xal_spec {L : xL} {a t n : Nat} {f : Nat → Int64} (h : xal L a t = some (n, f)) : L[a]? = some (.inl (t, n, .inr (.inl f))) := by
  unfold xal at h
  split at h
  · rename_i t' n' f' hL
    split at h
    · rename_i hc
      subst hc; cases h
      exact hL
    · cases h
  · cases h
theorem xaq_spec {L : xL} {a t n : Nat} {f : Nat → Option Nat} (h : xaq L a t = some (n, f)) : L[a]? = some (.inl (t, n, .inr (.inr (.inr (.inr f))))) := by
  unfold xaq at h
  split at h
  · rename_i t' n' f' hL
    split at h
    · rename_i hc
      subst hc; cases h
      exact hL
    · cases h
  · cases h
theorem xlen_spec {L : xL} {a n : Nat} (h : xlen L a = some n) : ∃ t x, t < 4 ∧ L[a]? = some (.inl (t, n, x)) := by
  unfold xlen at h
  split at h
  · rename_i t' n' x hL
    split at h
    · rename_i hc
      cases h
      exact ⟨t', x, hc, hL⟩
    · cases h
  · cases h
theorem xws_at {B b : Nat} {dA : Nat → ClassId} {L : xL} {a : Nat} {e : xE} (h : L[a]? = some e) : (xws B b dA L)[a]? = some (B + a, xe B b dA e) := by rw [xws_get, h]; rfl
