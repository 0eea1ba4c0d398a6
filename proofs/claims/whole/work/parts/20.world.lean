/-! the cells of class and reference, and the global store; written by wip/whole/gen_world.py. {'plan': 1, 'now': 10, 'trial': 25, 'saved': 40, 'ss': [41, 56, 71], 'buf': 86, 'mo': 88, 'out': 102} -/
abbrev yC : Type := (Nat × List (Nat × Nat)) ⊕ (Nat × Nat × Nat)
def hlay : List yC := [.inl (7, [(1, 1), (1, 10), (1, 25), (1, 40), (0, 0), (1, 86)]),
  .inl (3, [(0, 1), (0, 2), (0, 3), (0, 4), (0, 5), (1, 2), (1, 3), (1, 4), (1, 5), (1, 6), (1, 7), (1, 8), (1, 9)]),
  .inr (0, 12, 0),
  .inr (0, 12, 1),
  .inr (0, 4, 2),
  .inr (0, 4, 3),
  .inr (0, 4, 4),
  .inr (0, 6, 5),
  .inr (0, 6, 6),
  .inr (0, 6, 7),
  .inl (5, [(1, 1), (0, 20), (0, 21), (0, 22), (0, 23), (0, 24), (0, 25), (0, 26), (0, 27), (0, 28), (0, 29), (0, 30), (0, 31), (1, 11), (1, 12), (1, 15), (1, 18), (1, 21)]),
  .inl (2, [(0, 32), (0, 33), (0, 34)]),
  .inl (6, [(1, 13), (1, 14)]),
  .inr (0, 6, 10),
  .inr (0, 6, 11),
  .inl (4, [(1, 16), (1, 17), (0, 35)]),
  .inr (0, 4, 12),
  .inr (0, 4, 13),
  .inl (4, [(1, 19), (1, 20), (0, 36)]),
  .inr (0, 6, 14),
  .inr (0, 6, 15),
  .inl (1, [(1, 22), (1, 23), (1, 24), (0, 37), (0, 38)]),
  .inr (0, 24, 16),
  .inr (0, 24, 17),
  .inr (0, 24, 18),
  .inl (5, [(1, 1), (0, 40), (0, 41), (0, 42), (0, 43), (0, 44), (0, 45), (0, 46), (0, 47), (0, 48), (0, 49), (0, 50), (0, 51), (1, 26), (1, 27), (1, 30), (1, 33), (1, 36)]),
  .inl (2, [(0, 52), (0, 53), (0, 54)]),
  .inl (6, [(1, 28), (1, 29)]),
  .inr (0, 6, 20),
  .inr (0, 6, 21),
  .inl (4, [(1, 31), (1, 32), (0, 55)]),
  .inr (0, 4, 22),
  .inr (0, 4, 23),
  .inl (4, [(1, 34), (1, 35), (0, 56)]),
  .inr (0, 6, 24),
  .inr (0, 6, 25),
  .inl (1, [(1, 37), (1, 38), (1, 39), (0, 57), (0, 58)]),
  .inr (0, 24, 26),
  .inr (0, 24, 27),
  .inr (0, 24, 28),
  .inr (3, 3, 0),
  .inl (5, [(1, 1), (0, 60), (0, 61), (0, 62), (0, 63), (0, 64), (0, 65), (0, 66), (0, 67), (0, 68), (0, 69), (0, 70), (0, 71), (1, 42), (1, 43), (1, 46), (1, 49), (1, 52)]),
  .inl (2, [(0, 72), (0, 73), (0, 74)]),
  .inl (6, [(1, 44), (1, 45)]),
  .inr (0, 6, 30),
  .inr (0, 6, 31),
  .inl (4, [(1, 47), (1, 48), (0, 75)]),
  .inr (0, 4, 32),
  .inr (0, 4, 33),
  .inl (4, [(1, 50), (1, 51), (0, 76)]),
  .inr (0, 6, 34),
  .inr (0, 6, 35),
  .inl (1, [(1, 53), (1, 54), (1, 55), (0, 77), (0, 78)]),
  .inr (0, 24, 36),
  .inr (0, 24, 37),
  .inr (0, 24, 38),
  .inl (5, [(1, 1), (0, 80), (0, 81), (0, 82), (0, 83), (0, 84), (0, 85), (0, 86), (0, 87), (0, 88), (0, 89), (0, 90), (0, 91), (1, 57), (1, 58), (1, 61), (1, 64), (1, 67)]),
  .inl (2, [(0, 92), (0, 93), (0, 94)]),
  .inl (6, [(1, 59), (1, 60)]),
  .inr (0, 6, 40),
  .inr (0, 6, 41),
  .inl (4, [(1, 62), (1, 63), (0, 95)]),
  .inr (0, 4, 42),
  .inr (0, 4, 43),
  .inl (4, [(1, 65), (1, 66), (0, 96)]),
  .inr (0, 6, 44),
  .inr (0, 6, 45),
  .inl (1, [(1, 68), (1, 69), (1, 70), (0, 97), (0, 98)]),
  .inr (0, 24, 46),
  .inr (0, 24, 47),
  .inr (0, 24, 48),
  .inl (5, [(1, 1), (0, 100), (0, 101), (0, 102), (0, 103), (0, 104), (0, 105), (0, 106), (0, 107), (0, 108), (0, 109), (0, 110), (0, 111), (1, 72), (1, 73), (1, 76), (1, 79), (1, 82)]),
  .inl (2, [(0, 112), (0, 113), (0, 114)]),
  .inl (6, [(1, 74), (1, 75)]),
  .inr (0, 6, 50),
  .inr (0, 6, 51),
  .inl (4, [(1, 77), (1, 78), (0, 115)]),
  .inr (0, 4, 52),
  .inr (0, 4, 53),
  .inl (4, [(1, 80), (1, 81), (0, 116)]),
  .inr (0, 6, 54),
  .inr (0, 6, 55),
  .inl (1, [(1, 83), (1, 84), (1, 85), (0, 117), (0, 118)]),
  .inr (0, 24, 56),
  .inr (0, 24, 57),
  .inr (0, 24, 58),
  .inl (0, [(1, 87), (0, 6), (0, 7), (0, 8), (0, 9)]),
  .inr (0, 60, 8),
  .inl (8, [(0, 120), (0, 121), (1, 89), (1, 90), (1, 91), (1, 92), (0, 122), (1, 93), (1, 94), (0, 123), (1, 95), (1, 96), (0, 124), (1, 97), (0, 125), (1, 98), (1, 99), (1, 100), (0, 126), (1, 101), (0, 127), (0, 128), (0, 129), (0, 130), (2, 0)]),
  .inr (0, 142, 60),
  .inr (0, 142, 61),
  .inr (0, 426, 62),
  .inr (2, 3, 63),
  .inr (0, 12, 64),
  .inr (0, 12, 65),
  .inr (0, 4, 66),
  .inr (0, 4, 67),
  .inr (0, 4, 68),
  .inr (0, 6, 69),
  .inr (0, 6, 70),
  .inr (0, 6, 71),
  .inr (0, 60, 72),
  .inr (1, 1, 0)]
def fv (g : Nat → Int32) (h : Int64) (q : Nat × Nat) : Value := match q with
  | (0, k) => .int (g k)
  | (1, a) => .ref a
  | _ => .long h
def ysaved : Nat → Option Nat := fun j => if j = 0 then some 41 else if j = 1 then some 56 else if j = 2 then some 71 else none
def cv (g : Nat → Int32) (G : Nat → Nat → Int32) (o : Nat → Int64) (h : Int64) (q : yC) : xE := match q with
  | .inl (ci, fs) => .inr (ci, fs.map (fv g h))
  | .inr (1, n, _) => .inl (1, n, .inr (.inl o))
  | .inr (3, n, _) => .inl (3, n, .inr (.inr (.inr (.inr ysaved))))
  | .inr (t, n, k) => .inl (t, n, .inl (G k))
def hp (g : Nat → Int32) (G : Nat → Nat → Int32) (o : Nat → Int64) (h : Int64) : xL := hlay.map (cv g G o h)
def ykeys (q : yC) : List (Nat × Nat) := match q with
  | .inl (_, fs) => fs.filter (fun f => f.1 != 1)
  | .inr _ => []
def yrows (q : yC) : List Nat := match q with
  | .inl _ => []
  | .inr (1, _, _) => []
  | .inr (3, _, _) => []
  | .inr (_, _, k) => [k]
def ytimes (q : Nat × Nat) : Nat := (hlay.map (fun c => (ykeys c).count q)).sum


section YW
variable {g : Nat → Int32} {G : Nat → Nat → Int32} {o : Nat → Int64} {h : Int64}
theorem hp_at {a : Nat} {q : yC} (hq : hlay[a]? = some q) : (hp g G o h)[a]? = some (cv g G o h q) := by
  unfold hp
  rw [List.getElem?_map, hq]
  rfl
theorem hp_get {a ci k : Nat} {fs : List (Nat × Nat)} {f : Nat × Nat} (hq : hlay[a]? = some (.inl (ci, fs))) (hk : fs[k]? = some f) : xget (hp g G o h) a ci k = some (fv g h f) := by
  unfold xget
  rw [hp_at hq]
  simp only [cv, if_true, List.getElem?_map, hk, Option.map_some]
theorem hp_is {a ci : Nat} {fs : List (Nat × Nat)} (hq : hlay[a]? = some (.inl (ci, fs))) : xis (hp g G o h) a ci = true := by
  unfold xis
  rw [hp_at hq]
  simp only [cv, beq_self_eq_true]
def yone (a k : Nat) (f : Nat × Nat) : Bool := hlay.zipIdx.all (fun q => match q.1 with
  | .inl (_, fs) => fs.zipIdx.all (fun z => z.1 != f || (q.2 == a && z.2 == k))
  | .inr _ => true)
theorem yone_spec {a k : Nat} {f : Nat × Nat} (hu : yone a k f = true) {a' k' ci' : Nat} {fs' : List (Nat × Nat)} (h1 : hlay[a']? = some (.inl (ci', fs'))) (h2 : fs'[k']? = some f) : a' = a ∧ k' = k := by
  unfold yone at hu
  have h3 := List.all_eq_true.mp hu (.inl (ci', fs'), a') (List.mem_zipIdx_iff_getElem?.mpr h1)
  have h4 := List.all_eq_true.mp h3 (f, k') (List.mem_zipIdx_iff_getElem?.mpr h2)
  simpa using h4
theorem fv_ne {k : Nat} {v : Int32} {f : Nat × Nat} (hf : f ≠ (0, k)) : fv (va_up g k v) h f = fv g h f := by
  obtain ⟨a, b⟩ := f
  match a, b with
  | 0, b =>
    have : b ≠ k := fun e => hf (by rw [e])
    simp [fv, va_up, this]
  | 1, b => rfl
  | a + 2, b => rfl
theorem hp_put {a ci k ky : Nat} {fs : List (Nat × Nat)} {v : Int32} (hq : hlay[a]? = some (.inl (ci, fs))) (hk : fs[k]? = some (0, ky)) (hu : yone a k (0, ky) = true) : xput (hp g G o h) a ci k (.int v) = some (hp (va_up g ky v) G o h) := by
  unfold xput
  rw [hp_at hq]
  have hlt : k < fs.length := (List.getElem?_eq_some_iff.mp hk).1
  simp only [cv, List.length_map, true_and, hlt, and_self, if_true]
  refine congrArg some ?_
  apply List.ext_getElem?
  intro j
  rw [List.getElem?_set]
  by_cases hj : a = j
  · subst hj
    have hl : a < (hp g G o h).length := by
      have := (List.getElem?_eq_some_iff.mp hq).1
      simpa [hp] using this
    rw [if_pos rfl, if_pos hl, hp_at hq]
    simp only [cv]
    congr 3
    apply List.ext_getElem?
    intro i
    rw [List.getElem?_set, List.length_map, List.getElem?_map, List.getElem?_map]
    by_cases hi : k = i
    · subst hi
      rw [if_pos rfl, if_pos hlt, hk]
      simp [fv, va_up]
    · rw [if_neg hi]
      cases hfi : fs[i]? with
      | none => rfl
      | some f =>
        simp only [Option.map_some]
        rw [fv_ne]
        intro e
        subst e
        exact hi (yone_spec hu hq hfi).2.symm
  · rw [if_neg hj]
    cases hqj : hlay[j]? with
    | none => unfold hp; rw [List.getElem?_map, List.getElem?_map, hqj]; rfl
    | some q =>
      rw [hp_at hqj, hp_at hqj]
      match q, hqj with
      | .inl (c2, fs2), hqj =>
        simp only [cv]
        congr 3
        apply List.map_congr_left
        intro f hf
        rw [fv_ne]
        intro e
        subst e
        obtain ⟨i, hi⟩ := List.getElem?_of_mem hf
        exact hj (yone_spec hu hqj hi).1.symm
      | .inr (1, n, k2), hqj => rfl
      | .inr (0, n, k2), hqj => rfl
      | .inr (2, n, k2), hqj => rfl
      | .inr (3, n, k2), hqj => rfl
      | .inr (t + 4, n, k2), hqj => rfl
theorem hp_putl {a ci k n9 : Nat} {fs : List (Nat × Nat)} {v : Int64} (hq : hlay[a]? = some (.inl (ci, fs))) (hk : fs[k]? = some (2, n9)) (hu : hlay.zipIdx.all (fun q => match q.1 with
  | .inl (_, fs) => fs.zipIdx.all (fun z => z.1.1 == 0 || z.1.1 == 1 || (q.2 == a && z.2 == k))
  | .inr _ => true) = true) : xput (hp g G o h) a ci k (.long v) = some (hp g G o v) := by
  have hspec : ∀ {a' k' ci' : Nat} {fs' : List (Nat × Nat)} {f : Nat × Nat}, hlay[a']? = some (.inl (ci', fs')) → fs'[k']? = some f → f.1 = 0 ∨ f.1 = 1 ∨ (a' = a ∧ k' = k) := by
    intro a' k' ci' fs' f h1 h2
    have h3 := List.all_eq_true.mp hu (.inl (ci', fs'), a') (List.mem_zipIdx_iff_getElem?.mpr h1)
    have h4 := List.all_eq_true.mp h3 (f, k') (List.mem_zipIdx_iff_getElem?.mpr h2)
    simpa [or_assoc] using h4
  have hfv : ∀ f : Nat × Nat, f.1 = 0 ∨ f.1 = 1 → fv g h f = fv g v f := by
    intro f hf
    obtain ⟨x, z⟩ := f
    rcases hf with hf | hf <;> (simp only at hf; subst hf; rfl)
  unfold xput
  rw [hp_at hq]
  have hlt : k < fs.length := (List.getElem?_eq_some_iff.mp hk).1
  simp only [cv, List.length_map, true_and, hlt, and_self, if_true]
  refine congrArg some ?_
  apply List.ext_getElem?
  intro j
  rw [List.getElem?_set]
  by_cases hj : a = j
  · subst hj
    have hl : a < (hp g G o h).length := by
      have := (List.getElem?_eq_some_iff.mp hq).1
      simpa [hp] using this
    rw [if_pos rfl, if_pos hl, hp_at hq]
    simp only [cv]
    refine congrArg (fun z => some (Sum.inr (ci, z) : xE)) ?_
    apply List.ext_getElem?
    intro i
    rw [List.getElem?_set, List.length_map, List.getElem?_map, List.getElem?_map]
    by_cases hi : k = i
    · subst hi
      rw [if_pos rfl, if_pos hlt, hk]
      rfl
    · rw [if_neg hi]
      cases hfi : fs[i]? with
      | none => rfl
      | some f =>
        simp only [Option.map_some]
        rcases hspec hq hfi with h5 | h5 | h5
        · rw [hfv f (Or.inl h5)]
        · rw [hfv f (Or.inr h5)]
        · exact absurd h5.2.symm hi
  · rw [if_neg hj]
    cases hqj : hlay[j]? with
    | none => unfold hp; rw [List.getElem?_map, List.getElem?_map, hqj]; rfl
    | some q =>
      rw [hp_at hqj, hp_at hqj]
      match q, hqj with
      | .inl (c2, fs2), hqj =>
        simp only [cv]
        refine congrArg (fun z => some (Sum.inr (c2, z) : xE)) ?_
        apply List.map_congr_left
        intro f hf
        obtain ⟨i, hi⟩ := List.getElem?_of_mem hf
        rcases hspec hqj hi with h5 | h5 | h5
        · rw [hfv f (Or.inl h5)]
        · rw [hfv f (Or.inr h5)]
        · exact absurd h5.1.symm hj
      | .inr (1, n, k2), hqj => rfl
      | .inr (0, n, k2), hqj => rfl
      | .inr (2, n, k2), hqj => rfl
      | .inr (3, n, k2), hqj => rfl
      | .inr (t + 4, n, k2), hqj => rfl
def yrow (a ky : Nat) : Bool := hlay.zipIdx.all (fun q => match q.1 with
  | .inl _ => true
  | .inr (_, _, k) => k != ky || q.2 == a || (match q.1 with | .inr (1, _, _) => true | .inr (3, _, _) => true | _ => false))
theorem hp_ai {a t n ky : Nat} (hq : hlay[a]? = some (.inr (t, n, ky))) (ht : t = 0 ∨ t = 2) : xai (hp g G o h) a t = some (n, G ky) := by
  unfold xai
  rw [hp_at hq]
  rcases ht with rfl | rfl <;> simp [cv]
theorem hp_al {a n ky : Nat} (hq : hlay[a]? = some (.inr (1, n, ky))) : xal (hp g G o h) a 1 = some (n, o) := by
  unfold xal
  rw [hp_at hq]
  simp [cv]
theorem hp_aq {a n ky : Nat} (hq : hlay[a]? = some (.inr (3, n, ky))) : xaq (hp g G o h) a 3 = some (n, ysaved) := by
  unfold xaq
  rw [hp_at hq]
  simp [cv]
theorem hp_len {a t n ky : Nat} (hq : hlay[a]? = some (.inr (t, n, ky))) (ht : t < 4) : xlen (hp g G o h) a = some n := by
  unfold xlen
  rw [hp_at hq]
  match t, ht with
  | 0, _ => rfl
  | 1, _ => rfl
  | 2, _ => rfl
  | 3, _ => rfl
theorem hp_aset {a t n ky : Nat} {F : Nat → Int32} (hq : hlay[a]? = some (.inr (t, n, ky))) (ht : t = 0 ∨ t = 2) (hu : yrow a ky = true) : (hp g G o h).set a (.inl (t, n, .inl F)) = hp g (va_up G ky F) o h := by
  apply List.ext_getElem?
  intro j
  rw [List.getElem?_set]
  by_cases hj : a = j
  · subst hj
    have hl : a < (hp g G o h).length := by
      have := (List.getElem?_eq_some_iff.mp hq).1
      simpa [hp] using this
    rw [if_pos rfl, if_pos hl, hp_at hq]
    rcases ht with rfl | rfl <;> simp [cv, va_up]
  · rw [if_neg hj]
    cases hqj : hlay[j]? with
    | none => unfold hp; rw [List.getElem?_map, List.getElem?_map, hqj]; rfl
    | some q =>
      rw [hp_at hqj, hp_at hqj]
      have h3 := List.all_eq_true.mp hu (q, j) (List.mem_zipIdx_iff_getElem?.mpr hqj)
      match q, hqj, h3 with
      | .inl (c2, fs2), hqj, _ => rfl
      | .inr (1, n, k2), hqj, _ => rfl
      | .inr (3, n, k2), hqj, _ => rfl
      | .inr (0, n, k2), hqj, h3 =>
        have hne : k2 ≠ ky := by
          intro e
          subst e
          simp at h3
          exact hj h3.symm
        simp [cv, va_up, hne]
      | .inr (2, n, k2), hqj, h3 =>
        have hne : k2 ≠ ky := by
          intro e
          subst e
          simp at h3
          exact hj h3.symm
        simp [cv, va_up, hne]
      | .inr (t + 4, n, k2), hqj, h3 =>
        have hne : k2 ≠ ky := by
          intro e
          subst e
          simp at h3
          exact hj h3.symm
        simp [cv, va_up, hne]
theorem hp_lset {a n ky : Nat} {F : Nat → Int64} (hq : hlay[a]? = some (.inr (1, n, ky))) (hu : hlay.zipIdx.all (fun q => match q.1 with
  | .inr (1, _, _) => q.2 == a
  | _ => true) = true) : (hp g G o h).set a (.inl (1, n, .inr (.inl F))) = hp g G F h := by
  apply List.ext_getElem?
  intro j
  rw [List.getElem?_set]
  by_cases hj : a = j
  · subst hj
    have hl : a < (hp g G o h).length := by
      have := (List.getElem?_eq_some_iff.mp hq).1
      simpa [hp] using this
    rw [if_pos rfl, if_pos hl, hp_at hq]
    rfl
  · rw [if_neg hj]
    cases hqj : hlay[j]? with
    | none => unfold hp; rw [List.getElem?_map, List.getElem?_map, hqj]; rfl
    | some q =>
      rw [hp_at hqj, hp_at hqj]
      have h3 := List.all_eq_true.mp hu (q, j) (List.mem_zipIdx_iff_getElem?.mpr hqj)
      match q, hqj, h3 with
      | .inl (c2, fs2), hqj, _ => rfl
      | .inr (1, n, k2), hqj, h3 =>
        simp at h3
        exact absurd h3.symm hj
      | .inr (3, n, k2), hqj, _ => rfl
      | .inr (0, n, k2), hqj, h3 => rfl
      | .inr (2, n, k2), hqj, h3 => rfl
      | .inr (t + 4, n, k2), hqj, h3 => rfl

theorem hx_0 : xis (hp g G o h) 0 7 = true := hp_is (fs := [(1, 1), (1, 10), (1, 25), (1, 40), (0, 0), (1, 86)]) rfl
theorem hg_0_0 : xget (hp g G o h) 0 7 0 = some (.ref 1) := hp_get (f := (1, 1)) rfl rfl
theorem hg_0_1 : xget (hp g G o h) 0 7 1 = some (.ref 10) := hp_get (f := (1, 10)) rfl rfl
theorem hg_0_2 : xget (hp g G o h) 0 7 2 = some (.ref 25) := hp_get (f := (1, 25)) rfl rfl
theorem hg_0_3 : xget (hp g G o h) 0 7 3 = some (.ref 40) := hp_get (f := (1, 40)) rfl rfl
theorem hg_0_4 : xget (hp g G o h) 0 7 4 = some (.int (g 0)) := hp_get (f := (0, 0)) rfl rfl
theorem hs_0_4 {v : Int32} : xput (hp g G o h) 0 7 4 (.int v) = some (hp (va_up g 0 v) G o h) := hp_put rfl rfl (by decide +kernel)
theorem hg_0_5 : xget (hp g G o h) 0 7 5 = some (.ref 86) := hp_get (f := (1, 86)) rfl rfl
theorem hx_1 : xis (hp g G o h) 1 3 = true := hp_is (fs := [(0, 1), (0, 2), (0, 3), (0, 4), (0, 5), (1, 2), (1, 3), (1, 4), (1, 5), (1, 6), (1, 7), (1, 8), (1, 9)]) rfl
theorem hg_1_0 : xget (hp g G o h) 1 3 0 = some (.int (g 1)) := hp_get (f := (0, 1)) rfl rfl
theorem hs_1_0 {v : Int32} : xput (hp g G o h) 1 3 0 (.int v) = some (hp (va_up g 1 v) G o h) := hp_put rfl rfl (by decide +kernel)
theorem hg_1_1 : xget (hp g G o h) 1 3 1 = some (.int (g 2)) := hp_get (f := (0, 2)) rfl rfl
theorem hs_1_1 {v : Int32} : xput (hp g G o h) 1 3 1 (.int v) = some (hp (va_up g 2 v) G o h) := hp_put rfl rfl (by decide +kernel)
theorem hg_1_2 : xget (hp g G o h) 1 3 2 = some (.int (g 3)) := hp_get (f := (0, 3)) rfl rfl
theorem hs_1_2 {v : Int32} : xput (hp g G o h) 1 3 2 (.int v) = some (hp (va_up g 3 v) G o h) := hp_put rfl rfl (by decide +kernel)
theorem hg_1_3 : xget (hp g G o h) 1 3 3 = some (.int (g 4)) := hp_get (f := (0, 4)) rfl rfl
theorem hs_1_3 {v : Int32} : xput (hp g G o h) 1 3 3 (.int v) = some (hp (va_up g 4 v) G o h) := hp_put rfl rfl (by decide +kernel)
theorem hg_1_4 : xget (hp g G o h) 1 3 4 = some (.int (g 5)) := hp_get (f := (0, 5)) rfl rfl
theorem hs_1_4 {v : Int32} : xput (hp g G o h) 1 3 4 (.int v) = some (hp (va_up g 5 v) G o h) := hp_put rfl rfl (by decide +kernel)
theorem hg_1_5 : xget (hp g G o h) 1 3 5 = some (.ref 2) := hp_get (f := (1, 2)) rfl rfl
theorem hg_1_6 : xget (hp g G o h) 1 3 6 = some (.ref 3) := hp_get (f := (1, 3)) rfl rfl
theorem hg_1_7 : xget (hp g G o h) 1 3 7 = some (.ref 4) := hp_get (f := (1, 4)) rfl rfl
theorem hg_1_8 : xget (hp g G o h) 1 3 8 = some (.ref 5) := hp_get (f := (1, 5)) rfl rfl
theorem hg_1_9 : xget (hp g G o h) 1 3 9 = some (.ref 6) := hp_get (f := (1, 6)) rfl rfl
theorem hg_1_10 : xget (hp g G o h) 1 3 10 = some (.ref 7) := hp_get (f := (1, 7)) rfl rfl
theorem hg_1_11 : xget (hp g G o h) 1 3 11 = some (.ref 8) := hp_get (f := (1, 8)) rfl rfl
theorem hg_1_12 : xget (hp g G o h) 1 3 12 = some (.ref 9) := hp_get (f := (1, 9)) rfl rfl
theorem hn_2 : xlen (hp g G o h) 2 = some 12 := hp_len (t := 0) (ky := 0) rfl (by decide)
theorem ha_2 : xai (hp g G o h) 2 0 = some (12, G 0) := hp_ai rfl (by decide)
theorem hA_2 {F : Nat → Int32} : (hp g G o h).set 2 (.inl (0, 12, .inl F)) = hp g (va_up G 0 F) o h := hp_aset rfl (by decide) (by decide +kernel)
theorem hn_3 : xlen (hp g G o h) 3 = some 12 := hp_len (t := 0) (ky := 1) rfl (by decide)
theorem ha_3 : xai (hp g G o h) 3 0 = some (12, G 1) := hp_ai rfl (by decide)
theorem hA_3 {F : Nat → Int32} : (hp g G o h).set 3 (.inl (0, 12, .inl F)) = hp g (va_up G 1 F) o h := hp_aset rfl (by decide) (by decide +kernel)
theorem hn_4 : xlen (hp g G o h) 4 = some 4 := hp_len (t := 0) (ky := 2) rfl (by decide)
theorem ha_4 : xai (hp g G o h) 4 0 = some (4, G 2) := hp_ai rfl (by decide)
theorem hA_4 {F : Nat → Int32} : (hp g G o h).set 4 (.inl (0, 4, .inl F)) = hp g (va_up G 2 F) o h := hp_aset rfl (by decide) (by decide +kernel)
theorem hn_5 : xlen (hp g G o h) 5 = some 4 := hp_len (t := 0) (ky := 3) rfl (by decide)
theorem ha_5 : xai (hp g G o h) 5 0 = some (4, G 3) := hp_ai rfl (by decide)
theorem hA_5 {F : Nat → Int32} : (hp g G o h).set 5 (.inl (0, 4, .inl F)) = hp g (va_up G 3 F) o h := hp_aset rfl (by decide) (by decide +kernel)
theorem hn_6 : xlen (hp g G o h) 6 = some 4 := hp_len (t := 0) (ky := 4) rfl (by decide)
theorem ha_6 : xai (hp g G o h) 6 0 = some (4, G 4) := hp_ai rfl (by decide)
theorem hA_6 {F : Nat → Int32} : (hp g G o h).set 6 (.inl (0, 4, .inl F)) = hp g (va_up G 4 F) o h := hp_aset rfl (by decide) (by decide +kernel)
theorem hn_7 : xlen (hp g G o h) 7 = some 6 := hp_len (t := 0) (ky := 5) rfl (by decide)
theorem ha_7 : xai (hp g G o h) 7 0 = some (6, G 5) := hp_ai rfl (by decide)
theorem hA_7 {F : Nat → Int32} : (hp g G o h).set 7 (.inl (0, 6, .inl F)) = hp g (va_up G 5 F) o h := hp_aset rfl (by decide) (by decide +kernel)
theorem hn_8 : xlen (hp g G o h) 8 = some 6 := hp_len (t := 0) (ky := 6) rfl (by decide)
theorem ha_8 : xai (hp g G o h) 8 0 = some (6, G 6) := hp_ai rfl (by decide)
theorem hA_8 {F : Nat → Int32} : (hp g G o h).set 8 (.inl (0, 6, .inl F)) = hp g (va_up G 6 F) o h := hp_aset rfl (by decide) (by decide +kernel)
theorem hn_9 : xlen (hp g G o h) 9 = some 6 := hp_len (t := 0) (ky := 7) rfl (by decide)
theorem ha_9 : xai (hp g G o h) 9 0 = some (6, G 7) := hp_ai rfl (by decide)
theorem hA_9 {F : Nat → Int32} : (hp g G o h).set 9 (.inl (0, 6, .inl F)) = hp g (va_up G 7 F) o h := hp_aset rfl (by decide) (by decide +kernel)
theorem hx_10 : xis (hp g G o h) 10 5 = true := hp_is (fs := [(1, 1), (0, 20), (0, 21), (0, 22), (0, 23), (0, 24), (0, 25), (0, 26), (0, 27), (0, 28), (0, 29), (0, 30), (0, 31), (1, 11), (1, 12), (1, 15), (1, 18), (1, 21)]) rfl
theorem hg_10_0 : xget (hp g G o h) 10 5 0 = some (.ref 1) := hp_get (f := (1, 1)) rfl rfl
theorem hg_10_1 : xget (hp g G o h) 10 5 1 = some (.int (g 20)) := hp_get (f := (0, 20)) rfl rfl
theorem hs_10_1 {v : Int32} : xput (hp g G o h) 10 5 1 (.int v) = some (hp (va_up g 20 v) G o h) := hp_put rfl rfl (by decide +kernel)
theorem hg_10_2 : xget (hp g G o h) 10 5 2 = some (.int (g 21)) := hp_get (f := (0, 21)) rfl rfl
theorem hs_10_2 {v : Int32} : xput (hp g G o h) 10 5 2 (.int v) = some (hp (va_up g 21 v) G o h) := hp_put rfl rfl (by decide +kernel)
theorem hg_10_3 : xget (hp g G o h) 10 5 3 = some (.int (g 22)) := hp_get (f := (0, 22)) rfl rfl
theorem hs_10_3 {v : Int32} : xput (hp g G o h) 10 5 3 (.int v) = some (hp (va_up g 22 v) G o h) := hp_put rfl rfl (by decide +kernel)
theorem hg_10_4 : xget (hp g G o h) 10 5 4 = some (.int (g 23)) := hp_get (f := (0, 23)) rfl rfl
theorem hs_10_4 {v : Int32} : xput (hp g G o h) 10 5 4 (.int v) = some (hp (va_up g 23 v) G o h) := hp_put rfl rfl (by decide +kernel)
theorem hg_10_5 : xget (hp g G o h) 10 5 5 = some (.int (g 24)) := hp_get (f := (0, 24)) rfl rfl
theorem hs_10_5 {v : Int32} : xput (hp g G o h) 10 5 5 (.int v) = some (hp (va_up g 24 v) G o h) := hp_put rfl rfl (by decide +kernel)
theorem hg_10_6 : xget (hp g G o h) 10 5 6 = some (.int (g 25)) := hp_get (f := (0, 25)) rfl rfl
theorem hs_10_6 {v : Int32} : xput (hp g G o h) 10 5 6 (.int v) = some (hp (va_up g 25 v) G o h) := hp_put rfl rfl (by decide +kernel)
theorem hg_10_7 : xget (hp g G o h) 10 5 7 = some (.int (g 26)) := hp_get (f := (0, 26)) rfl rfl
theorem hs_10_7 {v : Int32} : xput (hp g G o h) 10 5 7 (.int v) = some (hp (va_up g 26 v) G o h) := hp_put rfl rfl (by decide +kernel)
theorem hg_10_8 : xget (hp g G o h) 10 5 8 = some (.int (g 27)) := hp_get (f := (0, 27)) rfl rfl
theorem hs_10_8 {v : Int32} : xput (hp g G o h) 10 5 8 (.int v) = some (hp (va_up g 27 v) G o h) := hp_put rfl rfl (by decide +kernel)
theorem hg_10_9 : xget (hp g G o h) 10 5 9 = some (.int (g 28)) := hp_get (f := (0, 28)) rfl rfl
theorem hs_10_9 {v : Int32} : xput (hp g G o h) 10 5 9 (.int v) = some (hp (va_up g 28 v) G o h) := hp_put rfl rfl (by decide +kernel)
theorem hg_10_10 : xget (hp g G o h) 10 5 10 = some (.int (g 29)) := hp_get (f := (0, 29)) rfl rfl
theorem hs_10_10 {v : Int32} : xput (hp g G o h) 10 5 10 (.int v) = some (hp (va_up g 29 v) G o h) := hp_put rfl rfl (by decide +kernel)
theorem hg_10_11 : xget (hp g G o h) 10 5 11 = some (.int (g 30)) := hp_get (f := (0, 30)) rfl rfl
theorem hs_10_11 {v : Int32} : xput (hp g G o h) 10 5 11 (.int v) = some (hp (va_up g 30 v) G o h) := hp_put rfl rfl (by decide +kernel)
theorem hg_10_12 : xget (hp g G o h) 10 5 12 = some (.int (g 31)) := hp_get (f := (0, 31)) rfl rfl
theorem hs_10_12 {v : Int32} : xput (hp g G o h) 10 5 12 (.int v) = some (hp (va_up g 31 v) G o h) := hp_put rfl rfl (by decide +kernel)
theorem hg_10_13 : xget (hp g G o h) 10 5 13 = some (.ref 11) := hp_get (f := (1, 11)) rfl rfl
theorem hg_10_14 : xget (hp g G o h) 10 5 14 = some (.ref 12) := hp_get (f := (1, 12)) rfl rfl
theorem hg_10_15 : xget (hp g G o h) 10 5 15 = some (.ref 15) := hp_get (f := (1, 15)) rfl rfl
theorem hg_10_16 : xget (hp g G o h) 10 5 16 = some (.ref 18) := hp_get (f := (1, 18)) rfl rfl
theorem hg_10_17 : xget (hp g G o h) 10 5 17 = some (.ref 21) := hp_get (f := (1, 21)) rfl rfl
theorem hx_11 : xis (hp g G o h) 11 2 = true := hp_is (fs := [(0, 32), (0, 33), (0, 34)]) rfl
theorem hg_11_0 : xget (hp g G o h) 11 2 0 = some (.int (g 32)) := hp_get (f := (0, 32)) rfl rfl
theorem hs_11_0 {v : Int32} : xput (hp g G o h) 11 2 0 (.int v) = some (hp (va_up g 32 v) G o h) := hp_put rfl rfl (by decide +kernel)
theorem hg_11_1 : xget (hp g G o h) 11 2 1 = some (.int (g 33)) := hp_get (f := (0, 33)) rfl rfl
theorem hs_11_1 {v : Int32} : xput (hp g G o h) 11 2 1 (.int v) = some (hp (va_up g 33 v) G o h) := hp_put rfl rfl (by decide +kernel)
theorem hg_11_2 : xget (hp g G o h) 11 2 2 = some (.int (g 34)) := hp_get (f := (0, 34)) rfl rfl
theorem hs_11_2 {v : Int32} : xput (hp g G o h) 11 2 2 (.int v) = some (hp (va_up g 34 v) G o h) := hp_put rfl rfl (by decide +kernel)
theorem hx_12 : xis (hp g G o h) 12 6 = true := hp_is (fs := [(1, 13), (1, 14)]) rfl
theorem hg_12_0 : xget (hp g G o h) 12 6 0 = some (.ref 13) := hp_get (f := (1, 13)) rfl rfl
theorem hg_12_1 : xget (hp g G o h) 12 6 1 = some (.ref 14) := hp_get (f := (1, 14)) rfl rfl
theorem hn_13 : xlen (hp g G o h) 13 = some 6 := hp_len (t := 0) (ky := 10) rfl (by decide)
theorem ha_13 : xai (hp g G o h) 13 0 = some (6, G 10) := hp_ai rfl (by decide)
theorem hA_13 {F : Nat → Int32} : (hp g G o h).set 13 (.inl (0, 6, .inl F)) = hp g (va_up G 10 F) o h := hp_aset rfl (by decide) (by decide +kernel)
theorem hn_14 : xlen (hp g G o h) 14 = some 6 := hp_len (t := 0) (ky := 11) rfl (by decide)
theorem ha_14 : xai (hp g G o h) 14 0 = some (6, G 11) := hp_ai rfl (by decide)
theorem hA_14 {F : Nat → Int32} : (hp g G o h).set 14 (.inl (0, 6, .inl F)) = hp g (va_up G 11 F) o h := hp_aset rfl (by decide) (by decide +kernel)
theorem hx_15 : xis (hp g G o h) 15 4 = true := hp_is (fs := [(1, 16), (1, 17), (0, 35)]) rfl
theorem hg_15_0 : xget (hp g G o h) 15 4 0 = some (.ref 16) := hp_get (f := (1, 16)) rfl rfl
theorem hg_15_1 : xget (hp g G o h) 15 4 1 = some (.ref 17) := hp_get (f := (1, 17)) rfl rfl
theorem hg_15_2 : xget (hp g G o h) 15 4 2 = some (.int (g 35)) := hp_get (f := (0, 35)) rfl rfl
theorem hs_15_2 {v : Int32} : xput (hp g G o h) 15 4 2 (.int v) = some (hp (va_up g 35 v) G o h) := hp_put rfl rfl (by decide +kernel)
theorem hn_16 : xlen (hp g G o h) 16 = some 4 := hp_len (t := 0) (ky := 12) rfl (by decide)
theorem ha_16 : xai (hp g G o h) 16 0 = some (4, G 12) := hp_ai rfl (by decide)
theorem hA_16 {F : Nat → Int32} : (hp g G o h).set 16 (.inl (0, 4, .inl F)) = hp g (va_up G 12 F) o h := hp_aset rfl (by decide) (by decide +kernel)
theorem hn_17 : xlen (hp g G o h) 17 = some 4 := hp_len (t := 0) (ky := 13) rfl (by decide)
theorem ha_17 : xai (hp g G o h) 17 0 = some (4, G 13) := hp_ai rfl (by decide)
theorem hA_17 {F : Nat → Int32} : (hp g G o h).set 17 (.inl (0, 4, .inl F)) = hp g (va_up G 13 F) o h := hp_aset rfl (by decide) (by decide +kernel)
theorem hx_18 : xis (hp g G o h) 18 4 = true := hp_is (fs := [(1, 19), (1, 20), (0, 36)]) rfl
theorem hg_18_0 : xget (hp g G o h) 18 4 0 = some (.ref 19) := hp_get (f := (1, 19)) rfl rfl
theorem hg_18_1 : xget (hp g G o h) 18 4 1 = some (.ref 20) := hp_get (f := (1, 20)) rfl rfl
theorem hg_18_2 : xget (hp g G o h) 18 4 2 = some (.int (g 36)) := hp_get (f := (0, 36)) rfl rfl
theorem hs_18_2 {v : Int32} : xput (hp g G o h) 18 4 2 (.int v) = some (hp (va_up g 36 v) G o h) := hp_put rfl rfl (by decide +kernel)
theorem hn_19 : xlen (hp g G o h) 19 = some 6 := hp_len (t := 0) (ky := 14) rfl (by decide)
theorem ha_19 : xai (hp g G o h) 19 0 = some (6, G 14) := hp_ai rfl (by decide)
theorem hA_19 {F : Nat → Int32} : (hp g G o h).set 19 (.inl (0, 6, .inl F)) = hp g (va_up G 14 F) o h := hp_aset rfl (by decide) (by decide +kernel)
theorem hn_20 : xlen (hp g G o h) 20 = some 6 := hp_len (t := 0) (ky := 15) rfl (by decide)
theorem ha_20 : xai (hp g G o h) 20 0 = some (6, G 15) := hp_ai rfl (by decide)
theorem hA_20 {F : Nat → Int32} : (hp g G o h).set 20 (.inl (0, 6, .inl F)) = hp g (va_up G 15 F) o h := hp_aset rfl (by decide) (by decide +kernel)
theorem hx_21 : xis (hp g G o h) 21 1 = true := hp_is (fs := [(1, 22), (1, 23), (1, 24), (0, 37), (0, 38)]) rfl
theorem hg_21_0 : xget (hp g G o h) 21 1 0 = some (.ref 22) := hp_get (f := (1, 22)) rfl rfl
theorem hg_21_1 : xget (hp g G o h) 21 1 1 = some (.ref 23) := hp_get (f := (1, 23)) rfl rfl
theorem hg_21_2 : xget (hp g G o h) 21 1 2 = some (.ref 24) := hp_get (f := (1, 24)) rfl rfl
theorem hg_21_3 : xget (hp g G o h) 21 1 3 = some (.int (g 37)) := hp_get (f := (0, 37)) rfl rfl
theorem hs_21_3 {v : Int32} : xput (hp g G o h) 21 1 3 (.int v) = some (hp (va_up g 37 v) G o h) := hp_put rfl rfl (by decide +kernel)
theorem hg_21_4 : xget (hp g G o h) 21 1 4 = some (.int (g 38)) := hp_get (f := (0, 38)) rfl rfl
theorem hs_21_4 {v : Int32} : xput (hp g G o h) 21 1 4 (.int v) = some (hp (va_up g 38 v) G o h) := hp_put rfl rfl (by decide +kernel)
theorem hn_22 : xlen (hp g G o h) 22 = some 24 := hp_len (t := 0) (ky := 16) rfl (by decide)
theorem ha_22 : xai (hp g G o h) 22 0 = some (24, G 16) := hp_ai rfl (by decide)
theorem hA_22 {F : Nat → Int32} : (hp g G o h).set 22 (.inl (0, 24, .inl F)) = hp g (va_up G 16 F) o h := hp_aset rfl (by decide) (by decide +kernel)
theorem hn_23 : xlen (hp g G o h) 23 = some 24 := hp_len (t := 0) (ky := 17) rfl (by decide)
theorem ha_23 : xai (hp g G o h) 23 0 = some (24, G 17) := hp_ai rfl (by decide)
theorem hA_23 {F : Nat → Int32} : (hp g G o h).set 23 (.inl (0, 24, .inl F)) = hp g (va_up G 17 F) o h := hp_aset rfl (by decide) (by decide +kernel)
theorem hn_24 : xlen (hp g G o h) 24 = some 24 := hp_len (t := 0) (ky := 18) rfl (by decide)
theorem ha_24 : xai (hp g G o h) 24 0 = some (24, G 18) := hp_ai rfl (by decide)
theorem hA_24 {F : Nat → Int32} : (hp g G o h).set 24 (.inl (0, 24, .inl F)) = hp g (va_up G 18 F) o h := hp_aset rfl (by decide) (by decide +kernel)
theorem hx_25 : xis (hp g G o h) 25 5 = true := hp_is (fs := [(1, 1), (0, 40), (0, 41), (0, 42), (0, 43), (0, 44), (0, 45), (0, 46), (0, 47), (0, 48), (0, 49), (0, 50), (0, 51), (1, 26), (1, 27), (1, 30), (1, 33), (1, 36)]) rfl
theorem hg_25_0 : xget (hp g G o h) 25 5 0 = some (.ref 1) := hp_get (f := (1, 1)) rfl rfl
theorem hg_25_1 : xget (hp g G o h) 25 5 1 = some (.int (g 40)) := hp_get (f := (0, 40)) rfl rfl
theorem hs_25_1 {v : Int32} : xput (hp g G o h) 25 5 1 (.int v) = some (hp (va_up g 40 v) G o h) := hp_put rfl rfl (by decide +kernel)
theorem hg_25_2 : xget (hp g G o h) 25 5 2 = some (.int (g 41)) := hp_get (f := (0, 41)) rfl rfl
theorem hs_25_2 {v : Int32} : xput (hp g G o h) 25 5 2 (.int v) = some (hp (va_up g 41 v) G o h) := hp_put rfl rfl (by decide +kernel)
theorem hg_25_3 : xget (hp g G o h) 25 5 3 = some (.int (g 42)) := hp_get (f := (0, 42)) rfl rfl
theorem hs_25_3 {v : Int32} : xput (hp g G o h) 25 5 3 (.int v) = some (hp (va_up g 42 v) G o h) := hp_put rfl rfl (by decide +kernel)
theorem hg_25_4 : xget (hp g G o h) 25 5 4 = some (.int (g 43)) := hp_get (f := (0, 43)) rfl rfl
theorem hs_25_4 {v : Int32} : xput (hp g G o h) 25 5 4 (.int v) = some (hp (va_up g 43 v) G o h) := hp_put rfl rfl (by decide +kernel)
theorem hg_25_5 : xget (hp g G o h) 25 5 5 = some (.int (g 44)) := hp_get (f := (0, 44)) rfl rfl
theorem hs_25_5 {v : Int32} : xput (hp g G o h) 25 5 5 (.int v) = some (hp (va_up g 44 v) G o h) := hp_put rfl rfl (by decide +kernel)
theorem hg_25_6 : xget (hp g G o h) 25 5 6 = some (.int (g 45)) := hp_get (f := (0, 45)) rfl rfl
theorem hs_25_6 {v : Int32} : xput (hp g G o h) 25 5 6 (.int v) = some (hp (va_up g 45 v) G o h) := hp_put rfl rfl (by decide +kernel)
theorem hg_25_7 : xget (hp g G o h) 25 5 7 = some (.int (g 46)) := hp_get (f := (0, 46)) rfl rfl
theorem hs_25_7 {v : Int32} : xput (hp g G o h) 25 5 7 (.int v) = some (hp (va_up g 46 v) G o h) := hp_put rfl rfl (by decide +kernel)
theorem hg_25_8 : xget (hp g G o h) 25 5 8 = some (.int (g 47)) := hp_get (f := (0, 47)) rfl rfl
theorem hs_25_8 {v : Int32} : xput (hp g G o h) 25 5 8 (.int v) = some (hp (va_up g 47 v) G o h) := hp_put rfl rfl (by decide +kernel)
theorem hg_25_9 : xget (hp g G o h) 25 5 9 = some (.int (g 48)) := hp_get (f := (0, 48)) rfl rfl
theorem hs_25_9 {v : Int32} : xput (hp g G o h) 25 5 9 (.int v) = some (hp (va_up g 48 v) G o h) := hp_put rfl rfl (by decide +kernel)
theorem hg_25_10 : xget (hp g G o h) 25 5 10 = some (.int (g 49)) := hp_get (f := (0, 49)) rfl rfl
theorem hs_25_10 {v : Int32} : xput (hp g G o h) 25 5 10 (.int v) = some (hp (va_up g 49 v) G o h) := hp_put rfl rfl (by decide +kernel)
theorem hg_25_11 : xget (hp g G o h) 25 5 11 = some (.int (g 50)) := hp_get (f := (0, 50)) rfl rfl
theorem hs_25_11 {v : Int32} : xput (hp g G o h) 25 5 11 (.int v) = some (hp (va_up g 50 v) G o h) := hp_put rfl rfl (by decide +kernel)
theorem hg_25_12 : xget (hp g G o h) 25 5 12 = some (.int (g 51)) := hp_get (f := (0, 51)) rfl rfl
theorem hs_25_12 {v : Int32} : xput (hp g G o h) 25 5 12 (.int v) = some (hp (va_up g 51 v) G o h) := hp_put rfl rfl (by decide +kernel)
theorem hg_25_13 : xget (hp g G o h) 25 5 13 = some (.ref 26) := hp_get (f := (1, 26)) rfl rfl
theorem hg_25_14 : xget (hp g G o h) 25 5 14 = some (.ref 27) := hp_get (f := (1, 27)) rfl rfl
theorem hg_25_15 : xget (hp g G o h) 25 5 15 = some (.ref 30) := hp_get (f := (1, 30)) rfl rfl
theorem hg_25_16 : xget (hp g G o h) 25 5 16 = some (.ref 33) := hp_get (f := (1, 33)) rfl rfl
theorem hg_25_17 : xget (hp g G o h) 25 5 17 = some (.ref 36) := hp_get (f := (1, 36)) rfl rfl
theorem hx_26 : xis (hp g G o h) 26 2 = true := hp_is (fs := [(0, 52), (0, 53), (0, 54)]) rfl
theorem hg_26_0 : xget (hp g G o h) 26 2 0 = some (.int (g 52)) := hp_get (f := (0, 52)) rfl rfl
theorem hs_26_0 {v : Int32} : xput (hp g G o h) 26 2 0 (.int v) = some (hp (va_up g 52 v) G o h) := hp_put rfl rfl (by decide +kernel)
theorem hg_26_1 : xget (hp g G o h) 26 2 1 = some (.int (g 53)) := hp_get (f := (0, 53)) rfl rfl
theorem hs_26_1 {v : Int32} : xput (hp g G o h) 26 2 1 (.int v) = some (hp (va_up g 53 v) G o h) := hp_put rfl rfl (by decide +kernel)
theorem hg_26_2 : xget (hp g G o h) 26 2 2 = some (.int (g 54)) := hp_get (f := (0, 54)) rfl rfl
theorem hs_26_2 {v : Int32} : xput (hp g G o h) 26 2 2 (.int v) = some (hp (va_up g 54 v) G o h) := hp_put rfl rfl (by decide +kernel)
theorem hx_27 : xis (hp g G o h) 27 6 = true := hp_is (fs := [(1, 28), (1, 29)]) rfl
theorem hg_27_0 : xget (hp g G o h) 27 6 0 = some (.ref 28) := hp_get (f := (1, 28)) rfl rfl
theorem hg_27_1 : xget (hp g G o h) 27 6 1 = some (.ref 29) := hp_get (f := (1, 29)) rfl rfl
theorem hn_28 : xlen (hp g G o h) 28 = some 6 := hp_len (t := 0) (ky := 20) rfl (by decide)
theorem ha_28 : xai (hp g G o h) 28 0 = some (6, G 20) := hp_ai rfl (by decide)
theorem hA_28 {F : Nat → Int32} : (hp g G o h).set 28 (.inl (0, 6, .inl F)) = hp g (va_up G 20 F) o h := hp_aset rfl (by decide) (by decide +kernel)
theorem hn_29 : xlen (hp g G o h) 29 = some 6 := hp_len (t := 0) (ky := 21) rfl (by decide)
theorem ha_29 : xai (hp g G o h) 29 0 = some (6, G 21) := hp_ai rfl (by decide)
theorem hA_29 {F : Nat → Int32} : (hp g G o h).set 29 (.inl (0, 6, .inl F)) = hp g (va_up G 21 F) o h := hp_aset rfl (by decide) (by decide +kernel)
theorem hx_30 : xis (hp g G o h) 30 4 = true := hp_is (fs := [(1, 31), (1, 32), (0, 55)]) rfl
theorem hg_30_0 : xget (hp g G o h) 30 4 0 = some (.ref 31) := hp_get (f := (1, 31)) rfl rfl
theorem hg_30_1 : xget (hp g G o h) 30 4 1 = some (.ref 32) := hp_get (f := (1, 32)) rfl rfl
theorem hg_30_2 : xget (hp g G o h) 30 4 2 = some (.int (g 55)) := hp_get (f := (0, 55)) rfl rfl
theorem hs_30_2 {v : Int32} : xput (hp g G o h) 30 4 2 (.int v) = some (hp (va_up g 55 v) G o h) := hp_put rfl rfl (by decide +kernel)
theorem hn_31 : xlen (hp g G o h) 31 = some 4 := hp_len (t := 0) (ky := 22) rfl (by decide)
theorem ha_31 : xai (hp g G o h) 31 0 = some (4, G 22) := hp_ai rfl (by decide)
theorem hA_31 {F : Nat → Int32} : (hp g G o h).set 31 (.inl (0, 4, .inl F)) = hp g (va_up G 22 F) o h := hp_aset rfl (by decide) (by decide +kernel)
theorem hn_32 : xlen (hp g G o h) 32 = some 4 := hp_len (t := 0) (ky := 23) rfl (by decide)
theorem ha_32 : xai (hp g G o h) 32 0 = some (4, G 23) := hp_ai rfl (by decide)
theorem hA_32 {F : Nat → Int32} : (hp g G o h).set 32 (.inl (0, 4, .inl F)) = hp g (va_up G 23 F) o h := hp_aset rfl (by decide) (by decide +kernel)
theorem hx_33 : xis (hp g G o h) 33 4 = true := hp_is (fs := [(1, 34), (1, 35), (0, 56)]) rfl
theorem hg_33_0 : xget (hp g G o h) 33 4 0 = some (.ref 34) := hp_get (f := (1, 34)) rfl rfl
theorem hg_33_1 : xget (hp g G o h) 33 4 1 = some (.ref 35) := hp_get (f := (1, 35)) rfl rfl
theorem hg_33_2 : xget (hp g G o h) 33 4 2 = some (.int (g 56)) := hp_get (f := (0, 56)) rfl rfl
theorem hs_33_2 {v : Int32} : xput (hp g G o h) 33 4 2 (.int v) = some (hp (va_up g 56 v) G o h) := hp_put rfl rfl (by decide +kernel)
theorem hn_34 : xlen (hp g G o h) 34 = some 6 := hp_len (t := 0) (ky := 24) rfl (by decide)
theorem ha_34 : xai (hp g G o h) 34 0 = some (6, G 24) := hp_ai rfl (by decide)
theorem hA_34 {F : Nat → Int32} : (hp g G o h).set 34 (.inl (0, 6, .inl F)) = hp g (va_up G 24 F) o h := hp_aset rfl (by decide) (by decide +kernel)
theorem hn_35 : xlen (hp g G o h) 35 = some 6 := hp_len (t := 0) (ky := 25) rfl (by decide)
theorem ha_35 : xai (hp g G o h) 35 0 = some (6, G 25) := hp_ai rfl (by decide)
theorem hA_35 {F : Nat → Int32} : (hp g G o h).set 35 (.inl (0, 6, .inl F)) = hp g (va_up G 25 F) o h := hp_aset rfl (by decide) (by decide +kernel)
theorem hx_36 : xis (hp g G o h) 36 1 = true := hp_is (fs := [(1, 37), (1, 38), (1, 39), (0, 57), (0, 58)]) rfl
theorem hg_36_0 : xget (hp g G o h) 36 1 0 = some (.ref 37) := hp_get (f := (1, 37)) rfl rfl
theorem hg_36_1 : xget (hp g G o h) 36 1 1 = some (.ref 38) := hp_get (f := (1, 38)) rfl rfl
theorem hg_36_2 : xget (hp g G o h) 36 1 2 = some (.ref 39) := hp_get (f := (1, 39)) rfl rfl
theorem hg_36_3 : xget (hp g G o h) 36 1 3 = some (.int (g 57)) := hp_get (f := (0, 57)) rfl rfl
theorem hs_36_3 {v : Int32} : xput (hp g G o h) 36 1 3 (.int v) = some (hp (va_up g 57 v) G o h) := hp_put rfl rfl (by decide +kernel)
theorem hg_36_4 : xget (hp g G o h) 36 1 4 = some (.int (g 58)) := hp_get (f := (0, 58)) rfl rfl
theorem hs_36_4 {v : Int32} : xput (hp g G o h) 36 1 4 (.int v) = some (hp (va_up g 58 v) G o h) := hp_put rfl rfl (by decide +kernel)
theorem hn_37 : xlen (hp g G o h) 37 = some 24 := hp_len (t := 0) (ky := 26) rfl (by decide)
theorem ha_37 : xai (hp g G o h) 37 0 = some (24, G 26) := hp_ai rfl (by decide)
theorem hA_37 {F : Nat → Int32} : (hp g G o h).set 37 (.inl (0, 24, .inl F)) = hp g (va_up G 26 F) o h := hp_aset rfl (by decide) (by decide +kernel)
theorem hn_38 : xlen (hp g G o h) 38 = some 24 := hp_len (t := 0) (ky := 27) rfl (by decide)
theorem ha_38 : xai (hp g G o h) 38 0 = some (24, G 27) := hp_ai rfl (by decide)
theorem hA_38 {F : Nat → Int32} : (hp g G o h).set 38 (.inl (0, 24, .inl F)) = hp g (va_up G 27 F) o h := hp_aset rfl (by decide) (by decide +kernel)
theorem hn_39 : xlen (hp g G o h) 39 = some 24 := hp_len (t := 0) (ky := 28) rfl (by decide)
theorem ha_39 : xai (hp g G o h) 39 0 = some (24, G 28) := hp_ai rfl (by decide)
theorem hA_39 {F : Nat → Int32} : (hp g G o h).set 39 (.inl (0, 24, .inl F)) = hp g (va_up G 28 F) o h := hp_aset rfl (by decide) (by decide +kernel)
theorem hn_40 : xlen (hp g G o h) 40 = some 3 := hp_len (t := 3) (ky := 0) rfl (by decide)
theorem ha_40 : xaq (hp g G o h) 40 3 = some (3, ysaved) := hp_aq (ky := 0) rfl
theorem hx_41 : xis (hp g G o h) 41 5 = true := hp_is (fs := [(1, 1), (0, 60), (0, 61), (0, 62), (0, 63), (0, 64), (0, 65), (0, 66), (0, 67), (0, 68), (0, 69), (0, 70), (0, 71), (1, 42), (1, 43), (1, 46), (1, 49), (1, 52)]) rfl
theorem hg_41_0 : xget (hp g G o h) 41 5 0 = some (.ref 1) := hp_get (f := (1, 1)) rfl rfl
theorem hg_41_1 : xget (hp g G o h) 41 5 1 = some (.int (g 60)) := hp_get (f := (0, 60)) rfl rfl
theorem hs_41_1 {v : Int32} : xput (hp g G o h) 41 5 1 (.int v) = some (hp (va_up g 60 v) G o h) := hp_put rfl rfl (by decide +kernel)
theorem hg_41_2 : xget (hp g G o h) 41 5 2 = some (.int (g 61)) := hp_get (f := (0, 61)) rfl rfl
theorem hs_41_2 {v : Int32} : xput (hp g G o h) 41 5 2 (.int v) = some (hp (va_up g 61 v) G o h) := hp_put rfl rfl (by decide +kernel)
theorem hg_41_3 : xget (hp g G o h) 41 5 3 = some (.int (g 62)) := hp_get (f := (0, 62)) rfl rfl
theorem hs_41_3 {v : Int32} : xput (hp g G o h) 41 5 3 (.int v) = some (hp (va_up g 62 v) G o h) := hp_put rfl rfl (by decide +kernel)
theorem hg_41_4 : xget (hp g G o h) 41 5 4 = some (.int (g 63)) := hp_get (f := (0, 63)) rfl rfl
theorem hs_41_4 {v : Int32} : xput (hp g G o h) 41 5 4 (.int v) = some (hp (va_up g 63 v) G o h) := hp_put rfl rfl (by decide +kernel)
theorem hg_41_5 : xget (hp g G o h) 41 5 5 = some (.int (g 64)) := hp_get (f := (0, 64)) rfl rfl
theorem hs_41_5 {v : Int32} : xput (hp g G o h) 41 5 5 (.int v) = some (hp (va_up g 64 v) G o h) := hp_put rfl rfl (by decide +kernel)
theorem hg_41_6 : xget (hp g G o h) 41 5 6 = some (.int (g 65)) := hp_get (f := (0, 65)) rfl rfl
theorem hs_41_6 {v : Int32} : xput (hp g G o h) 41 5 6 (.int v) = some (hp (va_up g 65 v) G o h) := hp_put rfl rfl (by decide +kernel)
theorem hg_41_7 : xget (hp g G o h) 41 5 7 = some (.int (g 66)) := hp_get (f := (0, 66)) rfl rfl
theorem hs_41_7 {v : Int32} : xput (hp g G o h) 41 5 7 (.int v) = some (hp (va_up g 66 v) G o h) := hp_put rfl rfl (by decide +kernel)
theorem hg_41_8 : xget (hp g G o h) 41 5 8 = some (.int (g 67)) := hp_get (f := (0, 67)) rfl rfl
theorem hs_41_8 {v : Int32} : xput (hp g G o h) 41 5 8 (.int v) = some (hp (va_up g 67 v) G o h) := hp_put rfl rfl (by decide +kernel)
theorem hg_41_9 : xget (hp g G o h) 41 5 9 = some (.int (g 68)) := hp_get (f := (0, 68)) rfl rfl
theorem hs_41_9 {v : Int32} : xput (hp g G o h) 41 5 9 (.int v) = some (hp (va_up g 68 v) G o h) := hp_put rfl rfl (by decide +kernel)
theorem hg_41_10 : xget (hp g G o h) 41 5 10 = some (.int (g 69)) := hp_get (f := (0, 69)) rfl rfl
theorem hs_41_10 {v : Int32} : xput (hp g G o h) 41 5 10 (.int v) = some (hp (va_up g 69 v) G o h) := hp_put rfl rfl (by decide +kernel)
theorem hg_41_11 : xget (hp g G o h) 41 5 11 = some (.int (g 70)) := hp_get (f := (0, 70)) rfl rfl
theorem hs_41_11 {v : Int32} : xput (hp g G o h) 41 5 11 (.int v) = some (hp (va_up g 70 v) G o h) := hp_put rfl rfl (by decide +kernel)
theorem hg_41_12 : xget (hp g G o h) 41 5 12 = some (.int (g 71)) := hp_get (f := (0, 71)) rfl rfl
theorem hs_41_12 {v : Int32} : xput (hp g G o h) 41 5 12 (.int v) = some (hp (va_up g 71 v) G o h) := hp_put rfl rfl (by decide +kernel)
theorem hg_41_13 : xget (hp g G o h) 41 5 13 = some (.ref 42) := hp_get (f := (1, 42)) rfl rfl
theorem hg_41_14 : xget (hp g G o h) 41 5 14 = some (.ref 43) := hp_get (f := (1, 43)) rfl rfl
theorem hg_41_15 : xget (hp g G o h) 41 5 15 = some (.ref 46) := hp_get (f := (1, 46)) rfl rfl
theorem hg_41_16 : xget (hp g G o h) 41 5 16 = some (.ref 49) := hp_get (f := (1, 49)) rfl rfl
theorem hg_41_17 : xget (hp g G o h) 41 5 17 = some (.ref 52) := hp_get (f := (1, 52)) rfl rfl
theorem hx_42 : xis (hp g G o h) 42 2 = true := hp_is (fs := [(0, 72), (0, 73), (0, 74)]) rfl
theorem hg_42_0 : xget (hp g G o h) 42 2 0 = some (.int (g 72)) := hp_get (f := (0, 72)) rfl rfl
theorem hs_42_0 {v : Int32} : xput (hp g G o h) 42 2 0 (.int v) = some (hp (va_up g 72 v) G o h) := hp_put rfl rfl (by decide +kernel)
theorem hg_42_1 : xget (hp g G o h) 42 2 1 = some (.int (g 73)) := hp_get (f := (0, 73)) rfl rfl
theorem hs_42_1 {v : Int32} : xput (hp g G o h) 42 2 1 (.int v) = some (hp (va_up g 73 v) G o h) := hp_put rfl rfl (by decide +kernel)
theorem hg_42_2 : xget (hp g G o h) 42 2 2 = some (.int (g 74)) := hp_get (f := (0, 74)) rfl rfl
theorem hs_42_2 {v : Int32} : xput (hp g G o h) 42 2 2 (.int v) = some (hp (va_up g 74 v) G o h) := hp_put rfl rfl (by decide +kernel)
theorem hx_43 : xis (hp g G o h) 43 6 = true := hp_is (fs := [(1, 44), (1, 45)]) rfl
theorem hg_43_0 : xget (hp g G o h) 43 6 0 = some (.ref 44) := hp_get (f := (1, 44)) rfl rfl
theorem hg_43_1 : xget (hp g G o h) 43 6 1 = some (.ref 45) := hp_get (f := (1, 45)) rfl rfl
theorem hn_44 : xlen (hp g G o h) 44 = some 6 := hp_len (t := 0) (ky := 30) rfl (by decide)
theorem ha_44 : xai (hp g G o h) 44 0 = some (6, G 30) := hp_ai rfl (by decide)
theorem hA_44 {F : Nat → Int32} : (hp g G o h).set 44 (.inl (0, 6, .inl F)) = hp g (va_up G 30 F) o h := hp_aset rfl (by decide) (by decide +kernel)
theorem hn_45 : xlen (hp g G o h) 45 = some 6 := hp_len (t := 0) (ky := 31) rfl (by decide)
theorem ha_45 : xai (hp g G o h) 45 0 = some (6, G 31) := hp_ai rfl (by decide)
theorem hA_45 {F : Nat → Int32} : (hp g G o h).set 45 (.inl (0, 6, .inl F)) = hp g (va_up G 31 F) o h := hp_aset rfl (by decide) (by decide +kernel)
theorem hx_46 : xis (hp g G o h) 46 4 = true := hp_is (fs := [(1, 47), (1, 48), (0, 75)]) rfl
theorem hg_46_0 : xget (hp g G o h) 46 4 0 = some (.ref 47) := hp_get (f := (1, 47)) rfl rfl
theorem hg_46_1 : xget (hp g G o h) 46 4 1 = some (.ref 48) := hp_get (f := (1, 48)) rfl rfl
theorem hg_46_2 : xget (hp g G o h) 46 4 2 = some (.int (g 75)) := hp_get (f := (0, 75)) rfl rfl
theorem hs_46_2 {v : Int32} : xput (hp g G o h) 46 4 2 (.int v) = some (hp (va_up g 75 v) G o h) := hp_put rfl rfl (by decide +kernel)
theorem hn_47 : xlen (hp g G o h) 47 = some 4 := hp_len (t := 0) (ky := 32) rfl (by decide)
theorem ha_47 : xai (hp g G o h) 47 0 = some (4, G 32) := hp_ai rfl (by decide)
theorem hA_47 {F : Nat → Int32} : (hp g G o h).set 47 (.inl (0, 4, .inl F)) = hp g (va_up G 32 F) o h := hp_aset rfl (by decide) (by decide +kernel)
theorem hn_48 : xlen (hp g G o h) 48 = some 4 := hp_len (t := 0) (ky := 33) rfl (by decide)
theorem ha_48 : xai (hp g G o h) 48 0 = some (4, G 33) := hp_ai rfl (by decide)
theorem hA_48 {F : Nat → Int32} : (hp g G o h).set 48 (.inl (0, 4, .inl F)) = hp g (va_up G 33 F) o h := hp_aset rfl (by decide) (by decide +kernel)
theorem hx_49 : xis (hp g G o h) 49 4 = true := hp_is (fs := [(1, 50), (1, 51), (0, 76)]) rfl
theorem hg_49_0 : xget (hp g G o h) 49 4 0 = some (.ref 50) := hp_get (f := (1, 50)) rfl rfl
theorem hg_49_1 : xget (hp g G o h) 49 4 1 = some (.ref 51) := hp_get (f := (1, 51)) rfl rfl
theorem hg_49_2 : xget (hp g G o h) 49 4 2 = some (.int (g 76)) := hp_get (f := (0, 76)) rfl rfl
theorem hs_49_2 {v : Int32} : xput (hp g G o h) 49 4 2 (.int v) = some (hp (va_up g 76 v) G o h) := hp_put rfl rfl (by decide +kernel)
theorem hn_50 : xlen (hp g G o h) 50 = some 6 := hp_len (t := 0) (ky := 34) rfl (by decide)
theorem ha_50 : xai (hp g G o h) 50 0 = some (6, G 34) := hp_ai rfl (by decide)
theorem hA_50 {F : Nat → Int32} : (hp g G o h).set 50 (.inl (0, 6, .inl F)) = hp g (va_up G 34 F) o h := hp_aset rfl (by decide) (by decide +kernel)
theorem hn_51 : xlen (hp g G o h) 51 = some 6 := hp_len (t := 0) (ky := 35) rfl (by decide)
theorem ha_51 : xai (hp g G o h) 51 0 = some (6, G 35) := hp_ai rfl (by decide)
theorem hA_51 {F : Nat → Int32} : (hp g G o h).set 51 (.inl (0, 6, .inl F)) = hp g (va_up G 35 F) o h := hp_aset rfl (by decide) (by decide +kernel)
theorem hx_52 : xis (hp g G o h) 52 1 = true := hp_is (fs := [(1, 53), (1, 54), (1, 55), (0, 77), (0, 78)]) rfl
theorem hg_52_0 : xget (hp g G o h) 52 1 0 = some (.ref 53) := hp_get (f := (1, 53)) rfl rfl
theorem hg_52_1 : xget (hp g G o h) 52 1 1 = some (.ref 54) := hp_get (f := (1, 54)) rfl rfl
theorem hg_52_2 : xget (hp g G o h) 52 1 2 = some (.ref 55) := hp_get (f := (1, 55)) rfl rfl
theorem hg_52_3 : xget (hp g G o h) 52 1 3 = some (.int (g 77)) := hp_get (f := (0, 77)) rfl rfl
theorem hs_52_3 {v : Int32} : xput (hp g G o h) 52 1 3 (.int v) = some (hp (va_up g 77 v) G o h) := hp_put rfl rfl (by decide +kernel)
theorem hg_52_4 : xget (hp g G o h) 52 1 4 = some (.int (g 78)) := hp_get (f := (0, 78)) rfl rfl
theorem hs_52_4 {v : Int32} : xput (hp g G o h) 52 1 4 (.int v) = some (hp (va_up g 78 v) G o h) := hp_put rfl rfl (by decide +kernel)
theorem hn_53 : xlen (hp g G o h) 53 = some 24 := hp_len (t := 0) (ky := 36) rfl (by decide)
theorem ha_53 : xai (hp g G o h) 53 0 = some (24, G 36) := hp_ai rfl (by decide)
theorem hA_53 {F : Nat → Int32} : (hp g G o h).set 53 (.inl (0, 24, .inl F)) = hp g (va_up G 36 F) o h := hp_aset rfl (by decide) (by decide +kernel)
theorem hn_54 : xlen (hp g G o h) 54 = some 24 := hp_len (t := 0) (ky := 37) rfl (by decide)
theorem ha_54 : xai (hp g G o h) 54 0 = some (24, G 37) := hp_ai rfl (by decide)
theorem hA_54 {F : Nat → Int32} : (hp g G o h).set 54 (.inl (0, 24, .inl F)) = hp g (va_up G 37 F) o h := hp_aset rfl (by decide) (by decide +kernel)
theorem hn_55 : xlen (hp g G o h) 55 = some 24 := hp_len (t := 0) (ky := 38) rfl (by decide)
theorem ha_55 : xai (hp g G o h) 55 0 = some (24, G 38) := hp_ai rfl (by decide)
theorem hA_55 {F : Nat → Int32} : (hp g G o h).set 55 (.inl (0, 24, .inl F)) = hp g (va_up G 38 F) o h := hp_aset rfl (by decide) (by decide +kernel)
theorem hx_56 : xis (hp g G o h) 56 5 = true := hp_is (fs := [(1, 1), (0, 80), (0, 81), (0, 82), (0, 83), (0, 84), (0, 85), (0, 86), (0, 87), (0, 88), (0, 89), (0, 90), (0, 91), (1, 57), (1, 58), (1, 61), (1, 64), (1, 67)]) rfl
theorem hg_56_0 : xget (hp g G o h) 56 5 0 = some (.ref 1) := hp_get (f := (1, 1)) rfl rfl
theorem hg_56_1 : xget (hp g G o h) 56 5 1 = some (.int (g 80)) := hp_get (f := (0, 80)) rfl rfl
theorem hs_56_1 {v : Int32} : xput (hp g G o h) 56 5 1 (.int v) = some (hp (va_up g 80 v) G o h) := hp_put rfl rfl (by decide +kernel)
theorem hg_56_2 : xget (hp g G o h) 56 5 2 = some (.int (g 81)) := hp_get (f := (0, 81)) rfl rfl
theorem hs_56_2 {v : Int32} : xput (hp g G o h) 56 5 2 (.int v) = some (hp (va_up g 81 v) G o h) := hp_put rfl rfl (by decide +kernel)
theorem hg_56_3 : xget (hp g G o h) 56 5 3 = some (.int (g 82)) := hp_get (f := (0, 82)) rfl rfl
theorem hs_56_3 {v : Int32} : xput (hp g G o h) 56 5 3 (.int v) = some (hp (va_up g 82 v) G o h) := hp_put rfl rfl (by decide +kernel)
theorem hg_56_4 : xget (hp g G o h) 56 5 4 = some (.int (g 83)) := hp_get (f := (0, 83)) rfl rfl
theorem hs_56_4 {v : Int32} : xput (hp g G o h) 56 5 4 (.int v) = some (hp (va_up g 83 v) G o h) := hp_put rfl rfl (by decide +kernel)
theorem hg_56_5 : xget (hp g G o h) 56 5 5 = some (.int (g 84)) := hp_get (f := (0, 84)) rfl rfl
theorem hs_56_5 {v : Int32} : xput (hp g G o h) 56 5 5 (.int v) = some (hp (va_up g 84 v) G o h) := hp_put rfl rfl (by decide +kernel)
theorem hg_56_6 : xget (hp g G o h) 56 5 6 = some (.int (g 85)) := hp_get (f := (0, 85)) rfl rfl
theorem hs_56_6 {v : Int32} : xput (hp g G o h) 56 5 6 (.int v) = some (hp (va_up g 85 v) G o h) := hp_put rfl rfl (by decide +kernel)
theorem hg_56_7 : xget (hp g G o h) 56 5 7 = some (.int (g 86)) := hp_get (f := (0, 86)) rfl rfl
theorem hs_56_7 {v : Int32} : xput (hp g G o h) 56 5 7 (.int v) = some (hp (va_up g 86 v) G o h) := hp_put rfl rfl (by decide +kernel)
theorem hg_56_8 : xget (hp g G o h) 56 5 8 = some (.int (g 87)) := hp_get (f := (0, 87)) rfl rfl
theorem hs_56_8 {v : Int32} : xput (hp g G o h) 56 5 8 (.int v) = some (hp (va_up g 87 v) G o h) := hp_put rfl rfl (by decide +kernel)
theorem hg_56_9 : xget (hp g G o h) 56 5 9 = some (.int (g 88)) := hp_get (f := (0, 88)) rfl rfl
theorem hs_56_9 {v : Int32} : xput (hp g G o h) 56 5 9 (.int v) = some (hp (va_up g 88 v) G o h) := hp_put rfl rfl (by decide +kernel)
theorem hg_56_10 : xget (hp g G o h) 56 5 10 = some (.int (g 89)) := hp_get (f := (0, 89)) rfl rfl
theorem hs_56_10 {v : Int32} : xput (hp g G o h) 56 5 10 (.int v) = some (hp (va_up g 89 v) G o h) := hp_put rfl rfl (by decide +kernel)
theorem hg_56_11 : xget (hp g G o h) 56 5 11 = some (.int (g 90)) := hp_get (f := (0, 90)) rfl rfl
theorem hs_56_11 {v : Int32} : xput (hp g G o h) 56 5 11 (.int v) = some (hp (va_up g 90 v) G o h) := hp_put rfl rfl (by decide +kernel)
theorem hg_56_12 : xget (hp g G o h) 56 5 12 = some (.int (g 91)) := hp_get (f := (0, 91)) rfl rfl
theorem hs_56_12 {v : Int32} : xput (hp g G o h) 56 5 12 (.int v) = some (hp (va_up g 91 v) G o h) := hp_put rfl rfl (by decide +kernel)
theorem hg_56_13 : xget (hp g G o h) 56 5 13 = some (.ref 57) := hp_get (f := (1, 57)) rfl rfl
theorem hg_56_14 : xget (hp g G o h) 56 5 14 = some (.ref 58) := hp_get (f := (1, 58)) rfl rfl
theorem hg_56_15 : xget (hp g G o h) 56 5 15 = some (.ref 61) := hp_get (f := (1, 61)) rfl rfl
theorem hg_56_16 : xget (hp g G o h) 56 5 16 = some (.ref 64) := hp_get (f := (1, 64)) rfl rfl
theorem hg_56_17 : xget (hp g G o h) 56 5 17 = some (.ref 67) := hp_get (f := (1, 67)) rfl rfl
theorem hx_57 : xis (hp g G o h) 57 2 = true := hp_is (fs := [(0, 92), (0, 93), (0, 94)]) rfl
theorem hg_57_0 : xget (hp g G o h) 57 2 0 = some (.int (g 92)) := hp_get (f := (0, 92)) rfl rfl
theorem hs_57_0 {v : Int32} : xput (hp g G o h) 57 2 0 (.int v) = some (hp (va_up g 92 v) G o h) := hp_put rfl rfl (by decide +kernel)
theorem hg_57_1 : xget (hp g G o h) 57 2 1 = some (.int (g 93)) := hp_get (f := (0, 93)) rfl rfl
theorem hs_57_1 {v : Int32} : xput (hp g G o h) 57 2 1 (.int v) = some (hp (va_up g 93 v) G o h) := hp_put rfl rfl (by decide +kernel)
theorem hg_57_2 : xget (hp g G o h) 57 2 2 = some (.int (g 94)) := hp_get (f := (0, 94)) rfl rfl
theorem hs_57_2 {v : Int32} : xput (hp g G o h) 57 2 2 (.int v) = some (hp (va_up g 94 v) G o h) := hp_put rfl rfl (by decide +kernel)
theorem hx_58 : xis (hp g G o h) 58 6 = true := hp_is (fs := [(1, 59), (1, 60)]) rfl
theorem hg_58_0 : xget (hp g G o h) 58 6 0 = some (.ref 59) := hp_get (f := (1, 59)) rfl rfl
theorem hg_58_1 : xget (hp g G o h) 58 6 1 = some (.ref 60) := hp_get (f := (1, 60)) rfl rfl
theorem hn_59 : xlen (hp g G o h) 59 = some 6 := hp_len (t := 0) (ky := 40) rfl (by decide)
theorem ha_59 : xai (hp g G o h) 59 0 = some (6, G 40) := hp_ai rfl (by decide)
theorem hA_59 {F : Nat → Int32} : (hp g G o h).set 59 (.inl (0, 6, .inl F)) = hp g (va_up G 40 F) o h := hp_aset rfl (by decide) (by decide +kernel)
theorem hn_60 : xlen (hp g G o h) 60 = some 6 := hp_len (t := 0) (ky := 41) rfl (by decide)
theorem ha_60 : xai (hp g G o h) 60 0 = some (6, G 41) := hp_ai rfl (by decide)
theorem hA_60 {F : Nat → Int32} : (hp g G o h).set 60 (.inl (0, 6, .inl F)) = hp g (va_up G 41 F) o h := hp_aset rfl (by decide) (by decide +kernel)
theorem hx_61 : xis (hp g G o h) 61 4 = true := hp_is (fs := [(1, 62), (1, 63), (0, 95)]) rfl
theorem hg_61_0 : xget (hp g G o h) 61 4 0 = some (.ref 62) := hp_get (f := (1, 62)) rfl rfl
theorem hg_61_1 : xget (hp g G o h) 61 4 1 = some (.ref 63) := hp_get (f := (1, 63)) rfl rfl
theorem hg_61_2 : xget (hp g G o h) 61 4 2 = some (.int (g 95)) := hp_get (f := (0, 95)) rfl rfl
theorem hs_61_2 {v : Int32} : xput (hp g G o h) 61 4 2 (.int v) = some (hp (va_up g 95 v) G o h) := hp_put rfl rfl (by decide +kernel)
theorem hn_62 : xlen (hp g G o h) 62 = some 4 := hp_len (t := 0) (ky := 42) rfl (by decide)
theorem ha_62 : xai (hp g G o h) 62 0 = some (4, G 42) := hp_ai rfl (by decide)
theorem hA_62 {F : Nat → Int32} : (hp g G o h).set 62 (.inl (0, 4, .inl F)) = hp g (va_up G 42 F) o h := hp_aset rfl (by decide) (by decide +kernel)
theorem hn_63 : xlen (hp g G o h) 63 = some 4 := hp_len (t := 0) (ky := 43) rfl (by decide)
theorem ha_63 : xai (hp g G o h) 63 0 = some (4, G 43) := hp_ai rfl (by decide)
theorem hA_63 {F : Nat → Int32} : (hp g G o h).set 63 (.inl (0, 4, .inl F)) = hp g (va_up G 43 F) o h := hp_aset rfl (by decide) (by decide +kernel)
theorem hx_64 : xis (hp g G o h) 64 4 = true := hp_is (fs := [(1, 65), (1, 66), (0, 96)]) rfl
theorem hg_64_0 : xget (hp g G o h) 64 4 0 = some (.ref 65) := hp_get (f := (1, 65)) rfl rfl
theorem hg_64_1 : xget (hp g G o h) 64 4 1 = some (.ref 66) := hp_get (f := (1, 66)) rfl rfl
theorem hg_64_2 : xget (hp g G o h) 64 4 2 = some (.int (g 96)) := hp_get (f := (0, 96)) rfl rfl
theorem hs_64_2 {v : Int32} : xput (hp g G o h) 64 4 2 (.int v) = some (hp (va_up g 96 v) G o h) := hp_put rfl rfl (by decide +kernel)
theorem hn_65 : xlen (hp g G o h) 65 = some 6 := hp_len (t := 0) (ky := 44) rfl (by decide)
theorem ha_65 : xai (hp g G o h) 65 0 = some (6, G 44) := hp_ai rfl (by decide)
theorem hA_65 {F : Nat → Int32} : (hp g G o h).set 65 (.inl (0, 6, .inl F)) = hp g (va_up G 44 F) o h := hp_aset rfl (by decide) (by decide +kernel)
theorem hn_66 : xlen (hp g G o h) 66 = some 6 := hp_len (t := 0) (ky := 45) rfl (by decide)
theorem ha_66 : xai (hp g G o h) 66 0 = some (6, G 45) := hp_ai rfl (by decide)
theorem hA_66 {F : Nat → Int32} : (hp g G o h).set 66 (.inl (0, 6, .inl F)) = hp g (va_up G 45 F) o h := hp_aset rfl (by decide) (by decide +kernel)
theorem hx_67 : xis (hp g G o h) 67 1 = true := hp_is (fs := [(1, 68), (1, 69), (1, 70), (0, 97), (0, 98)]) rfl
theorem hg_67_0 : xget (hp g G o h) 67 1 0 = some (.ref 68) := hp_get (f := (1, 68)) rfl rfl
theorem hg_67_1 : xget (hp g G o h) 67 1 1 = some (.ref 69) := hp_get (f := (1, 69)) rfl rfl
theorem hg_67_2 : xget (hp g G o h) 67 1 2 = some (.ref 70) := hp_get (f := (1, 70)) rfl rfl
theorem hg_67_3 : xget (hp g G o h) 67 1 3 = some (.int (g 97)) := hp_get (f := (0, 97)) rfl rfl
theorem hs_67_3 {v : Int32} : xput (hp g G o h) 67 1 3 (.int v) = some (hp (va_up g 97 v) G o h) := hp_put rfl rfl (by decide +kernel)
theorem hg_67_4 : xget (hp g G o h) 67 1 4 = some (.int (g 98)) := hp_get (f := (0, 98)) rfl rfl
theorem hs_67_4 {v : Int32} : xput (hp g G o h) 67 1 4 (.int v) = some (hp (va_up g 98 v) G o h) := hp_put rfl rfl (by decide +kernel)
theorem hn_68 : xlen (hp g G o h) 68 = some 24 := hp_len (t := 0) (ky := 46) rfl (by decide)
theorem ha_68 : xai (hp g G o h) 68 0 = some (24, G 46) := hp_ai rfl (by decide)
theorem hA_68 {F : Nat → Int32} : (hp g G o h).set 68 (.inl (0, 24, .inl F)) = hp g (va_up G 46 F) o h := hp_aset rfl (by decide) (by decide +kernel)
theorem hn_69 : xlen (hp g G o h) 69 = some 24 := hp_len (t := 0) (ky := 47) rfl (by decide)
theorem ha_69 : xai (hp g G o h) 69 0 = some (24, G 47) := hp_ai rfl (by decide)
theorem hA_69 {F : Nat → Int32} : (hp g G o h).set 69 (.inl (0, 24, .inl F)) = hp g (va_up G 47 F) o h := hp_aset rfl (by decide) (by decide +kernel)
theorem hn_70 : xlen (hp g G o h) 70 = some 24 := hp_len (t := 0) (ky := 48) rfl (by decide)
theorem ha_70 : xai (hp g G o h) 70 0 = some (24, G 48) := hp_ai rfl (by decide)
theorem hA_70 {F : Nat → Int32} : (hp g G o h).set 70 (.inl (0, 24, .inl F)) = hp g (va_up G 48 F) o h := hp_aset rfl (by decide) (by decide +kernel)
theorem hx_71 : xis (hp g G o h) 71 5 = true := hp_is (fs := [(1, 1), (0, 100), (0, 101), (0, 102), (0, 103), (0, 104), (0, 105), (0, 106), (0, 107), (0, 108), (0, 109), (0, 110), (0, 111), (1, 72), (1, 73), (1, 76), (1, 79), (1, 82)]) rfl
theorem hg_71_0 : xget (hp g G o h) 71 5 0 = some (.ref 1) := hp_get (f := (1, 1)) rfl rfl
theorem hg_71_1 : xget (hp g G o h) 71 5 1 = some (.int (g 100)) := hp_get (f := (0, 100)) rfl rfl
theorem hs_71_1 {v : Int32} : xput (hp g G o h) 71 5 1 (.int v) = some (hp (va_up g 100 v) G o h) := hp_put rfl rfl (by decide +kernel)
theorem hg_71_2 : xget (hp g G o h) 71 5 2 = some (.int (g 101)) := hp_get (f := (0, 101)) rfl rfl
theorem hs_71_2 {v : Int32} : xput (hp g G o h) 71 5 2 (.int v) = some (hp (va_up g 101 v) G o h) := hp_put rfl rfl (by decide +kernel)
theorem hg_71_3 : xget (hp g G o h) 71 5 3 = some (.int (g 102)) := hp_get (f := (0, 102)) rfl rfl
theorem hs_71_3 {v : Int32} : xput (hp g G o h) 71 5 3 (.int v) = some (hp (va_up g 102 v) G o h) := hp_put rfl rfl (by decide +kernel)
theorem hg_71_4 : xget (hp g G o h) 71 5 4 = some (.int (g 103)) := hp_get (f := (0, 103)) rfl rfl
theorem hs_71_4 {v : Int32} : xput (hp g G o h) 71 5 4 (.int v) = some (hp (va_up g 103 v) G o h) := hp_put rfl rfl (by decide +kernel)
theorem hg_71_5 : xget (hp g G o h) 71 5 5 = some (.int (g 104)) := hp_get (f := (0, 104)) rfl rfl
theorem hs_71_5 {v : Int32} : xput (hp g G o h) 71 5 5 (.int v) = some (hp (va_up g 104 v) G o h) := hp_put rfl rfl (by decide +kernel)
theorem hg_71_6 : xget (hp g G o h) 71 5 6 = some (.int (g 105)) := hp_get (f := (0, 105)) rfl rfl
theorem hs_71_6 {v : Int32} : xput (hp g G o h) 71 5 6 (.int v) = some (hp (va_up g 105 v) G o h) := hp_put rfl rfl (by decide +kernel)
theorem hg_71_7 : xget (hp g G o h) 71 5 7 = some (.int (g 106)) := hp_get (f := (0, 106)) rfl rfl
theorem hs_71_7 {v : Int32} : xput (hp g G o h) 71 5 7 (.int v) = some (hp (va_up g 106 v) G o h) := hp_put rfl rfl (by decide +kernel)
theorem hg_71_8 : xget (hp g G o h) 71 5 8 = some (.int (g 107)) := hp_get (f := (0, 107)) rfl rfl
theorem hs_71_8 {v : Int32} : xput (hp g G o h) 71 5 8 (.int v) = some (hp (va_up g 107 v) G o h) := hp_put rfl rfl (by decide +kernel)
theorem hg_71_9 : xget (hp g G o h) 71 5 9 = some (.int (g 108)) := hp_get (f := (0, 108)) rfl rfl
theorem hs_71_9 {v : Int32} : xput (hp g G o h) 71 5 9 (.int v) = some (hp (va_up g 108 v) G o h) := hp_put rfl rfl (by decide +kernel)
theorem hg_71_10 : xget (hp g G o h) 71 5 10 = some (.int (g 109)) := hp_get (f := (0, 109)) rfl rfl
theorem hs_71_10 {v : Int32} : xput (hp g G o h) 71 5 10 (.int v) = some (hp (va_up g 109 v) G o h) := hp_put rfl rfl (by decide +kernel)
theorem hg_71_11 : xget (hp g G o h) 71 5 11 = some (.int (g 110)) := hp_get (f := (0, 110)) rfl rfl
theorem hs_71_11 {v : Int32} : xput (hp g G o h) 71 5 11 (.int v) = some (hp (va_up g 110 v) G o h) := hp_put rfl rfl (by decide +kernel)
theorem hg_71_12 : xget (hp g G o h) 71 5 12 = some (.int (g 111)) := hp_get (f := (0, 111)) rfl rfl
theorem hs_71_12 {v : Int32} : xput (hp g G o h) 71 5 12 (.int v) = some (hp (va_up g 111 v) G o h) := hp_put rfl rfl (by decide +kernel)
theorem hg_71_13 : xget (hp g G o h) 71 5 13 = some (.ref 72) := hp_get (f := (1, 72)) rfl rfl
theorem hg_71_14 : xget (hp g G o h) 71 5 14 = some (.ref 73) := hp_get (f := (1, 73)) rfl rfl
theorem hg_71_15 : xget (hp g G o h) 71 5 15 = some (.ref 76) := hp_get (f := (1, 76)) rfl rfl
theorem hg_71_16 : xget (hp g G o h) 71 5 16 = some (.ref 79) := hp_get (f := (1, 79)) rfl rfl
theorem hg_71_17 : xget (hp g G o h) 71 5 17 = some (.ref 82) := hp_get (f := (1, 82)) rfl rfl
theorem hx_72 : xis (hp g G o h) 72 2 = true := hp_is (fs := [(0, 112), (0, 113), (0, 114)]) rfl
theorem hg_72_0 : xget (hp g G o h) 72 2 0 = some (.int (g 112)) := hp_get (f := (0, 112)) rfl rfl
theorem hs_72_0 {v : Int32} : xput (hp g G o h) 72 2 0 (.int v) = some (hp (va_up g 112 v) G o h) := hp_put rfl rfl (by decide +kernel)
theorem hg_72_1 : xget (hp g G o h) 72 2 1 = some (.int (g 113)) := hp_get (f := (0, 113)) rfl rfl
theorem hs_72_1 {v : Int32} : xput (hp g G o h) 72 2 1 (.int v) = some (hp (va_up g 113 v) G o h) := hp_put rfl rfl (by decide +kernel)
theorem hg_72_2 : xget (hp g G o h) 72 2 2 = some (.int (g 114)) := hp_get (f := (0, 114)) rfl rfl
theorem hs_72_2 {v : Int32} : xput (hp g G o h) 72 2 2 (.int v) = some (hp (va_up g 114 v) G o h) := hp_put rfl rfl (by decide +kernel)
theorem hx_73 : xis (hp g G o h) 73 6 = true := hp_is (fs := [(1, 74), (1, 75)]) rfl
theorem hg_73_0 : xget (hp g G o h) 73 6 0 = some (.ref 74) := hp_get (f := (1, 74)) rfl rfl
theorem hg_73_1 : xget (hp g G o h) 73 6 1 = some (.ref 75) := hp_get (f := (1, 75)) rfl rfl
theorem hn_74 : xlen (hp g G o h) 74 = some 6 := hp_len (t := 0) (ky := 50) rfl (by decide)
theorem ha_74 : xai (hp g G o h) 74 0 = some (6, G 50) := hp_ai rfl (by decide)
theorem hA_74 {F : Nat → Int32} : (hp g G o h).set 74 (.inl (0, 6, .inl F)) = hp g (va_up G 50 F) o h := hp_aset rfl (by decide) (by decide +kernel)
theorem hn_75 : xlen (hp g G o h) 75 = some 6 := hp_len (t := 0) (ky := 51) rfl (by decide)
theorem ha_75 : xai (hp g G o h) 75 0 = some (6, G 51) := hp_ai rfl (by decide)
theorem hA_75 {F : Nat → Int32} : (hp g G o h).set 75 (.inl (0, 6, .inl F)) = hp g (va_up G 51 F) o h := hp_aset rfl (by decide) (by decide +kernel)
theorem hx_76 : xis (hp g G o h) 76 4 = true := hp_is (fs := [(1, 77), (1, 78), (0, 115)]) rfl
theorem hg_76_0 : xget (hp g G o h) 76 4 0 = some (.ref 77) := hp_get (f := (1, 77)) rfl rfl
theorem hg_76_1 : xget (hp g G o h) 76 4 1 = some (.ref 78) := hp_get (f := (1, 78)) rfl rfl
theorem hg_76_2 : xget (hp g G o h) 76 4 2 = some (.int (g 115)) := hp_get (f := (0, 115)) rfl rfl
theorem hs_76_2 {v : Int32} : xput (hp g G o h) 76 4 2 (.int v) = some (hp (va_up g 115 v) G o h) := hp_put rfl rfl (by decide +kernel)
theorem hn_77 : xlen (hp g G o h) 77 = some 4 := hp_len (t := 0) (ky := 52) rfl (by decide)
theorem ha_77 : xai (hp g G o h) 77 0 = some (4, G 52) := hp_ai rfl (by decide)
theorem hA_77 {F : Nat → Int32} : (hp g G o h).set 77 (.inl (0, 4, .inl F)) = hp g (va_up G 52 F) o h := hp_aset rfl (by decide) (by decide +kernel)
theorem hn_78 : xlen (hp g G o h) 78 = some 4 := hp_len (t := 0) (ky := 53) rfl (by decide)
theorem ha_78 : xai (hp g G o h) 78 0 = some (4, G 53) := hp_ai rfl (by decide)
theorem hA_78 {F : Nat → Int32} : (hp g G o h).set 78 (.inl (0, 4, .inl F)) = hp g (va_up G 53 F) o h := hp_aset rfl (by decide) (by decide +kernel)
theorem hx_79 : xis (hp g G o h) 79 4 = true := hp_is (fs := [(1, 80), (1, 81), (0, 116)]) rfl
theorem hg_79_0 : xget (hp g G o h) 79 4 0 = some (.ref 80) := hp_get (f := (1, 80)) rfl rfl
theorem hg_79_1 : xget (hp g G o h) 79 4 1 = some (.ref 81) := hp_get (f := (1, 81)) rfl rfl
theorem hg_79_2 : xget (hp g G o h) 79 4 2 = some (.int (g 116)) := hp_get (f := (0, 116)) rfl rfl
theorem hs_79_2 {v : Int32} : xput (hp g G o h) 79 4 2 (.int v) = some (hp (va_up g 116 v) G o h) := hp_put rfl rfl (by decide +kernel)
theorem hn_80 : xlen (hp g G o h) 80 = some 6 := hp_len (t := 0) (ky := 54) rfl (by decide)
theorem ha_80 : xai (hp g G o h) 80 0 = some (6, G 54) := hp_ai rfl (by decide)
theorem hA_80 {F : Nat → Int32} : (hp g G o h).set 80 (.inl (0, 6, .inl F)) = hp g (va_up G 54 F) o h := hp_aset rfl (by decide) (by decide +kernel)
theorem hn_81 : xlen (hp g G o h) 81 = some 6 := hp_len (t := 0) (ky := 55) rfl (by decide)
theorem ha_81 : xai (hp g G o h) 81 0 = some (6, G 55) := hp_ai rfl (by decide)
theorem hA_81 {F : Nat → Int32} : (hp g G o h).set 81 (.inl (0, 6, .inl F)) = hp g (va_up G 55 F) o h := hp_aset rfl (by decide) (by decide +kernel)
theorem hx_82 : xis (hp g G o h) 82 1 = true := hp_is (fs := [(1, 83), (1, 84), (1, 85), (0, 117), (0, 118)]) rfl
theorem hg_82_0 : xget (hp g G o h) 82 1 0 = some (.ref 83) := hp_get (f := (1, 83)) rfl rfl
theorem hg_82_1 : xget (hp g G o h) 82 1 1 = some (.ref 84) := hp_get (f := (1, 84)) rfl rfl
theorem hg_82_2 : xget (hp g G o h) 82 1 2 = some (.ref 85) := hp_get (f := (1, 85)) rfl rfl
theorem hg_82_3 : xget (hp g G o h) 82 1 3 = some (.int (g 117)) := hp_get (f := (0, 117)) rfl rfl
theorem hs_82_3 {v : Int32} : xput (hp g G o h) 82 1 3 (.int v) = some (hp (va_up g 117 v) G o h) := hp_put rfl rfl (by decide +kernel)
theorem hg_82_4 : xget (hp g G o h) 82 1 4 = some (.int (g 118)) := hp_get (f := (0, 118)) rfl rfl
theorem hs_82_4 {v : Int32} : xput (hp g G o h) 82 1 4 (.int v) = some (hp (va_up g 118 v) G o h) := hp_put rfl rfl (by decide +kernel)
theorem hn_83 : xlen (hp g G o h) 83 = some 24 := hp_len (t := 0) (ky := 56) rfl (by decide)
theorem ha_83 : xai (hp g G o h) 83 0 = some (24, G 56) := hp_ai rfl (by decide)
theorem hA_83 {F : Nat → Int32} : (hp g G o h).set 83 (.inl (0, 24, .inl F)) = hp g (va_up G 56 F) o h := hp_aset rfl (by decide) (by decide +kernel)
theorem hn_84 : xlen (hp g G o h) 84 = some 24 := hp_len (t := 0) (ky := 57) rfl (by decide)
theorem ha_84 : xai (hp g G o h) 84 0 = some (24, G 57) := hp_ai rfl (by decide)
theorem hA_84 {F : Nat → Int32} : (hp g G o h).set 84 (.inl (0, 24, .inl F)) = hp g (va_up G 57 F) o h := hp_aset rfl (by decide) (by decide +kernel)
theorem hn_85 : xlen (hp g G o h) 85 = some 24 := hp_len (t := 0) (ky := 58) rfl (by decide)
theorem ha_85 : xai (hp g G o h) 85 0 = some (24, G 58) := hp_ai rfl (by decide)
theorem hA_85 {F : Nat → Int32} : (hp g G o h).set 85 (.inl (0, 24, .inl F)) = hp g (va_up G 58 F) o h := hp_aset rfl (by decide) (by decide +kernel)
theorem hx_86 : xis (hp g G o h) 86 0 = true := hp_is (fs := [(1, 87), (0, 6), (0, 7), (0, 8), (0, 9)]) rfl
theorem hg_86_0 : xget (hp g G o h) 86 0 0 = some (.ref 87) := hp_get (f := (1, 87)) rfl rfl
theorem hg_86_1 : xget (hp g G o h) 86 0 1 = some (.int (g 6)) := hp_get (f := (0, 6)) rfl rfl
theorem hs_86_1 {v : Int32} : xput (hp g G o h) 86 0 1 (.int v) = some (hp (va_up g 6 v) G o h) := hp_put rfl rfl (by decide +kernel)
theorem hg_86_2 : xget (hp g G o h) 86 0 2 = some (.int (g 7)) := hp_get (f := (0, 7)) rfl rfl
theorem hs_86_2 {v : Int32} : xput (hp g G o h) 86 0 2 (.int v) = some (hp (va_up g 7 v) G o h) := hp_put rfl rfl (by decide +kernel)
theorem hg_86_3 : xget (hp g G o h) 86 0 3 = some (.int (g 8)) := hp_get (f := (0, 8)) rfl rfl
theorem hs_86_3 {v : Int32} : xput (hp g G o h) 86 0 3 (.int v) = some (hp (va_up g 8 v) G o h) := hp_put rfl rfl (by decide +kernel)
theorem hg_86_4 : xget (hp g G o h) 86 0 4 = some (.int (g 9)) := hp_get (f := (0, 9)) rfl rfl
theorem hs_86_4 {v : Int32} : xput (hp g G o h) 86 0 4 (.int v) = some (hp (va_up g 9 v) G o h) := hp_put rfl rfl (by decide +kernel)
theorem hn_87 : xlen (hp g G o h) 87 = some 60 := hp_len (t := 0) (ky := 8) rfl (by decide)
theorem ha_87 : xai (hp g G o h) 87 0 = some (60, G 8) := hp_ai rfl (by decide)
theorem hA_87 {F : Nat → Int32} : (hp g G o h).set 87 (.inl (0, 60, .inl F)) = hp g (va_up G 8 F) o h := hp_aset rfl (by decide) (by decide +kernel)
theorem hx_88 : xis (hp g G o h) 88 8 = true := hp_is (fs := [(0, 120), (0, 121), (1, 89), (1, 90), (1, 91), (1, 92), (0, 122), (1, 93), (1, 94), (0, 123), (1, 95), (1, 96), (0, 124), (1, 97), (0, 125), (1, 98), (1, 99), (1, 100), (0, 126), (1, 101), (0, 127), (0, 128), (0, 129), (0, 130), (2, 0)]) rfl
theorem hg_88_0 : xget (hp g G o h) 88 8 0 = some (.int (g 120)) := hp_get (f := (0, 120)) rfl rfl
theorem hs_88_0 {v : Int32} : xput (hp g G o h) 88 8 0 (.int v) = some (hp (va_up g 120 v) G o h) := hp_put rfl rfl (by decide +kernel)
theorem hg_88_1 : xget (hp g G o h) 88 8 1 = some (.int (g 121)) := hp_get (f := (0, 121)) rfl rfl
theorem hs_88_1 {v : Int32} : xput (hp g G o h) 88 8 1 (.int v) = some (hp (va_up g 121 v) G o h) := hp_put rfl rfl (by decide +kernel)
theorem hg_88_2 : xget (hp g G o h) 88 8 2 = some (.ref 89) := hp_get (f := (1, 89)) rfl rfl
theorem hg_88_3 : xget (hp g G o h) 88 8 3 = some (.ref 90) := hp_get (f := (1, 90)) rfl rfl
theorem hg_88_4 : xget (hp g G o h) 88 8 4 = some (.ref 91) := hp_get (f := (1, 91)) rfl rfl
theorem hg_88_5 : xget (hp g G o h) 88 8 5 = some (.ref 92) := hp_get (f := (1, 92)) rfl rfl
theorem hg_88_6 : xget (hp g G o h) 88 8 6 = some (.int (g 122)) := hp_get (f := (0, 122)) rfl rfl
theorem hs_88_6 {v : Int32} : xput (hp g G o h) 88 8 6 (.int v) = some (hp (va_up g 122 v) G o h) := hp_put rfl rfl (by decide +kernel)
theorem hg_88_7 : xget (hp g G o h) 88 8 7 = some (.ref 93) := hp_get (f := (1, 93)) rfl rfl
theorem hg_88_8 : xget (hp g G o h) 88 8 8 = some (.ref 94) := hp_get (f := (1, 94)) rfl rfl
theorem hg_88_9 : xget (hp g G o h) 88 8 9 = some (.int (g 123)) := hp_get (f := (0, 123)) rfl rfl
theorem hs_88_9 {v : Int32} : xput (hp g G o h) 88 8 9 (.int v) = some (hp (va_up g 123 v) G o h) := hp_put rfl rfl (by decide +kernel)
theorem hg_88_10 : xget (hp g G o h) 88 8 10 = some (.ref 95) := hp_get (f := (1, 95)) rfl rfl
theorem hg_88_11 : xget (hp g G o h) 88 8 11 = some (.ref 96) := hp_get (f := (1, 96)) rfl rfl
theorem hg_88_12 : xget (hp g G o h) 88 8 12 = some (.int (g 124)) := hp_get (f := (0, 124)) rfl rfl
theorem hs_88_12 {v : Int32} : xput (hp g G o h) 88 8 12 (.int v) = some (hp (va_up g 124 v) G o h) := hp_put rfl rfl (by decide +kernel)
theorem hg_88_13 : xget (hp g G o h) 88 8 13 = some (.ref 97) := hp_get (f := (1, 97)) rfl rfl
theorem hg_88_14 : xget (hp g G o h) 88 8 14 = some (.int (g 125)) := hp_get (f := (0, 125)) rfl rfl
theorem hs_88_14 {v : Int32} : xput (hp g G o h) 88 8 14 (.int v) = some (hp (va_up g 125 v) G o h) := hp_put rfl rfl (by decide +kernel)
theorem hg_88_15 : xget (hp g G o h) 88 8 15 = some (.ref 98) := hp_get (f := (1, 98)) rfl rfl
theorem hg_88_16 : xget (hp g G o h) 88 8 16 = some (.ref 99) := hp_get (f := (1, 99)) rfl rfl
theorem hg_88_17 : xget (hp g G o h) 88 8 17 = some (.ref 100) := hp_get (f := (1, 100)) rfl rfl
theorem hg_88_18 : xget (hp g G o h) 88 8 18 = some (.int (g 126)) := hp_get (f := (0, 126)) rfl rfl
theorem hs_88_18 {v : Int32} : xput (hp g G o h) 88 8 18 (.int v) = some (hp (va_up g 126 v) G o h) := hp_put rfl rfl (by decide +kernel)
theorem hg_88_19 : xget (hp g G o h) 88 8 19 = some (.ref 101) := hp_get (f := (1, 101)) rfl rfl
theorem hg_88_20 : xget (hp g G o h) 88 8 20 = some (.int (g 127)) := hp_get (f := (0, 127)) rfl rfl
theorem hs_88_20 {v : Int32} : xput (hp g G o h) 88 8 20 (.int v) = some (hp (va_up g 127 v) G o h) := hp_put rfl rfl (by decide +kernel)
theorem hg_88_21 : xget (hp g G o h) 88 8 21 = some (.int (g 128)) := hp_get (f := (0, 128)) rfl rfl
theorem hs_88_21 {v : Int32} : xput (hp g G o h) 88 8 21 (.int v) = some (hp (va_up g 128 v) G o h) := hp_put rfl rfl (by decide +kernel)
theorem hg_88_22 : xget (hp g G o h) 88 8 22 = some (.int (g 129)) := hp_get (f := (0, 129)) rfl rfl
theorem hs_88_22 {v : Int32} : xput (hp g G o h) 88 8 22 (.int v) = some (hp (va_up g 129 v) G o h) := hp_put rfl rfl (by decide +kernel)
theorem hg_88_23 : xget (hp g G o h) 88 8 23 = some (.int (g 130)) := hp_get (f := (0, 130)) rfl rfl
theorem hs_88_23 {v : Int32} : xput (hp g G o h) 88 8 23 (.int v) = some (hp (va_up g 130 v) G o h) := hp_put rfl rfl (by decide +kernel)
theorem hg_88_24 : xget (hp g G o h) 88 8 24 = some (.long h) := hp_get (f := (2, 0)) rfl rfl
theorem hs_88_24 {v : Int64} : xput (hp g G o h) 88 8 24 (.long v) = some (hp g G o v) := hp_putl rfl rfl (by decide +kernel)
theorem hn_89 : xlen (hp g G o h) 89 = some 142 := hp_len (t := 0) (ky := 60) rfl (by decide)
theorem ha_89 : xai (hp g G o h) 89 0 = some (142, G 60) := hp_ai rfl (by decide)
theorem hA_89 {F : Nat → Int32} : (hp g G o h).set 89 (.inl (0, 142, .inl F)) = hp g (va_up G 60 F) o h := hp_aset rfl (by decide) (by decide +kernel)
theorem hn_90 : xlen (hp g G o h) 90 = some 142 := hp_len (t := 0) (ky := 61) rfl (by decide)
theorem ha_90 : xai (hp g G o h) 90 0 = some (142, G 61) := hp_ai rfl (by decide)
theorem hA_90 {F : Nat → Int32} : (hp g G o h).set 90 (.inl (0, 142, .inl F)) = hp g (va_up G 61 F) o h := hp_aset rfl (by decide) (by decide +kernel)
theorem hn_91 : xlen (hp g G o h) 91 = some 426 := hp_len (t := 0) (ky := 62) rfl (by decide)
theorem ha_91 : xai (hp g G o h) 91 0 = some (426, G 62) := hp_ai rfl (by decide)
theorem hA_91 {F : Nat → Int32} : (hp g G o h).set 91 (.inl (0, 426, .inl F)) = hp g (va_up G 62 F) o h := hp_aset rfl (by decide) (by decide +kernel)
theorem hn_92 : xlen (hp g G o h) 92 = some 3 := hp_len (t := 2) (ky := 63) rfl (by decide)
theorem ha_92 : xai (hp g G o h) 92 2 = some (3, G 63) := hp_ai rfl (by decide)
theorem hA_92 {F : Nat → Int32} : (hp g G o h).set 92 (.inl (2, 3, .inl F)) = hp g (va_up G 63 F) o h := hp_aset rfl (by decide) (by decide +kernel)
theorem hn_93 : xlen (hp g G o h) 93 = some 12 := hp_len (t := 0) (ky := 64) rfl (by decide)
theorem ha_93 : xai (hp g G o h) 93 0 = some (12, G 64) := hp_ai rfl (by decide)
theorem hA_93 {F : Nat → Int32} : (hp g G o h).set 93 (.inl (0, 12, .inl F)) = hp g (va_up G 64 F) o h := hp_aset rfl (by decide) (by decide +kernel)
theorem hn_94 : xlen (hp g G o h) 94 = some 12 := hp_len (t := 0) (ky := 65) rfl (by decide)
theorem ha_94 : xai (hp g G o h) 94 0 = some (12, G 65) := hp_ai rfl (by decide)
theorem hA_94 {F : Nat → Int32} : (hp g G o h).set 94 (.inl (0, 12, .inl F)) = hp g (va_up G 65 F) o h := hp_aset rfl (by decide) (by decide +kernel)
theorem hn_95 : xlen (hp g G o h) 95 = some 4 := hp_len (t := 0) (ky := 66) rfl (by decide)
theorem ha_95 : xai (hp g G o h) 95 0 = some (4, G 66) := hp_ai rfl (by decide)
theorem hA_95 {F : Nat → Int32} : (hp g G o h).set 95 (.inl (0, 4, .inl F)) = hp g (va_up G 66 F) o h := hp_aset rfl (by decide) (by decide +kernel)
theorem hn_96 : xlen (hp g G o h) 96 = some 4 := hp_len (t := 0) (ky := 67) rfl (by decide)
theorem ha_96 : xai (hp g G o h) 96 0 = some (4, G 67) := hp_ai rfl (by decide)
theorem hA_96 {F : Nat → Int32} : (hp g G o h).set 96 (.inl (0, 4, .inl F)) = hp g (va_up G 67 F) o h := hp_aset rfl (by decide) (by decide +kernel)
theorem hn_97 : xlen (hp g G o h) 97 = some 4 := hp_len (t := 0) (ky := 68) rfl (by decide)
theorem ha_97 : xai (hp g G o h) 97 0 = some (4, G 68) := hp_ai rfl (by decide)
theorem hA_97 {F : Nat → Int32} : (hp g G o h).set 97 (.inl (0, 4, .inl F)) = hp g (va_up G 68 F) o h := hp_aset rfl (by decide) (by decide +kernel)
theorem hn_98 : xlen (hp g G o h) 98 = some 6 := hp_len (t := 0) (ky := 69) rfl (by decide)
theorem ha_98 : xai (hp g G o h) 98 0 = some (6, G 69) := hp_ai rfl (by decide)
theorem hA_98 {F : Nat → Int32} : (hp g G o h).set 98 (.inl (0, 6, .inl F)) = hp g (va_up G 69 F) o h := hp_aset rfl (by decide) (by decide +kernel)
theorem hn_99 : xlen (hp g G o h) 99 = some 6 := hp_len (t := 0) (ky := 70) rfl (by decide)
theorem ha_99 : xai (hp g G o h) 99 0 = some (6, G 70) := hp_ai rfl (by decide)
theorem hA_99 {F : Nat → Int32} : (hp g G o h).set 99 (.inl (0, 6, .inl F)) = hp g (va_up G 70 F) o h := hp_aset rfl (by decide) (by decide +kernel)
theorem hn_100 : xlen (hp g G o h) 100 = some 6 := hp_len (t := 0) (ky := 71) rfl (by decide)
theorem ha_100 : xai (hp g G o h) 100 0 = some (6, G 71) := hp_ai rfl (by decide)
theorem hA_100 {F : Nat → Int32} : (hp g G o h).set 100 (.inl (0, 6, .inl F)) = hp g (va_up G 71 F) o h := hp_aset rfl (by decide) (by decide +kernel)
theorem hn_101 : xlen (hp g G o h) 101 = some 60 := hp_len (t := 0) (ky := 72) rfl (by decide)
theorem ha_101 : xai (hp g G o h) 101 0 = some (60, G 72) := hp_ai rfl (by decide)
theorem hA_101 {F : Nat → Int32} : (hp g G o h).set 101 (.inl (0, 60, .inl F)) = hp g (va_up G 72 F) o h := hp_aset rfl (by decide) (by decide +kernel)
theorem hn_102 : xlen (hp g G o h) 102 = some 1 := hp_len (t := 1) (ky := 0) rfl (by decide)
theorem ha_102 : xal (hp g G o h) 102 1 = some (1, o) := hp_al (ky := 0) rfl
theorem hA_102 {F : Nat → Int64} : (hp g G o h).set 102 (.inl (1, 1, .inr (.inl F))) = hp g G F h := hp_lset (ky := 0) rfl (by decide +kernel)
end YW
