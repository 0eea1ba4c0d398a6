/-! a fresh countdown, class and reference -/
section
variable {g : Nat → Int32} {G : Nat → Nat → Int32} {o : Nat → Int64} {h : Int64} {c : Nat × Nat}
theorem rel_fresh {p : Int32} (h20 : ∀ k, 20 ≤ k → k < 39 → k ≠ 22 → k ≠ 30 → k ≠ 31 → g k = 0) (h22 : g 22 = p) (h30 : g 30 = 600) (h31 : g 31 = 3) (hv0 : ∀ k, k < 6 → G 10 k = 0) (hv1 : ∀ k, k < 6 → G 11 k = 0) (hz : ∀ i, i < 142 → G 60 i = if i = 2 then p else if i = 6 then 600 else if i = 7 then 3 else if i = 10 then -1 else 0) (hL : PL (g, G) g G) (h122 : ∀ k, 122 ≤ k → k ≤ 125 → g k = 0) (h65 : ∀ j, G 65 j = -1 ∨ ixb (G 65 j) 6 = true) (hB : RB (g, G) g G) (h0 : g 0 = 0) (h63 : ∀ j, j < 3 → G 63 j = 0) : Rel g G := by
  have z0 : ∀ i, i < 142 → i ≠ 2 → i ≠ 6 → i ≠ 7 → i ≠ 10 → G 60 i = 0 := fun i h1 h2 h3 h4 h5 => by
    rw [hz i h1, if_neg h2, if_neg h3, if_neg h4, if_neg h5]
  have z2 : G 60 2 = p := hz 2 (by decide)
  have z6 : G 60 6 = 600 := hz 6 (by decide)
  have z7 : G 60 7 = 3 := hz 7 (by decide)
  have z10 : G 60 10 = -1 := hz 10 (by decide)
  have z14 : G 60 14 = 0 := z0 14 (by decide) (by decide) (by decide) (by decide) (by decide)
  have z15 : G 60 15 = 0 := z0 15 (by decide) (by decide) (by decide) (by decide) (by decide)
  have z16 : G 60 16 = 0 := z0 16 (by decide) (by decide) (by decide) (by decide) (by decide)
  have gz : ∀ i k, i < 142 → i ≠ 2 → i ≠ 6 → i ≠ 7 → i ≠ 10 → 20 ≤ k → k < 39 → k ≠ 22 → k ≠ 30 → k ≠ 31 → G 60 i = g k := fun i k a1 a2 a3 a4 a5 a6 a7 a8 a9 a10 => (z0 i a1 a2 a3 a4 a5).trans (h20 k a6 a7 a8 a9 a10).symm
  refine ⟨⟨?_, ?_, ?_, ?_, ?_, ?_, ?_⟩, hL, ?_, hB, ?_⟩
  · refine ⟨?_, ?_, ?_, ?_, ?_, ?_, ?_, ?_, ?_, ?_, ?_, ?_, ?_, ?_, Or.inl z10⟩
    · exact gz 0 20 (by decide) (by decide) (by decide) (by decide) (by decide) (by decide) (by decide) (by decide) (by decide) (by decide)
    · exact gz 1 21 (by decide) (by decide) (by decide) (by decide) (by decide) (by decide) (by decide) (by decide) (by decide) (by decide)
    · exact z2.trans h22.symm
    · exact gz 3 32 (by decide) (by decide) (by decide) (by decide) (by decide) (by decide) (by decide) (by decide) (by decide) (by decide)
    · exact gz 4 28 (by decide) (by decide) (by decide) (by decide) (by decide) (by decide) (by decide) (by decide) (by decide) (by decide)
    · exact gz 5 29 (by decide) (by decide) (by decide) (by decide) (by decide) (by decide) (by decide) (by decide) (by decide) (by decide)
    · exact z6.trans h30.symm
    · exact z7.trans h31.symm
    · exact gz 8 26 (by decide) (by decide) (by decide) (by decide) (by decide) (by decide) (by decide) (by decide) (by decide) (by decide)
    · exact gz 9 27 (by decide) (by decide) (by decide) (by decide) (by decide) (by decide) (by decide) (by decide) (by decide) (by decide)
    · exact gz 11 24 (by decide) (by decide) (by decide) (by decide) (by decide) (by decide) (by decide) (by decide) (by decide) (by decide)
    · exact gz 12 33 (by decide) (by decide) (by decide) (by decide) (by decide) (by decide) (by decide) (by decide) (by decide) (by decide)
    · exact gz 13 34 (by decide) (by decide) (by decide) (by decide) (by decide) (by decide) (by decide) (by decide) (by decide) (by decide)
    · exact gz 17 25 (by decide) (by decide) (by decide) (by decide) (by decide) (by decide) (by decide) (by decide) (by decide) (by decide)
  · have a0 : G 60 0 = 0 := z0 0 (by decide) (by decide) (by decide) (by decide) (by decide)
    refine ⟨⟨0, by decide, z0 1 (by decide) (by decide) (by decide) (by decide) (by decide), Or.inl ⟨z10, z0 3 (by decide) (by decide) (by decide) (by decide) (by decide), z0 5 (by decide) (by decide) (by decide) (by decide) (by decide), Or.inl a0⟩⟩, ⟨3, by decide, z7⟩, ⟨0, by decide, z0 12 (by decide) (by decide) (by decide) (by decide) (by decide)⟩, ⟨0, by decide, z0 13 (by decide) (by decide) (by decide) (by decide) (by decide)⟩, fun w => ?_⟩
    rw [a0] at w
    exact absurd w (by decide)
  · unfold Sp
    rw [z14, z15]
    exact ⟨fun k hk => absurd hk (Nat.not_lt_zero k), fun k hk => absurd hk (Nat.not_lt_zero k)⟩
  · exact ⟨⟨0, by decide, z14⟩, ⟨0, by decide, z15⟩, ⟨0, by decide, z16⟩⟩
  · refine ⟨gz 14 35 (by decide) (by decide) (by decide) (by decide) (by decide) (by decide) (by decide) (by decide) (by decide) (by decide), gz 15 36 (by decide) (by decide) (by decide) (by decide) (by decide) (by decide) (by decide) (by decide) (by decide) (by decide), fun k hk => ?_, fun k hk => ?_⟩
    · rw [z14] at hk; exact absurd hk (Nat.not_lt_zero k)
    · rw [z15] at hk; exact absurd hk (Nat.not_lt_zero k)
  · intro k hk
    refine ⟨0, 0, by decide, by decide, hv0 k hk, hv1 k hk, fun v hv => Or.inl ⟨z0 _ (by omega) (by omega) (by omega) (by omega) (by omega), ?_, ?_⟩⟩
    · rw [Nat.zero_div]
    · rw [Nat.zero_div]
  · exact ⟨0, 0, by decide, by decide, z16, h20 38 (by decide) (by decide) (by decide) (by decide) (by decide), h20 37 (by decide) (by decide) (by decide) (by decide) (by decide), fun j hj => absurd hj (Nat.not_lt_zero j)⟩
  · have hr : rH g = 0 := by unfold rH; rw [h122 123 (by decide) (by decide)]; rfl
    refine ⟨⟨⟨0, by decide, h122 122 (by decide) (by decide)⟩, ⟨0, by decide, h122 123 (by decide) (by decide)⟩, ⟨0, by decide, h122 124 (by decide) (by decide)⟩, ⟨0, by decide, h122 125 (by decide) (by decide)⟩, h65⟩, ?_, ?_⟩
    · rw [hr]; exact fun k hk => absurd hk (Nat.not_lt_zero k)
    · rw [hr]; exact fun i j _ hj => absurd hj (Nat.not_lt_zero j)
  · refine ⟨⟨0, by decide, h0, fun j hj => ?_⟩, fun j hj w => absurd (h63 j hj) w⟩
    rw [h63 j hj, Nat.zero_div]
    exact ⟨fun _ => rfl, fun _ => rfl⟩
/-- what begin leaves of the class's numbers -/
theorem anew_far (X : yS) (L : Int32) (k : Nat) (hk : (6 ≤ k ∧ k < 20) ∨ 39 ≤ k) : (anewF X L).1 k = X.1 k := by
  unfold anewF clrF
  simp only
  rw [up_n _ _ _ _ (by omega), up_n _ _ _ _ (by omega), up_n _ _ _ _ (by omega), up_n _ _ _ _ (by omega), up_n _ _ _ _ (by omega), up_n _ _ _ _ (by omega), up_n _ _ _ _ (by omega), up_n _ _ _ _ (by omega), up_n _ _ _ _ (by omega), up_n _ _ _ _ (by omega), up_n _ _ _ _ (by omega), up_n _ _ _ _ (by omega), up_n _ _ _ _ (by omega), up_n _ _ _ _ (by omega), up_n _ _ _ _ (by omega), up_n _ _ _ _ (by omega), up_n _ _ _ _ (by omega), up_n _ _ _ _ (by omega), up_n _ _ _ _ (by omega), up_n _ _ _ _ (by omega), up_n _ _ _ _ (by omega), up_n _ _ _ _ (by omega), up_n _ _ _ _ (by omega), up_n _ _ _ _ (by omega), up_n _ _ _ _ (by omega)]
theorem anew_row (X : yS) (L : Int32) (k : Nat) (h1 : k ≠ 10) (h2 : k ≠ 11) : (anewF X L).2 k = X.2 k := by
  unfold anewF clrF
  simp only
  rw [up_n _ _ _ _ h2, up_n _ _ _ _ h1]
/-- begin, in the store -/
theorem rel_begin (p : Int32) (g : Nat → Int32) (G : Nat → Nat → Int32) (hrows : G 0 = G 64 ∧ G 1 = G 65 ∧ G 2 = G 66 ∧ G 3 = G 67 ∧ G 4 = G 68 ∧ G 5 = G 69 ∧ G 6 = G 70 ∧ G 7 = G 71) (h65 : ∀ j, G 65 j = -1 ∨ ixb (G 65 j) 6 = true) (hB : RB (g, G) g G) (t : Int32) : Rel (startG (va_up (anewF (g, G) p).1 120 t) p) (va_up (va_up (anewF (g, G) p).2 60 (startZ ((anewF (g, G) p).2 60) p)) 63 (upd (upd (upd ((anewF (g, G) p).2 63) 0 0) 1 0) 2 0)) := by
  have hs : ∀ k, k < 120 ∨ k = 126 → startG (va_up (anewF (g, G) p).1 120 t) p k = (anewF (g, G) p).1 k := fun k hk => by
    unfold startG
    rw [up_n _ _ _ _ (by omega), up_n _ _ _ _ (by omega), up_n _ _ _ _ (by omega), up_n _ _ _ _ (by omega), up_n _ _ _ _ (by omega), up_n _ _ _ _ (by omega)]
  have hr : ∀ k, k ≠ 60 → k ≠ 63 → va_up (va_up (anewF (g, G) p).2 60 (startZ ((anewF (g, G) p).2 60) p)) 63 (upd (upd (upd ((anewF (g, G) p).2 63) 0 0) 1 0) 2 0) k = (anewF (g, G) p).2 k := fun k h1 h2 => by
    rw [up_n _ _ _ _ h2, up_n _ _ _ _ h1]
  have hr2 : ∀ k, k ≠ 60 → k ≠ 63 → k ≠ 10 → k ≠ 11 → va_up (va_up (anewF (g, G) p).2 60 (startZ ((anewF (g, G) p).2 60) p)) 63 (upd (upd (upd ((anewF (g, G) p).2 63) 0 0) 1 0) 2 0) k = G k := fun k h1 h2 h3 h4 => (hr k h1 h2).trans (anew_row _ _ _ h3 h4)
  have h60 : va_up (va_up (anewF (g, G) p).2 60 (startZ ((anewF (g, G) p).2 60) p)) 63 (upd (upd (upd ((anewF (g, G) p).2 63) 0 0) 1 0) 2 0) 60 = startZ ((anewF (g, G) p).2 60) p := by
    rw [up_n _ _ _ _ (by decide), up_e]
  refine rel_fresh (p := p) ?_ ?_ ?_ ?_ ?_ ?_ ?_ ?_ ?_ ?_ ?_ ?_ ?_
  · intro k h1 h2 h3 h4 h5
    rw [hs k (by omega)]
    have : k = 20 ∨ k = 21 ∨ k = 23 ∨ k = 24 ∨ k = 25 ∨ k = 26 ∨ k = 27 ∨ k = 28 ∨ k = 29 ∨ k = 32 ∨ k = 33 ∨ k = 34 ∨ k = 35 ∨ k = 36 ∨ k = 37 ∨ k = 38 := by omega
    rcases this with e | e | e | e | e | e | e | e | e | e | e | e | e | e | e | e <;> subst e <;> rfl
  · rw [hs 22 (by decide)]; rfl
  · rw [hs 30 (by decide)]; rfl
  · rw [hs 31 (by decide)]; rfl
  · intro k hk
    rw [hr 10 (by decide) (by decide)]
    show fillF (G 10) 6 k = 0
    unfold fillF
    rw [if_pos hk]
  · intro k hk
    rw [hr 11 (by decide) (by decide)]
    show fillF (G 11) 6 k = 0
    unfold fillF
    rw [if_pos hk]
  · intro i hi
    rw [h60]
    unfold startZ
    simp only [ud_at]
    unfold zeroF
    rw [if_pos hi]
    by_cases q10 : i = 10
    · subst q10; rfl
    · by_cases q7 : i = 7
      · subst q7; rfl
      · by_cases q6 : i = 6
        · subst q6; rfl
        · by_cases q2 : i = 2
          · subst q2; rfl
          · simp only [q10, q7, q6, q2, if_false]
  · obtain ⟨r0, r1, r2, r3, r4, r5, r6, r7⟩ := hrows
    refine ⟨?_, ?_, ?_, ?_, ?_, ?_, ?_, ?_, ?_, ?_, ?_, ?_, ?_⟩
    · rfl
    · rfl
    · rfl
    · rfl
    · rfl
    · show _ = va_up _ 63 _ 64
      rw [hr2 64 (by decide) (by decide) (by decide) (by decide), ← r0]; rfl
    · show _ = va_up _ 63 _ 65
      rw [hr2 65 (by decide) (by decide) (by decide) (by decide), ← r1]; rfl
    · show _ = va_up _ 63 _ 66
      rw [hr2 66 (by decide) (by decide) (by decide) (by decide), ← r2]; rfl
    · show _ = va_up _ 63 _ 67
      rw [hr2 67 (by decide) (by decide) (by decide) (by decide), ← r3]; rfl
    · show _ = va_up _ 63 _ 68
      rw [hr2 68 (by decide) (by decide) (by decide) (by decide), ← r4]; rfl
    · show _ = va_up _ 63 _ 69
      rw [hr2 69 (by decide) (by decide) (by decide) (by decide), ← r5]; rfl
    · show _ = va_up _ 63 _ 70
      rw [hr2 70 (by decide) (by decide) (by decide) (by decide), ← r6]; rfl
    · show _ = va_up _ 63 _ 71
      rw [hr2 71 (by decide) (by decide) (by decide) (by decide), ← r7]; rfl
  · intro k h1 h2
    have : k = 122 ∨ k = 123 ∨ k = 124 ∨ k = 125 := by omega
    rcases this with e | e | e | e <;> subst e <;> rfl
  · rw [hr2 65 (by decide) (by decide) (by decide) (by decide)]
    exact h65
  · exact rb_congr hB (fun k h1 h2 => (hs k (by omega)).trans (anew_far _ _ _ (by omega))) (hr2 8 (by decide) (by decide) (by decide) (by decide)) ((hs 126 (by decide)).trans (anew_far _ _ _ (by decide))) (hr2 72 (by decide) (by decide) (by decide) (by decide))
  · rw [hs 0 (by decide)]; rfl
  · intro j hj
    rw [up_e]
    have : j = 0 ∨ j = 1 ∨ j = 2 := by omega
    rcases this with e | e | e <;> subst e <;> rfl
theorem op_begin (hR : Rel g G) (p : Int32) : OpR iL_begin iX8_begin [.ref 0, .int p, .ref 102] [.ref 88, .int p] g G o h c := by
  have e1 := e_begin (o := o) (h := h) (c := c) 0 (g, G) p
  by_cases q : p < 1 ∨ 3600 < p
  · have e2 := e_beginR (g := g) (G := G) (o := o) (h := h) (c := (c.1 + 1, c.2 + 6)) 8 p
    rw [if_pos q] at e1 e2
    exact opr_t (Y := (g, G)) (wt_begin_eIA 9 p e1) e2 (by decide) (up_e _ _ _) (rel_t hR 1)
  · have e2 := fun o => e_beginR (g := (anewF (g, G) p).1) (G := (anewF (g, G) p).2) (o := o) (h := h) (c := c) 8 p
    rw [if_neg q] at e1
    simp only [if_neg q] at e2
    obtain ⟨l1, l2, l3, l4, l5, m0, m1, m2, m3, m4, m5, m6, m7⟩ := hR.2.1
    refine opr_v (wv_begin 9 p e1) (e2 _) rfl ?_ (rel_begin p g G ⟨m0, m1, m2, m3, m4, m5, m6, m7⟩ hR.2.2.1.1.2.2.2.2 hR.2.2.2.1 0)
    show g 1 = (anewF (g, G) p).1 121
    rw [anew_far _ _ _ (by decide)]
    exact l1
end
