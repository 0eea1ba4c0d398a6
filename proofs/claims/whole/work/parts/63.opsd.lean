/-! plans, class and reference -/
theorem full4 {n : Nat} (h : n ≤ 4) : ¬ nI n < 4 ↔ nI n = 4 := full_iff (N := 4) h (by decide)
theorem full6 {n : Nat} (h : n ≤ 6) : ¬ nI n < 6 ↔ nI n = 6 := full_iff (N := 6) h (by decide)
theorem full12 {n : Nat} (h : n ≤ 12) : ¬ nI n < 12 ↔ nI n = 12 := full_iff (N := 12) h (by decide)
theorem ff_fa {P : Nat → Bool} {n : Nat} (hn : n < 2 ^ 31) : (¬ ff P 0 n = -1) ↔ fa P 0 n = true := by
  rcases ff_spec P n 0 (by omega) with ⟨h1, h2⟩ | ⟨k, k1, k2, k3, k4, -⟩
  · constructor
    · intro w; exact absurd h1 w
    · intro w
      rw [(fa_false P n 0).mpr h2] at w
      exact absurd w (by decide)
  · constructor
    · intro _; exact (fa_iff P n 0).mpr ⟨k, k1, k2, k4⟩
    · intro _; rw [k3]; exact nm1 (by omega)
section
variable {g : Nat → Int32} {G : Nat → Nat → Int32} {o : Nat → Int64} {h : Int64} {c : Nat × Nat}
/-- the plan has changed on both sides: the rest stays -/
theorem rel_plan (hR : Rel g G) {g' : Nat → Int32} {G' : Nat → Nat → Int32} (hg : ∀ k, k = 0 ∨ (6 ≤ k ∧ k < 120) ∨ k = 126 → g' k = g k) (hG : ∀ k, (8 ≤ k ∧ k < 64) ∨ k = 72 → G' k = G k) (hL : PL (g', G') g' G') (hI : PI g' G') : Rel g' G' := by
  obtain ⟨r1, -, -, r4, r5⟩ := hR
  refine ⟨?_, hL, hI, ?_, ?_⟩
  · rw [hG 60 (by omega)]
    exact rs_congr r1 (fun k hk => hg _ (by omega)) (fun k hk => hG _ (by omega)) (fun i _ => rfl)
  · exact rb_congr r4 (fun k _ _ => hg k (by omega)) (hG 8 (by omega)) (hg 126 (by omega)) (hG 72 (by omega))
  · exact rq_cg r5 (hg 0 (by omega)) (fun k _ _ => hg k (by omega)) (fun k _ _ => hG k (by omega)) (hG 62 (by omega)) (hG 63 (by omega))
theorem op_addEvent (hR : Rel g G) (p x : Int32) : OpR iL_addEvent iX8_addEvent [.ref 0, .int p, .int x, .ref 102] [.ref 88, .int p, .int x] g G o h c := by
  have e1 := e_addEvent (o := o) (h := h) (c := c) 0 (g, G) p x (rel_inv hR)
  obtain ⟨l1, l2, l3, l4, l5, m0, m1, m2, m3, m4, m5, m6, m7⟩ := hR.2.1
  have hP := hR.2.2.1.1
  have e2 := e_addEvR (g := g) (G := G) (o := o) (h := h) (c := (c.1 + 1, c.2 + 6)) 7 p x hP
  have n0 : G 60 0 = g 20 := hR.1.1.1
  have l1' : g 1 = g 121 := l1
  have l2' : g 2 = g 122 := l2
  have l5' : g 5 = g 125 := l5
  obtain ⟨n, n1, n2⟩ := hP.1
  have q1e : (p < 0 ∨ (g, G).1 1 < p) ↔ (p < 0 ∨ g 121 < p) := by show (p < 0 ∨ g 1 < p) ↔ _; rw [l1']
  have q2e : (¬ x = -1 ∧ (x < 0 ∨ ¬ x < (g, G).1 5)) ↔ (¬ x = -1 ∧ (x < 0 ∨ ¬ x < g 125)) := by show (¬ x = -1 ∧ (x < 0 ∨ ¬ x < g 5)) ↔ _; rw [l5']
  have q3e : (¬ (g, G).1 20 = 0 ∨ ¬ (g, G).1 2 < 12) ↔ (¬ G 60 0 = 0 ∨ g 122 = 12) := by
    show (¬ g 20 = 0 ∨ ¬ g 2 < 12) ↔ _
    rw [n0, l2', n2, full12 n1]
  by_cases q1 : p < 0 ∨ g 121 < p
  · rw [if_pos (q1e.mpr q1)] at e1
    rw [if_pos q1] at e2
    exact opr_t (Y := (g, G)) (wt_addEvent_eIA 9 p x e1) e2 (by decide) (up_e _ _ _) (rel_t hR 1)
  rw [if_neg (fun w => q1 (q1e.mp w))] at e1
  rw [if_neg q1] at e2
  by_cases q2 : ¬ x = -1 ∧ (x < 0 ∨ ¬ x < g 125)
  · rw [if_pos (q2e.mpr q2)] at e1
    rw [if_pos q2] at e2
    exact opr_t (Y := (g, G)) (wt_addEvent_eIX 9 p x e1) e2 (by decide) (up_e _ _ _) (rel_t hR 2)
  rw [if_neg (fun w => q2 (q2e.mp w))] at e1
  rw [if_neg q2] at e2
  by_cases q3 : ¬ G 60 0 = 0 ∨ g 122 = 12
  · rw [if_pos (q3e.mpr q3)] at e1
    rw [if_pos q3] at e2
    exact opr_t (Y := (g, G)) (wt_addEvent_eIS 9 p x e1) e2 (by decide) (up_e _ _ _) (rel_t hR 3)
  rw [if_neg (fun w => q3 (q3e.mp w))] at e1
  have hn12 : ¬ n = 12 := fun w => q3 (Or.inr (by rw [n2, w]; rfl))
  have hc2 : (g 122).toNatClampNeg = n := clamp_of' n2 (by omega)
  have hP' : Pp (va_up g 2 (g 2 + 1)) (va_up (va_up G 0 (upd (G 0) (g 2).toNatClampNeg p)) 1 (upd (G 1) (g 2).toNatClampNeg x)) := hP
  have e3 := fun o => e_addEvR (g := va_up g 2 (g 2 + 1)) (G := va_up (va_up G 0 (upd (G 0) (g 2).toNatClampNeg p)) 1 (upd (G 1) (g 2).toNatClampNeg x)) (o := o) (h := h) (c := c) 7 p x hP'
  have u1 : va_up g 2 (g 2 + 1) 121 = g 121 := rfl
  have u2 : va_up g 2 (g 2 + 1) 122 = g 122 := rfl
  have u5 : va_up g 2 (g 2 + 1) 125 = g 125 := rfl
  have u60 : va_up (va_up G 0 (upd (G 0) (g 2).toNatClampNeg p)) 1 (upd (G 1) (g 2).toNatClampNeg x) 60 = G 60 := rfl
  have u64 : va_up (va_up G 0 (upd (G 0) (g 2).toNatClampNeg p)) 1 (upd (G 1) (g 2).toNatClampNeg x) 64 = G 64 := rfl
  have u65 : va_up (va_up G 0 (upd (G 0) (g 2).toNatClampNeg p)) 1 (upd (G 1) (g 2).toNatClampNeg x) 65 = G 65 := rfl
  simp only [u1, u2, u5, u60, u64, u65, if_neg q1, if_neg q2, if_neg q3] at e3
  refine opr_v (Y := (va_up g 2 (g 2 + 1), va_up (va_up G 0 (upd (G 0) (g 2).toNatClampNeg p)) 1 (upd (G 1) (g 2).toNatClampNeg x))) (wv_addEvent 9 p x e1) (e3 _) (up_e _ _ _) (by show g 2 = _; rw [a11, l2']) ?_
  have g1 : G 0 = G 64 := m0
  have g2 : G 1 = G 65 := m1
  rw [l2', g1, g2]
  refine rel_plan hR (fun k hk => (up_n _ _ _ _ (by omega)).trans ((up_n _ _ _ _ (by omega)).trans (up_n _ _ _ _ (by omega)))) (fun k hk => (up_n _ _ _ _ (by omega)).trans ((up_n _ _ _ _ (by omega)).trans ((up_n _ _ _ _ (by omega)).trans (up_n _ _ _ _ (by omega))))) ?_ ?_
  · refine ⟨l1, ?_, l3, l4, l5, ?_, ?_, m2, m3, m4, m5, m6, m7⟩
    · rfl
    · rfl
    · rfl
  · obtain ⟨⟨-, p2, p3, p4, p5⟩, i2, i3⟩ := hR.2.2.1
    refine ⟨⟨⟨n + 1, by omega, ?_⟩, p2, p3, p4, fun j => ?_⟩, i2, i3⟩
    · show g 122 + 1 = _
      rw [n2, nI_1]
    · show upd (G 65) (g 122).toNatClampNeg x j = -1 ∨ ixb (upd (G 65) (g 122).toNatClampNeg x j) 6 = true
      rw [ud_at]
      by_cases w : j = (g 122).toNatClampNeg
      · rw [if_pos w]
        by_cases w2 : x = -1
        · exact Or.inl w2
        · right
          obtain ⟨nc, c1, c2⟩ := p4
          obtain ⟨y, y1, rfl⟩ := has_of (k := x) (fun u => q2 ⟨w2, u⟩) c2 (by omega)
          exact ixb_nI (by omega) (by omega)
      · rw [if_neg w]; exact p5 j
theorem op_addHold (hR : Rel g G) (p x : Int32) : OpR iL_addHold iX8_addHold [.ref 0, .int p, .int x, .ref 102] [.ref 88, .int p, .int x] g G o h c := by
  have e1 := e_addHold (o := o) (h := h) (c := c) 0 (g, G) p x (rel_inv hR)
  obtain ⟨l1, l2, l3, l4, l5, m0, m1, m2, m3, m4, m5, m6, m7⟩ := hR.2.1
  have hP := hR.2.2.1.1
  have e2 := e_addHoR (g := g) (G := G) (o := o) (h := h) (c := (c.1 + 1, c.2 + 6)) 7 p x hP
  have n0 : G 60 0 = g 20 := hR.1.1.1
  have l1' : g 1 = g 121 := l1
  have l3' : g 3 = g 123 := l3
  have g2 : G 2 = G 66 := m2
  have g3 : G 3 = G 67 := m3
  obtain ⟨n, n1, n2⟩ := hP.2.1
  have hc2 : (g 123).toNatClampNeg = n := clamp_of' n2 (by omega)
  have hnH : nH (g, G) = n := by unfold nH; show (g 3).toNatClampNeg = n; rw [l3']; exact hc2
  have hrH : rH g = n := hc2
  have q1e : (p < 0 ∨ (g, G).1 1 < p ∨ x < 1 ∨ 999 < x ∨ ¬ ff (fun k => decide ((g, G).2 2 k = p)) 0 (nH (g, G)) = -1) ↔ (p < 0 ∨ g 121 < p ∨ x < 1 ∨ 999 < x ∨ fa (fun k => decide (G 66 k = p)) 0 (rH g) = true) := by
    show (p < 0 ∨ g 1 < p ∨ x < 1 ∨ 999 < x ∨ ¬ ff (fun k => decide (G 2 k = p)) 0 (nH (g, G)) = -1) ↔ _
    rw [l1', hnH, hrH, g2, ff_fa (by omega)]
  have q3e : (¬ (g, G).1 20 = 0 ∨ ¬ (g, G).1 3 < 4) ↔ (¬ G 60 0 = 0 ∨ g 123 = 4) := by
    show (¬ g 20 = 0 ∨ ¬ g 3 < 4) ↔ _
    rw [n0, l3', n2, full4 n1]
  by_cases q1 : p < 0 ∨ g 121 < p ∨ x < 1 ∨ 999 < x ∨ fa (fun k => decide (G 66 k = p)) 0 (rH g) = true
  · rw [if_pos (q1e.mpr q1)] at e1
    rw [if_pos q1] at e2
    exact opr_t (Y := (g, G)) (wt_addHold_eIA 9 p x e1) e2 (by decide) (up_e _ _ _) (rel_t hR 1)
  rw [if_neg (fun w => q1 (q1e.mp w))] at e1
  rw [if_neg q1] at e2
  by_cases q3 : ¬ G 60 0 = 0 ∨ g 123 = 4
  · rw [if_pos (q3e.mpr q3)] at e1
    rw [if_pos q3] at e2
    exact opr_t (Y := (g, G)) (wt_addHold_eIS 9 p x e1) e2 (by decide) (up_e _ _ _) (rel_t hR 2)
  rw [if_neg (fun w => q3 (q3e.mp w))] at e1
  have hn4 : ¬ n = 4 := fun w => q3 (Or.inr (by rw [n2, w]; rfl))
  have hP' : Pp (va_up g 3 (g 3 + 1)) (va_up (va_up G 2 (upd (G 2) (g 3).toNatClampNeg p)) 3 (upd (G 3) (g 3).toNatClampNeg x)) := hP
  have e3 := fun o => e_addHoR (g := va_up g 3 (g 3 + 1)) (G := va_up (va_up G 2 (upd (G 2) (g 3).toNatClampNeg p)) 3 (upd (G 3) (g 3).toNatClampNeg x)) (o := o) (h := h) (c := c) 7 p x hP'
  have u1 : va_up g 3 (g 3 + 1) 121 = g 121 := rfl
  have u2 : va_up g 3 (g 3 + 1) 123 = g 123 := rfl
  have uH : rH (va_up g 3 (g 3 + 1)) = rH g := rfl
  have u60 : va_up (va_up G 2 (upd (G 2) (g 3).toNatClampNeg p)) 3 (upd (G 3) (g 3).toNatClampNeg x) 60 = G 60 := rfl
  have u66 : va_up (va_up G 2 (upd (G 2) (g 3).toNatClampNeg p)) 3 (upd (G 3) (g 3).toNatClampNeg x) 66 = G 66 := rfl
  have u67 : va_up (va_up G 2 (upd (G 2) (g 3).toNatClampNeg p)) 3 (upd (G 3) (g 3).toNatClampNeg x) 67 = G 67 := rfl
  simp only [u1, u2, uH, u60, u66, u67, if_neg q1, if_neg q3] at e3
  refine opr_v (Y := (va_up g 3 (g 3 + 1), va_up (va_up G 2 (upd (G 2) (g 3).toNatClampNeg p)) 3 (upd (G 3) (g 3).toNatClampNeg x))) (wv_addHold 9 p x e1) (e3 _) (up_e _ _ _) (by show g 3 = _; rw [a11, l3']) ?_
  rw [l3', g2, g3]
  refine rel_plan hR (fun k hk => (up_n _ _ _ _ (by omega)).trans ((up_n _ _ _ _ (by omega)).trans (up_n _ _ _ _ (by omega)))) (fun k hk => (up_n _ _ _ _ (by omega)).trans ((up_n _ _ _ _ (by omega)).trans ((up_n _ _ _ _ (by omega)).trans (up_n _ _ _ _ (by omega))))) ?_ ?_
  · refine ⟨l1, l2, ?_, l4, l5, m0, m1, ?_, ?_, m4, m5, m6, m7⟩
    · rfl
    · rfl
    · rfl
  · obtain ⟨⟨p1, -, p3, p4, p5⟩, i2, i3⟩ := hR.2.2.1
    have hrH' : (va_up (va_up (va_up g 3 (g 123 + 1)) 123 (g 123 + 1)) 120 0 123).toNatClampNeg = n + 1 := by
      show (g 123 + 1).toNatClampNeg = n + 1
      rw [n2, nI_1]; exact nI_clamp (by omega)
    have hx : ∃ m, 1 ≤ m ∧ m ≤ 999 ∧ x = nI m := by
      have x1 : ¬ x < 1 := fun w => q1 (Or.inr (Or.inr (Or.inl w)))
      have x2 : ¬ 999 < x := fun w => q1 (Or.inr (Or.inr (Or.inr (Or.inl w))))
      obtain ⟨m, hm, rfl⟩ := nI_of (x := x) (fun w => x1 (by rw [lt_toInt] at w ⊢; have a1 : (0 : Int32).toInt = 0 := rfl; have a2 : (1 : Int32).toInt = 1 := rfl; omega))
      have y1 : ¬ m < 1 := fun w => x1 ((nI_ltI (b := 1) hm (by decide)).mpr w)
      have y2 : ¬ 999 < m := fun w => x2 ((nI_ltI (a := 999) (by decide) hm).mpr w)
      exact ⟨m, by omega, by omega, rfl⟩
    have hnew : ∀ k, k < n → ¬ G 66 k = p := by
      intro k hk w
      exact q1 (Or.inr (Or.inr (Or.inr (Or.inr ((fa_iff _ _ _).mpr ⟨k, Nat.zero_le _, by rw [hrH]; omega, decide_eq_true w⟩)))))
    rw [hrH] at i2 i3
    refine ⟨⟨p1, ⟨n + 1, by omega, ?_⟩, p3, p4, p5⟩, ?_, ?_⟩
    · show g 123 + 1 = _
      rw [n2, nI_1]
    · unfold rH
      rw [hrH']
      intro k hk
      show ∃ l, 1 ≤ l ∧ l ≤ 999 ∧ upd (G 67) (g 123).toNatClampNeg x k = nI l
      rw [hc2, ud_at]
      by_cases w : k = n
      · rw [if_pos w]; exact hx
      · rw [if_neg w]; exact i2 k (by omega)
    · unfold rH
      rw [hrH']
      intro i j hij hj
      show ¬ upd (G 66) (g 123).toNatClampNeg p i = upd (G 66) (g 123).toNatClampNeg p j
      rw [hc2, ud_at, ud_at, if_neg (by omega)]
      by_cases w : j = n
      · rw [if_pos w]; exact hnew i (by omega)
      · rw [if_neg w]; exact i3 i j hij (by omega)
theorem op_addPoint (hR : Rel g G) (p : Int32) : OpR iL_addPoint iX8_addPoint [.ref 0, .int p, .ref 102] [.ref 88, .int p] g G o h c := by
  have e1 := e_addPoint (o := o) (h := h) (c := c) 0 (g, G) p (rel_inv hR)
  obtain ⟨l1, l2, l3, l4, l5, m0, m1, m2, m3, m4, m5, m6, m7⟩ := hR.2.1
  have hP := hR.2.2.1.1
  have e2 := e_addPtR (g := g) (G := G) (o := o) (h := h) (c := (c.1 + 1, c.2 + 6)) 7 p hP
  have n0 : G 60 0 = g 20 := hR.1.1.1
  have l1' : g 1 = g 121 := l1
  have l4' : g 4 = g 124 := l4
  have g4 : G 4 = G 68 := m4
  obtain ⟨n, n1, n2⟩ := hP.2.2.1
  have q1e : (p < 0 ∨ (g, G).1 1 < p) ↔ (p < 0 ∨ g 121 < p) := by show (p < 0 ∨ g 1 < p) ↔ _; rw [l1']
  have q3e : (¬ (g, G).1 20 = 0 ∨ ¬ (g, G).1 4 < 4) ↔ (¬ G 60 0 = 0 ∨ g 124 = 4) := by
    show (¬ g 20 = 0 ∨ ¬ g 4 < 4) ↔ _
    rw [n0, l4', n2, full4 n1]
  by_cases q1 : p < 0 ∨ g 121 < p
  · rw [if_pos (q1e.mpr q1)] at e1
    rw [if_pos q1] at e2
    exact opr_t (Y := (g, G)) (wt_addPoint_eIA 9 p e1) e2 (by decide) (up_e _ _ _) (rel_t hR 1)
  rw [if_neg (fun w => q1 (q1e.mp w))] at e1
  rw [if_neg q1] at e2
  by_cases q3 : ¬ G 60 0 = 0 ∨ g 124 = 4
  · rw [if_pos (q3e.mpr q3)] at e1
    rw [if_pos q3] at e2
    exact opr_t (Y := (g, G)) (wt_addPoint_eIS 9 p e1) e2 (by decide) (up_e _ _ _) (rel_t hR 2)
  rw [if_neg (fun w => q3 (q3e.mp w))] at e1
  have hn4 : ¬ n = 4 := fun w => q3 (Or.inr (by rw [n2, w]; rfl))
  have hP' : Pp (va_up g 4 (g 4 + 1)) (va_up G 4 (upd (G 4) (g 4).toNatClampNeg p)) := hP
  have e3 := fun o => e_addPtR (g := va_up g 4 (g 4 + 1)) (G := va_up G 4 (upd (G 4) (g 4).toNatClampNeg p)) (o := o) (h := h) (c := c) 7 p hP'
  have u1 : va_up g 4 (g 4 + 1) 121 = g 121 := rfl
  have u2 : va_up g 4 (g 4 + 1) 124 = g 124 := rfl
  have u60 : va_up G 4 (upd (G 4) (g 4).toNatClampNeg p) 60 = G 60 := rfl
  have u68 : va_up G 4 (upd (G 4) (g 4).toNatClampNeg p) 68 = G 68 := rfl
  simp only [u1, u2, u60, u68, if_neg q1, if_neg q3] at e3
  refine opr_v (Y := (va_up g 4 (g 4 + 1), va_up G 4 (upd (G 4) (g 4).toNatClampNeg p))) (wv_addPoint 9 p e1) (e3 _) (up_e _ _ _) (by show g 4 = _; rw [a11, l4']) ?_
  rw [l4', g4]
  refine rel_plan hR (fun k hk => (up_n _ _ _ _ (by omega)).trans ((up_n _ _ _ _ (by omega)).trans (up_n _ _ _ _ (by omega)))) (fun k hk => (up_n _ _ _ _ (by omega)).trans (up_n _ _ _ _ (by omega))) ?_ ?_
  · refine ⟨l1, l2, l3, ?_, l5, m0, m1, m2, m3, ?_, m5, m6, m7⟩
    · rfl
    · rfl
  · obtain ⟨⟨p1, p2, -, p4, p5⟩, i2, i3⟩ := hR.2.2.1
    refine ⟨⟨p1, p2, ⟨n + 1, by omega, ?_⟩, p4, p5⟩, i2, i3⟩
    show g 124 + 1 = _
    rw [n2, nI_1]
theorem op_addConstraint (hR : Rel g G) (p t x : Int32) : OpR iL_addConstraint iX8_addConstraint [.ref 0, .int p, .int t, .int x, .ref 102] [.ref 88, .int p, .int t, .int x] g G o h c := by
  have e1 := e_addConstraint (o := o) (h := h) (c := c) 0 (g, G) p t x (rel_inv hR)
  obtain ⟨l1, l2, l3, l4, l5, m0, m1, m2, m3, m4, m5, m6, m7⟩ := hR.2.1
  have hP := hR.2.2.1.1
  have e2 := e_addCoR (g := g) (G := G) (o := o) (h := h) (c := (c.1 + 1, c.2 + 6)) 7 p t x hP
  have n0 : G 60 0 = g 20 := hR.1.1.1
  have l1' : g 1 = g 121 := l1
  have l5' : g 5 = g 125 := l5
  have g5 : G 5 = G 69 := m5
  have g6 : G 6 = G 70 := m6
  have g7 : G 7 = G 71 := m7
  obtain ⟨n, n1, n2⟩ := hP.2.2.2.1
  have q1e : (p < 0 ∨ (g, G).1 1 < p ∨ t < 0 ∨ p < t ∨ x < 1 ∨ 5 < x) ↔ (p < 0 ∨ g 121 < p ∨ t < 0 ∨ p < t ∨ x < 1 ∨ 5 < x) := by show (p < 0 ∨ g 1 < p ∨ t < 0 ∨ p < t ∨ x < 1 ∨ 5 < x) ↔ _; rw [l1']
  have q3e : (¬ (g, G).1 20 = 0 ∨ ¬ (g, G).1 5 < 6) ↔ (¬ G 60 0 = 0 ∨ g 125 = 6) := by
    show (¬ g 20 = 0 ∨ ¬ g 5 < 6) ↔ _
    rw [n0, l5', n2, full6 n1]
  by_cases q1 : p < 0 ∨ g 121 < p ∨ t < 0 ∨ p < t ∨ x < 1 ∨ 5 < x
  · rw [if_pos (q1e.mpr q1)] at e1
    rw [if_pos q1] at e2
    exact opr_t (Y := (g, G)) (wt_addConstraint_eIA 9 p t x e1) e2 (by decide) (up_e _ _ _) (rel_t hR 1)
  rw [if_neg (fun w => q1 (q1e.mp w))] at e1
  rw [if_neg q1] at e2
  by_cases q3 : ¬ G 60 0 = 0 ∨ g 125 = 6
  · rw [if_pos (q3e.mpr q3)] at e1
    rw [if_pos q3] at e2
    exact opr_t (Y := (g, G)) (wt_addConstraint_eIS 9 p t x e1) e2 (by decide) (up_e _ _ _) (rel_t hR 2)
  rw [if_neg (fun w => q3 (q3e.mp w))] at e1
  have hn6 : ¬ n = 6 := fun w => q3 (Or.inr (by rw [n2, w]; rfl))
  have hP' : Pp (va_up g 5 (g 5 + 1)) (va_up (va_up (va_up G 5 (upd (G 5) (g 5).toNatClampNeg p)) 6 (upd (G 6) (g 5).toNatClampNeg t)) 7 (upd (G 7) (g 5).toNatClampNeg x)) := hP
  have e3 := fun o => e_addCoR (g := va_up g 5 (g 5 + 1)) (G := va_up (va_up (va_up G 5 (upd (G 5) (g 5).toNatClampNeg p)) 6 (upd (G 6) (g 5).toNatClampNeg t)) 7 (upd (G 7) (g 5).toNatClampNeg x)) (o := o) (h := h) (c := c) 7 p t x hP'
  have u1 : va_up g 5 (g 5 + 1) 121 = g 121 := rfl
  have u2 : va_up g 5 (g 5 + 1) 125 = g 125 := rfl
  have u60 : va_up (va_up (va_up G 5 (upd (G 5) (g 5).toNatClampNeg p)) 6 (upd (G 6) (g 5).toNatClampNeg t)) 7 (upd (G 7) (g 5).toNatClampNeg x) 60 = G 60 := rfl
  have u69 : va_up (va_up (va_up G 5 (upd (G 5) (g 5).toNatClampNeg p)) 6 (upd (G 6) (g 5).toNatClampNeg t)) 7 (upd (G 7) (g 5).toNatClampNeg x) 69 = G 69 := rfl
  have u70 : va_up (va_up (va_up G 5 (upd (G 5) (g 5).toNatClampNeg p)) 6 (upd (G 6) (g 5).toNatClampNeg t)) 7 (upd (G 7) (g 5).toNatClampNeg x) 70 = G 70 := rfl
  have u71 : va_up (va_up (va_up G 5 (upd (G 5) (g 5).toNatClampNeg p)) 6 (upd (G 6) (g 5).toNatClampNeg t)) 7 (upd (G 7) (g 5).toNatClampNeg x) 71 = G 71 := rfl
  simp only [u1, u2, u60, u69, u70, u71, if_neg q1, if_neg q3] at e3
  refine opr_v (Y := (va_up g 5 (g 5 + 1), va_up (va_up (va_up G 5 (upd (G 5) (g 5).toNatClampNeg p)) 6 (upd (G 6) (g 5).toNatClampNeg t)) 7 (upd (G 7) (g 5).toNatClampNeg x))) (wv_addConstraint 9 p t x e1) (e3 _) (up_e _ _ _) (by show g 5 = _; rw [a11, l5']) ?_
  rw [l5', g5, g6, g7]
  refine rel_plan hR (fun k hk => (up_n _ _ _ _ (by omega)).trans ((up_n _ _ _ _ (by omega)).trans (up_n _ _ _ _ (by omega)))) (fun k hk => (up_n _ _ _ _ (by omega)).trans ((up_n _ _ _ _ (by omega)).trans ((up_n _ _ _ _ (by omega)).trans ((up_n _ _ _ _ (by omega)).trans ((up_n _ _ _ _ (by omega)).trans (up_n _ _ _ _ (by omega))))))) ?_ ?_
  · refine ⟨l1, l2, l3, l4, ?_, m0, m1, m2, m3, m4, ?_, ?_, ?_⟩
    · rfl
    · rfl
    · rfl
    · rfl
  · obtain ⟨⟨p1, p2, p3, -, p5⟩, i2, i3⟩ := hR.2.2.1
    refine ⟨⟨p1, p2, p3, ⟨n + 1, by omega, ?_⟩, p5⟩, i2, i3⟩
    show g 125 + 1 = _
    rw [n2, nI_1]
theorem op_addSpan (hR : Rel g G) (p t k : Int32) : OpR iL_addSpan iX8_addSpan [.ref 0, .int p, .int t, .int k, .ref 102] [.ref 88, .int p, .int t, .int k] g G o h c := by
  have e1 := e_addSpan (o := o) (h := h) (c := c) 0 (g, G) p t k (rel_inv hR)
  have hz := hR.1.2.2.2.1
  have e2 := e_spanR (g := g) (G := G) (o := o) (h := h) (c := (c.1 + 1, c.2 + 6)) 8 p t k hz
  have n0 : G 60 0 = g 20 := hR.1.1.1
  have w14 : G 60 14 = g 35 := hR.1.2.2.2.2.1.1
  have w15 : G 60 15 = g 36 := hR.1.2.2.2.2.1.2.1
  obtain ⟨nw, a1, a2⟩ := hz.1
  obtain ⟨nc, b1, b2⟩ := hz.2.1
  have q1e : (p < 0 ∨ t < p ∨ 99999 < t) ↔ (p < 0 ∨ 99999 < p ∨ t < p ∨ 99999 < t) := by
    constructor
    · rintro (w | w | w)
      · exact Or.inl w
      · exact Or.inr (Or.inr (Or.inl w))
      · exact Or.inr (Or.inr (Or.inr w))
    · rintro (w | w | w | w)
      · exact Or.inl w
      · by_cases u : t < p
        · exact Or.inr (Or.inl u)
        · right; right
          rw [lt_toInt] at w u ⊢
          omega
      · exact Or.inr (Or.inl w)
      · exact Or.inr (Or.inr w)
  by_cases q1 : p < 0 ∨ 99999 < p ∨ t < p ∨ 99999 < t
  · rw [if_pos (q1e.mpr q1)] at e1
    rw [if_pos q1] at e2
    exact opr_t (Y := (g, G)) (wt_addSpan_eIA 9 p t k e1) e2 (by decide) (up_e _ _ _) (rel_t hR 1)
  rw [if_neg (fun w => q1 (q1e.mp w))] at e1
  have i0 : 0 ≤ p.toInt := by
    have : ¬ p < 0 := fun w => q1 (Or.inl w)
    rw [lt_toInt, i0_toInt] at this
    omega
  have i1 : p.toInt ≤ t.toInt := by
    have : ¬ t < p := fun w => q1 (Or.inr (Or.inr (Or.inl w)))
    rw [lt_toInt] at this
    omega
  have i2 : t.toInt ≤ 99999 := by
    have : ¬ 99999 < t := fun w => q1 (Or.inr (Or.inr (Or.inr w)))
    rw [lt_toInt] at this
    have e9 : (99999 : Int32).toInt = 99999 := rfl
    omega
  by_cases qk : k = 0
  · subst qk
    rw [if_pos rfl] at e1
    have q3e : (3 < (g, G).1 20 ∨ ¬ (g, G).1 35 < 4) ↔ (3 < G 60 0 ∨ ((0 : Int32) = 0 ∧ G 60 14 = 4) ∨ (¬ (0 : Int32) = 0 ∧ G 60 15 = 6)) := by
      show (3 < g 20 ∨ ¬ g 35 < 4) ↔ _
      rw [← n0, ← w14, a2, full4 a1]
      constructor
      · rintro (w | w)
        · exact Or.inl w
        · exact Or.inr (Or.inl ⟨rfl, w⟩)
      · rintro (w | ⟨-, w⟩ | ⟨w, -⟩)
        · exact Or.inl w
        · exact Or.inr w
        · exact absurd rfl w
    by_cases q3 : 3 < G 60 0 ∨ ((0 : Int32) = 0 ∧ G 60 14 = 4) ∨ (¬ (0 : Int32) = 0 ∧ G 60 15 = 6)
    · rw [if_pos (q3e.mpr q3)] at e1
      rw [if_neg q1, if_pos q3] at e2
      exact opr_t (Y := (g, G)) (wt_addSpan_eIS 9 p t 0 e1) e2 (by decide) (up_e _ _ _) (rel_t hR 2)
    rw [if_neg (fun w => q3 (q3e.mp w))] at e1
    have hw : nw < 4 := by
      have : ¬ nw = 4 := fun w => q3 (Or.inr (Or.inl ⟨rfl, by rw [a2, w]; rfl⟩))
      omega
    have hc1 : (g 35).toNatClampNeg = nw := by rw [← w14]; exact clamp_of' a2 (by omega)
    have hS := rs_win hR.1 hw a2 i0 i1 i2
    have hf : Fr 20 10 (g, G) (va_up g 35 (g 35 + 1), va_up (va_up G 12 (upd (G 12) (g 35).toNatClampNeg p)) 13 (upd (G 13) (g 35).toNatClampNeg t)) := fr_up (Y := (g, va_up (va_up G 12 (upd (G 12) (g 35).toNatClampNeg p)) 13 (upd (G 13) (g 35).toNatClampNeg t))) (fr_row (Y := (g, va_up G 12 (upd (G 12) (g 35).toNatClampNeg p))) (fr_row fr_refl 2 (by decide) _) 3 (by decide) _) 15 (by decide) _
    have e3 := e_spanR (g := va_up g 35 (g 35 + 1)) (G := va_up (va_up G 12 (upd (G 12) (g 35).toNatClampNeg p)) 13 (upd (G 13) (g 35).toNatClampNeg t)) (o := vp_updL o 0 (g 35).toInt64) (h := h) (c := c) 8 p t 0 hz
    have u60 : va_up (va_up G 12 (upd (G 12) (g 35).toNatClampNeg p)) 13 (upd (G 13) (g 35).toNatClampNeg t) 60 = G 60 := rfl
    rw [u60, if_neg q1, if_neg q3] at e3
    refine opr_v (Y := (va_up g 35 (g 35 + 1), va_up (va_up G 12 (upd (G 12) (g 35).toNatClampNeg p)) 13 (upd (G 13) (g 35).toNatClampNeg t))) (wv_addSpan 9 p t 0 e1) e3 (up_e _ _ _) ?_ (rel_now hR hf ?_ 0)
    · show g 35 = _
      rw [if_pos rfl, w14]
    · unfold spanF
      rw [if_pos rfl, hc1, clamp_of' a2 (by omega)]
      exact hS
  · rw [if_neg qk] at e1
    have q3e : (3 < (g, G).1 20 ∨ ¬ (g, G).1 36 < 6) ↔ (3 < G 60 0 ∨ (k = 0 ∧ G 60 14 = 4) ∨ (¬ k = 0 ∧ G 60 15 = 6)) := by
      show (3 < g 20 ∨ ¬ g 36 < 6) ↔ _
      rw [← n0, ← w15, b2, full6 b1]
      constructor
      · rintro (w | w)
        · exact Or.inl w
        · exact Or.inr (Or.inr ⟨qk, w⟩)
      · rintro (w | ⟨w, -⟩ | ⟨-, w⟩)
        · exact Or.inl w
        · exact absurd w qk
        · exact Or.inr w
    by_cases q3 : 3 < G 60 0 ∨ (k = 0 ∧ G 60 14 = 4) ∨ (¬ k = 0 ∧ G 60 15 = 6)
    · rw [if_pos (q3e.mpr q3)] at e1
      rw [if_neg q1, if_pos q3] at e2
      exact opr_t (Y := (g, G)) (wt_addSpan_eIS 9 p t k e1) e2 (by decide) (up_e _ _ _) (rel_t hR 2)
    rw [if_neg (fun w => q3 (q3e.mp w))] at e1
    have hw : nc < 6 := by
      have : ¬ nc = 6 := fun w => q3 (Or.inr (Or.inr ⟨qk, by rw [b2, w]; rfl⟩))
      omega
    have hc1 : (g 36).toNatClampNeg = nc := by rw [← w15]; exact clamp_of' b2 (by omega)
    have hS := rs_cut hR.1 hw b2 i0 i1 i2
    have hf : Fr 20 10 (g, G) (va_up g 36 (g 36 + 1), va_up (va_up G 14 (upd (G 14) (g 36).toNatClampNeg p)) 15 (upd (G 15) (g 36).toNatClampNeg t)) := fr_up (Y := (g, va_up (va_up G 14 (upd (G 14) (g 36).toNatClampNeg p)) 15 (upd (G 15) (g 36).toNatClampNeg t))) (fr_row (Y := (g, va_up G 14 (upd (G 14) (g 36).toNatClampNeg p))) (fr_row fr_refl 4 (by decide) _) 5 (by decide) _) 16 (by decide) _
    have e3 := e_spanR (g := va_up g 36 (g 36 + 1)) (G := va_up (va_up G 14 (upd (G 14) (g 36).toNatClampNeg p)) 15 (upd (G 15) (g 36).toNatClampNeg t)) (o := vp_updL o 0 (g 36).toInt64) (h := h) (c := c) 8 p t k hz
    have u60 : va_up (va_up G 14 (upd (G 14) (g 36).toNatClampNeg p)) 15 (upd (G 15) (g 36).toNatClampNeg t) 60 = G 60 := rfl
    rw [u60, if_neg q1, if_neg q3] at e3
    refine opr_v (Y := (va_up g 36 (g 36 + 1), va_up (va_up G 14 (upd (G 14) (g 36).toNatClampNeg p)) 15 (upd (G 15) (g 36).toNatClampNeg t))) (wv_addSpan 9 p t k e1) e3 (up_e _ _ _) ?_ (rel_now hR hf ?_ 0)
    · show g 36 = _
      rw [if_neg qk, w15]
    · unfold spanF
      rw [if_neg qk, hc1, clamp_of' b2 (by omega)]
      exact hS
end
