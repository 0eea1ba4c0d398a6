/-! questions, class and reference -/
theorem nlt {x a b : Int32} (h : b.toInt = a.toInt + 1) : ¬ x < b ↔ a < x := by
  rw [lt_toInt, lt_toInt]
  omega
theorem or_rng {P : Prop} {x a b : Int32} (h : b.toInt = a.toInt + 1) : (P ∨ ¬ x < b) ↔ (P ∨ a < x) := by
  rw [nlt h]
theorem rng4 {x : Int32} (h : ¬ (x < 0 ∨ ¬ x < 4)) : x = 0 ∨ x = 1 ∨ x = 2 ∨ x = 3 := by
  have h0 : ¬ x < 0 := fun q => h (Or.inl q)
  have h1 : x < 4 := Decidable.byContradiction (fun q => h (Or.inr q))
  obtain ⟨j, hj, rfl⟩ := nI_of h0
  have : j < 4 := (nI_ltI hj (b := 4) (by decide)).mp h1
  match j, this with
  | 0, _ => exact Or.inl rfl
  | 1, _ => exact Or.inr (Or.inl rfl)
  | 2, _ => exact Or.inr (Or.inr (Or.inl rfl))
  | 3, _ => exact Or.inr (Or.inr (Or.inr rfl))
theorem has_of {k y : Int32} {n : Nat} (h : ¬ (k < 0 ∨ ¬ k < y)) (hy : y = nI n) (hn : n < 2 ^ 31) : ∃ j, j < n ∧ k = nI j := by
  have h0 : ¬ k < 0 := fun q => h (Or.inl q)
  have h1 : k < y := Decidable.byContradiction (fun q => h (Or.inr q))
  obtain ⟨j, hj, rfl⟩ := nI_of h0
  rw [hy] at h1
  exact ⟨j, (nI_ltI hj hn).mp h1, rfl⟩
section
variable {g : Nat → Int32} {G : Nat → Nat → Int32} {o : Nat → Int64} {h : Int64} {c : Nat × Nat}
theorem op_status (hR : Rel g G) (p : Int32) : OpR iL_status iX8_status [.ref 0, .int p, .ref 102] [.ref 88, .int p] g G o h c := by
  have e1 := e_status (o := o) (h := h) (c := c) 0 (g, G) p
  have e2 := fun o c => e_statR (g := g) (G := G) (o := o) (h := h) (c := c) 7 p
  have hq : (p < 0 ∨ ¬ p < 12) ↔ (p < 0 ∨ 11 < p) := or_rng rfl
  by_cases q : p < 0 ∨ 11 < p
  · rw [if_pos (hq.mpr q)] at e1
    simp only [if_pos q] at e2
    exact opr_t (Y := (g, G)) (wt_status_eIA 9 p e1) (e2 _ _) (by decide) (up_e _ _ _) (rel_t hR 1)
  · rw [if_neg (fun w => q (hq.mp w))] at e1
    simp only [if_neg q] at e2
    exact opr_v (Y := (g, G)) (wv_status 9 p e1) (e2 _ _) (up_e _ _ _) (num_eq hR.1 hR.2.1 p) (rel_t hR 0)
theorem op_items (hR : Rel g G) (p : Int32) : OpR iL_items iX8_items [.ref 0, .int p, .ref 102] [.ref 88, .int p] g G o h c := by
  have e1 := e_itemsP (o := o) (h := h) (c := c) 0 (g, G) p
  have e2 := fun o c => e_itemR (g := g) (G := G) (o := o) (h := h) (c := c) 7 p
  have hq : (p < 0 ∨ ¬ p < 6) ↔ (p < 0 ∨ 5 < p) := or_rng rfl
  by_cases q : p < 0 ∨ 5 < p
  · rw [if_pos (hq.mpr q)] at e1
    simp only [if_pos q] at e2
    exact opr_t (Y := (g, G)) (wt_items_eIA 9 p e1) (e2 _ _) (by decide) (up_e _ _ _) (rel_t hR 1)
  · rw [if_neg (fun w => q (hq.mp w))] at e1
    simp only [if_neg q] at e2
    exact opr_v (Y := (g, G)) (wv_items 9 p e1) (e2 _ _) (up_e _ _ _) (it_eq hR.1 hR.2.1 p) (rel_t hR 0)
theorem op_constraint (hR : Rel g G) (p x : Int32) : OpR iL_constraint iX8_constraint [.ref 0, .int p, .int x, .ref 102] [.ref 88, .int p, .int x] g G o h c := by
  have e1 := e_constraint (o := o) (h := h) (c := c) 0 (g, G) p x (rel_inv hR)
  have e2 := fun o c => e_conR (g := g) (G := G) (o := o) (h := h) (c := c) 6 p x hR.2.2.1.1
  have l5 : g 5 = g 125 := hR.2.1.2.2.2.2.1
  have hq : (x < 0 ∨ ¬ x < 4) ↔ (x < 0 ∨ 3 < x) := or_rng rfl
  by_cases q : p < 0 ∨ ¬ p < g 125
  · rw [if_pos (by show p < 0 ∨ ¬ p < g 5; rw [l5]; exact q)] at e1
    simp only [if_pos q] at e2
    exact opr_t (Y := (g, G)) (wt_constraint_eIX 9 p x e1) (e2 _ _) (by decide) (up_e _ _ _) (rel_t hR 1)
  rw [if_neg (by show ¬ (p < 0 ∨ ¬ p < g 5); rw [l5]; exact q)] at e1
  simp only [if_neg q] at e2
  by_cases q2 : x < 0 ∨ 3 < x
  · rw [if_pos (hq.mpr q2)] at e1
    simp only [if_pos q2] at e2
    exact opr_t (Y := (g, G)) (wt_constraint_eIA 9 p x e1) (e2 _ _) (by decide) (up_e _ _ _) (rel_t hR 2)
  · rw [if_neg (fun w => q2 (hq.mp w))] at e1
    simp only [if_neg q2] at e2
    refine opr_v (Y := (g, G)) (wv_constraint 9 p x e1) (e2 _ _) (up_e _ _ _) ?_ (rel_t hR 0)
    obtain ⟨n, n1, n2⟩ := hR.2.2.1.1.2.2.2.1
    obtain ⟨j, j1, rfl⟩ := has_of q n2 (by omega)
    rw [nI_clamp (by omega)]
    exact prop_eq hR.1 hR.2.1 (by omega) (rng4 (fun w => q2 (hq.mp w)))
theorem op_expected (hR : Rel g G) (p : Int32) : OpR iL_expected iX8_expected [.ref 0, .int p, .ref 102] [.ref 88, .int p] g G o h c := by
  have e1 := e_expected (o := o) (h := h) (c := c) 0 (g, G) p (rel_inv hR)
  have e2 := fun o c => e_expR (g := g) (G := G) (o := o) (h := h) (c := c) 5 p hR.2.2.1.1
  have l2 : g 2 = g 122 := hR.2.1.2.1
  by_cases q : p < 0 ∨ ¬ p < g 122
  · rw [if_pos (by show p < 0 ∨ ¬ p < g 2; rw [l2]; exact q)] at e1
    simp only [if_pos q] at e2
    exact opr_t (Y := (g, G)) (wt_expected_eIX 9 p e1) (e2 _ _) (by decide) (up_e _ _ _) (rel_t hR 1)
  · rw [if_neg (by show ¬ (p < 0 ∨ ¬ p < g 2); rw [l2]; exact q)] at e1
    simp only [if_neg q] at e2
    exact opr_v (Y := (g, G)) (wv_expected 9 p e1) (e2 _ _) (up_e _ _ _) (exp_eq hR.1 hR.2.1 p) (rel_t hR 0)
theorem op_ifRecycled (hR : Rel g G) (p : Int32) : OpR iL_ifRecycled iX8_ifRecycled [.ref 0, .int p, .ref 102] [.ref 88, .int p] g G o h c := by
  have e1 := e_ifRec (o := o) (h := h) (c := c) 0 (g, G) p (rel_inv hR)
  have e2 := fun o c => e_ifRecR (g := g) (G := G) (o := o) (h := h) (c := c) 6 p hR.2.2.1.1
  have l4 : g 4 = g 124 := hR.2.1.2.2.2.1
  by_cases q : p < 0 ∨ ¬ p < g 124
  · rw [if_pos (by show p < 0 ∨ ¬ p < g 4; rw [l4]; exact q)] at e1
    simp only [if_pos q] at e2
    exact opr_t (Y := (g, G)) (wt_ifRecycled_eIX 9 p e1) (e2 _ _) (by decide) (up_e _ _ _) (rel_t hR 1)
  · rw [if_neg (by show ¬ (p < 0 ∨ ¬ p < g 4); rw [l4]; exact q)] at e1
    simp only [if_neg q] at e2
    exact opr_v (Y := (g, G)) (wv_ifRecycled 9 p e1) (e2 _ _) (up_e _ _ _) (rec_eq hR.1 hR.2.1 p) (rel_t hR 0)
theorem op_log (hR : Rel g G) (p x : Int32) : OpR iL_log iX8_log [.ref 0, .int p, .int x, .ref 102] [.ref 88, .int p, .int x] g G o h c := by
  obtain ⟨K, n, hK, hn, k1, k2, k3, k4⟩ := hR.1.2.2.2.2.2.2
  have k2' : g 38 = nI K := k2
  have e1 := e_log (o := o) (h := h) (c := c) 0 (g, G) p x (rel_inv hR).1 ⟨K, hK, k2⟩
  have e2 := fun o c => e_logR (g := g) (G := G) (o := o) (h := h) (c := c) 8 p x hR.1.2.2.2.1
  have l5 : g 38 = G 60 16 := k2'.trans k1.symm
  have hq : (x < 0 ∨ ¬ x < 3) ↔ (x < 0 ∨ 2 < x) := or_rng rfl
  by_cases q : p < 0 ∨ ¬ p < G 60 16
  · rw [if_pos (by show p < 0 ∨ ¬ p < g 38; rw [l5]; exact q)] at e1
    simp only [if_pos q] at e2
    exact opr_t (Y := (g, G)) (wt_log_eIX 9 p x e1) (e2 _ _) (by decide) (up_e _ _ _) (rel_t hR 1)
  rw [if_neg (by show ¬ (p < 0 ∨ ¬ p < g 38); rw [l5]; exact q)] at e1
  simp only [if_neg q] at e2
  by_cases q2 : x < 0 ∨ 2 < x
  · rw [if_pos (hq.mpr q2)] at e1
    simp only [if_pos q2] at e2
    exact opr_t (Y := (g, G)) (wt_log_eIA 9 p x e1) (e2 _ _) (by decide) (up_e _ _ _) (rel_t hR 2)
  · rw [if_neg (fun w => q2 (hq.mp w))] at e1
    simp only [if_neg q2] at e2
    refine opr_v (Y := (g, G)) (wv_log 9 p x e1) (e2 _ _) (up_e _ _ _) ?_ (rel_t hR 0)
    obtain ⟨j, j1, rfl⟩ := has_of q k1 (by omega)
    obtain ⟨w, w1, rfl⟩ := has_of (y := 3) (n := 3) (fun w => q2 (hq.mp w)) rfl (by decide)
    rw [nI_clamp (by omega), nI_clamp (by omega)]
    exact part_eq hR.1 (by rw [k1]; exact nI_lt j1 (by omega)) (by omega) w1
theorem op_isOpen (hR : Rel g G) (p : Int32) : ∃ (k b : Int32) (g1 : Nat → Int32) (G1 : Nat → Nat → Int32) (o1 : Nat → Int64) (c1 : Nat × Nat) (g2 : Nat → Int32) (G2 : Nat → Nat → Int32), ev 10 iL_isOpen [.ref 0, .int p, .ref 102] (hp g G o h, c) = some (.inl (some (.int k)), (hp g1 G1 o1 h, c1)) ∧ ev 10 iX8_isOpen [.ref 88, .int p] (hp g1 G1 o1 h, c1) = some (.inl (some (.int b)), (hp g2 G2 o1 h, c1)) ∧ g2 120 = k ∧ (k = 0 → o1 0 = if b = 0 then 0 else 1) ∧ Rel g2 G2 ∧ c1.1 ≤ c.1 + 1 ∧ c1.2 ≤ c.2 + 6 := by
  have e1 := e_isOpen (o := o) (h := h) (c := c) 0 (g, G) p (rel_inv hR)
  have e2 := fun o c => e_isOpR (g := g) (G := G) (o := o) (h := h) (c := c) 7 p hR.1.2.2.2.1
  by_cases q : p < 0 ∨ 99999 < p
  · rw [if_pos q] at e1
    simp only [if_pos q] at e2
    exact ⟨1, 0, g, G, o, (c.1 + 1, c.2 + 6), _, _, wt_isOpen_eIA (X := (g, G)) (Y := (g, G)) 9 p e1, e2 _ _, up_e _ _ _, fun w => absurd w (by decide), rel_t hR 1, Nat.le_refl _, Nat.le_refl _⟩
  · rw [if_neg q] at e1
    simp only [if_neg q] at e2
    refine ⟨0, _, g, G, _, c, _, _, wv_isOpen (X := (g, G)) (Y := (g, G)) 9 p e1, e2 _ _, up_e _ _ _, fun _ => ?_, rel_t hR 0, by omega, by omega⟩
    rw [upL0, op_eq hR.1, bb_if]
theorem op_liftoff (hR : Rel g G) : OpQ iX7_liftoff iX8_liftoff [.ref 0] [.ref 88] g G o h c := by
  have e1 := e_liftoffP (o := o) (h := h) (c := c) 5 (g, G) (rel_inv hR)
  have e2 := e_liftR (g := g) (G := G) (o := o) (h := h) (c := c) 5 hR.2.2.1.1
  rw [lift_eq hR.1 hR.2.1] at e1
  exact ⟨_, g, G, _, _, e1, e2, rel_t hR 0⟩
theorem op_slack (hR : Rel g G) (k : Int32) (hk : k = 0 ∨ k = 1) : OpQ iX7_slack iX8_slack [.ref 0, .int k] [.ref 88, .int k] g G o h c := by
  have e1 := e_slack (o := o) (h := h) (c := c) 4 (g, G) k (rel_inv hR)
  rcases hk with e | e
  · subst e
    have e2 := e_slackR (g := g) (G := G) (o := o) (h := h) (c := c) 4 hR.2.2.1.1 hR.1.2.2.2.1 hR.1.2.2.1 false (firstF 20 10 (g, G) (rliftF g G (G 60))) (first_fst hR.1 _)
    rw [slack_eq0 hR.1 hR.2.1] at e1
    exact ⟨_, g, G, _, _, e1, e2, rel_t hR 0⟩
  · subst e
    have e2 := e_slackR (g := g) (G := G) (o := o) (h := h) (c := c) 4 hR.2.2.1.1 hR.1.2.2.2.1 hR.1.2.2.1 true (lastF 20 10 (g, G) (rliftF g G (G 60))) (last_fst hR.1 _)
    rw [slack_eq1 hR.1 hR.2.1 (by decide)] at e1
    exact ⟨_, g, G, _, _, e1, e2, rel_t hR 0⟩
theorem op_best (hR : Rel g G) : OpQ iX7_bestPoint iX8_bestPoint [.ref 0] [.ref 88] g G o h c := by
  have e1 := e_best (o := o) (h := h) (c := c) 5 (g, G) (rel_inv hR)
  have e2 := e_bestR (g := g) (G := G) (o := o) (h := h) (c := c) 4 hR.2.2.1.1 hR.1.2.2.2.1 hR.1.2.2.1 (ptF (g, G)) (fun k _ => pt_fst hR.1 hR.2.1 k)
  rw [best_all hR.1 hR.2.1 hR.2.2.1.1] at e1
  exact ⟨_, g, G, _, _, e1, e2, rel_t hR 0⟩
theorem op_clear (hR : Rel g G) : OpQ iX7_clearBuffer iX8_clearBuffer [.ref 0] [.ref 88] g G o h c := by
  have e1 := e_clearB (o := o) (h := h) (c := c) 8 (g, G)
  have e2 := e_clrR (g := bclrF g) (G := G) (o := o) (h := h) (c := c) 8
  obtain ⟨r1, r2, r3, r4, r5⟩ := hR
  have hb : ∀ k, k < 6 ∨ 9 < k → bclrF g k = g k := fun k hk => by
    unfold bclrF
    rw [up_n _ _ _ _ (by omega), up_n _ _ _ _ (by omega), up_n _ _ _ _ (by omega), up_n _ _ _ _ (by omega)]
  have hv : g 6 = bclrF g 126 := by
    obtain ⟨N, n1, n2, n3, -⟩ := r4
    rw [hb 126 (by omega)]
    exact n2.trans n3.symm
  have hg : ∀ k, k < 6 ∨ (9 < k ∧ k ≠ 120 ∧ k ≠ 126) → va_up (va_up (bclrF g) 126 0) 120 0 k = g k := fun k hk => by
    rw [up_n _ _ _ _ (by omega), up_n _ _ _ _ (by omega)]
    exact hb k (by omega)
  have e1' : ev 10 iX7_clearBuffer [.ref 0] (hp g G o h, c) = some (.inl (some (.int (bclrF g 126))), (hp (bclrF g) G o h, c)) := by
    rw [← hv]; exact e1
  refine ⟨_, bclrF g, G, _, _, e1', e2, ?_, ?_, ?_, ?_, ?_⟩
  · exact rs_congr r1 (fun k hk => hg _ (by omega)) (fun k hk => rfl) (fun i _ => rfl)
  · exact pl_cg r2 (fun k _ _ => hg k (by omega)) (fun k _ => rfl) (fun k _ _ => hg k (by omega)) (fun k _ _ => rfl)
  · exact pi_cg r3 (fun k _ _ => hg k (by omega)) (fun k _ _ => rfl)
  · have h1 : RB (bclrF g, G) (va_up (va_up (bclrF g) 126 0) 120 0) G := rb_clr (X := (g, G)) _ _ (by rw [up_n _ _ _ _ (by decide), up_e])
    exact rb_congr h1 (fun k _ _ => (up_n _ _ _ _ (by omega)).trans (up_n _ _ _ _ (by omega))) rfl rfl rfl
  · exact rq_cg r5 (hg 0 (by omega)) (fun k _ _ => hg k (by omega)) (fun k _ _ => rfl) rfl rfl
theorem op_first (hR : Rel g G) : OpQ iX7_firstError iX8_firstError [.ref 0] [.ref 88] g G o h c := by
  obtain ⟨N, n1, n2, n3, n4⟩ := hR.2.2.2.1
  have e1 := e_firstE (o := o) (h := h) (c := c) 8 (g, G)
  have e2 := e_firstER (g := g) (G := G) (o := o) (h := h) (c := c) 5 N n1 n3
  have hv := rb_err hR.2.2.2.1 (va_up g 120 0) n1 n3
  have e1' : ev 10 iX7_firstError [.ref 0] (hp g G o h, c) = some (.inl (some (.int (nI (rdR (G 72) 0 N (rd0 (va_up g 120 0))).1))), (hp g G o h, c)) := by
    rw [← hv]; exact e1
  have hf : FrR (va_up g 120 0) (rdR (G 72) 0 N (rd0 (va_up g 120 0))).2 := frr_rd _ _ _ _ frr_0
  have hg : ∀ k, k < 120 ∨ (121 ≤ k ∧ k < 127) → (rdR (G 72) 0 N (rd0 (va_up g 120 0))).2 k = g k := fun k hk => (hf k (by omega)).trans (up_n _ _ _ _ (by omega))
  refine ⟨_, g, G, _, _, e1', e2, rel_of hR ?_ (fun k hk => hg k (by omega)) (fun k _ => rfl)⟩
  exact rs_congr hR.1 (fun k hk => hg _ (by omega)) (fun k hk => rfl) (fun i _ => rfl)
theorem op_share (hR : Rel g G) : ∃ (p : UInt64) (g2 : Nat → Int32), ev 10 iX7_holdShare [.ref 0] (hp g G o h, c) = some (.inl (some (.double p)), (hp g G o h, c)) ∧ ev 10 iX8_holdShare [.ref 88] (hp g G o h, c) = some (.inl (some (.double p)), (hp g2 G o h, c)) ∧ Rel g2 G := by
  have e1 := e_share (o := o) (h := h) (c := c) 8 (g, G) (fun q => fp_div _ _ (fun w => by rw [w] at q; exact absurd q (by decide)))
  have e2 := e_shareR (g := g) (G := G) (o := o) (h := h) (c := c) 8 (fp_one _) (fp_int _) (fun q => fp_div _ _ q)
  rw [share_eq hR.1] at e1
  exact ⟨shareF (G 60), va_up g 120 0, e1, e2, rel_t hR 0⟩
theorem op_digest (hR : Rel g G) : ∃ (p : Int64) (g2 : Nat → Int32) (h2 : Int64), ev 10 iX7_digest [.ref 0] (hp g G o h, c) = some (.inl (some (.long p)), (hp g G o h, c)) ∧ ev 10 iX8_digest [.ref 88] (hp g G o h, c) = some (.inl (some (.long p)), (hp g2 G o h2, c)) ∧ Rel g2 G := by
  obtain ⟨K, n, hK, hn, k1, k2, -⟩ := hR.1.2.2.2.2.2.2
  obtain ⟨N, n1, n2, n3, -⟩ := hR.2.2.2.1
  have hT := rel_t hR 0
  have e1 := e_digest (o := o) (h := h) (c := c) 2 (g, G) (rel_inv hR) ⟨K, hK, k2⟩
  have hB : ∀ (d : Nat) (q : Int64), ev (d + 5) iX8_bestNow [.ref 88] (hp (va_up g 120 0) G o q, c) = some (.inl (some (.int (bestF (g, G) 0 (nP (g, G)) (-1, -1)))), (hp (va_up g 120 0) G o q, c)) := by
    intro d q
    have := e_bestNow (g := va_up g 120 0) (G := G) (o := o) (h := q) (c := c) d hT.2.2.1.1 hT.1.2.2.2.1 hT.1.2.2.1 (ptF (g, G)) (fun k _ => pt_fst hR.1 (pl_cg hR.2.1 (fun k _ _ => rfl) (fun k _ => rfl) (fun k _ _ => up_n _ _ _ _ (by omega)) (fun k _ _ => rfl)) k)
    rw [rb_t] at this
    rw [best_all hR.1 hR.2.1 hR.2.2.1.1]
    exact this
  have hl : rliftF (va_up g 120 0) G (G 60) = rliftF g G (G 60) := rfl
  have hS0 : ∀ (d : Nat) (q : Int64), ev (d + 5) iX8_slackNow [.ref 88, .int 0] (hp (va_up g 120 0) G o q, c) = some (.inl (some (.int (slackF (g, G) 0))), (hp (va_up g 120 0) G o q, c)) := by
    intro d q
    have := e_slackNow (g := va_up g 120 0) (G := G) (o := o) (h := q) (c := c) d hT.2.2.1.1 hT.1.2.2.2.1 hT.1.2.2.1 false (firstF 20 10 (g, G) (rliftF g G (G 60))) (first_fst hR.1 _)
    rw [slack_eq0 hR.1 hR.2.1]
    exact this
  have hS1 : ∀ (d : Nat) (q : Int64), ev (d + 5) iX8_slackNow [.ref 88, .int 1] (hp (va_up g 120 0) G o q, c) = some (.inl (some (.int (slackF (g, G) 1))), (hp (va_up g 120 0) G o q, c)) := by
    intro d q
    have := e_slackNow (g := va_up g 120 0) (G := G) (o := o) (h := q) (c := c) d hT.2.2.1.1 hT.1.2.2.2.1 hT.1.2.2.1 true (lastF 20 10 (g, G) (rliftF g G (G 60))) (last_fst hR.1 _)
    rw [slack_eq1 hR.1 hR.2.1 (by decide)]
    exact this
  have e2 := e_digR (g := g) (G := G) (o := o) (c := c) 3 h hR.2.2.1.1 hR.1.2.2.2.1 ⟨N, n1, n3⟩ _ _ _ hB hS0 hS1
  rw [dig_eq hR.1 hR.2.1 hR.2.2.1.1 hR.2.2.2.1] at e1
  exact ⟨_, _, _, e1, e2, hT⟩
end
