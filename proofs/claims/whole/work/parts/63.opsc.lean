/-! saved states, what-if, buffer: class and reference -/
theorem cp_lt {f u : Nat → Int32} {n j : Nat} (h : j < n) : cp f u n j = f j := by
  unfold cp
  rw [if_pos h]
theorem cpy_r {so ao so2 ao2 : Nat} {X : yS} (k : Nat) (hk : k < 9) (j : Nat) (hj : j < rwl k) : (cpyF so ao so2 ao2 X).2 (ao + k) j = X.2 (ao2 + k) j := by
  unfold cpyF
  simp only
  match k, hk with
  | 0, _ =>
    rw [up_n _ _ _ _ (by omega), up_n _ _ _ _ (by omega), up_n _ _ _ _ (by omega), up_n _ _ _ _ (by omega), up_n _ _ _ _ (by omega), up_n _ _ _ _ (by omega), up_n _ _ _ _ (by omega), up_n _ _ _ _ (by omega), Nat.add_zero, up_e]
    exact cp_lt hj
  | 1, _ =>
    rw [up_n _ _ _ _ (by omega), up_n _ _ _ _ (by omega), up_n _ _ _ _ (by omega), up_n _ _ _ _ (by omega), up_n _ _ _ _ (by omega), up_n _ _ _ _ (by omega), up_n _ _ _ _ (by omega), up_e]
    exact cp_lt hj
  | 2, _ =>
    rw [up_n _ _ _ _ (by omega), up_n _ _ _ _ (by omega), up_n _ _ _ _ (by omega), up_n _ _ _ _ (by omega), up_n _ _ _ _ (by omega), up_n _ _ _ _ (by omega), up_e]
    exact cp_lt hj
  | 3, _ =>
    rw [up_n _ _ _ _ (by omega), up_n _ _ _ _ (by omega), up_n _ _ _ _ (by omega), up_n _ _ _ _ (by omega), up_n _ _ _ _ (by omega), up_e]
    exact cp_lt hj
  | 4, _ =>
    rw [up_n _ _ _ _ (by omega), up_n _ _ _ _ (by omega), up_n _ _ _ _ (by omega), up_n _ _ _ _ (by omega), up_e]
    exact cp_lt hj
  | 5, _ =>
    rw [up_n _ _ _ _ (by omega), up_n _ _ _ _ (by omega), up_n _ _ _ _ (by omega), up_e]
    exact cp_lt hj
  | 6, _ =>
    rw [up_n _ _ _ _ (by omega), up_n _ _ _ _ (by omega), up_e]
    exact cp_lt hj
  | 7, _ =>
    rw [up_n _ _ _ _ (by omega), up_e]
    exact cp_lt hj
  | 8, _ =>
    rw [up_e]
    exact cp_lt hj
/-- a copied state -/
theorem rs_cpy {so ao so2 ao2 : Nat} {X : yS} {z z' : Nat → Int32} (h : RS so2 ao2 X z) (hz : ∀ i, i < 142 → z' i = z i) : RS so ao (cpyF so ao so2 ao2 X) z' := rs_move h (fun k hk => cpy_g k hk) (fun k hk j hj => cpy_r k hk j hj) hz
theorem cpZ_in {t s : Nat → Int32} {a b n i : Nat} (h1 : a ≤ i) (h2 : i < a + n) : cpZ t s a b n i = s (b + (i - a)) := by
  unfold cpZ
  rw [if_pos ⟨h1, h2⟩]
theorem cpZ_out {t s : Nat → Int32} {a b n i : Nat} (h : i < a ∨ a + n ≤ i) : cpZ t s a b n i = t i := by
  unfold cpZ
  rw [if_neg (by omega)]
section
variable {g : Nat → Int32} {G : Nat → Nat → Int32} {o : Nat → Int64} {h : Int64} {c : Nat × Nat}
/-- the trial state has changed -/
theorem rel_tr (hR : Rel g G) {Y : yS} (hf : Fr 40 20 (g, G) Y) : Rel Y.1 Y.2 := by
  have h60 : Y.2 60 = G 60 := hf.2 60 (by omega)
  refine rel_of hR ?_ (fun k hk => hf.1 k (by omega)) (fun k hk => hf.2 k (by omega))
  rw [h60]
  exact rs_congr hR.1 (fun k hk => hf.1 _ (by omega)) (fun k hk => hf.2 _ (by omega)) (fun i _ => rfl)
theorem op_ifAdvanced (hR : Rel g G) (p x : Int32) : OpR iL_ifAdvanced iX8_ifAdvanced [.ref 0, .int p, .int x, .ref 102] [.ref 88, .int p, .int x] g G o h c := by
  have e1 := e_ifAdv (o := o) (h := h) (c := c) 0 (g, G) p x (rel_inv hR)
  have n1 : G 60 1 = g 21 := hR.1.1.2.1
  obtain ⟨C, hC, hC2, -⟩ := hR.1.2.1.1
  have hC3 : g 21 = nI C := n1.symm.trans hC2
  have hq : (p < 1 ∨ 600 < p ∨ x < 0 ∨ ¬ x < 12) ↔ (p < 1 ∨ 600 < p ∨ x < 0 ∨ 11 < x) := by
    rw [nlt (a := 11) (b := 12) rfl]
  by_cases q : p < 1 ∨ 600 < p ∨ x < 0 ∨ 11 < x
  · have e2 := e_ifAdvR (g := g) (G := G) (o := o) (h := h) (c := (c.1 + 1, c.2 + 6)) 4 p x hR.2.2.1.1 hR.1.2.2.2.1
    rw [if_pos (hq.mpr q)] at e1
    rw [if_pos q] at e2
    exact opr_t (Y := (g, G)) (wt_ifAdvanced_eIA 9 p x e1) e2 (by decide) (up_e _ _ _) (rel_t hR 1)
  rw [if_neg (fun w => q (hq.mp w))] at e1
  have h0 : ¬ p < 0 := fun w => q (Or.inl (by rw [lt_toInt] at w ⊢; have a1 : (0 : Int32).toInt = 0 := rfl; have a2 : (1 : Int32).toInt = 1 := rfl; omega))
  obtain ⟨m, hm, rfl⟩ := nI_of h0
  have hm6 : m ≤ 600 := by
    have h7 : ¬ 600 < m := fun w => q (Or.inr (Or.inl ((m_600 hm).mpr w)))
    omega
  have q2a : (99999 - (g, G).1 21 < nI m) ↔ 99999 < C + m := by
    show (99999 - g 21 < nI m) ↔ _
    rw [hC3]; exact adv_a hC (by omega)
  have q2b : (99999 < G 60 1 + nI m) ↔ 99999 < C + m := by rw [hC2]; exact adv_b hC (by omega)
  have hfc : Fr 40 20 (g, G) (cpyF 40 20 20 10 (g, G)) := fr_cpy
  by_cases q2 : 99999 < C + m
  · rw [if_pos (q2a.mpr q2)] at e1
    have hY := rel_tr hR hfc
    have e2 := e_ifAdvR (g := (cpyF 40 20 20 10 (g, G)).1) (G := (cpyF 40 20 20 10 (g, G)).2) (o := o) (h := h) (c := (c.1 + 1, c.2 + 6)) 4 (nI m) x hY.2.2.1.1 hY.1.2.2.2.1
    rw [if_neg q, if_pos (by rw [hfc.2 60 (by decide)]; exact q2b.mpr q2)] at e2
    exact opr_t (wt_ifAdvanced_eIS 9 (nI m) x e1) e2 (by decide) (up_e _ _ _) (rel_t hY 2)
  · rw [if_neg (fun w => q2 (q2a.mp w)), nI_clamp hm] at e1
    have hf : Fr 40 20 (g, G) (secs 40 20 m (cpyF 40 20 20 10 (g, G))) := fr_secs _ _ hfc
    have hY := rel_tr hR hf
    have e2 := fun o => e_ifAdvR (g := (secs 40 20 m (cpyF 40 20 20 10 (g, G))).1) (G := (secs 40 20 m (cpyF 40 20 20 10 (g, G))).2) (o := o) (h := h) (c := c) 4 (nI m) x hY.2.2.1.1 hY.1.2.2.2.1
    have h60 : (secs 40 20 m (cpyF 40 20 20 10 (g, G))).2 60 = G 60 := hf.2 60 (by decide)
    simp only [if_neg q, h60, if_neg (fun w => q2 (q2b.mp w)), nI_clamp hm] at e2
    have hfs : Fr 40 20 (cpyF 40 20 20 10 (g, G)) (secs 40 20 m (cpyF 40 20 20 10 (g, G))) := fr_secs _ _ fr_refl
    generalize hYY : secs 40 20 m (cpyF 40 20 20 10 (g, G)) = Y at *
    have hcp : PL (cpyF 40 20 20 10 (g, G)) Y.1 Y.2 := pl_cg hR.2.1 (fun k _ _ => hfc.1 k (by omega)) (fun k _ => hfc.2 k (by omega)) (fun k _ _ => hf.1 k (by omega)) (fun k _ _ => hf.2 k (by omega))
    have hS := rs_secs (g := Y.1) (G := Y.2) (so := 40) (ao := 20) (by decide) (by decide) hY.2.2.1 m (cpyF 40 20 20 10 (g, G)) (G 60) C (rs_cpy hR.1 (fun i _ => rfl)) hcp hC2 (by omega)
    rw [hYY] at hS
    have hv := num_eq hS (pl_fr hfs (by decide) (by decide) hcp) x
    refine opr_v (wv_ifAdvanced 9 (nI m) x e1) (e2 _) (up_e _ _ _) hv ?_
    refine rel_of hR ?_ (fun k hk => (up_n _ _ _ _ (by omega)).trans (hf.1 k (by omega))) (fun k hk => (up_n _ _ _ _ (by omega)).trans ((up_n _ _ _ _ (by omega)).trans (hf.2 k (by omega))))
    rw [up_e]
    refine rs_congr hR.1 (fun k hk => (up_n _ _ _ _ (by omega)).trans (hf.1 _ (by omega))) (fun k hk => (up_n _ _ _ _ (by omega)).trans ((up_n _ _ _ _ (by omega)).trans (hf.2 _ (by omega)))) (fun i hi => ?_)
    rw [cpZ_in (by omega) (by omega), cpZ_in (by omega) (by omega)]
    rw [show 0 + (0 + (i - 0) - 0) = i by omega]
theorem op_save (hR : Rel g G) (p : Int32) : OpR iL_save iX8_save [.ref 0, .int p, .ref 102] [.ref 88, .int p] g G o h c := by
  have e1 := e_save (o := o) (h := h) (c := c) 0 (g, G) p
  have hq : (p < 0 ∨ ¬ p < 3) ↔ (p < 0 ∨ 2 < p) := or_rng rfl
  by_cases q : p < 0 ∨ 2 < p
  · have e2 := e_saveR (g := g) (G := G) (o := o) (h := h) (c := (c.1 + 1, c.2 + 6)) 7 p
    rw [if_pos (hq.mpr q)] at e1
    rw [if_pos q] at e2
    exact opr_t (Y := (g, G)) (wt_save_eIX 9 p e1) e2 (by decide) (up_e _ _ _) (rel_t hR 1)
  · obtain ⟨j, hj, rfl⟩ := has_of (y := 3) (n := 3) (fun w => q (hq.mp w)) rfl (by decide)
    have hcj : (nI j).toNatClampNeg = j := nI_clamp (by omega)
    rw [if_neg (fun w => q (hq.mp w)), hcj] at e1
    have e2 := fun o => e_saveR (g := (savF j (g, G)).1) (G := (savF j (g, G)).2) (o := o) (h := h) (c := c) 7 (nI j)
    simp only [if_neg q, hcj] at e2
    have hfc : Fr (60 + 20 * j) (30 + 10 * j) (g, G) (cpyF (60 + 20 * j) (30 + 10 * j) 20 10 (g, G)) := fr_cpy
    have hg0 : ∀ k, ¬ k = 0 → (k < 60 + 20 * j ∨ 60 + 20 * j + 19 ≤ k) → (savF j (g, G)).1 k = g k := fun k h0 hk => (up_n _ _ _ _ h0).trans (hfc.1 k hk)
    have hG0 : ∀ k, (k < 30 + 10 * j ∨ 30 + 10 * j + 9 ≤ k) → (savF j (g, G)).2 k = G k := fun k hk => hfc.2 k hk
    have h60 : (savF j (g, G)).2 60 = G 60 := hG0 60 (by omega)
    have h62 : (savF j (g, G)).2 62 = G 62 := hG0 62 (by omega)
    have h63 : (savF j (g, G)).2 63 = G 63 := hG0 63 (by omega)
    simp only [h60, h62, h63] at e2
    have n1 : G 60 1 = g 21 := hR.1.1.2.1
    have hv : (savF j (g, G)).1 21 = G 60 1 := by rw [n1]; exact hg0 21 (by decide) (by omega)
    have hcp : RS (60 + 20 * j) (30 + 10 * j) (cpyF (60 + 20 * j) (30 + 10 * j) 20 10 (g, G)) (G 60) := rs_cpy hR.1 (fun i _ => rfl)
    have hs0 : (savF j (g, G)).1 0 = g 0 ||| 1 <<< (nI j &&& 31) := by
      have e : (savF j (g, G)).1 0 = (cpyF (60 + 20 * j) (30 + 10 * j) 20 10 (g, G)).1 0 ||| 1 <<< (nI j &&& 31) := by
        show va_up (cpyF (60 + 20 * j) (30 + 10 * j) 20 10 (g, G)).1 0 ((cpyF (60 + 20 * j) (30 + 10 * j) 20 10 (g, G)).1 0 ||| 1 <<< (nI j &&& 31)) 0 = _
        rw [up_e]
      rw [e, hfc.1 0 (by omega)]
    refine opr_v (wv_save 9 (nI j) e1) (e2 _) (up_e _ _ _) hv ?_
    have hg1 : ∀ k, k ≠ 120 → va_up (savF j (g, G)).1 120 0 k = (savF j (g, G)).1 k := fun k hk => up_n _ _ _ _ hk
    have hG1 : ∀ k, k ≠ 62 → k ≠ 63 → va_up (va_up (savF j (g, G)).2 63 (upd (G 63) j 1)) 62 (cpZ (G 62) (G 60) (142 * j) 0 142) k = (savF j (g, G)).2 k := fun k h1 h2 => (up_n _ _ _ _ h1).trans (up_n _ _ _ _ h2)
    have h62' : va_up (va_up (savF j (g, G)).2 63 (upd (G 63) j 1)) 62 (cpZ (G 62) (G 60) (142 * j) 0 142) 62 = cpZ (G 62) (G 60) (142 * j) 0 142 := up_e _ _ _
    have h63' : va_up (va_up (savF j (g, G)).2 63 (upd (G 63) j 1)) 62 (cpZ (G 62) (G 60) (142 * j) 0 142) 63 = upd (G 63) j 1 := by rw [up_n _ _ _ _ (by decide), up_e]
    have h60' : va_up (va_up (savF j (g, G)).2 63 (upd (G 63) j 1)) 62 (cpZ (G 62) (G 60) (142 * j) 0 142) 60 = G 60 := by rw [hG1 60 (by decide) (by decide), h60]
    obtain ⟨r1, r2, r3, r4, ⟨s, s1, s2, s3⟩, r6⟩ := hR
    refine ⟨?_, ?_, ?_, ?_, ⟨s ||| 2 ^ j, (vq_set s s1 j (by omega)).2.1, ?_, fun i hi => ?_⟩, fun i hi hs => ?_⟩
    · rw [h60']
      exact rs_congr r1 (fun k hk => (hg1 _ (by omega)).trans (hg0 _ (by omega) (by omega))) (fun k hk => (hG1 _ (by omega) (by omega)).trans (hG0 _ (by omega))) (fun i _ => rfl)
    · exact pl_cg r2 (fun k _ _ => (hg1 k (by omega)).trans (hg0 k (by omega) (by omega))) (fun k _ => (hG1 k (by omega) (by omega)).trans (hG0 k (by omega))) (fun k _ _ => (hg1 k (by omega)).trans (hg0 k (by omega) (by omega))) (fun k _ _ => (hG1 k (by omega) (by omega)).trans (hG0 k (by omega)))
    · exact pi_cg r3 (fun k _ _ => (hg1 k (by omega)).trans (hg0 k (by omega) (by omega))) (fun k _ _ => (hG1 k (by omega) (by omega)).trans (hG0 k (by omega)))
    · exact rb_congr r4 (fun k _ _ => (hg1 k (by omega)).trans (hg0 k (by omega) (by omega))) ((hG1 8 (by omega) (by omega)).trans (hG0 8 (by omega))) ((hg1 126 (by omega)).trans (hg0 126 (by omega) (by omega))) ((hG1 72 (by omega) (by omega)).trans (hG0 72 (by omega)))
    · rw [hg1 0 (by decide), hs0, s2]
      exact (vq_set s s1 j (by omega)).1
    · rw [h63', ud_at, (vq_set s s1 j (by omega)).2.2 i (by omega)]
      by_cases w : i = j
      · rw [if_pos w, if_pos w]
        exact ⟨fun u => absurd u (by decide), fun u => absurd u (by decide)⟩
      · rw [if_neg w, if_neg w]
        exact s3 i hi
    · rw [h63', ud_at] at hs
      rw [h62']
      by_cases w : i = j
      · subst w
        exact rs_move hcp (fun k hk => (hg1 _ (by omega)).trans (up_n _ _ _ _ (by omega))) (fun k hk u _ => congrFun (hG1 _ (by omega) (by omega)) u) (fun k hk => by rw [cpZ_in (by omega) (by omega)]; exact congrArg (G 60) (by omega))
      · rw [if_neg w] at hs
        exact rs_congr (r6 i hi hs) (fun k hk => (hg1 _ (by omega)).trans (hg0 _ (by omega) (by omega))) (fun k hk => (hG1 _ (by omega) (by omega)).trans (hG0 _ (by omega))) (fun k hk => cpZ_out (by omega))
theorem op_restore (hR : Rel g G) (p : Int32) : OpR iL_restore iX8_restore [.ref 0, .int p, .ref 102] [.ref 88, .int p] g G o h c := by
  have e1 := e_restore (o := o) (h := h) (c := c) 0 (g, G) p
  have hq : (p < 0 ∨ ¬ p < 3) ↔ (p < 0 ∨ 2 < p) := or_rng rfl
  by_cases q : p < 0 ∨ 2 < p
  · have e2 := e_restR (g := g) (G := G) (o := o) (h := h) (c := (c.1 + 1, c.2 + 6)) 7 p
    rw [if_pos (hq.mpr q)] at e1
    rw [if_pos q] at e2
    exact opr_t (Y := (g, G)) (wt_restore_eIX 9 p e1) e2 (by decide) (up_e _ _ _) (rel_t hR 1)
  obtain ⟨j, hj, rfl⟩ := has_of (y := 3) (n := 3) (fun w => q (hq.mp w)) rfl (by decide)
  have hcj : (nI j).toNatClampNeg = j := nI_clamp (by omega)
  rw [if_neg (fun w => q (hq.mp w)), hcj] at e1
  obtain ⟨s, s1, s2, s3⟩ := hR.2.2.2.2.1
  have hb : (((g, G).1 0 >>> (nI j &&& 31)) &&& 1 = 0) ↔ G 63 j = 0 := by
    show ((g 0 >>> (nI j &&& 31)) &&& 1 = 0) ↔ _
    rw [s2, vq_get s s1 j (by omega)]
    exact (s3 j hj).symm
  by_cases q2 : G 63 j = 0
  · have e2 := e_restR (g := g) (G := G) (o := o) (h := h) (c := (c.1 + 1, c.2 + 6)) 7 (nI j)
    rw [if_pos (hb.mpr q2)] at e1
    rw [if_neg q, hcj, if_pos q2] at e2
    exact opr_t (Y := (g, G)) (wt_restore_eIS 9 (nI j) e1) e2 (by decide) (up_e _ _ _) (rel_t hR 2)
  · rw [if_neg (fun w => q2 (hb.mp w))] at e1
    have hf : Fr 20 10 (g, G) (resF j (g, G)) := fr_cpy
    have h60 : (resF j (g, G)).2 60 = G 60 := hf.2 60 (by decide)
    have h62 : (resF j (g, G)).2 62 = G 62 := hf.2 62 (by decide)
    have h63 : (resF j (g, G)).2 63 = G 63 := hf.2 63 (by decide)
    have e2 := fun o => e_restR (g := (resF j (g, G)).1) (G := (resF j (g, G)).2) (o := o) (h := h) (c := c) 7 (nI j)
    simp only [if_neg q, hcj, h60, h62, h63, if_neg q2] at e2
    have hS : RS 20 10 (resF j (g, G)) (cpZ (G 60) (G 62) 0 (142 * j) 142) := rs_cpy (hR.2.2.2.2.2 j hj q2) (fun i hi => by rw [cpZ_in (by omega) (by omega)]; exact congrArg (G 62) (by omega))
    exact opr_v (wv_restore 9 (nI j) e1) (e2 _) (up_e _ _ _) hS.1.2.1.symm (rel_now hR hf hS 0)
theorem op_append (hR : Rel g G) (p : Int32) : OpR iL_append iX8_append [.ref 0, .int p, .ref 102] [.ref 88, .int p] g G o h c := by
  have e1 := e_append (o := o) (h := h) (c := c) 0 (g, G) p (rel_inv hR)
  obtain ⟨N, n1, n2, n3, n4⟩ := hR.2.2.2.1
  have n2' : g 6 = nI N := n2
  have l6 : g 6 = g 126 := n2.trans n3.symm
  by_cases q : p < 33 ∨ 126 < p
  · have e2 := e_appR (g := g) (G := G) (o := o) (h := h) (c := (c.1 + 1, c.2 + 6)) 8 p ⟨N, n1, n3⟩
    rw [if_pos q] at e1 e2
    exact opr_t (Y := (g, G)) (wt_append_eIA 9 p e1) e2 (by decide) (up_e _ _ _) (rel_t hR 1)
  rw [if_neg q] at e1
  have hq : (¬ (g, G).1 6 < 60) ↔ g 126 = 60 := by
    show (¬ g 6 < 60) ↔ _
    rw [n2', n3]
    have f := full_iff (N := 60) n1 (by decide)
    rw [show nI 60 = 60 from rfl] at f
    exact f
  by_cases q2 : g 126 = 60
  · have e2 := e_appR (g := g) (G := G) (o := o) (h := h) (c := (c.1 + 1, c.2 + 6)) 8 p ⟨N, n1, n3⟩
    rw [if_pos (hq.mpr q2)] at e1
    rw [if_neg q, if_pos q2] at e2
    exact opr_t (Y := (g, G)) (wt_append_eIS 9 p e1) e2 (by decide) (up_e _ _ _) (rel_t hR 2)
  · rw [if_neg (fun w => q2 (hq.mp w))] at e1
    have hb : ∀ k, k < 6 ∨ 9 < k → (bputF (g, G) p).1 k = g k := by
      intro k hk
      show va_up (rdF g p) 6 (g 6 + 1) k = g k
      rw [up_n _ _ _ _ (by omega)]
      unfold rdF
      split
      · rw [up_n _ _ _ _ (by omega), up_n _ _ _ _ (by omega), up_n _ _ _ _ (by omega)]
      · rw [up_n _ _ _ _ (by omega), up_n _ _ _ _ (by omega)]
    have hB : ∀ k, k ≠ 8 → (bputF (g, G) p).2 k = G k := fun k hk => up_n _ _ _ _ hk
    have e2 := fun o => e_appR (g := (bputF (g, G) p).1) (G := (bputF (g, G) p).2) (o := o) (h := h) (c := c) 8 p ⟨N, n1, (hb 126 (by omega)).trans n3⟩
    simp only [if_neg q, hb 126 (by omega), if_neg q2, hB 72 (by decide)] at e2
    have hg : ∀ k, k < 6 ∨ (9 < k ∧ k ≠ 120 ∧ k ≠ 126) → va_up (va_up (bputF (g, G) p).1 126 (g 126 + 1)) 120 0 k = g k := fun k hk => (up_n _ _ _ _ (by omega)).trans ((up_n _ _ _ _ (by omega)).trans (hb k (by omega)))
    have hG : ∀ k, k ≠ 8 → k ≠ 72 → va_up (bputF (g, G) p).2 72 (upd (G 72) (g 126).toNatClampNeg p) k = G k := fun k h1 h2 => (up_n _ _ _ _ h2).trans (hB k h1)
    have hv6 : (g, G).1 6 + 1 = g 126 + 1 := by show g 6 + 1 = g 126 + 1; rw [l6]
    refine opr_v (wv_append 9 p e1) (e2 _) (up_e _ _ _) hv6 ?_
    have hl : (g, G).1 6 < 60 := Decidable.byContradiction (fun w => q2 (hq.mp w))
    have hbuf : RB (bputF (g, G) p) (va_up (va_up (bputF (g, G) p).1 126 (g 126 + 1)) 120 0) (va_up (bputF (g, G) p).2 72 (upd (G 72) (g 126).toNatClampNeg p)) := rb_put hR.2.2.2.1 hl _ _ (by rw [up_n _ _ _ _ (by decide), up_e]) (up_e _ _ _)
    obtain ⟨r1, r2, r3, r4, r5⟩ := hR
    refine ⟨?_, ?_, ?_, ?_, ?_⟩
    · rw [hG 60 (by decide) (by decide)]
      exact rs_congr r1 (fun k hk => hg _ (by omega)) (fun k hk => hG _ (by omega) (by omega)) (fun i _ => rfl)
    · exact pl_cg r2 (fun k _ _ => hg k (by omega)) (fun k _ => hG k (by omega) (by omega)) (fun k _ _ => hg k (by omega)) (fun k _ _ => hG k (by omega) (by omega))
    · exact pi_cg r3 (fun k _ _ => hg k (by omega)) (fun k _ _ => hG k (by omega) (by omega))
    · exact rb_congr hbuf (fun k _ _ => (up_n _ _ _ _ (by omega)).trans (up_n _ _ _ _ (by omega))) (show va_up (bputF (g, G) p).2 72 (upd (G 72) (g 126).toNatClampNeg p) 8 = (bputF (g, G) p).2 8 from up_n _ _ _ _ (by decide)) (Eq.refl _) (Eq.refl _)
    · exact rq_cg r5 (hg 0 (by omega)) (fun k _ _ => hg k (by omega)) (fun k _ _ => hG k (by omega) (by omega)) (hG 62 (by decide) (by decide)) (hG 63 (by decide) (by decide))
theorem op_script (hR : Rel g G) : OpR iL_script iX8_script [.ref 0, .ref 102] [.ref 88] g G o h c := by
  have e1 := e_script (o := o) (h := h) (c := c) 0 (g, G) (rel_inv hR)
  obtain ⟨N, n1, n2, n3, n4, n5, n6, n7⟩ := hR.2.2.2.1
  have hz := hR.1.2.2.2.1
  have okE : ∀ g' : Nat → Int32, (rdR (G 72) 0 N (rd0 g')).1 = N ∧ ¬ (rdR (G 72) 0 N (rd0 g')).2 129 = 0 → ((cS (G 72) N).1 = 1 ∨ (cS (G 72) N).1 = 6) := by
    intro g' w
    rw [← n5]
    exact (rb_scr hR.2.2.2.1 g' n1 n3).mpr w
  have hok : ∀ g' : Nat → Int32, (rdR (G 72) 0 N (rd0 g')).1 = N ∧ ¬ (rdR (G 72) 0 N (rd0 g')).2 129 = 0 → okS (G 72) N 0 ∧ (∀ a, okS (G 72) N a → a < N → okA (G 72) N a) ∧ (∀ a, okS (G 72) N a → a < N → okS (G 72) N (fe (fun k => decide (G 72 k = 59)) a (N - a) + 1)) := by
    intro g' w
    have hs := okE g' w
    exact ⟨Or.inr ⟨Nat.zero_le _, rfl⟩, fun a ha hl => okS_okA (by omega) hs ha hl, fun a _ hl => okS_next (by omega) hs hl⟩
  by_cases q : (g, G).1 7 = 1 ∨ (g, G).1 7 = 6
  · rw [if_pos q] at e1
    have hs : (cS (G 72) N).1 = 1 ∨ (cS (G 72) N).1 = 6 := by rw [← n5]; exact q
    have hfS : Fr 20 10 (g, G) (scrF 60 0 (g, G)).2 := (scr_eq hR.2.2.1 n1 hs 60 N 0 (g, G) (G 60) hR.1 hR.2.1 n2 n4 (Or.inr ⟨Nat.zero_le _, rfl⟩) (by omega) (by omega)).2.2
    have hb : ∀ k, k < 6 ∨ 9 < k → bclrF (scrF 60 0 (g, G)).2.1 k = (scrF 60 0 (g, G)).2.1 k := fun k hk => by
      unfold bclrF
      rw [up_n _ _ _ _ (by omega), up_n _ _ _ _ (by omega), up_n _ _ _ _ (by omega), up_n _ _ _ _ (by omega)]
    have hb2 : ∀ k, k < 6 ∨ (9 < k ∧ k < 20) ∨ 39 ≤ k → bclrF (scrF 60 0 (g, G)).2.1 k = g k := fun k hk => (hb k (by omega)).trans (hfS.1 k (by omega))
    have hB2 : ∀ k, k < 10 ∨ 19 ≤ k → (scrF 60 0 (g, G)).2.2 k = G k := fun k hk => hfS.2 k (by omega)
    have h60 : (scrF 60 0 (g, G)).2.2 60 = G 60 := hB2 60 (by decide)
    have h72 : (scrF 60 0 (g, G)).2.2 72 = G 72 := hB2 72 (by decide)
    have hPI : PI (bclrF (scrF 60 0 (g, G)).2.1) (scrF 60 0 (g, G)).2.2 := pi_cg hR.2.2.1 (fun k _ _ => hb2 k (by omega)) (fun k _ _ => hB2 k (by omega))
    have e2 := fun o => e_scriptR (g := bclrF (scrF 60 0 (g, G)).2.1) (G := (scrF 60 0 (g, G)).2.2) (o := o) (h := h) (c := c) 1 N n1 ((hb2 126 (by omega)).trans n3) hPI.1 (by rw [h60]; exact hz) (okS (G 72) N) (by rw [h72]; exact hok _)
    have hcond := (rb_scr hR.2.2.2.1 (bclrF (scrF 60 0 (g, G)).2.1) n1 n3).mp q
    simp only [h60, h72, if_pos hcond] at e2
    have hfr : FrR (bclrF (scrF 60 0 (g, G)).2.1) (rdR (G 72) 0 N (rd0 (bclrF (scrF 60 0 (g, G)).2.1))).2 := frr_rd _ _ _ _ frr_0
    generalize hr : (rdR (G 72) 0 N (rd0 (bclrF (scrF 60 0 (g, G)).2.1))).2 = r at *
    have hr2 : ∀ k, k < 6 ∨ (9 < k ∧ k < 20) ∨ (39 ≤ k ∧ k < 127) → r k = g k := fun k hk => (hfr k (by omega)).trans (hb2 k (by omega))
    have hPL : PL (g, G) r (scrF 60 0 (g, G)).2.2 := pl_cg hR.2.1 (fun k _ _ => rfl) (fun k _ => rfl) (fun k _ _ => hr2 k (by omega)) (fun k _ _ => hB2 k (by omega))
    have hPI2 : PI r (scrF 60 0 (g, G)).2.2 := pi_cg hR.2.2.1 (fun k _ _ => hr2 k (by omega)) (fun k _ _ => hB2 k (by omega))
    obtain ⟨v1, hS, -⟩ := scr_eq (g := r) (G := (scrF 60 0 (g, G)).2.2) hPI2 n1 (by rw [h72]; exact hs) 60 N 0 (g, G) (G 60) hR.1 hPL n2 (by rw [h72]; exact n4) (by rw [h72]; exact Or.inr ⟨Nat.zero_le _, rfl⟩) (by omega) (by omega)
    refine opr_v (Y := (bclrF (scrF 60 0 (g, G)).2.1, (scrF 60 0 (g, G)).2.2)) (wv_script 9 e1) (e2 _) ?_ (by rw [v1]) ?_
    · rw [up_n _ _ _ _ (by decide), up_e]
    have hg : ∀ k, k < 6 ∨ (9 < k ∧ k < 20) ∨ (39 ≤ k ∧ k < 126 ∧ k ≠ 120) → va_up (va_up r 120 0) 126 0 k = g k := fun k hk => (up_n _ _ _ _ (by omega)).trans ((up_n _ _ _ _ (by omega)).trans (hr2 k (by omega)))
    have hG : ∀ k, k < 10 ∨ (19 ≤ k ∧ k ≠ 60) → va_up (scrF 60 0 (g, G)).2.2 60 (ralF r (scrF 60 0 (g, G)).2.2 N N 0 (G 60)).2 k = G k := fun k hk => (up_n _ _ _ _ (by omega)).trans (hB2 k (by omega))
    have hr3 : ∀ k, k < 127 → k ≠ 120 → k ≠ 126 → va_up (va_up r 120 0) 126 0 k = bclrF (scrF 60 0 (g, G)).2.1 k := fun k h1 h2 h3 => (up_n _ _ _ _ (by omega)).trans ((up_n _ _ _ _ (by omega)).trans (hfr k (by omega)))
    obtain ⟨r1, r2, r3, r4, r5⟩ := hR
    refine ⟨?_, ?_, ?_, ?_, ?_⟩
    · rw [up_e]
      exact rs_congr hS (fun k hk => (hr3 _ (by omega) (by omega) (by omega)).trans (hb _ (by omega))) (fun k hk => up_n _ _ _ _ (by omega)) (fun i _ => rfl)
    · exact pl_cg r2 (fun k _ _ => hg k (by omega)) (fun k _ => hG k (by omega)) (fun k _ _ => hg k (by omega)) (fun k _ _ => hG k (by omega))
    · exact pi_cg r3 (fun k _ _ => hg k (by omega)) (fun k _ _ => hG k (by omega))
    · have h1 : RB (bclrF (scrF 60 0 (g, G)).2.1, (scrF 60 0 (g, G)).2.2) (va_up (va_up r 120 0) 126 0) (va_up (scrF 60 0 (g, G)).2.2 60 (ralF r (scrF 60 0 (g, G)).2.2 N N 0 (G 60)).2) := rb_clr (X := (scrF 60 0 (g, G)).2) _ _ (up_e _ _ _)
      exact rb_congr h1 (fun k _ _ => hr3 k (by omega) (by omega) (by omega)) rfl rfl rfl
    · exact rq_cg r5 (hg 0 (by omega)) (fun k _ _ => hg k (by omega)) (fun k _ _ => hG k (by omega)) (hG 62 (by decide)) (hG 63 (by decide))
  · rw [if_neg q] at e1
    have e2 := e_scriptR (g := g) (G := G) (o := o) (h := h) (c := (c.1 + 1, c.2 + 6)) 1 N n1 n3 hR.2.2.1.1 hz (okS (G 72) N) (hok g)
    have hcond : ¬ ((rdR (G 72) 0 N (rd0 g)).1 = N ∧ ¬ (rdR (G 72) 0 N (rd0 g)).2 129 = 0) := fun w => q ((rb_scr hR.2.2.2.1 g n1 n3).mpr w)
    rw [if_neg hcond] at e2
    have hfr : FrR g (rdR (G 72) 0 N (rd0 g)).2 := frr_rd _ _ _ _ frr_0
    have hg : ∀ k, k < 120 ∨ (121 ≤ k ∧ k < 127) → va_up (rdR (G 72) 0 N (rd0 g)).2 120 1 k = g k := fun k hk => (up_n _ _ _ _ (by omega)).trans (hfr k (by omega))
    refine opr_t (Y := (g, G)) (wt_script_eIS 9 e1) e2 (by decide) (up_e _ _ _) (rel_of hR ?_ (fun k hk => hg k (by omega)) (fun k _ => rfl))
    exact rs_congr hR.1 (fun k hk => hg _ (by omega)) (fun k hk => rfl) (fun i _ => rfl)
end
