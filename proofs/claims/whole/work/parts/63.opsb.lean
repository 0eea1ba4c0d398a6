/-! commands, class and reference -/
section
variable {g : Nat → Int32} {G : Nat → Nat → Int32} {o : Nat → Int64} {h : Int64} {c : Nat × Nat}
theorem op_command (hR : Rel g G) (p : Int32) : OpR iL_command iX8_command [.ref 0, .int p, .ref 102] [.ref 88, .int p] g G o h c := by
  have e1 := e_command (o := o) (h := h) (c := c) 0 (g, G) p (rel_inv hR)
  have hz := hR.1.2.2.2.1
  have hP := hR.2.2.1.1
  have e2 := fun o c => e_cmdR (g := g) (G := G) (o := o) (h := h) (c := c) 5 p (G 60) hP hz
  simp only [up_self] at e2
  by_cases q : p < 0 ∨ 3 < p
  · rw [if_pos q] at e1
    simp only [if_pos q] at e2
    exact opr_t (Y := (g, G)) (wt_command_eIA 9 p e1) (e2 _ _) (by decide) (up_e _ _ _) (rel_t hR 1)
  have hk : p = 0 ∨ p = 1 ∨ p = 2 ∨ p = 3 := rng4 (fun w => q ((or_rng (a := 3) rfl).mp w))
  rw [if_neg q] at e1
  simp only [if_neg q] at e2
  cases ha : allowF 20 10 (g, G) p
  · have hm : ¬ mayB g G (G 60) p = true := by rw [← may_eq hR.1 hR.2.1 hP hk, ha]; decide
    rw [if_neg (by rw [ha]; decide)] at e1
    simp only [if_neg hm] at e2
    exact opr_t (Y := (g, G)) (wt_command_eIS 9 p e1) (e2 _ _) (by decide) (up_e _ _ _) (rel_t hR 2)
  · rw [if_pos ha] at e1
    have hf : Fr 20 10 (g, G) (obeyF 20 10 (g, G) p) := fr_obey fr_refl p
    obtain ⟨f1, f2, f3⟩ := ref_fr hR hf
    have e3 := e_cmdR (g := (obeyF 20 10 (g, G) p).1) (G := (obeyF 20 10 (g, G) p).2) (o := vp_updL o 0 ((obeyF 20 10 (g, G) p).1 20).toInt64) (h := h) (c := c) 5 p (G 60) f2.1 hz
    rw [if_neg q, if_pos (by rw [← may_eq hR.1 f1 f2.1 hk]; exact ha)] at e3
    have hu : va_up (obeyF 20 10 (g, G) p).2 60 (G 60) = (obeyF 20 10 (g, G) p).2 := by rw [← f3, up_self]
    rw [hu] at e3
    have hS := rs_obey hR.1 hk ha
    exact opr_v (wv_command 9 p e1) e3 (up_e _ _ _) hS.1.1.symm (rel_now hR hf hS 0)
theorem op_recycle (hR : Rel g G) (p : Int32) : OpR iL_recycle iX8_recycle [.ref 0, .int p, .ref 102] [.ref 88, .int p] g G o h c := by
  have e1 := e_recycle (o := o) (h := h) (c := c) 0 (g, G) p (rel_inv hR)
  have hz := hR.1.2.2.2.1
  have hP := hR.2.2.1.1
  have e2 := fun o c => e_recR (g := g) (G := G) (o := o) (h := h) (c := c) 6 p (G 60) hP hz
  simp only [up_self] at e2
  have l4 : g 4 = g 124 := hR.2.1.2.2.2.1
  by_cases q : p < 0 ∨ ¬ p < g 124
  · rw [if_pos (by show p < 0 ∨ ¬ p < g 4; rw [l4]; exact q)] at e1
    simp only [if_pos q] at e2
    exact opr_t (Y := (g, G)) (wt_recycle_eIX 9 p e1) (e2 _ _) (by decide) (up_e _ _ _) (rel_t hR 1)
  rw [if_neg (by show ¬ (p < 0 ∨ ¬ p < g 4); rw [l4]; exact q)] at e1
  simp only [if_neg q] at e2
  cases ha : allowR 20 (g, G) p
  · have hm : rmayR G (G 60) p = false := by rw [← mayR_eq hR.1 hR.2.1, ha]
    rw [if_pos ha] at e1
    simp only [if_pos hm] at e2
    exact opr_t (Y := (g, G)) (wt_recycle_eIS 9 p e1) (e2 _ _) (by decide) (up_e _ _ _) (rel_t hR 2)
  · rw [if_neg (by rw [ha]; decide)] at e1
    have hf : Fr 20 10 (g, G) (backF 20 10 (g, G) p) := fr_back fr_refl p
    obtain ⟨f1, f2, f3⟩ := ref_fr hR hf
    have e3 := e_recR (g := (backF 20 10 (g, G) p).1) (G := (backF 20 10 (g, G) p).2) (o := vp_updL o 0 (g 22).toInt64) (h := h) (c := c) 6 p (G 60) f2.1 hz
    have q' : ¬ (p < 0 ∨ ¬ p < (backF 20 10 (g, G) p).1 124) := by rw [hf.1 124 (by decide)]; exact q
    rw [if_neg q', if_neg (by rw [← mayR_eq hR.1 f1, ha]; decide)] at e3
    have hu : va_up (backF 20 10 (g, G) p).2 60 (G 60) = (backF 20 10 (g, G) p).2 := by rw [← f3, up_self]
    rw [hu] at e3
    have hS := rs_back hR.1 f1 p ha
    have n2 : G 60 2 = g 22 := hR.1.1.2.2.1
    exact opr_v (wv_recycle 9 p e1) e3 (up_e _ _ _) n2.symm (rel_now hR hf hS 0)
theorem op_advance (hR : Rel g G) (p : Int32) : OpR iL_advance iX8_advance [.ref 0, .int p, .ref 102] [.ref 88, .int p] g G o h c := by
  have e1 := e_advance (o := o) (h := h) (c := c) 0 (g, G) p (rel_inv hR)
  have hz := hR.1.2.2.2.1
  have hP := hR.2.2.1.1
  have e2 := fun o c => e_advR (g := g) (G := G) (o := o) (h := h) (c := c) 4 p (G 60) hP hz
  simp only [up_self] at e2
  have n1 : G 60 1 = g 21 := hR.1.1.2.1
  obtain ⟨C, hC, hC2, -⟩ := hR.1.2.1.1
  have hC3 : g 21 = nI C := n1.symm.trans hC2
  by_cases q : p < 1 ∨ 600 < p
  · rw [if_pos q] at e1
    simp only [if_pos q] at e2
    exact opr_t (Y := (g, G)) (wt_advance_eIA 9 p e1) (e2 _ _) (by decide) (up_e _ _ _) (rel_t hR 1)
  rw [if_neg q] at e1
  simp only [if_neg q] at e2
  have h0 : ¬ p < 0 := fun w => q (Or.inl (by rw [lt_toInt] at w ⊢; have a1 : (0 : Int32).toInt = 0 := rfl; have a2 : (1 : Int32).toInt = 1 := rfl; omega))
  obtain ⟨m, hm, rfl⟩ := nI_of h0
  have hm6 : m ≤ 600 := by
    have h7 : ¬ 600 < m := fun w => q (Or.inr ((m_600 hm).mpr w))
    omega
  have q2a : (99999 - (g, G).1 21 < nI m) ↔ 99999 < C + m := by
    show (99999 - g 21 < nI m) ↔ _
    rw [hC3]; exact adv_a hC (by omega)
  have q2b : (99999 < G 60 1 + nI m) ↔ 99999 < C + m := by rw [hC2]; exact adv_b hC (by omega)
  by_cases q2 : 99999 < C + m
  · rw [if_pos (q2a.mpr q2)] at e1
    simp only [if_pos (q2b.mpr q2)] at e2
    exact opr_t (Y := (g, G)) (wt_advance_eIS 9 (nI m) e1) (e2 _ _) (by decide) (up_e _ _ _) (rel_t hR 2)
  · rw [if_neg (fun w => q2 (q2a.mp w)), nI_clamp hm] at e1
    have hf : Fr 20 10 (g, G) (secs 20 10 m (g, G)) := fr_secs _ _ fr_refl
    obtain ⟨f1, f2, f3⟩ := ref_fr hR hf
    have e3 := e_advR (g := (secs 20 10 m (g, G)).1) (G := (secs 20 10 m (g, G)).2) (o := vp_updL o 0 ((secs 20 10 m (g, G)).1 20).toInt64) (h := h) (c := c) 4 (nI m) (G 60) f2.1 hz
    rw [if_neg q, if_neg (fun w => q2 (q2b.mp w)), nI_clamp hm] at e3
    have hu : va_up (secs 20 10 m (g, G)).2 60 (G 60) = (secs 20 10 m (g, G)).2 := by rw [← f3, up_self]
    rw [hu] at e3
    have hS := rs_secs (by decide) (by decide) f2 m (g, G) (G 60) C hR.1 f1 hC2 (by omega)
    exact opr_v (wv_advance 9 (nI m) e1) e3 (up_e _ _ _) hS.1.1.symm (rel_now hR hf hS 0)
theorem op_run (hR : Rel g G) : OpR iL_run iX8_run [.ref 0, .ref 102] [.ref 88] g G o h c := by
  have e1 := e_run (o := o) (h := h) (c := c) 0 (g, G) (rel_inv hR)
  have hz := hR.1.2.2.2.1
  have hP := hR.2.2.1.1
  have e2 := fun o c => e_runR (g := g) (G := G) (o := o) (h := h) (c := c) 4 (G 60) hP hz
  simp only [up_self] at e2
  have n0 : G 60 0 = g 20 := hR.1.1.1
  have n1 : G 60 1 = g 21 := hR.1.1.2.1
  obtain ⟨C, hC, hC2, -⟩ := hR.1.2.1.1
  have hC3 : g 21 = nI C := n1.symm.trans hC2
  have q2a : (99999 - g 21 < 600) ↔ 99999 < C + 600 := by
    rw [hC3]; exact adv_a (m := 600) hC (by omega)
  have q2b : (99999 < G 60 1 + 600) ↔ 99999 < C + 600 := by rw [hC2]; exact adv_b (m := 600) hC (by omega)
  have hq : ((g, G).1 20 < 1 ∨ 3 < (g, G).1 20 ∨ 99999 - (g, G).1 21 < 600) ↔ (G 60 0 < 1 ∨ 3 < G 60 0 ∨ 99999 < G 60 1 + 600) := by
    show (g 20 < 1 ∨ 3 < g 20 ∨ 99999 - g 21 < 600) ↔ _
    rw [q2a, q2b, n0]
  by_cases q : G 60 0 < 1 ∨ 3 < G 60 0 ∨ 99999 < G 60 1 + 600
  · rw [if_pos (hq.mpr q)] at e1
    simp only [if_pos q] at e2
    exact opr_t (Y := (g, G)) (wt_run_eIS 9 e1) (e2 _ _) (by decide) (up_e _ _ _) (rel_t hR 1)
  · rw [if_neg (fun w => q (hq.mp w))] at e1
    have hle : C + 600 ≤ 99999 := by
      have h7 : ¬ 99999 < C + 600 := fun w => q (Or.inr (Or.inr (q2b.mpr w)))
      omega
    obtain ⟨-, -, hf0⟩ := rs_run hR.2.2.1 (g 20) (G 60 12) 600 0 (g, G) (G 60) C hR.1 hR.2.1 hC2 hle ⟨fun _ => rfl, fun _ => rfl⟩
    have hf : Fr 20 10 (g, G) (runF (g 20) 600 0 (g, G)).2 := hf0
    obtain ⟨f1, f2, f3⟩ := ref_fr hR hf
    obtain ⟨v1, hS, -⟩ := rs_run f2 (g 20) (G 60 12) 600 0 (g, G) (G 60) C hR.1 f1 hC2 hle ⟨fun _ => rfl, fun _ => rfl⟩
    have e3 := e_runR (g := (runF (g 20) 600 0 (g, G)).2.1) (G := (runF (g 20) 600 0 (g, G)).2.2) (o := vp_updL o 0 (nI (runF (g 20) 600 0 (g, G)).1).toInt64) (h := h) (c := c) 4 (G 60) f2.1 hz
    rw [if_neg q, n0] at e3
    have hu : va_up (runF (g 20) 600 0 (g, G)).2.2 60 (G 60) = (runF (g 20) 600 0 (g, G)).2.2 := by rw [← f3, up_self]
    rw [hu] at e3
    exact opr_v (wv_run 9 e1) e3 (up_e _ _ _) (by rw [v1]) (rel_now hR hf hS 0)
theorem op_setLimits (hR : Rel g G) (p x : Int32) : OpR iL_setLimits iX8_setLimits [.ref 0, .int p, .int x, .ref 102] [.ref 88, .int p, .int x] g G o h c := by
  have e1 := e_setLimits (o := o) (h := h) (c := c) 0 (g, G) p x
  by_cases q : p < 0 ∨ 9999 < p ∨ x < 0 ∨ 9 < x
  · have e2 := e_setR (g := g) (G := G) (o := o) (h := h) (c := (c.1 + 1, c.2 + 6)) 8 p x
    rw [if_pos q] at e1 e2
    exact opr_t (Y := (g, G)) (wt_setLimits_eIA 9 p x e1) e2 (by decide) (up_e _ _ _) (rel_t hR 1)
  · have hf : Fr 20 10 (g, G) (va_up (va_up g 30 p) 31 x, G) := fr_up (fr_up fr_refl 10 (by decide) p) 11 (by decide) x
    have e2 := e_setR (g := va_up (va_up g 30 p) 31 x) (G := G) (o := vp_updL o 0 (g 30).toInt64) (h := h) (c := c) 8 p x
    rw [if_neg q] at e1 e2
    have n6 : G 60 6 = g 30 := hR.1.1.2.2.2.2.2.2.1
    have hx : ∃ m, m ≤ 9 ∧ x = nI m := by
      obtain ⟨m, hm, rfl⟩ := nI_of (x := x) (fun w => q (Or.inr (Or.inr (Or.inl w))))
      refine ⟨m, ?_, rfl⟩
      have h7 : ¬ 9 < m := fun w => q (Or.inr (Or.inr (Or.inr ((nI_ltI (a := 9) (by decide) hm).mpr w))))
      omega
    have hS := rs_lim hR.1 p x hx
    exact opr_v (Y := (va_up (va_up g 30 p) 31 x, G)) (wv_setLimits 9 p x e1) e2 (up_e _ _ _) n6.symm (rel_now hR hf hS 0)
theorem op_vote (hR : Rel g G) (k v x : Int32) : OpR iL_vote iX8_vote [.ref 0, .int k, .int v, .int x, .ref 102] [.ref 88, .int k, .int v, .int x] g G o h c := by
  have e1 := e_vote (o := o) (h := h) (c := c) 0 (g, G) k v x (rel_inv hR)
  have l5 : g 5 = g 125 := hR.2.1.2.2.2.2.1
  have hq : ((k < 0 ∨ ¬ k < (g, G).1 5) ∨ (v < 0 ∨ ¬ v < 5)) ↔ ((k < 0 ∨ ¬ k < g 125) ∨ (v < 0 ∨ 4 < v)) := by
    show ((k < 0 ∨ ¬ k < g 5) ∨ (v < 0 ∨ ¬ v < 5)) ↔ _
    rw [l5, lt5_4]
  by_cases q : (k < 0 ∨ ¬ k < g 125) ∨ (v < 0 ∨ 4 < v)
  · have e2 := e_voteR (g := g) (G := G) (o := o) (h := h) (c := (c.1 + 1, c.2 + 6)) 7 k v x hR.2.2.1.1
    rw [if_pos (hq.mpr q)] at e1
    rw [if_pos q] at e2
    exact opr_t (Y := (g, G)) (wt_vote_eIX 9 k v x e1) e2 (by decide) (up_e _ _ _) (rel_t hR 1)
  rw [if_neg (fun w => q (hq.mp w))] at e1
  by_cases q2 : x < 0 ∨ 2 < x
  · have e2 := e_voteR (g := g) (G := G) (o := o) (h := h) (c := (c.1 + 1, c.2 + 6)) 7 k v x hR.2.2.1.1
    rw [if_pos q2] at e1
    rw [if_neg q, if_pos q2] at e2
    exact opr_t (Y := (g, G)) (wt_vote_eIA 9 k v x e1) e2 (by decide) (up_e _ _ _) (rel_t hR 2)
  · rw [if_neg q2] at e1
    obtain ⟨n, n1, n2⟩ := hR.2.2.1.1.2.2.2.1
    obtain ⟨K, K1, rfl⟩ := has_of (fun w => q (Or.inl w)) n2 (by omega)
    obtain ⟨V, V1, rfl⟩ := le4_lt5 (v := v) (fun w => q (Or.inr (Or.inl w))) (fun w => q (Or.inr (Or.inr w)))
    have hf : Fr 20 10 (g, G) (vputF (g, G) (nI K) (nI V) x) := fr_vput fr_refl _ _ _
    obtain ⟨f1, f2, f3⟩ := ref_fr hR hf
    have e3 := fun o => e_voteR (g := (vputF (g, G) (nI K) (nI V) x).1) (G := (vputF (g, G) (nI K) (nI V) x).2) (o := o) (h := h) (c := c) 7 (nI K) (nI V) x f2.1
    have q' : ¬ ((nI K < 0 ∨ ¬ nI K < (vputF (g, G) (nI K) (nI V) x).1 125) ∨ (nI V < 0 ∨ 4 < nI V)) := q
    simp only [if_neg q', if_neg q2, f3, nI_clamp (show K < 2 ^ 31 by omega), nI_clamp (show V < 2 ^ 31 by omega)] at e3
    have hS := rs_vput hR.1 (C := K) (V := V) (x := x) (by omega) V1 (vote_rng q2)
    have hv := vote_get (X := (g, G)) hR.1.2.2.2.2.2.1 (C := K) (V := V) (by omega) V1
    refine opr_v (wv_vote 9 (nI K) (nI V) x e1) (e3 _) (up_e _ _ _) ?_ (rel_now hR hf hS 0)
    rw [nI_clamp (show K < 2 ^ 31 by omega)]
    exact hv
end
