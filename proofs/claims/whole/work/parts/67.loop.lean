/-! the law's loop; written by wip/whole/gen_law.py -/
theorem b01 {P : Prop} (hd : Decidable P) : (if P then (0 : Int32) else 1) = 0 ∨ (if P then (0 : Int32) else 1) = 1 := by
  by_cases q : P
  · left; exact if_pos q
  · right; exact if_neg q
theorem law_step {L : Nat} {xs : Nat → Int32} {a : Int32} {g : Nat → Int32} {G : Nat → Nat → Int32} {o : Nat → Int64} {h : Int64} {c : Nat × Nat} (hR : Rel g G) (hs1 : ixb (a + 1) (L + 1 - 1) = true) (hs2 : ixb (a + 2) (L + 1 - 1) = true) (hs3 : ixb (a + 3) (L + 1 - 1) = true) (l5 l6 l7 l8 : Option Value) (x : Int32) : ∃ (g' : Nat → Int32) (G' : Nat → Nat → Int32) (o' : Nat → Int64) (h' : Int64) (c' : Nat × Nat) (m5 m6 m7 m8 : Option Value), Rel g' G' ∧ c'.1 ≤ c.1 + 1 ∧ c'.2 ≤ c.2 + 6 ∧ rx (L + 1, xs) 10 iL_law 39 (LV a l5 l6 l7 l8) [.int x] (hp g G o h, c) = rx (L + 1, xs) 10 iL_law 1811 (LV a m5 m6 m7 m8) [] (hp g' G' o' h', c') := by
  rw [s_L_law_39]
  by_cases e0 : x = 0
  · rw [if_pos e0]
    obtain ⟨k, b, g1, G1, o1, c1, g2, G2, hA, hB, hk, hv, hR2, u1, u2⟩ := op_begin (o := o) (h := h) (c := c) hR (xs (a + 1).toNatClampNeg)
    exact ⟨g2, G2, o1, h, c1, _, _, l7, l8, hR2, u1, u2, q_begin hs1 hA hB hk hv⟩
  rw [if_neg e0]
  by_cases e1 : x = 1
  · rw [if_pos e1]
    obtain ⟨k, b, g1, G1, o1, c1, g2, G2, hA, hB, hk, hv, hR2, u1, u2⟩ := op_addEvent (o := o) (h := h) (c := c) hR (xs (a + 1).toNatClampNeg) (xs (a + 2).toNatClampNeg)
    exact ⟨g2, G2, o1, h, c1, _, _, l7, l8, hR2, u1, u2, q_addEvent hs1 hs2 hA hB hk hv⟩
  rw [if_neg e1]
  by_cases e2 : x = 2
  · rw [if_pos e2]
    obtain ⟨k, b, g1, G1, o1, c1, g2, G2, hA, hB, hk, hv, hR2, u1, u2⟩ := op_addHold (o := o) (h := h) (c := c) hR (xs (a + 1).toNatClampNeg) (xs (a + 2).toNatClampNeg)
    exact ⟨g2, G2, o1, h, c1, _, _, l7, l8, hR2, u1, u2, q_addHold hs1 hs2 hA hB hk hv⟩
  rw [if_neg e2]
  by_cases e3 : x = 3
  · rw [if_pos e3]
    obtain ⟨k, b, g1, G1, o1, c1, g2, G2, hA, hB, hk, hv, hR2, u1, u2⟩ := op_addPoint (o := o) (h := h) (c := c) hR (xs (a + 1).toNatClampNeg)
    exact ⟨g2, G2, o1, h, c1, _, _, l7, l8, hR2, u1, u2, q_addPoint hs1 hA hB hk hv⟩
  rw [if_neg e3]
  by_cases e4 : x = 4
  · rw [if_pos e4]
    obtain ⟨k, b, g1, G1, o1, c1, g2, G2, hA, hB, hk, hv, hR2, u1, u2⟩ := op_addConstraint (o := o) (h := h) (c := c) hR (xs (a + 1).toNatClampNeg) (xs (a + 2).toNatClampNeg) (xs (a + 3).toNatClampNeg)
    exact ⟨g2, G2, o1, h, c1, _, _, l7, l8, hR2, u1, u2, q_addConstraint hs1 hs2 hs3 hA hB hk hv⟩
  rw [if_neg e4]
  by_cases e5 : x = 5
  · rw [if_pos e5]
    obtain ⟨k, b, g1, G1, o1, c1, g2, G2, hA, hB, hk, hv, hR2, u1, u2⟩ := op_addSpan (o := o) (h := h) (c := c) hR (xs (a + 1).toNatClampNeg) (xs (a + 2).toNatClampNeg) (if xs (a + 3).toNatClampNeg = 0 then 0 else 1)
    exact ⟨g2, G2, o1, h, c1, _, _, l7, l8, hR2, u1, u2, q_addSpan hs1 hs2 hs3 hA hB hk hv⟩
  rw [if_neg e5]
  by_cases e6 : x = 6
  · rw [if_pos e6]
    obtain ⟨k, b, g1, G1, o1, c1, g2, G2, hA, hB, hk, hv, hR2, u1, u2⟩ := op_setLimits (o := o) (h := h) (c := c) hR (xs (a + 1).toNatClampNeg) (xs (a + 2).toNatClampNeg)
    exact ⟨g2, G2, o1, h, c1, _, _, l7, l8, hR2, u1, u2, q_setLimits hs1 hs2 hA hB hk hv⟩
  rw [if_neg e6]
  by_cases e7 : x = 7
  · rw [if_pos e7]
    obtain ⟨k, b, g1, G1, o1, c1, g2, G2, hA, hB, hk, hv, hR2, u1, u2⟩ := op_vote (o := o) (h := h) (c := c) hR (xs (a + 1).toNatClampNeg) (xs (a + 2).toNatClampNeg) (xs (a + 3).toNatClampNeg)
    exact ⟨g2, G2, o1, h, c1, _, _, l7, l8, hR2, u1, u2, q_vote hs1 hs2 hs3 hA hB hk hv⟩
  rw [if_neg e7]
  by_cases e8 : x = 8
  · rw [if_pos e8]
    obtain ⟨k, b, g1, G1, o1, c1, g2, G2, hA, hB, hk, hv, hR2, u1, u2⟩ := op_command (o := o) (h := h) (c := c) hR (xs (a + 1).toNatClampNeg)
    exact ⟨g2, G2, o1, h, c1, _, _, l7, l8, hR2, u1, u2, q_command hs1 hA hB hk hv⟩
  rw [if_neg e8]
  by_cases e9 : x = 9
  · rw [if_pos e9]
    obtain ⟨k, b, g1, G1, o1, c1, g2, G2, hA, hB, hk, hv, hR2, u1, u2⟩ := op_recycle (o := o) (h := h) (c := c) hR (xs (a + 1).toNatClampNeg)
    exact ⟨g2, G2, o1, h, c1, _, _, l7, l8, hR2, u1, u2, q_recycle hs1 hA hB hk hv⟩
  rw [if_neg e9]
  by_cases e10 : x = 10
  · rw [if_pos e10]
    obtain ⟨k, b, g1, G1, o1, c1, g2, G2, hA, hB, hk, hv, hR2, u1, u2⟩ := op_advance (o := o) (h := h) (c := c) hR (xs (a + 1).toNatClampNeg)
    exact ⟨g2, G2, o1, h, c1, _, _, l7, l8, hR2, u1, u2, q_advance hs1 hA hB hk hv⟩
  rw [if_neg e10]
  by_cases e11 : x = 11
  · rw [if_pos e11]
    obtain ⟨k, b, g1, G1, o1, c1, g2, G2, hA, hB, hk, hv, hR2, u1, u2⟩ := op_run (o := o) (h := h) (c := c) hR
    exact ⟨g2, G2, o1, h, c1, _, _, l7, l8, hR2, u1, u2, q_run hA hB hk hv⟩
  rw [if_neg e11]
  by_cases e12 : x = 12
  · rw [if_pos e12]
    obtain ⟨k, b, g1, G1, o1, c1, g2, G2, hA, hB, hk, hv, hR2, u1, u2⟩ := op_save (o := o) (h := h) (c := c) hR (xs (a + 1).toNatClampNeg)
    exact ⟨g2, G2, o1, h, c1, _, _, l7, l8, hR2, u1, u2, q_save hs1 hA hB hk hv⟩
  rw [if_neg e12]
  by_cases e13 : x = 13
  · rw [if_pos e13]
    obtain ⟨k, b, g1, G1, o1, c1, g2, G2, hA, hB, hk, hv, hR2, u1, u2⟩ := op_restore (o := o) (h := h) (c := c) hR (xs (a + 1).toNatClampNeg)
    exact ⟨g2, G2, o1, h, c1, _, _, l7, l8, hR2, u1, u2, q_restore hs1 hA hB hk hv⟩
  rw [if_neg e13]
  by_cases e14 : x = 14
  · rw [if_pos e14]
    obtain ⟨k, b, g1, G1, o1, c1, g2, G2, hA, hB, hk, hv, hR2, u1, u2⟩ := op_append (o := o) (h := h) (c := c) hR (xs (a + 1).toNatClampNeg)
    exact ⟨g2, G2, o1, h, c1, _, _, l7, l8, hR2, u1, u2, q_append hs1 hA hB hk hv⟩
  rw [if_neg e14]
  by_cases e15 : x = 15
  · rw [if_pos e15]
    obtain ⟨b, g1, G1, g2, G2, hA, hB, hR2⟩ := op_clear (o := o) (h := h) (c := c) hR
    exact ⟨g2, G2, o, h, c, _, _, _, _, hR2, by omega, by omega, q_clearBuffer hA hB⟩
  rw [if_neg e15]
  by_cases e16 : x = 16
  · rw [if_pos e16]
    obtain ⟨b, g1, G1, g2, G2, hA, hB, hR2⟩ := op_first (o := o) (h := h) (c := c) hR
    exact ⟨g2, G2, o, h, c, _, _, _, _, hR2, by omega, by omega, q_firstError hA hB⟩
  rw [if_neg e16]
  by_cases e17 : x = 17
  · rw [if_pos e17]
    obtain ⟨k, b, g1, G1, o1, c1, g2, G2, hA, hB, hk, hv, hR2, u1, u2⟩ := op_script (o := o) (h := h) (c := c) hR
    exact ⟨g2, G2, o1, h, c1, _, _, l7, l8, hR2, u1, u2, q_script hA hB hk hv⟩
  rw [if_neg e17]
  by_cases e18 : x = 18
  · rw [if_pos e18]
    obtain ⟨k, b, g1, G1, o1, c1, g2, G2, hA, hB, hk, hv, hR2, u1, u2⟩ := op_status (o := o) (h := h) (c := c) hR (xs (a + 1).toNatClampNeg)
    exact ⟨g2, G2, o1, h, c1, _, _, l7, l8, hR2, u1, u2, q_status hs1 hA hB hk hv⟩
  rw [if_neg e18]
  by_cases e19 : x = 19
  · rw [if_pos e19]
    obtain ⟨k, b, g1, G1, o1, c1, g2, G2, hA, hB, hk, hv, hR2, u1, u2⟩ := op_items (o := o) (h := h) (c := c) hR (xs (a + 1).toNatClampNeg)
    exact ⟨g2, G2, o1, h, c1, _, _, l7, l8, hR2, u1, u2, q_items hs1 hA hB hk hv⟩
  rw [if_neg e19]
  by_cases e20 : x = 20
  · rw [if_pos e20]
    obtain ⟨k, b, g1, G1, o1, c1, g2, G2, hA, hB, hk, hv, hR2, u1, u2⟩ := op_constraint (o := o) (h := h) (c := c) hR (xs (a + 1).toNatClampNeg) (xs (a + 2).toNatClampNeg)
    exact ⟨g2, G2, o1, h, c1, _, _, l7, l8, hR2, u1, u2, q_constraint hs1 hs2 hA hB hk hv⟩
  rw [if_neg e20]
  by_cases e21 : x = 21
  · rw [if_pos e21]
    obtain ⟨k, b, g1, G1, o1, c1, g2, G2, hA, hB, hk, hv, hR2, u1, u2⟩ := op_expected (o := o) (h := h) (c := c) hR (xs (a + 1).toNatClampNeg)
    exact ⟨g2, G2, o1, h, c1, _, _, l7, l8, hR2, u1, u2, q_expected hs1 hA hB hk hv⟩
  rw [if_neg e21]
  by_cases e22 : x = 22
  · rw [if_pos e22]
    obtain ⟨b, g1, G1, g2, G2, hA, hB, hR2⟩ := op_liftoff (o := o) (h := h) (c := c) hR
    exact ⟨g2, G2, o, h, c, _, _, _, _, hR2, by omega, by omega, q_liftoff hA hB⟩
  rw [if_neg e22]
  by_cases e23 : x = 23
  · rw [if_pos e23]
    obtain ⟨b, g1, G1, g2, G2, hA, hB, hR2⟩ := op_slack (o := o) (h := h) (c := c) hR (if xs (a + 1).toNatClampNeg = 0 then 0 else 1) (b01 _)
    exact ⟨g2, G2, o, h, c, _, _, _, _, hR2, by omega, by omega, q_slack hs1 hA hB⟩
  rw [if_neg e23]
  by_cases e24 : x = 24
  · rw [if_pos e24]
    obtain ⟨k, b, g1, G1, o1, c1, g2, G2, hA, hB, hk, hv, hR2, u1, u2⟩ := op_isOpen (o := o) (h := h) (c := c) hR (xs (a + 1).toNatClampNeg)
    exact ⟨g2, G2, o1, h, c1, _, _, l7, l8, hR2, u1, u2, q_isOpen hs1 hA hB hk hv⟩
  rw [if_neg e24]
  by_cases e25 : x = 25
  · rw [if_pos e25]
    obtain ⟨k, b, g1, G1, o1, c1, g2, G2, hA, hB, hk, hv, hR2, u1, u2⟩ := op_ifRecycled (o := o) (h := h) (c := c) hR (xs (a + 1).toNatClampNeg)
    exact ⟨g2, G2, o1, h, c1, _, _, l7, l8, hR2, u1, u2, q_ifRecycled hs1 hA hB hk hv⟩
  rw [if_neg e25]
  by_cases e26 : x = 26
  · rw [if_pos e26]
    obtain ⟨b, g1, G1, g2, G2, hA, hB, hR2⟩ := op_best (o := o) (h := h) (c := c) hR
    exact ⟨g2, G2, o, h, c, _, _, _, _, hR2, by omega, by omega, q_bestPoint hA hB⟩
  rw [if_neg e26]
  by_cases e27 : x = 27
  · rw [if_pos e27]
    obtain ⟨k, b, g1, G1, o1, c1, g2, G2, hA, hB, hk, hv, hR2, u1, u2⟩ := op_ifAdvanced (o := o) (h := h) (c := c) hR (xs (a + 1).toNatClampNeg) (xs (a + 2).toNatClampNeg)
    exact ⟨g2, G2, o1, h, c1, _, _, l7, l8, hR2, u1, u2, q_ifAdvanced hs1 hs2 hA hB hk hv⟩
  rw [if_neg e27]
  by_cases e28 : x = 28
  · rw [if_pos e28]
    obtain ⟨k, b, g1, G1, o1, c1, g2, G2, hA, hB, hk, hv, hR2, u1, u2⟩ := op_log (o := o) (h := h) (c := c) hR (xs (a + 1).toNatClampNeg) (xs (a + 2).toNatClampNeg)
    exact ⟨g2, G2, o1, h, c1, _, _, l7, l8, hR2, u1, u2, q_log hs1 hs2 hA hB hk hv⟩
  rw [if_neg e28]
  by_cases e29 : x = 29
  · rw [if_pos e29]
    obtain ⟨p, g2, hA, hB, hR2⟩ := op_share (o := o) (h := h) (c := c) hR
    exact ⟨g2, G, o, h, c, _, _, _, _, hR2, by omega, by omega, q_holdShare hA hB⟩
  rw [if_neg e29]
  by_cases e30 : x = 30
  · rw [if_pos e30]
    obtain ⟨p, g2, h2, hA, hB, hR2⟩ := op_digest (o := o) (h := h) (c := c) hR
    exact ⟨g2, G, o, h2, c, _, _, _, _, hR2, by omega, by omega, q_digest hA hB⟩
  rw [if_neg e30]
  exact ⟨g, G, o, h, c, l5, l6, l7, l8, hR, by omega, by omega, rfl⟩
theorem len4 : ∀ L, L < 2049 → (nI L - 4).toInt = (L : Int) - 4 := by decide +kernel
theorem law_loop {L : Nat} {xs : Nat → Int32} (hL : L ≤ 2048) : ∀ (n i : Nat) (g : Nat → Int32) (G : Nat → Nat → Int32) (o : Nat → Int64) (h : Int64) (c : Nat × Nat) (l5 l6 l7 l8 : Option Value), L < i + 4 * n + 4 → i ≤ L + 4 → Rel g G → ∃ w : xW, rx (L + 1, xs) 10 iL_law 23 (LV (nI i) l5 l6 l7 l8) [] (hp g G o h, c) = some (.inl (some (.int 1)), w) ∧ w.2.1 ≤ c.1 + n ∧ w.2.2 ≤ c.2 + 6 * n := by
  intro n
  induction n with
  | zero =>
    intro i g G o h c l5 l6 l7 l8 h1 h2 hR
    have hx : Int32.ofNat (L + 1 - 1) - 4 < nI i := by
      show nI L - 4 < nI i
      rw [lt_toInt, len4 L (by omega), nI_toInt (by omega)]
      omega
    refine ⟨(hp g G o h, c), ?_, by show c.1 ≤ _; omega, by show c.2 ≤ _; omega⟩
    simp +decide only [LV, s_L_law_23, s_L_law_25f, s_L_law_26f, s_L_law_27, s_L_law_28, s_L_law_29, s_L_law_1817, s_L_law_1818b, xk_s, ts_s, ts_n, Option.bind_some, xc_n, xc_i, xc_r, xc_l, xc_d, xcats_n, xcats_i, xcats_r, xcats_l, xcats_d, and_true, true_and, and_self, if_true, if_false, Nat.reduceAdd, Nat.reduceLeDiff, Nat.zero_le, decide_true, decide_false, Bool.not_true, Bool.not_false, Bool.and_true, Bool.true_and, Bool.and_false, Bool.false_and, Bool.true_or, Bool.false_or, Bool.or_true, Bool.or_false, Bool.false_eq_true, Nat.add_eq_zero_iff, and_false, hx]
  | succ n ih =>
    intro i g G o h c l5 l6 l7 l8 h1 h2 hR
    by_cases hx : Int32.ofNat (L + 1 - 1) - 4 < nI i
    · refine ⟨(hp g G o h, c), ?_, by show c.1 ≤ _; omega, by show c.2 ≤ _; omega⟩
      simp +decide only [LV, s_L_law_23, s_L_law_25f, s_L_law_26f, s_L_law_27, s_L_law_28, s_L_law_29, s_L_law_1817, s_L_law_1818b, xk_s, ts_s, ts_n, Option.bind_some, xc_n, xc_i, xc_r, xc_l, xc_d, xcats_n, xcats_i, xcats_r, xcats_l, xcats_d, and_true, true_and, and_self, if_true, if_false, Nat.reduceAdd, Nat.reduceLeDiff, Nat.zero_le, decide_true, decide_false, Bool.not_true, Bool.not_false, Bool.and_true, Bool.true_and, Bool.and_false, Bool.false_and, Bool.true_or, Bool.false_or, Bool.or_true, Bool.or_false, Bool.false_eq_true, Nat.add_eq_zero_iff, and_false, hx]
    · have hi : i + 4 ≤ L := by
        have q : ¬ nI L - 4 < nI i := hx
        rw [lt_toInt, len4 L (by omega), nI_toInt (by omega)] at q
        omega
      have y0 : ixb (nI i) (L + 1 - 1) = true := ixb_nI (by omega) (by omega)
      have x1 : ixb (nI i + 1) (L + 1 - 1) = true := by rw [nI_1]; exact ixb_nI (by omega) (by omega)
      have x2 : ixb (nI i + 2) (L + 1 - 1) = true := by rw [show nI i + 2 = nI (i + 2) from nI_add i 2]; exact ixb_nI (by omega) (by omega)
      have x3 : ixb (nI i + 3) (L + 1 - 1) = true := by rw [show nI i + 3 = nI (i + 3) from nI_add i 3]; exact ixb_nI (by omega) (by omega)
      have e1 : rx (L + 1, xs) 10 iL_law 23 (LV (nI i) l5 l6 l7 l8) [] (hp g G o h, c) = rx (L + 1, xs) 10 iL_law 39 (LV (nI i) l5 l6 l7 l8) [.int (xs (nI i).toNatClampNeg &&& 31)] (hp g G o h, c) := by
        simp +decide only [LV, s_L_law_23, s_L_law_25f, s_L_law_26f, s_L_law_27, s_L_law_28, s_L_law_29, s_L_law_32f, s_L_law_33, s_L_law_35f, s_L_law_36, s_L_law_38, xk_s, ts_s, ts_n, Option.bind_some, xc_n, xc_i, xc_r, xc_l, xc_d, xcats_n, xcats_i, xcats_r, xcats_l, xcats_d, and_true, true_and, and_self, if_true, if_false, Nat.reduceAdd, Nat.reduceLeDiff, Nat.zero_le, decide_true, decide_false, Bool.not_true, Bool.not_false, Bool.and_true, Bool.true_and, Bool.and_false, Bool.false_and, Bool.true_or, Bool.false_or, Bool.or_true, Bool.or_false, Bool.false_eq_true, Nat.add_eq_zero_iff, and_false, hx, y0]
      obtain ⟨g', G', o', h', c', m5, m6, m7, m8, hR', u1, u2, e2⟩ := law_step (L := L) (xs := xs) (a := nI i) (o := o) (h := h) (c := c) hR x1 x2 x3 l5 l6 l7 l8 (xs (nI i).toNatClampNeg &&& 31)
      have e3 : rx (L + 1, xs) 10 iL_law 1811 (LV (nI i) m5 m6 m7 m8) [] (hp g' G' o' h', c') = rx (L + 1, xs) 10 iL_law 23 (LV (nI (i + 4)) m5 m6 m7 m8) [] (hp g' G' o' h', c') := by
        rw [show nI (i + 4) = nI i + 4 from (nI_add i 4).symm]
        simp +decide only [LV, s_L_law_1811, s_L_law_1814, xk_s, ts_s, ts_n, Option.bind_some, xc_n, xc_i, xc_r, xc_l, xc_d, xcats_n, xcats_i, xcats_r, xcats_l, xcats_d, and_true, true_and, and_self, if_true, if_false, Nat.reduceAdd, Nat.reduceLeDiff, Nat.zero_le, decide_true, decide_false, Bool.not_true, Bool.not_false, Bool.and_true, Bool.true_and, Bool.and_false, Bool.false_and, Bool.true_or, Bool.false_or, Bool.or_true, Bool.or_false, Bool.false_eq_true]
      obtain ⟨w, w1, w2, w3⟩ := ih (i + 4) g' G' o' h' c' m5 m6 m7 m8 (by omega) (by omega) hR'
      exact ⟨w, by rw [e1, e2, e3, w1], by omega, by omega⟩
theorem rel_start : Rel gJ GJ := by
  have hh := rel_begin 60 gB GB ⟨rfl, rfl, rfl, rfl, rfl, rfl, rfl, rfl⟩ (fun _ => Or.inr rfl) ⟨0, by decide, rfl, rfl, fun k hk => absurd hk (Nat.not_lt_zero k), rfl, rfl, rfl⟩ ((anewF (gB, GB) 60).1 120)
  rw [up_self] at hh
  exact hh
theorem law_all {L : Nat} {xs : Nat → Int32} (hL : L ≤ 2048) : ∃ (n : Nat) (w : xW), xrun (L + 1, xs) 10 (ev 10) iL_law n (0, xent 9 [.float 0], [], ([], 0, 0)) = some (.inl (some (.int 1)), w) ∧ w.2.1 ≤ 603531 ∧ w.2.2 ≤ 7285512 := by
  obtain ⟨w, w1, w2, w3⟩ := law_loop (xs := xs) hL 512 0 gJ GJ oB 0 (103, 1684) none none none none (by omega) (by omega) rel_start
  have e : rx (L + 1, xs) 10 iL_law 0 (xent 9 [.float 0]) [] ([], 0, 0) = some (.inl (some (.int 1)), w) := (law_start L xs).trans w1
  obtain ⟨n, hn⟩ := rn'_some.mp e
  exact ⟨n, w, hn, by have := w2; simp only at this; omega, by have := w3; simp only at this; omega⟩
