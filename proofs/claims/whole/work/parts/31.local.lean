/-! states at an offset: so of the numbers, ao of the rows -/
theorem up_e {α : Type} (f : Nat → α) (k : Nat) (v : α) : va_up f k v k = v := by simp [va_up]
theorem up_n {α : Type} (f : Nat → α) (k j : Nat) (v : α) (h : j ≠ k) : va_up f k v j = f j := by simp [va_up, h]
abbrev yS : Type := (Nat → Int32) × (Nat → Nat → Int32)
/-- the log takes an entry -/
def logPut (so ao : Nat) (X : yS) (sec kind val : Int32) : yS :=
  (if X.1 (so + 18) < 24 then va_up (va_up X.1 (so + 17) (if X.1 (so + 17) + 1 < 24 then X.1 (so + 17) + 1 else 0)) (so + 18) (X.1 (so + 18) + 1) else va_up X.1 (so + 17) (if X.1 (so + 17) + 1 < 24 then X.1 (so + 17) + 1 else 0),
   va_up (va_up (va_up X.2 (ao + 6) (upd (X.2 (ao + 6)) (X.1 (so + 17)).toNatClampNeg sec)) (ao + 7) (upd (X.2 (ao + 7)) (X.1 (so + 17)).toNatClampNeg kind)) (ao + 8) (upd (X.2 (ao + 8)) (X.1 (so + 17)).toNatClampNeg val))
theorem ixb_nI {j N : Nat} (h : j < N) (hN : N < 2 ^ 31) : ixb (nI j) N = true := by
  unfold ixb
  have := nI_in h hN
  simp only [this, decide_false, Bool.not_false]
theorem ixb_spec {i : Int32} {n : Nat} (h : ixb i n = true) (hn : n < 2 ^ 31) : ∃ j, j < n ∧ i = nI j := by
  unfold ixb at h
  have h1 : vp_in i n := by
    intro q
    simp only [q, decide_true, Bool.not_true] at h
    exact absurd h Bool.false_ne_true
  exact vp_in_of h1 hn
/-- the first place from i on, of n, that P takes, or -1 -/
def ff (P : Nat → Bool) : Nat → Nat → Int32
  | _, 0 => -1
  | i, n + 1 => if P i = true then nI i else ff P (i + 1) n
/-- some place from i on, of n, that P takes -/
def fa (P : Nat → Bool) : Nat → Nat → Bool
  | _, 0 => false
  | i, n + 1 => P i || fa P (i + 1) n
/-- hold times -/
def hsum (G : Nat → Nat → Int32) (fr to wo : Int32) : Nat → Nat → Int32 → Int32
  | _, 0, acc => acc
  | j, n + 1, acc => hsum G fr to wo (j + 1) n (if fr < G 2 j then acc else if G 2 j < to then acc else if (wo >>> (nI j &&& 31)) &&& 1 = 0 then acc + G 3 j else acc)
/-- a constraint is go -/
def goB (ao : Nat) (G : Nat → Nat → Int32) (k : Nat) : Bool := !(decide (bc (G ao k) < G 7 k)) && decide (bc (G (ao + 1) k) < bc (G ao k))
def actB (G : Nat → Nat → Int32) (x : Int32) (k : Nat) : Bool := !(decide (G 5 k < x)) && !(decide (x < G 6 k))
section
variable {g : Nat → Int32} {G : Nat → Nat → Int32} {o : Nat → Int64} {h : Int64} {c : Nat × Nat}
theorem l_holdAt (d : Nat) (x : Int32) (H : Nat) (hH : H ≤ 4) (hg : g 3 = nI H) : ∀ n j : Nat, j + n = H → rx x0 d iX3_holdAt 2 [some (.ref 1), some (.int x), some (.int (nI j))] [] (hp g G o h, c) = some (.inl (some (.int (ff (fun k => decide (G 2 k = x)) j n))), (hp g G o h, c)) := by
  intro n
  induction n with
  | zero =>
    intro j hj
    have h1 : ¬ nI j < nI H := nI_nlt (by omega) (by omega)
    rw [s_X3_holdAt_2]
    simp only [s_X3_holdAt_0, s_X3_holdAt_1, s_X3_holdAt_3, s_X3_holdAt_4, s_X3_holdAt_7, s_X3_holdAt_10, s_X3_holdAt_11, s_X3_holdAt_14, s_X3_holdAt_15, s_X3_holdAt_16, s_X3_holdAt_17, s_X3_holdAt_20, s_X3_holdAt_21, s_X3_holdAt_22, s_X3_holdAt_25, s_X3_holdAt_28, s_X3_holdAt_29, hx_1, hg_1_0, hs_1_0, hg_1_1, hs_1_1, hg_1_2, hs_1_2, hg_1_3, hs_1_3, hg_1_4, hs_1_4, hg_1_5, hg_1_6, hg_1_7, hg_1_8, hg_1_9, hg_1_10, hg_1_11, hg_1_12, hn_4, ha_4, hA_4, xk_s, ts_s, ts_n, Option.bind_some, xc_n, xc_i, xc_r, xc_l, xc_d, xcats_n, xcats_i, xcats_r, xcats_l, xcats_d, and_true, true_and, and_self, if_true, if_false, Nat.reduceAdd, Nat.reduceLeDiff, Nat.zero_le, hg, h1, ff]
  | succ n ih =>
    intro j hj
    have h1 : nI j < nI H := nI_lt (by omega) (by omega)
    have h2 : ixb (nI j) 4 = true := ixb_nI (by omega) (by omega)
    have h3 := nI_clamp (n := j) (by omega)
    rw [s_X3_holdAt_2]
    by_cases h4 : G 2 j = x
    · simp only [s_X3_holdAt_0, s_X3_holdAt_1, s_X3_holdAt_3, s_X3_holdAt_4, s_X3_holdAt_7, s_X3_holdAt_10, s_X3_holdAt_11, s_X3_holdAt_14, s_X3_holdAt_15, s_X3_holdAt_16, s_X3_holdAt_17, s_X3_holdAt_20, s_X3_holdAt_21, s_X3_holdAt_22, s_X3_holdAt_25, s_X3_holdAt_28, s_X3_holdAt_29, hx_1, hg_1_0, hs_1_0, hg_1_1, hs_1_1, hg_1_2, hs_1_2, hg_1_3, hs_1_3, hg_1_4, hs_1_4, hg_1_5, hg_1_6, hg_1_7, hg_1_8, hg_1_9, hg_1_10, hg_1_11, hg_1_12, hn_4, ha_4, hA_4, xk_s, ts_s, ts_n, Option.bind_some, xc_n, xc_i, xc_r, xc_l, xc_d, xcats_n, xcats_i, xcats_r, xcats_l, xcats_d, and_true, true_and, and_self, if_true, if_false, Nat.reduceAdd, Nat.reduceLeDiff, Nat.zero_le, hg, h1, h2, h3, h4, ff, decide_true]
    · simp only [s_X3_holdAt_0, s_X3_holdAt_1, s_X3_holdAt_3, s_X3_holdAt_4, s_X3_holdAt_7, s_X3_holdAt_10, s_X3_holdAt_11, s_X3_holdAt_14, s_X3_holdAt_15, s_X3_holdAt_16, s_X3_holdAt_17, s_X3_holdAt_20, s_X3_holdAt_21, s_X3_holdAt_22, s_X3_holdAt_25, s_X3_holdAt_28, s_X3_holdAt_29, hx_1, hg_1_0, hs_1_0, hg_1_1, hs_1_1, hg_1_2, hs_1_2, hg_1_3, hs_1_3, hg_1_4, hs_1_4, hg_1_5, hg_1_6, hg_1_7, hg_1_8, hg_1_9, hg_1_10, hg_1_11, hg_1_12, hn_4, ha_4, hA_4, xk_s, ts_s, ts_n, Option.bind_some, xc_n, xc_i, xc_r, xc_l, xc_d, xcats_n, xcats_i, xcats_r, xcats_l, xcats_d, and_true, true_and, and_self, if_true, if_false, Nat.reduceAdd, Nat.reduceLeDiff, Nat.zero_le, hg, h1, h2, h3, h4, ff, decide_false, nI_1, Bool.false_eq_true]
      exact ih (j + 1) (by omega)
theorem e_holdAt (d : Nat) (x : Int32) (H : Nat) (hH : H ≤ 4) (hg : g 3 = nI H) : ev (d + 1) iX3_holdAt [.ref 1, .int x] (hp g G o h, c) = some (.inl (some (.int (ff (fun k => decide (G 2 k = x)) 0 H))), (hp g G o h, c)) := by
  rw [n_X3_holdAt]
  simp only [s_X3_holdAt_0, s_X3_holdAt_1, xk_s, ts_s, ts_n, Option.bind_some, xc_n, xc_i, xc_r, xc_l, xc_d, xcats_n, xcats_i, xcats_r, xcats_l, xcats_d, and_true, true_and, and_self, if_true, if_false, Nat.reduceAdd, Nat.reduceLeDiff, Nat.zero_le]
  exact l_holdAt d x H hH hg H 0 (by omega)
theorem l_holdTime (d : Nat) (fr to wo : Int32) (H : Nat) (hH : H ≤ 4) (hg : g 3 = nI H) : ∀ (n j : Nat) (acc : Int32), j + n = H → rx x0 (d + 1) iX3_holdTime 7 [some (.ref 1), some (.int fr), some (.int to), some (.int wo), some (.int acc), some (.int (nI j))] [] (hp g G o h, c) = some (.inl (some (.int (hsum G fr to wo j n acc))), (hp g G o h, c)) := by
  intro n
  induction n with
  | zero =>
    intro j acc hj
    have h1 : ¬ nI j < nI H := nI_nlt (by omega) (by omega)
    rw [s_X3_holdTime_7]
    simp only [s_X3_holdTime_0, s_X3_holdTime_1, s_X3_holdTime_3, s_X3_holdTime_4, s_X3_holdTime_6, s_X3_holdTime_8, s_X3_holdTime_9, s_X3_holdTime_12, s_X3_holdTime_15, s_X3_holdTime_16, s_X3_holdTime_19, s_X3_holdTime_21, s_X3_holdTime_22, s_X3_holdTime_23, s_X3_holdTime_26, s_X3_holdTime_27, s_X3_holdTime_30, s_X3_holdTime_32, s_X3_holdTime_33, s_X3_holdTime_34, s_X3_holdTime_37, s_X3_holdTime_38, s_X3_holdTime_40, s_X3_holdTime_43, s_X3_holdTime_46, s_X3_holdTime_48, s_X3_holdTime_49, s_X3_holdTime_52, s_X3_holdTime_54, s_X3_holdTime_55, s_X3_holdTime_56, s_X3_holdTime_58, s_X3_holdTime_61, s_X3_holdTime_64, s_X3_holdTime_66, hx_1, hg_1_0, hs_1_0, hg_1_1, hs_1_1, hg_1_2, hs_1_2, hg_1_3, hs_1_3, hg_1_4, hs_1_4, hg_1_5, hg_1_6, hg_1_7, hg_1_8, hg_1_9, hg_1_10, hg_1_11, hg_1_12, hn_4, ha_4, hA_4, hn_5, ha_5, hA_5, xk_s, ts_s, ts_n, Option.bind_some, xc_n, xc_i, xc_r, xc_l, xc_d, xcats_n, xcats_i, xcats_r, xcats_l, xcats_d, and_true, true_and, and_self, if_true, if_false, Nat.reduceAdd, Nat.reduceLeDiff, Nat.zero_le, hg, h1, hsum]
  | succ n ih =>
    intro j acc hj
    have h1 : nI j < nI H := nI_lt (by omega) (by omega)
    have h2 : ixb (nI j) 4 = true := ixb_nI (by omega) (by omega)
    have h3 := nI_clamp (n := j) (by omega)
    rw [s_X3_holdTime_7]
    by_cases h4 : fr < G 2 j <;> by_cases h5 : G 2 j < to <;> by_cases h6 : (wo >>> (nI j &&& 31)) &&& 1 = 0 <;> simp +decide only [s_X3_holdTime_0, s_X3_holdTime_1, s_X3_holdTime_3, s_X3_holdTime_4, s_X3_holdTime_6, s_X3_holdTime_8, s_X3_holdTime_9, s_X3_holdTime_12, s_X3_holdTime_15, s_X3_holdTime_16, s_X3_holdTime_19, s_X3_holdTime_21, s_X3_holdTime_22, s_X3_holdTime_23, s_X3_holdTime_26, s_X3_holdTime_27, s_X3_holdTime_30, s_X3_holdTime_32, s_X3_holdTime_33, s_X3_holdTime_34, s_X3_holdTime_37, s_X3_holdTime_38, s_X3_holdTime_40, s_X3_holdTime_43, s_X3_holdTime_46, s_X3_holdTime_48, s_X3_holdTime_49, s_X3_holdTime_52, s_X3_holdTime_54, s_X3_holdTime_55, s_X3_holdTime_56, s_X3_holdTime_58, s_X3_holdTime_61, s_X3_holdTime_64, s_X3_holdTime_66, hx_1, hg_1_0, hs_1_0, hg_1_1, hs_1_1, hg_1_2, hs_1_2, hg_1_3, hs_1_3, hg_1_4, hs_1_4, hg_1_5, hg_1_6, hg_1_7, hg_1_8, hg_1_9, hg_1_10, hg_1_11, hg_1_12, hn_4, ha_4, hA_4, hn_5, ha_5, hA_5, xk_s, ts_s, ts_n, Option.bind_some, xc_n, xc_i, xc_r, xc_l, xc_d, xcats_n, xcats_i, xcats_r, xcats_l, xcats_d, and_true, true_and, and_self, if_true, if_false, Nat.reduceAdd, Nat.reduceLeDiff, Nat.zero_le, hg, h1, h2, h3, h4, h5, h6, hsum, e_hasBit, nI_1] <;> exact ih (j + 1) _ (by omega)
theorem e_holdTime (d : Nat) (fr to wo : Int32) (H : Nat) (hH : H ≤ 4) (hg : g 3 = nI H) : ev (d + 2) iX3_holdTime [.ref 1, .int fr, .int to, .int wo] (hp g G o h, c) = some (.inl (some (.int (hsum G fr to wo 0 H 0))), (hp g G o h, c)) := by
  rw [n_X3_holdTime]
  simp only [s_X3_holdTime_0, s_X3_holdTime_1, s_X3_holdTime_3, s_X3_holdTime_4, s_X3_holdTime_5, xk_s, ts_s, ts_n, Option.bind_some, xc_n, xc_i, xc_r, xc_l, xc_d, xcats_n, xcats_i, xcats_r, xcats_l, xcats_d, and_true, true_and, and_self, if_true, if_false, Nat.reduceAdd, Nat.reduceLeDiff, Nat.zero_le]
  exact l_holdTime d fr to wo H hH hg H 0 0 (by omega)
theorem e_logPut0 (d : Nat) (a b v : Int32) (hn : ixb (g 37) 24 = true) : ev (d + 1) iX1_put [.ref 21, .int a, .int b, .int v] (hp g G o h, c) = some (.inl none, (hp (logPut 20 10 (g, G) a b v).1 (logPut 20 10 (g, G) a b v).2 o h, c)) := by
  rw [n_X1_put]
  by_cases h1 : g 37 + 1 < 24 <;> by_cases h2 : g 38 < 24 <;> simp only [s_X1_put_0, s_X1_put_1, s_X1_put_4, s_X1_put_5, s_X1_put_8, s_X1_put_9, s_X1_put_10, s_X1_put_11, s_X1_put_14, s_X1_put_15, s_X1_put_18, s_X1_put_19, s_X1_put_20, s_X1_put_21, s_X1_put_24, s_X1_put_25, s_X1_put_28, s_X1_put_29, s_X1_put_30, s_X1_put_31, s_X1_put_32, s_X1_put_35, s_X1_put_36, s_X1_put_37, s_X1_put_39, s_X1_put_42, s_X1_put_43, s_X1_put_46, s_X1_put_47, s_X1_put_48, s_X1_put_51, s_X1_put_52, s_X1_put_55, s_X1_put_56, s_X1_put_59, s_X1_put_61, s_X1_put_64, s_X1_put_65, s_X1_put_65i, s_X1_put_66, s_X1_put_69, s_X1_put_70, s_X1_put_71, s_X1_put_74, hx_21, hg_21_0, hg_21_1, hg_21_2, hg_21_3, hs_21_3, hg_21_4, hs_21_4, hn_22, ha_22, hA_22, hn_23, ha_23, hA_23, hn_24, ha_24, hA_24, xk_s, ts_s, ts_n, Option.bind_some, xc_n, xc_i, xc_r, xc_l, xc_d, xcats_n, xcats_i, xcats_r, xcats_l, xcats_d, and_true, true_and, and_self, if_true, if_false, Nat.reduceAdd, Nat.reduceLeDiff, Nat.zero_le, up_e, up_n, ne_eq, Nat.reduceEqDiff, not_false_eq_true, reduceCtorEq, hn, h1, h2, logPut]
theorem e_logPart0 (d : Nat) (e x : Int32) (hn : ixb (if g 37 - 1 - e < 0 then g 37 - 1 - e + 24 else g 37 - 1 - e) 24 = true) : ev (d + 1) iX1_part [.ref 21, .int e, .int x] (hp g G o h, c) = some (.inl (some (.int (if x = 0 then G 16 (if g 37 - 1 - e < 0 then g 37 - 1 - e + 24 else g 37 - 1 - e).toNatClampNeg else if x = 1 then G 17 (if g 37 - 1 - e < 0 then g 37 - 1 - e + 24 else g 37 - 1 - e).toNatClampNeg else G 18 (if g 37 - 1 - e < 0 then g 37 - 1 - e + 24 else g 37 - 1 - e).toNatClampNeg))), (hp g G o h, c)) := by
  rw [n_X1_part]
  by_cases h1 : g 37 - 1 - e < 0 <;> by_cases h2 : x = 0 <;> by_cases h3 : x = 1 <;> simp only [h1, if_true, if_false] at hn <;> simp +decide only [s_X1_part_0, s_X1_part_1, s_X1_part_4, s_X1_part_5, s_X1_part_6, s_X1_part_7, s_X1_part_8, s_X1_part_9, s_X1_part_10, s_X1_part_13, s_X1_part_16, s_X1_part_44, s_X1_part_45, s_X1_part_48, s_X1_part_49, s_X1_part_50, s_X1_part_51, s_X1_part_52, s_X1_part_55, s_X1_part_56, s_X1_part_57, s_X1_part_58, s_X1_part_59, s_X1_part_62, s_X1_part_63, s_X1_part_64, s_X1_part_17, hx_21, hg_21_0, hg_21_1, hg_21_2, hg_21_3, hs_21_3, hg_21_4, hs_21_4, hn_22, ha_22, hA_22, hn_23, ha_23, hA_23, hn_24, ha_24, hA_24, xk_s, ts_s, ts_n, Option.bind_some, xc_n, xc_i, xc_r, xc_l, xc_d, xcats_n, xcats_i, xcats_r, xcats_l, xcats_d, and_true, true_and, and_self, if_true, if_false, Nat.reduceAdd, Nat.reduceLeDiff, Nat.zero_le, up_e, up_n, ne_eq, Nat.reduceEqDiff, not_false_eq_true, reduceCtorEq, hn, h1, h2, h3]
theorem e_isGo0 (d : Nat) (k : Int32) (hk : ixb k 6 = true) : ev (d + 2) iX5_isGo [.ref 10, .int k] (hp g G o h, c) = some (.inl (some (.int (if goB 10 G k.toNatClampNeg = true then 1 else 0))), (hp g G o h, c)) := by
  rw [n_X5_isGo]
  by_cases h1 : bc (G 10 k.toNatClampNeg) < G 7 k.toNatClampNeg <;> by_cases h2 : bc (G 11 k.toNatClampNeg) < bc (G 10 k.toNatClampNeg) <;> simp +decide only [s_X5_isGo_0, s_X5_isGo_1, s_X5_isGo_4, s_X5_isGo_7, s_X5_isGo_8, s_X5_isGo_9, s_X5_isGo_12, s_X5_isGo_13, s_X5_isGo_14, s_X5_isGo_15, s_X5_isGo_18, s_X5_isGo_21, s_X5_isGo_22, s_X5_isGo_23, s_X5_isGo_26, s_X5_isGo_27, s_X5_isGo_28, s_X5_isGo_31, s_X5_isGo_34, s_X5_isGo_35, s_X5_isGo_36, s_X5_isGo_39, s_X5_isGo_42, s_X5_isGo_43, s_X5_isGo_46, s_X5_isGo_47, s_X5_isGo_47b, s_X5_isGo_47c, hx_10, hg_10_0, hg_10_1, hs_10_1, hg_10_2, hs_10_2, hg_10_3, hs_10_3, hg_10_4, hs_10_4, hg_10_5, hs_10_5, hg_10_6, hs_10_6, hg_10_7, hs_10_7, hg_10_8, hs_10_8, hg_10_9, hs_10_9, hg_10_10, hs_10_10, hg_10_11, hs_10_11, hg_10_12, hs_10_12, hg_10_13, hg_10_14, hg_10_15, hg_10_16, hg_10_17, hx_1, hg_1_0, hs_1_0, hg_1_1, hs_1_1, hg_1_2, hs_1_2, hg_1_3, hs_1_3, hg_1_4, hs_1_4, hg_1_5, hg_1_6, hg_1_7, hg_1_8, hg_1_9, hg_1_10, hg_1_11, hg_1_12, hn_9, ha_9, hA_9, hx_12, hg_12_0, hg_12_1, hn_13, ha_13, hA_13, hn_14, ha_14, hA_14, xk_s, ts_s, ts_n, Option.bind_some, xc_n, xc_i, xc_r, xc_l, xc_d, xcats_n, xcats_i, xcats_r, xcats_l, xcats_d, and_true, true_and, and_self, if_true, if_false, Nat.reduceAdd, Nat.reduceLeDiff, Nat.zero_le, hk, e_bitCount, h1, h2, goB]
theorem l_wContain0 (d : Nat) (x : Int32) (H : Nat) (hH : H ≤ 4) (hg : g 35 = nI H) : ∀ n j : Nat, j + n = H → rx x0 d iX4_contain 2 [some (.ref 15), some (.int x), some (.int (nI j))] [] (hp g G o h, c) = some (.inl (some (.int (if fa (fun k => !(decide (x < G 12 k)) && !(decide (G 13 k < x))) j n = true then 1 else 0))), (hp g G o h, c)) := by
  intro n
  induction n with
  | zero =>
    intro j hj
    have h1 : ¬ nI j < nI H := nI_nlt (by omega) (by omega)
    rw [s_X4_contain_2]
    simp +decide only [s_X4_contain_0, s_X4_contain_1, s_X4_contain_3, s_X4_contain_4, s_X4_contain_7, s_X4_contain_10, s_X4_contain_11, s_X4_contain_12, s_X4_contain_15, s_X4_contain_16, s_X4_contain_17, s_X4_contain_20, s_X4_contain_21, s_X4_contain_22, s_X4_contain_25, s_X4_contain_26, s_X4_contain_27, s_X4_contain_30, s_X4_contain_31, s_X4_contain_31b, s_X4_contain_31c, s_X4_contain_32, s_X4_contain_35, s_X4_contain_38, s_X4_contain_39, s_X4_contain_39b, s_X4_contain_39c, hx_15, hg_15_0, hg_15_1, hg_15_2, hs_15_2, hn_16, ha_16, hA_16, hn_17, ha_17, hA_17, xk_s, ts_s, ts_n, Option.bind_some, xc_n, xc_i, xc_r, xc_l, xc_d, xcats_n, xcats_i, xcats_r, xcats_l, xcats_d, and_true, true_and, and_self, if_true, if_false, Nat.reduceAdd, Nat.reduceLeDiff, Nat.zero_le, hg, h1, fa]
  | succ n ih =>
    intro j hj
    have h1 : nI j < nI H := nI_lt (by omega) (by omega)
    have h2 : ixb (nI j) 4 = true := ixb_nI (by omega) (by omega)
    have h3 := nI_clamp (n := j) (by omega)
    have ih := ih (j + 1) (by omega)
    rw [s_X4_contain_2]
    by_cases h4 : x < G 12 j <;> by_cases h5 : G 13 j < x <;> simp +decide only [s_X4_contain_0, s_X4_contain_1, s_X4_contain_3, s_X4_contain_4, s_X4_contain_7, s_X4_contain_10, s_X4_contain_11, s_X4_contain_12, s_X4_contain_15, s_X4_contain_16, s_X4_contain_17, s_X4_contain_20, s_X4_contain_21, s_X4_contain_22, s_X4_contain_25, s_X4_contain_26, s_X4_contain_27, s_X4_contain_30, s_X4_contain_31, s_X4_contain_31b, s_X4_contain_31c, s_X4_contain_32, s_X4_contain_35, s_X4_contain_38, s_X4_contain_39, s_X4_contain_39b, s_X4_contain_39c, hx_15, hg_15_0, hg_15_1, hg_15_2, hs_15_2, hn_16, ha_16, hA_16, hn_17, ha_17, hA_17, xk_s, ts_s, ts_n, Option.bind_some, xc_n, xc_i, xc_r, xc_l, xc_d, xcats_n, xcats_i, xcats_r, xcats_l, xcats_d, and_true, true_and, and_self, if_true, if_false, Nat.reduceAdd, Nat.reduceLeDiff, Nat.zero_le, hg, h1, h2, h3, h4, h5, fa, nI_1, ih, Bool.false_or, Bool.true_or]
theorem e_wContain0 (d : Nat) (x : Int32) (H : Nat) (hH : H ≤ 4) (hg : g 35 = nI H) : ev (d + 1) iX4_contain [.ref 15, .int x] (hp g G o h, c) = some (.inl (some (.int (if fa (fun k => !(decide (x < G 12 k)) && !(decide (G 13 k < x))) 0 H = true then 1 else 0))), (hp g G o h, c)) := by
  rw [n_X4_contain]
  simp only [s_X4_contain_0, s_X4_contain_1, xk_s, ts_s, ts_n, Option.bind_some, xc_n, xc_i, xc_r, xc_l, xc_d, xcats_n, xcats_i, xcats_r, xcats_l, xcats_d, and_true, true_and, and_self, if_true, if_false, Nat.reduceAdd, Nat.reduceLeDiff, Nat.zero_le]
  exact l_wContain0 d x H hH hg H 0 (by omega)
theorem l_cContain0 (d : Nat) (x : Int32) (H : Nat) (hH : H ≤ 6) (hg : g 36 = nI H) : ∀ n j : Nat, j + n = H → rx x0 d iX4_contain 2 [some (.ref 18), some (.int x), some (.int (nI j))] [] (hp g G o h, c) = some (.inl (some (.int (if fa (fun k => !(decide (x < G 14 k)) && !(decide (G 15 k < x))) j n = true then 1 else 0))), (hp g G o h, c)) := by
  intro n
  induction n with
  | zero =>
    intro j hj
    have h1 : ¬ nI j < nI H := nI_nlt (by omega) (by omega)
    rw [s_X4_contain_2]
    simp +decide only [s_X4_contain_0, s_X4_contain_1, s_X4_contain_3, s_X4_contain_4, s_X4_contain_7, s_X4_contain_10, s_X4_contain_11, s_X4_contain_12, s_X4_contain_15, s_X4_contain_16, s_X4_contain_17, s_X4_contain_20, s_X4_contain_21, s_X4_contain_22, s_X4_contain_25, s_X4_contain_26, s_X4_contain_27, s_X4_contain_30, s_X4_contain_31, s_X4_contain_31b, s_X4_contain_31c, s_X4_contain_32, s_X4_contain_35, s_X4_contain_38, s_X4_contain_39, s_X4_contain_39b, s_X4_contain_39c, hx_18, hg_18_0, hg_18_1, hg_18_2, hs_18_2, hn_19, ha_19, hA_19, hn_20, ha_20, hA_20, xk_s, ts_s, ts_n, Option.bind_some, xc_n, xc_i, xc_r, xc_l, xc_d, xcats_n, xcats_i, xcats_r, xcats_l, xcats_d, and_true, true_and, and_self, if_true, if_false, Nat.reduceAdd, Nat.reduceLeDiff, Nat.zero_le, hg, h1, fa]
  | succ n ih =>
    intro j hj
    have h1 : nI j < nI H := nI_lt (by omega) (by omega)
    have h2 : ixb (nI j) 6 = true := ixb_nI (by omega) (by omega)
    have h3 := nI_clamp (n := j) (by omega)
    have ih := ih (j + 1) (by omega)
    rw [s_X4_contain_2]
    by_cases h4 : x < G 14 j <;> by_cases h5 : G 15 j < x <;> simp +decide only [s_X4_contain_0, s_X4_contain_1, s_X4_contain_3, s_X4_contain_4, s_X4_contain_7, s_X4_contain_10, s_X4_contain_11, s_X4_contain_12, s_X4_contain_15, s_X4_contain_16, s_X4_contain_17, s_X4_contain_20, s_X4_contain_21, s_X4_contain_22, s_X4_contain_25, s_X4_contain_26, s_X4_contain_27, s_X4_contain_30, s_X4_contain_31, s_X4_contain_31b, s_X4_contain_31c, s_X4_contain_32, s_X4_contain_35, s_X4_contain_38, s_X4_contain_39, s_X4_contain_39b, s_X4_contain_39c, hx_18, hg_18_0, hg_18_1, hg_18_2, hs_18_2, hn_19, ha_19, hA_19, hn_20, ha_20, hA_20, xk_s, ts_s, ts_n, Option.bind_some, xc_n, xc_i, xc_r, xc_l, xc_d, xcats_n, xcats_i, xcats_r, xcats_l, xcats_d, and_true, true_and, and_self, if_true, if_false, Nat.reduceAdd, Nat.reduceLeDiff, Nat.zero_le, hg, h1, h2, h3, h4, h5, fa, nI_1, ih, Bool.false_or, Bool.true_or]
theorem e_cContain0 (d : Nat) (x : Int32) (H : Nat) (hH : H ≤ 6) (hg : g 36 = nI H) : ev (d + 1) iX4_contain [.ref 18, .int x] (hp g G o h, c) = some (.inl (some (.int (if fa (fun k => !(decide (x < G 14 k)) && !(decide (G 15 k < x))) 0 H = true then 1 else 0))), (hp g G o h, c)) := by
  rw [n_X4_contain]
  simp only [s_X4_contain_0, s_X4_contain_1, xk_s, ts_s, ts_n, Option.bind_some, xc_n, xc_i, xc_r, xc_l, xc_d, xcats_n, xcats_i, xcats_r, xcats_l, xcats_d, and_true, true_and, and_self, if_true, if_false, Nat.reduceAdd, Nat.reduceLeDiff, Nat.zero_le]
  exact l_cContain0 d x H hH hg H 0 (by omega)
theorem l_block0 (d : Nat) (N : Nat) (hN : N ≤ 6) (hg : g 5 = nI N) : ∀ n j : Nat, j + n = N → rx x0 (d + 2) iX5_blockingConstraint 2 [some (.ref 10), some (.int (nI j))] [] (hp g G o h, c) = some (.inl (some (.int (ff (fun k => actB G (g 22) k && !(goB 10 G k)) j n))), (hp g G o h, c)) := by
  intro n
  induction n with
  | zero =>
    intro j hj
    have h1 : ¬ nI j < nI N := nI_nlt (by omega) (by omega)
    rw [s_X5_blockingConstraint_2]
    simp +decide only [s_X5_blockingConstraint_0, s_X5_blockingConstraint_1, s_X5_blockingConstraint_3, s_X5_blockingConstraint_4, s_X5_blockingConstraint_7, s_X5_blockingConstraint_10, s_X5_blockingConstraint_13, s_X5_blockingConstraint_14, s_X5_blockingConstraint_17, s_X5_blockingConstraint_18, s_X5_blockingConstraint_19, s_X5_blockingConstraint_22, s_X5_blockingConstraint_25, s_X5_blockingConstraint_28, s_X5_blockingConstraint_29, s_X5_blockingConstraint_30, s_X5_blockingConstraint_33, s_X5_blockingConstraint_36, s_X5_blockingConstraint_37, s_X5_blockingConstraint_38, s_X5_blockingConstraint_41, s_X5_blockingConstraint_44, s_X5_blockingConstraint_45, hx_10, hg_10_0, hg_10_1, hs_10_1, hg_10_2, hs_10_2, hg_10_3, hs_10_3, hg_10_4, hs_10_4, hg_10_5, hs_10_5, hg_10_6, hs_10_6, hg_10_7, hs_10_7, hg_10_8, hs_10_8, hg_10_9, hs_10_9, hg_10_10, hs_10_10, hg_10_11, hs_10_11, hg_10_12, hs_10_12, hg_10_13, hg_10_14, hg_10_15, hg_10_16, hg_10_17, hx_1, hg_1_0, hs_1_0, hg_1_1, hs_1_1, hg_1_2, hs_1_2, hg_1_3, hs_1_3, hg_1_4, hs_1_4, hg_1_5, hg_1_6, hg_1_7, hg_1_8, hg_1_9, hg_1_10, hg_1_11, hg_1_12, xk_s, ts_s, ts_n, Option.bind_some, xc_n, xc_i, xc_r, xc_l, xc_d, xcats_n, xcats_i, xcats_r, xcats_l, xcats_d, and_true, true_and, and_self, if_true, if_false, Nat.reduceAdd, Nat.reduceLeDiff, Nat.zero_le, hg, h1, ff]
  | succ n ih =>
    intro j hj
    have h1 : nI j < nI N := nI_lt (by omega) (by omega)
    have h2 : ixb (nI j) 6 = true := ixb_nI (by omega) (by omega)
    have h3 := nI_clamp (n := j) (by omega)
    have ih := ih (j + 1) (by omega)
    rw [s_X5_blockingConstraint_2]
    by_cases h4 : G 5 j < g 22 <;> by_cases h5 : g 22 < G 6 j <;> cases h6 : goB 10 G j <;> simp +decide only [s_X5_blockingConstraint_0, s_X5_blockingConstraint_1, s_X5_blockingConstraint_3, s_X5_blockingConstraint_4, s_X5_blockingConstraint_7, s_X5_blockingConstraint_10, s_X5_blockingConstraint_13, s_X5_blockingConstraint_14, s_X5_blockingConstraint_17, s_X5_blockingConstraint_18, s_X5_blockingConstraint_19, s_X5_blockingConstraint_22, s_X5_blockingConstraint_25, s_X5_blockingConstraint_28, s_X5_blockingConstraint_29, s_X5_blockingConstraint_30, s_X5_blockingConstraint_33, s_X5_blockingConstraint_36, s_X5_blockingConstraint_37, s_X5_blockingConstraint_38, s_X5_blockingConstraint_41, s_X5_blockingConstraint_44, s_X5_blockingConstraint_45, hx_10, hg_10_0, hg_10_1, hs_10_1, hg_10_2, hs_10_2, hg_10_3, hs_10_3, hg_10_4, hs_10_4, hg_10_5, hs_10_5, hg_10_6, hs_10_6, hg_10_7, hs_10_7, hg_10_8, hs_10_8, hg_10_9, hs_10_9, hg_10_10, hs_10_10, hg_10_11, hs_10_11, hg_10_12, hs_10_12, hg_10_13, hg_10_14, hg_10_15, hg_10_16, hg_10_17, hx_1, hg_1_0, hs_1_0, hg_1_1, hs_1_1, hg_1_2, hs_1_2, hg_1_3, hs_1_3, hg_1_4, hs_1_4, hg_1_5, hg_1_6, hg_1_7, hg_1_8, hg_1_9, hg_1_10, hg_1_11, hg_1_12, xk_s, ts_s, ts_n, Option.bind_some, xc_n, xc_i, xc_r, xc_l, xc_d, xcats_n, xcats_i, xcats_r, xcats_l, xcats_d, and_true, true_and, and_self, if_true, if_false, Nat.reduceAdd, Nat.reduceLeDiff, Nat.zero_le, hg, h1, h2, h3, h4, h5, h6, ff, actB, nI_1, ih, e_isActive, e_isGo0]
theorem e_block0 (d : Nat) (N : Nat) (hN : N ≤ 6) (hg : g 5 = nI N) : ev (d + 3) iX5_blockingConstraint [.ref 10] (hp g G o h, c) = some (.inl (some (.int (ff (fun k => actB G (g 22) k && !(goB 10 G k)) 0 N))), (hp g G o h, c)) := by
  rw [n_X5_blockingConstraint]
  simp only [s_X5_blockingConstraint_0, s_X5_blockingConstraint_1, xk_s, ts_s, ts_n, Option.bind_some, xc_n, xc_i, xc_r, xc_l, xc_d, xcats_n, xcats_i, xcats_r, xcats_l, xcats_d, and_true, true_and, and_self, if_true, if_false, Nat.reduceAdd, Nat.reduceLeDiff, Nat.zero_le]
  exact l_block0 d N hN hg N 0 (by omega)
theorem e_logPut1 (d : Nat) (a b v : Int32) (hn : ixb (g 57) 24 = true) : ev (d + 1) iX1_put [.ref 36, .int a, .int b, .int v] (hp g G o h, c) = some (.inl none, (hp (logPut 40 20 (g, G) a b v).1 (logPut 40 20 (g, G) a b v).2 o h, c)) := by
  rw [n_X1_put]
  by_cases h1 : g 57 + 1 < 24 <;> by_cases h2 : g 58 < 24 <;> simp only [s_X1_put_0, s_X1_put_1, s_X1_put_4, s_X1_put_5, s_X1_put_8, s_X1_put_9, s_X1_put_10, s_X1_put_11, s_X1_put_14, s_X1_put_15, s_X1_put_18, s_X1_put_19, s_X1_put_20, s_X1_put_21, s_X1_put_24, s_X1_put_25, s_X1_put_28, s_X1_put_29, s_X1_put_30, s_X1_put_31, s_X1_put_32, s_X1_put_35, s_X1_put_36, s_X1_put_37, s_X1_put_39, s_X1_put_42, s_X1_put_43, s_X1_put_46, s_X1_put_47, s_X1_put_48, s_X1_put_51, s_X1_put_52, s_X1_put_55, s_X1_put_56, s_X1_put_59, s_X1_put_61, s_X1_put_64, s_X1_put_65, s_X1_put_65i, s_X1_put_66, s_X1_put_69, s_X1_put_70, s_X1_put_71, s_X1_put_74, hx_36, hg_36_0, hg_36_1, hg_36_2, hg_36_3, hs_36_3, hg_36_4, hs_36_4, hn_37, ha_37, hA_37, hn_38, ha_38, hA_38, hn_39, ha_39, hA_39, xk_s, ts_s, ts_n, Option.bind_some, xc_n, xc_i, xc_r, xc_l, xc_d, xcats_n, xcats_i, xcats_r, xcats_l, xcats_d, and_true, true_and, and_self, if_true, if_false, Nat.reduceAdd, Nat.reduceLeDiff, Nat.zero_le, up_e, up_n, ne_eq, Nat.reduceEqDiff, not_false_eq_true, reduceCtorEq, hn, h1, h2, logPut]
theorem e_logPart1 (d : Nat) (e x : Int32) (hn : ixb (if g 57 - 1 - e < 0 then g 57 - 1 - e + 24 else g 57 - 1 - e) 24 = true) : ev (d + 1) iX1_part [.ref 36, .int e, .int x] (hp g G o h, c) = some (.inl (some (.int (if x = 0 then G 26 (if g 57 - 1 - e < 0 then g 57 - 1 - e + 24 else g 57 - 1 - e).toNatClampNeg else if x = 1 then G 27 (if g 57 - 1 - e < 0 then g 57 - 1 - e + 24 else g 57 - 1 - e).toNatClampNeg else G 28 (if g 57 - 1 - e < 0 then g 57 - 1 - e + 24 else g 57 - 1 - e).toNatClampNeg))), (hp g G o h, c)) := by
  rw [n_X1_part]
  by_cases h1 : g 57 - 1 - e < 0 <;> by_cases h2 : x = 0 <;> by_cases h3 : x = 1 <;> simp only [h1, if_true, if_false] at hn <;> simp +decide only [s_X1_part_0, s_X1_part_1, s_X1_part_4, s_X1_part_5, s_X1_part_6, s_X1_part_7, s_X1_part_8, s_X1_part_9, s_X1_part_10, s_X1_part_13, s_X1_part_16, s_X1_part_44, s_X1_part_45, s_X1_part_48, s_X1_part_49, s_X1_part_50, s_X1_part_51, s_X1_part_52, s_X1_part_55, s_X1_part_56, s_X1_part_57, s_X1_part_58, s_X1_part_59, s_X1_part_62, s_X1_part_63, s_X1_part_64, s_X1_part_17, hx_36, hg_36_0, hg_36_1, hg_36_2, hg_36_3, hs_36_3, hg_36_4, hs_36_4, hn_37, ha_37, hA_37, hn_38, ha_38, hA_38, hn_39, ha_39, hA_39, xk_s, ts_s, ts_n, Option.bind_some, xc_n, xc_i, xc_r, xc_l, xc_d, xcats_n, xcats_i, xcats_r, xcats_l, xcats_d, and_true, true_and, and_self, if_true, if_false, Nat.reduceAdd, Nat.reduceLeDiff, Nat.zero_le, up_e, up_n, ne_eq, Nat.reduceEqDiff, not_false_eq_true, reduceCtorEq, hn, h1, h2, h3]
theorem e_isGo1 (d : Nat) (k : Int32) (hk : ixb k 6 = true) : ev (d + 2) iX5_isGo [.ref 25, .int k] (hp g G o h, c) = some (.inl (some (.int (if goB 20 G k.toNatClampNeg = true then 1 else 0))), (hp g G o h, c)) := by
  rw [n_X5_isGo]
  by_cases h1 : bc (G 20 k.toNatClampNeg) < G 7 k.toNatClampNeg <;> by_cases h2 : bc (G 21 k.toNatClampNeg) < bc (G 20 k.toNatClampNeg) <;> simp +decide only [s_X5_isGo_0, s_X5_isGo_1, s_X5_isGo_4, s_X5_isGo_7, s_X5_isGo_8, s_X5_isGo_9, s_X5_isGo_12, s_X5_isGo_13, s_X5_isGo_14, s_X5_isGo_15, s_X5_isGo_18, s_X5_isGo_21, s_X5_isGo_22, s_X5_isGo_23, s_X5_isGo_26, s_X5_isGo_27, s_X5_isGo_28, s_X5_isGo_31, s_X5_isGo_34, s_X5_isGo_35, s_X5_isGo_36, s_X5_isGo_39, s_X5_isGo_42, s_X5_isGo_43, s_X5_isGo_46, s_X5_isGo_47, s_X5_isGo_47b, s_X5_isGo_47c, hx_25, hg_25_0, hg_25_1, hs_25_1, hg_25_2, hs_25_2, hg_25_3, hs_25_3, hg_25_4, hs_25_4, hg_25_5, hs_25_5, hg_25_6, hs_25_6, hg_25_7, hs_25_7, hg_25_8, hs_25_8, hg_25_9, hs_25_9, hg_25_10, hs_25_10, hg_25_11, hs_25_11, hg_25_12, hs_25_12, hg_25_13, hg_25_14, hg_25_15, hg_25_16, hg_25_17, hx_1, hg_1_0, hs_1_0, hg_1_1, hs_1_1, hg_1_2, hs_1_2, hg_1_3, hs_1_3, hg_1_4, hs_1_4, hg_1_5, hg_1_6, hg_1_7, hg_1_8, hg_1_9, hg_1_10, hg_1_11, hg_1_12, hn_9, ha_9, hA_9, hx_27, hg_27_0, hg_27_1, hn_28, ha_28, hA_28, hn_29, ha_29, hA_29, xk_s, ts_s, ts_n, Option.bind_some, xc_n, xc_i, xc_r, xc_l, xc_d, xcats_n, xcats_i, xcats_r, xcats_l, xcats_d, and_true, true_and, and_self, if_true, if_false, Nat.reduceAdd, Nat.reduceLeDiff, Nat.zero_le, hk, e_bitCount, h1, h2, goB]
theorem l_wContain1 (d : Nat) (x : Int32) (H : Nat) (hH : H ≤ 4) (hg : g 55 = nI H) : ∀ n j : Nat, j + n = H → rx x0 d iX4_contain 2 [some (.ref 30), some (.int x), some (.int (nI j))] [] (hp g G o h, c) = some (.inl (some (.int (if fa (fun k => !(decide (x < G 22 k)) && !(decide (G 23 k < x))) j n = true then 1 else 0))), (hp g G o h, c)) := by
  intro n
  induction n with
  | zero =>
    intro j hj
    have h1 : ¬ nI j < nI H := nI_nlt (by omega) (by omega)
    rw [s_X4_contain_2]
    simp +decide only [s_X4_contain_0, s_X4_contain_1, s_X4_contain_3, s_X4_contain_4, s_X4_contain_7, s_X4_contain_10, s_X4_contain_11, s_X4_contain_12, s_X4_contain_15, s_X4_contain_16, s_X4_contain_17, s_X4_contain_20, s_X4_contain_21, s_X4_contain_22, s_X4_contain_25, s_X4_contain_26, s_X4_contain_27, s_X4_contain_30, s_X4_contain_31, s_X4_contain_31b, s_X4_contain_31c, s_X4_contain_32, s_X4_contain_35, s_X4_contain_38, s_X4_contain_39, s_X4_contain_39b, s_X4_contain_39c, hx_30, hg_30_0, hg_30_1, hg_30_2, hs_30_2, hn_31, ha_31, hA_31, hn_32, ha_32, hA_32, xk_s, ts_s, ts_n, Option.bind_some, xc_n, xc_i, xc_r, xc_l, xc_d, xcats_n, xcats_i, xcats_r, xcats_l, xcats_d, and_true, true_and, and_self, if_true, if_false, Nat.reduceAdd, Nat.reduceLeDiff, Nat.zero_le, hg, h1, fa]
  | succ n ih =>
    intro j hj
    have h1 : nI j < nI H := nI_lt (by omega) (by omega)
    have h2 : ixb (nI j) 4 = true := ixb_nI (by omega) (by omega)
    have h3 := nI_clamp (n := j) (by omega)
    have ih := ih (j + 1) (by omega)
    rw [s_X4_contain_2]
    by_cases h4 : x < G 22 j <;> by_cases h5 : G 23 j < x <;> simp +decide only [s_X4_contain_0, s_X4_contain_1, s_X4_contain_3, s_X4_contain_4, s_X4_contain_7, s_X4_contain_10, s_X4_contain_11, s_X4_contain_12, s_X4_contain_15, s_X4_contain_16, s_X4_contain_17, s_X4_contain_20, s_X4_contain_21, s_X4_contain_22, s_X4_contain_25, s_X4_contain_26, s_X4_contain_27, s_X4_contain_30, s_X4_contain_31, s_X4_contain_31b, s_X4_contain_31c, s_X4_contain_32, s_X4_contain_35, s_X4_contain_38, s_X4_contain_39, s_X4_contain_39b, s_X4_contain_39c, hx_30, hg_30_0, hg_30_1, hg_30_2, hs_30_2, hn_31, ha_31, hA_31, hn_32, ha_32, hA_32, xk_s, ts_s, ts_n, Option.bind_some, xc_n, xc_i, xc_r, xc_l, xc_d, xcats_n, xcats_i, xcats_r, xcats_l, xcats_d, and_true, true_and, and_self, if_true, if_false, Nat.reduceAdd, Nat.reduceLeDiff, Nat.zero_le, hg, h1, h2, h3, h4, h5, fa, nI_1, ih, Bool.false_or, Bool.true_or]
theorem e_wContain1 (d : Nat) (x : Int32) (H : Nat) (hH : H ≤ 4) (hg : g 55 = nI H) : ev (d + 1) iX4_contain [.ref 30, .int x] (hp g G o h, c) = some (.inl (some (.int (if fa (fun k => !(decide (x < G 22 k)) && !(decide (G 23 k < x))) 0 H = true then 1 else 0))), (hp g G o h, c)) := by
  rw [n_X4_contain]
  simp only [s_X4_contain_0, s_X4_contain_1, xk_s, ts_s, ts_n, Option.bind_some, xc_n, xc_i, xc_r, xc_l, xc_d, xcats_n, xcats_i, xcats_r, xcats_l, xcats_d, and_true, true_and, and_self, if_true, if_false, Nat.reduceAdd, Nat.reduceLeDiff, Nat.zero_le]
  exact l_wContain1 d x H hH hg H 0 (by omega)
theorem l_cContain1 (d : Nat) (x : Int32) (H : Nat) (hH : H ≤ 6) (hg : g 56 = nI H) : ∀ n j : Nat, j + n = H → rx x0 d iX4_contain 2 [some (.ref 33), some (.int x), some (.int (nI j))] [] (hp g G o h, c) = some (.inl (some (.int (if fa (fun k => !(decide (x < G 24 k)) && !(decide (G 25 k < x))) j n = true then 1 else 0))), (hp g G o h, c)) := by
  intro n
  induction n with
  | zero =>
    intro j hj
    have h1 : ¬ nI j < nI H := nI_nlt (by omega) (by omega)
    rw [s_X4_contain_2]
    simp +decide only [s_X4_contain_0, s_X4_contain_1, s_X4_contain_3, s_X4_contain_4, s_X4_contain_7, s_X4_contain_10, s_X4_contain_11, s_X4_contain_12, s_X4_contain_15, s_X4_contain_16, s_X4_contain_17, s_X4_contain_20, s_X4_contain_21, s_X4_contain_22, s_X4_contain_25, s_X4_contain_26, s_X4_contain_27, s_X4_contain_30, s_X4_contain_31, s_X4_contain_31b, s_X4_contain_31c, s_X4_contain_32, s_X4_contain_35, s_X4_contain_38, s_X4_contain_39, s_X4_contain_39b, s_X4_contain_39c, hx_33, hg_33_0, hg_33_1, hg_33_2, hs_33_2, hn_34, ha_34, hA_34, hn_35, ha_35, hA_35, xk_s, ts_s, ts_n, Option.bind_some, xc_n, xc_i, xc_r, xc_l, xc_d, xcats_n, xcats_i, xcats_r, xcats_l, xcats_d, and_true, true_and, and_self, if_true, if_false, Nat.reduceAdd, Nat.reduceLeDiff, Nat.zero_le, hg, h1, fa]
  | succ n ih =>
    intro j hj
    have h1 : nI j < nI H := nI_lt (by omega) (by omega)
    have h2 : ixb (nI j) 6 = true := ixb_nI (by omega) (by omega)
    have h3 := nI_clamp (n := j) (by omega)
    have ih := ih (j + 1) (by omega)
    rw [s_X4_contain_2]
    by_cases h4 : x < G 24 j <;> by_cases h5 : G 25 j < x <;> simp +decide only [s_X4_contain_0, s_X4_contain_1, s_X4_contain_3, s_X4_contain_4, s_X4_contain_7, s_X4_contain_10, s_X4_contain_11, s_X4_contain_12, s_X4_contain_15, s_X4_contain_16, s_X4_contain_17, s_X4_contain_20, s_X4_contain_21, s_X4_contain_22, s_X4_contain_25, s_X4_contain_26, s_X4_contain_27, s_X4_contain_30, s_X4_contain_31, s_X4_contain_31b, s_X4_contain_31c, s_X4_contain_32, s_X4_contain_35, s_X4_contain_38, s_X4_contain_39, s_X4_contain_39b, s_X4_contain_39c, hx_33, hg_33_0, hg_33_1, hg_33_2, hs_33_2, hn_34, ha_34, hA_34, hn_35, ha_35, hA_35, xk_s, ts_s, ts_n, Option.bind_some, xc_n, xc_i, xc_r, xc_l, xc_d, xcats_n, xcats_i, xcats_r, xcats_l, xcats_d, and_true, true_and, and_self, if_true, if_false, Nat.reduceAdd, Nat.reduceLeDiff, Nat.zero_le, hg, h1, h2, h3, h4, h5, fa, nI_1, ih, Bool.false_or, Bool.true_or]
theorem e_cContain1 (d : Nat) (x : Int32) (H : Nat) (hH : H ≤ 6) (hg : g 56 = nI H) : ev (d + 1) iX4_contain [.ref 33, .int x] (hp g G o h, c) = some (.inl (some (.int (if fa (fun k => !(decide (x < G 24 k)) && !(decide (G 25 k < x))) 0 H = true then 1 else 0))), (hp g G o h, c)) := by
  rw [n_X4_contain]
  simp only [s_X4_contain_0, s_X4_contain_1, xk_s, ts_s, ts_n, Option.bind_some, xc_n, xc_i, xc_r, xc_l, xc_d, xcats_n, xcats_i, xcats_r, xcats_l, xcats_d, and_true, true_and, and_self, if_true, if_false, Nat.reduceAdd, Nat.reduceLeDiff, Nat.zero_le]
  exact l_cContain1 d x H hH hg H 0 (by omega)
theorem l_block1 (d : Nat) (N : Nat) (hN : N ≤ 6) (hg : g 5 = nI N) : ∀ n j : Nat, j + n = N → rx x0 (d + 2) iX5_blockingConstraint 2 [some (.ref 25), some (.int (nI j))] [] (hp g G o h, c) = some (.inl (some (.int (ff (fun k => actB G (g 42) k && !(goB 20 G k)) j n))), (hp g G o h, c)) := by
  intro n
  induction n with
  | zero =>
    intro j hj
    have h1 : ¬ nI j < nI N := nI_nlt (by omega) (by omega)
    rw [s_X5_blockingConstraint_2]
    simp +decide only [s_X5_blockingConstraint_0, s_X5_blockingConstraint_1, s_X5_blockingConstraint_3, s_X5_blockingConstraint_4, s_X5_blockingConstraint_7, s_X5_blockingConstraint_10, s_X5_blockingConstraint_13, s_X5_blockingConstraint_14, s_X5_blockingConstraint_17, s_X5_blockingConstraint_18, s_X5_blockingConstraint_19, s_X5_blockingConstraint_22, s_X5_blockingConstraint_25, s_X5_blockingConstraint_28, s_X5_blockingConstraint_29, s_X5_blockingConstraint_30, s_X5_blockingConstraint_33, s_X5_blockingConstraint_36, s_X5_blockingConstraint_37, s_X5_blockingConstraint_38, s_X5_blockingConstraint_41, s_X5_blockingConstraint_44, s_X5_blockingConstraint_45, hx_25, hg_25_0, hg_25_1, hs_25_1, hg_25_2, hs_25_2, hg_25_3, hs_25_3, hg_25_4, hs_25_4, hg_25_5, hs_25_5, hg_25_6, hs_25_6, hg_25_7, hs_25_7, hg_25_8, hs_25_8, hg_25_9, hs_25_9, hg_25_10, hs_25_10, hg_25_11, hs_25_11, hg_25_12, hs_25_12, hg_25_13, hg_25_14, hg_25_15, hg_25_16, hg_25_17, hx_1, hg_1_0, hs_1_0, hg_1_1, hs_1_1, hg_1_2, hs_1_2, hg_1_3, hs_1_3, hg_1_4, hs_1_4, hg_1_5, hg_1_6, hg_1_7, hg_1_8, hg_1_9, hg_1_10, hg_1_11, hg_1_12, xk_s, ts_s, ts_n, Option.bind_some, xc_n, xc_i, xc_r, xc_l, xc_d, xcats_n, xcats_i, xcats_r, xcats_l, xcats_d, and_true, true_and, and_self, if_true, if_false, Nat.reduceAdd, Nat.reduceLeDiff, Nat.zero_le, hg, h1, ff]
  | succ n ih =>
    intro j hj
    have h1 : nI j < nI N := nI_lt (by omega) (by omega)
    have h2 : ixb (nI j) 6 = true := ixb_nI (by omega) (by omega)
    have h3 := nI_clamp (n := j) (by omega)
    have ih := ih (j + 1) (by omega)
    rw [s_X5_blockingConstraint_2]
    by_cases h4 : G 5 j < g 42 <;> by_cases h5 : g 42 < G 6 j <;> cases h6 : goB 20 G j <;> simp +decide only [s_X5_blockingConstraint_0, s_X5_blockingConstraint_1, s_X5_blockingConstraint_3, s_X5_blockingConstraint_4, s_X5_blockingConstraint_7, s_X5_blockingConstraint_10, s_X5_blockingConstraint_13, s_X5_blockingConstraint_14, s_X5_blockingConstraint_17, s_X5_blockingConstraint_18, s_X5_blockingConstraint_19, s_X5_blockingConstraint_22, s_X5_blockingConstraint_25, s_X5_blockingConstraint_28, s_X5_blockingConstraint_29, s_X5_blockingConstraint_30, s_X5_blockingConstraint_33, s_X5_blockingConstraint_36, s_X5_blockingConstraint_37, s_X5_blockingConstraint_38, s_X5_blockingConstraint_41, s_X5_blockingConstraint_44, s_X5_blockingConstraint_45, hx_25, hg_25_0, hg_25_1, hs_25_1, hg_25_2, hs_25_2, hg_25_3, hs_25_3, hg_25_4, hs_25_4, hg_25_5, hs_25_5, hg_25_6, hs_25_6, hg_25_7, hs_25_7, hg_25_8, hs_25_8, hg_25_9, hs_25_9, hg_25_10, hs_25_10, hg_25_11, hs_25_11, hg_25_12, hs_25_12, hg_25_13, hg_25_14, hg_25_15, hg_25_16, hg_25_17, hx_1, hg_1_0, hs_1_0, hg_1_1, hs_1_1, hg_1_2, hs_1_2, hg_1_3, hs_1_3, hg_1_4, hs_1_4, hg_1_5, hg_1_6, hg_1_7, hg_1_8, hg_1_9, hg_1_10, hg_1_11, hg_1_12, xk_s, ts_s, ts_n, Option.bind_some, xc_n, xc_i, xc_r, xc_l, xc_d, xcats_n, xcats_i, xcats_r, xcats_l, xcats_d, and_true, true_and, and_self, if_true, if_false, Nat.reduceAdd, Nat.reduceLeDiff, Nat.zero_le, hg, h1, h2, h3, h4, h5, h6, ff, actB, nI_1, ih, e_isActive, e_isGo1]
theorem e_block1 (d : Nat) (N : Nat) (hN : N ≤ 6) (hg : g 5 = nI N) : ev (d + 3) iX5_blockingConstraint [.ref 25] (hp g G o h, c) = some (.inl (some (.int (ff (fun k => actB G (g 42) k && !(goB 20 G k)) 0 N))), (hp g G o h, c)) := by
  rw [n_X5_blockingConstraint]
  simp only [s_X5_blockingConstraint_0, s_X5_blockingConstraint_1, xk_s, ts_s, ts_n, Option.bind_some, xc_n, xc_i, xc_r, xc_l, xc_d, xcats_n, xcats_i, xcats_r, xcats_l, xcats_d, and_true, true_and, and_self, if_true, if_false, Nat.reduceAdd, Nat.reduceLeDiff, Nat.zero_le]
  exact l_block1 d N hN hg N 0 (by omega)
end
