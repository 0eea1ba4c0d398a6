/-! the law's own calls, with what they catch; written by wip/whole/gen_law.py -/
theorem lgc (x : Int64) : lg_cmp x x = 0 := by
  unfold lg_cmp
  rw [if_neg (fun q => absurd q (Int64.lt_irrefl)), if_pos rfl]
section
variable {xs : Nat × (Nat → Int32)} {d y pc : Nat} {lv : List (Option Value)} {w w' : xW}
theorem r_callH {ix y' n li zz ci a : Nat} {As rest : List Value} (h : xat y pc = some (pc, .invokevirtual ix, 3, [y', n, li, zz, ci])) (hn : As.length = n) (hi : xis w.1 a ci = true) (hc : xcats rest ≤ 8) {v : Option Value} (he : ev d y' (.ref a :: As) w = some (.inl v, w')) : rx xs d y pc lv (As.reverse ++ .ref a :: rest) w = rx xs d y (pc + 3) lv (v.toList ++ rest) w' := by
  subst hn
  rw [rx_at h]
  simp only [xi, ← List.length_reverse (as := As), List.drop_left, List.take_left, List.reverse_reverse]
  rw [if_pos ⟨hi, hc⟩]
  simp only [xcal, he]
theorem r_callT {ix y' n li zz ci a t k : Nat} {As rest : List Value} {aux : List Nat} (h : xat y pc = some (pc, .invokevirtual ix, 3, [y', n, li, zz, ci])) (hn : As.length = n) (hi : xis w.1 a ci = true) (hc : xcats rest ≤ 8) {E : String} (he : ev d y' (.ref a :: As) w = some (.inr E, w')) (hh : xhan (xhh y) pc E = some t) (ht : xat y t = some (t, .astore k, 2, aux)) (hk : k < xmaxL y) : rx xs d y pc lv (As.reverse ++ .ref a :: rest) w = rx xs d y (t + 2) (xldel lv k) [] w' := by
  subst hn
  rw [rx_at h]
  simp only [xi, ← List.length_reverse (as := As), List.drop_left, List.take_left, List.reverse_reverse]
  rw [if_pos ⟨hi, hc⟩]
  simp only [xcal, he, hh, ht, if_pos hk]
theorem r_callTn {ix y' n li zz ci a t : Nat} {k : Fin 4} {As rest : List Value} {aux : List Nat} (h : xat y pc = some (pc, .invokevirtual ix, 3, [y', n, li, zz, ci])) (hn : As.length = n) (hi : xis w.1 a ci = true) (hc : xcats rest ≤ 8) {E : String} (he : ev d y' (.ref a :: As) w = some (.inr E, w')) (hh : xhan (xhh y) pc E = some t) (ht : xat y t = some (t, .astore_n k, 1, aux)) (hk : (k : Nat) < xmaxL y) : rx xs d y pc lv (As.reverse ++ .ref a :: rest) w = rx xs d y (t + 1) (xldel lv k) [] w' := by
  subst hn
  rw [rx_at h]
  simp only [xi, ← List.length_reverse (as := As), List.drop_left, List.take_left, List.reverse_reverse]
  rw [if_pos ⟨hi, hc⟩]
  simp only [xcal, he, hh, ht, if_pos hk]
end
abbrev KV (v : Int32) (Y : yS) (o : Nat → Int64) (h : Int64) (c : Nat × Nat) : Option (xR × xW) := some (.inl (some (.int 0)), (hp Y.1 Y.2 (vp_updL o 0 v.toInt64) h, c))
abbrev KE (k : Int32) (Y : yS) (o : Nat → Int64) (h : Int64) (c : Nat × Nat) : Option (xR × xW) := some (.inl (some (.int k)), (hp Y.1 Y.2 o h, c.1 + 1, c.2 + 6))
section
variable {X Y : yS} {o : Nat → Int64} {h : Int64} {c : Nat × Nat} {v : Int32}
theorem wv_begin (d : Nat) (p1 : Int32) (he : ev d iX7_begin [.ref 0, .int p1] (hp X.1 X.2 o h, c) = RI v Y o h c) : ev (d + 1) iL_begin [.ref 0, .int p1, .ref 102] (hp X.1 X.2 o h, c) = KV v Y o h c := by
  rw [n_L_begin]
  simp only [s_L_begin_0, s_L_begin_1, s_L_begin_2, s_L_begin_3]
  refine (r_callH (As := [.int p1]) (a := 0) (rest := [.int 0, .ref 102]) (show xat iL_begin 4 = some (4, .invokevirtual 7, 3, [120, 1, 527, 0, 7]) by decide +kernel) rfl hx_0 (by decide) he).trans ?_
  simp +decide only [s_L_begin_7, s_L_begin_8, s_L_begin_9, s_L_begin_15, s_L_begin_16, xk_s, ts_s, ts_n, Option.bind_some, xc_n, xc_i, xc_r, xc_l, xc_d, xcats_n, xcats_i, xcats_r, xcats_l, xcats_d, and_true, true_and, and_self, if_true, if_false, Nat.reduceAdd, Nat.reduceLeDiff, Nat.zero_le, decide_true, decide_false, Bool.not_true, Bool.not_false, Bool.and_true, Bool.true_and, Bool.and_false, Bool.false_and, Bool.true_or, Bool.false_or, Bool.or_true, Bool.or_false, Bool.false_eq_true, ha_102, hA_102, zt_0]
theorem wt_begin_eIA (d : Nat) (p1 : Int32) (he : ev d iX7_begin [.ref 0, .int p1] (hp X.1 X.2 o h, c) = TH eIA Y o h c) : ev (d + 1) iL_begin [.ref 0, .int p1, .ref 102] (hp X.1 X.2 o h, c) = KE 1 Y o h c := by
  rw [n_L_begin]
  simp only [s_L_begin_0, s_L_begin_1, s_L_begin_2, s_L_begin_3]
  refine (r_callTn (As := [.int p1]) (a := 0) (rest := [.int 0, .ref 102]) (t := 12) (k := 3) (aux := []) (show xat iL_begin 4 = some (4, .invokevirtual 7, 3, [120, 1, 527, 0, 7]) by decide +kernel) rfl hx_0 (by decide) he (by decide +kernel) (by decide +kernel) (by decide +kernel)).trans ?_
  show rx x0 d iL_begin 13 [some (.ref 0), some (.int p1), some (.ref 102), none] [] _ = _
  rw [s_L_begin_13, s_L_begin_14]
theorem wv_addEvent (d : Nat) (p1 : Int32) (p2 : Int32) (he : ev d iX7_addEvent [.ref 0, .int p1, .int p2] (hp X.1 X.2 o h, c) = RI v Y o h c) : ev (d + 1) iL_addEvent [.ref 0, .int p1, .int p2, .ref 102] (hp X.1 X.2 o h, c) = KV v Y o h c := by
  rw [n_L_addEvent]
  simp only [s_L_addEvent_0, s_L_addEvent_1, s_L_addEvent_2, s_L_addEvent_3, s_L_addEvent_4]
  refine (r_callH (As := [.int p1, .int p2]) (a := 0) (rest := [.int 0, .ref 102]) (show xat iL_addEvent 5 = some (5, .invokevirtual 15, 3, [121, 2, 604, 0, 7]) by decide +kernel) rfl hx_0 (by decide) he).trans ?_
  simp +decide only [s_L_addEvent_8, s_L_addEvent_9, s_L_addEvent_10, s_L_addEvent_25, s_L_addEvent_26, xk_s, ts_s, ts_n, Option.bind_some, xc_n, xc_i, xc_r, xc_l, xc_d, xcats_n, xcats_i, xcats_r, xcats_l, xcats_d, and_true, true_and, and_self, if_true, if_false, Nat.reduceAdd, Nat.reduceLeDiff, Nat.zero_le, decide_true, decide_false, Bool.not_true, Bool.not_false, Bool.and_true, Bool.true_and, Bool.and_false, Bool.false_and, Bool.true_or, Bool.false_or, Bool.or_true, Bool.or_false, Bool.false_eq_true, ha_102, hA_102, zt_0]
theorem wt_addEvent_eIA (d : Nat) (p1 : Int32) (p2 : Int32) (he : ev d iX7_addEvent [.ref 0, .int p1, .int p2] (hp X.1 X.2 o h, c) = TH eIA Y o h c) : ev (d + 1) iL_addEvent [.ref 0, .int p1, .int p2, .ref 102] (hp X.1 X.2 o h, c) = KE 1 Y o h c := by
  rw [n_L_addEvent]
  simp only [s_L_addEvent_0, s_L_addEvent_1, s_L_addEvent_2, s_L_addEvent_3, s_L_addEvent_4]
  refine (r_callT (As := [.int p1, .int p2]) (a := 0) (rest := [.int 0, .ref 102]) (t := 13) (k := 4) (aux := []) (show xat iL_addEvent 5 = some (5, .invokevirtual 15, 3, [121, 2, 604, 0, 7]) by decide +kernel) rfl hx_0 (by decide) he (by decide +kernel) (by decide +kernel) (by decide +kernel)).trans ?_
  show rx x0 d iL_addEvent 15 [some (.ref 0), some (.int p1), some (.int p2), some (.ref 102), none] [] _ = _
  rw [s_L_addEvent_15, s_L_addEvent_16]
theorem wt_addEvent_eIX (d : Nat) (p1 : Int32) (p2 : Int32) (he : ev d iX7_addEvent [.ref 0, .int p1, .int p2] (hp X.1 X.2 o h, c) = TH eIX Y o h c) : ev (d + 1) iL_addEvent [.ref 0, .int p1, .int p2, .ref 102] (hp X.1 X.2 o h, c) = KE 2 Y o h c := by
  rw [n_L_addEvent]
  simp only [s_L_addEvent_0, s_L_addEvent_1, s_L_addEvent_2, s_L_addEvent_3, s_L_addEvent_4]
  refine (r_callT (As := [.int p1, .int p2]) (a := 0) (rest := [.int 0, .ref 102]) (t := 17) (k := 4) (aux := []) (show xat iL_addEvent 5 = some (5, .invokevirtual 15, 3, [121, 2, 604, 0, 7]) by decide +kernel) rfl hx_0 (by decide) he (by decide +kernel) (by decide +kernel) (by decide +kernel)).trans ?_
  show rx x0 d iL_addEvent 19 [some (.ref 0), some (.int p1), some (.int p2), some (.ref 102), none] [] _ = _
  rw [s_L_addEvent_19, s_L_addEvent_20]
theorem wt_addEvent_eIS (d : Nat) (p1 : Int32) (p2 : Int32) (he : ev d iX7_addEvent [.ref 0, .int p1, .int p2] (hp X.1 X.2 o h, c) = TH eIS Y o h c) : ev (d + 1) iL_addEvent [.ref 0, .int p1, .int p2, .ref 102] (hp X.1 X.2 o h, c) = KE 3 Y o h c := by
  rw [n_L_addEvent]
  simp only [s_L_addEvent_0, s_L_addEvent_1, s_L_addEvent_2, s_L_addEvent_3, s_L_addEvent_4]
  refine (r_callT (As := [.int p1, .int p2]) (a := 0) (rest := [.int 0, .ref 102]) (t := 21) (k := 4) (aux := []) (show xat iL_addEvent 5 = some (5, .invokevirtual 15, 3, [121, 2, 604, 0, 7]) by decide +kernel) rfl hx_0 (by decide) he (by decide +kernel) (by decide +kernel) (by decide +kernel)).trans ?_
  show rx x0 d iL_addEvent 23 [some (.ref 0), some (.int p1), some (.int p2), some (.ref 102), none] [] _ = _
  rw [s_L_addEvent_23, s_L_addEvent_24]
theorem wv_addHold (d : Nat) (p1 : Int32) (p2 : Int32) (he : ev d iX7_addHold [.ref 0, .int p1, .int p2] (hp X.1 X.2 o h, c) = RI v Y o h c) : ev (d + 1) iL_addHold [.ref 0, .int p1, .int p2, .ref 102] (hp X.1 X.2 o h, c) = KV v Y o h c := by
  rw [n_L_addHold]
  simp only [s_L_addHold_0, s_L_addHold_1, s_L_addHold_2, s_L_addHold_3, s_L_addHold_4]
  refine (r_callH (As := [.int p1, .int p2]) (a := 0) (rest := [.int 0, .ref 102]) (show xat iL_addHold 5 = some (5, .invokevirtual 23, 3, [122, 2, 656, 0, 7]) by decide +kernel) rfl hx_0 (by decide) he).trans ?_
  simp +decide only [s_L_addHold_8, s_L_addHold_9, s_L_addHold_10, s_L_addHold_21, s_L_addHold_22, xk_s, ts_s, ts_n, Option.bind_some, xc_n, xc_i, xc_r, xc_l, xc_d, xcats_n, xcats_i, xcats_r, xcats_l, xcats_d, and_true, true_and, and_self, if_true, if_false, Nat.reduceAdd, Nat.reduceLeDiff, Nat.zero_le, decide_true, decide_false, Bool.not_true, Bool.not_false, Bool.and_true, Bool.true_and, Bool.and_false, Bool.false_and, Bool.true_or, Bool.false_or, Bool.or_true, Bool.or_false, Bool.false_eq_true, ha_102, hA_102, zt_0]
theorem wt_addHold_eIA (d : Nat) (p1 : Int32) (p2 : Int32) (he : ev d iX7_addHold [.ref 0, .int p1, .int p2] (hp X.1 X.2 o h, c) = TH eIA Y o h c) : ev (d + 1) iL_addHold [.ref 0, .int p1, .int p2, .ref 102] (hp X.1 X.2 o h, c) = KE 1 Y o h c := by
  rw [n_L_addHold]
  simp only [s_L_addHold_0, s_L_addHold_1, s_L_addHold_2, s_L_addHold_3, s_L_addHold_4]
  refine (r_callT (As := [.int p1, .int p2]) (a := 0) (rest := [.int 0, .ref 102]) (t := 13) (k := 4) (aux := []) (show xat iL_addHold 5 = some (5, .invokevirtual 23, 3, [122, 2, 656, 0, 7]) by decide +kernel) rfl hx_0 (by decide) he (by decide +kernel) (by decide +kernel) (by decide +kernel)).trans ?_
  show rx x0 d iL_addHold 15 [some (.ref 0), some (.int p1), some (.int p2), some (.ref 102), none] [] _ = _
  rw [s_L_addHold_15, s_L_addHold_16]
theorem wt_addHold_eIS (d : Nat) (p1 : Int32) (p2 : Int32) (he : ev d iX7_addHold [.ref 0, .int p1, .int p2] (hp X.1 X.2 o h, c) = TH eIS Y o h c) : ev (d + 1) iL_addHold [.ref 0, .int p1, .int p2, .ref 102] (hp X.1 X.2 o h, c) = KE 2 Y o h c := by
  rw [n_L_addHold]
  simp only [s_L_addHold_0, s_L_addHold_1, s_L_addHold_2, s_L_addHold_3, s_L_addHold_4]
  refine (r_callT (As := [.int p1, .int p2]) (a := 0) (rest := [.int 0, .ref 102]) (t := 17) (k := 4) (aux := []) (show xat iL_addHold 5 = some (5, .invokevirtual 23, 3, [122, 2, 656, 0, 7]) by decide +kernel) rfl hx_0 (by decide) he (by decide +kernel) (by decide +kernel) (by decide +kernel)).trans ?_
  show rx x0 d iL_addHold 19 [some (.ref 0), some (.int p1), some (.int p2), some (.ref 102), none] [] _ = _
  rw [s_L_addHold_19, s_L_addHold_20]
theorem wv_addPoint (d : Nat) (p1 : Int32) (he : ev d iX7_addPoint [.ref 0, .int p1] (hp X.1 X.2 o h, c) = RI v Y o h c) : ev (d + 1) iL_addPoint [.ref 0, .int p1, .ref 102] (hp X.1 X.2 o h, c) = KV v Y o h c := by
  rw [n_L_addPoint]
  simp only [s_L_addPoint_0, s_L_addPoint_1, s_L_addPoint_2, s_L_addPoint_3]
  refine (r_callH (As := [.int p1]) (a := 0) (rest := [.int 0, .ref 102]) (show xat iL_addPoint 4 = some (4, .invokevirtual 26, 3, [123, 1, 674, 0, 7]) by decide +kernel) rfl hx_0 (by decide) he).trans ?_
  simp +decide only [s_L_addPoint_7, s_L_addPoint_8, s_L_addPoint_9, s_L_addPoint_18, s_L_addPoint_19, xk_s, ts_s, ts_n, Option.bind_some, xc_n, xc_i, xc_r, xc_l, xc_d, xcats_n, xcats_i, xcats_r, xcats_l, xcats_d, and_true, true_and, and_self, if_true, if_false, Nat.reduceAdd, Nat.reduceLeDiff, Nat.zero_le, decide_true, decide_false, Bool.not_true, Bool.not_false, Bool.and_true, Bool.true_and, Bool.and_false, Bool.false_and, Bool.true_or, Bool.false_or, Bool.or_true, Bool.or_false, Bool.false_eq_true, ha_102, hA_102, zt_0]
theorem wt_addPoint_eIA (d : Nat) (p1 : Int32) (he : ev d iX7_addPoint [.ref 0, .int p1] (hp X.1 X.2 o h, c) = TH eIA Y o h c) : ev (d + 1) iL_addPoint [.ref 0, .int p1, .ref 102] (hp X.1 X.2 o h, c) = KE 1 Y o h c := by
  rw [n_L_addPoint]
  simp only [s_L_addPoint_0, s_L_addPoint_1, s_L_addPoint_2, s_L_addPoint_3]
  refine (r_callTn (As := [.int p1]) (a := 0) (rest := [.int 0, .ref 102]) (t := 12) (k := 3) (aux := []) (show xat iL_addPoint 4 = some (4, .invokevirtual 26, 3, [123, 1, 674, 0, 7]) by decide +kernel) rfl hx_0 (by decide) he (by decide +kernel) (by decide +kernel) (by decide +kernel)).trans ?_
  show rx x0 d iL_addPoint 13 [some (.ref 0), some (.int p1), some (.ref 102), none] [] _ = _
  rw [s_L_addPoint_13, s_L_addPoint_14]
theorem wt_addPoint_eIS (d : Nat) (p1 : Int32) (he : ev d iX7_addPoint [.ref 0, .int p1] (hp X.1 X.2 o h, c) = TH eIS Y o h c) : ev (d + 1) iL_addPoint [.ref 0, .int p1, .ref 102] (hp X.1 X.2 o h, c) = KE 2 Y o h c := by
  rw [n_L_addPoint]
  simp only [s_L_addPoint_0, s_L_addPoint_1, s_L_addPoint_2, s_L_addPoint_3]
  refine (r_callTn (As := [.int p1]) (a := 0) (rest := [.int 0, .ref 102]) (t := 15) (k := 3) (aux := []) (show xat iL_addPoint 4 = some (4, .invokevirtual 26, 3, [123, 1, 674, 0, 7]) by decide +kernel) rfl hx_0 (by decide) he (by decide +kernel) (by decide +kernel) (by decide +kernel)).trans ?_
  show rx x0 d iL_addPoint 16 [some (.ref 0), some (.int p1), some (.ref 102), none] [] _ = _
  rw [s_L_addPoint_16, s_L_addPoint_17]
theorem wv_addConstraint (d : Nat) (p1 : Int32) (p2 : Int32) (p3 : Int32) (he : ev d iX7_addConstraint [.ref 0, .int p1, .int p2, .int p3] (hp X.1 X.2 o h, c) = RI v Y o h c) : ev (d + 1) iL_addConstraint [.ref 0, .int p1, .int p2, .int p3, .ref 102] (hp X.1 X.2 o h, c) = KV v Y o h c := by
  rw [n_L_addConstraint]
  simp only [s_L_addConstraint_0, s_L_addConstraint_2, s_L_addConstraint_3, s_L_addConstraint_4, s_L_addConstraint_5, s_L_addConstraint_6]
  refine (r_callH (As := [.int p1, .int p2, .int p3]) (a := 0) (rest := [.int 0, .ref 102]) (show xat iL_addConstraint 7 = some (7, .invokevirtual 29, 3, [124, 3, 686, 0, 7]) by decide +kernel) rfl hx_0 (by decide) he).trans ?_
  simp +decide only [s_L_addConstraint_10, s_L_addConstraint_11, s_L_addConstraint_12, s_L_addConstraint_23, s_L_addConstraint_24, xk_s, ts_s, ts_n, Option.bind_some, xc_n, xc_i, xc_r, xc_l, xc_d, xcats_n, xcats_i, xcats_r, xcats_l, xcats_d, and_true, true_and, and_self, if_true, if_false, Nat.reduceAdd, Nat.reduceLeDiff, Nat.zero_le, decide_true, decide_false, Bool.not_true, Bool.not_false, Bool.and_true, Bool.true_and, Bool.and_false, Bool.false_and, Bool.true_or, Bool.false_or, Bool.or_true, Bool.or_false, Bool.false_eq_true, ha_102, hA_102, zt_0]
theorem wt_addConstraint_eIA (d : Nat) (p1 : Int32) (p2 : Int32) (p3 : Int32) (he : ev d iX7_addConstraint [.ref 0, .int p1, .int p2, .int p3] (hp X.1 X.2 o h, c) = TH eIA Y o h c) : ev (d + 1) iL_addConstraint [.ref 0, .int p1, .int p2, .int p3, .ref 102] (hp X.1 X.2 o h, c) = KE 1 Y o h c := by
  rw [n_L_addConstraint]
  simp only [s_L_addConstraint_0, s_L_addConstraint_2, s_L_addConstraint_3, s_L_addConstraint_4, s_L_addConstraint_5, s_L_addConstraint_6]
  refine (r_callT (As := [.int p1, .int p2, .int p3]) (a := 0) (rest := [.int 0, .ref 102]) (t := 15) (k := 5) (aux := []) (show xat iL_addConstraint 7 = some (7, .invokevirtual 29, 3, [124, 3, 686, 0, 7]) by decide +kernel) rfl hx_0 (by decide) he (by decide +kernel) (by decide +kernel) (by decide +kernel)).trans ?_
  show rx x0 d iL_addConstraint 17 [some (.ref 0), some (.int p1), some (.int p2), some (.int p3), some (.ref 102), none] [] _ = _
  rw [s_L_addConstraint_17, s_L_addConstraint_18]
theorem wt_addConstraint_eIS (d : Nat) (p1 : Int32) (p2 : Int32) (p3 : Int32) (he : ev d iX7_addConstraint [.ref 0, .int p1, .int p2, .int p3] (hp X.1 X.2 o h, c) = TH eIS Y o h c) : ev (d + 1) iL_addConstraint [.ref 0, .int p1, .int p2, .int p3, .ref 102] (hp X.1 X.2 o h, c) = KE 2 Y o h c := by
  rw [n_L_addConstraint]
  simp only [s_L_addConstraint_0, s_L_addConstraint_2, s_L_addConstraint_3, s_L_addConstraint_4, s_L_addConstraint_5, s_L_addConstraint_6]
  refine (r_callT (As := [.int p1, .int p2, .int p3]) (a := 0) (rest := [.int 0, .ref 102]) (t := 19) (k := 5) (aux := []) (show xat iL_addConstraint 7 = some (7, .invokevirtual 29, 3, [124, 3, 686, 0, 7]) by decide +kernel) rfl hx_0 (by decide) he (by decide +kernel) (by decide +kernel) (by decide +kernel)).trans ?_
  show rx x0 d iL_addConstraint 21 [some (.ref 0), some (.int p1), some (.int p2), some (.int p3), some (.ref 102), none] [] _ = _
  rw [s_L_addConstraint_21, s_L_addConstraint_22]
theorem wv_addSpan (d : Nat) (p1 : Int32) (p2 : Int32) (p3 : Int32) (he : ev d iX7_addSpan [.ref 0, .int p1, .int p2, .int p3] (hp X.1 X.2 o h, c) = RI v Y o h c) : ev (d + 1) iL_addSpan [.ref 0, .int p1, .int p2, .int p3, .ref 102] (hp X.1 X.2 o h, c) = KV v Y o h c := by
  rw [n_L_addSpan]
  simp only [s_L_addSpan_0, s_L_addSpan_2, s_L_addSpan_3, s_L_addSpan_4, s_L_addSpan_5, s_L_addSpan_6]
  refine (r_callH (As := [.int p1, .int p2, .int p3]) (a := 0) (rest := [.int 0, .ref 102]) (show xat iL_addSpan 7 = some (7, .invokevirtual 33, 3, [125, 3, 698, 0, 7]) by decide +kernel) rfl hx_0 (by decide) he).trans ?_
  simp +decide only [s_L_addSpan_10, s_L_addSpan_11, s_L_addSpan_12, s_L_addSpan_23, s_L_addSpan_24, xk_s, ts_s, ts_n, Option.bind_some, xc_n, xc_i, xc_r, xc_l, xc_d, xcats_n, xcats_i, xcats_r, xcats_l, xcats_d, and_true, true_and, and_self, if_true, if_false, Nat.reduceAdd, Nat.reduceLeDiff, Nat.zero_le, decide_true, decide_false, Bool.not_true, Bool.not_false, Bool.and_true, Bool.true_and, Bool.and_false, Bool.false_and, Bool.true_or, Bool.false_or, Bool.or_true, Bool.or_false, Bool.false_eq_true, ha_102, hA_102, zt_0]
theorem wt_addSpan_eIA (d : Nat) (p1 : Int32) (p2 : Int32) (p3 : Int32) (he : ev d iX7_addSpan [.ref 0, .int p1, .int p2, .int p3] (hp X.1 X.2 o h, c) = TH eIA Y o h c) : ev (d + 1) iL_addSpan [.ref 0, .int p1, .int p2, .int p3, .ref 102] (hp X.1 X.2 o h, c) = KE 1 Y o h c := by
  rw [n_L_addSpan]
  simp only [s_L_addSpan_0, s_L_addSpan_2, s_L_addSpan_3, s_L_addSpan_4, s_L_addSpan_5, s_L_addSpan_6]
  refine (r_callT (As := [.int p1, .int p2, .int p3]) (a := 0) (rest := [.int 0, .ref 102]) (t := 15) (k := 5) (aux := []) (show xat iL_addSpan 7 = some (7, .invokevirtual 33, 3, [125, 3, 698, 0, 7]) by decide +kernel) rfl hx_0 (by decide) he (by decide +kernel) (by decide +kernel) (by decide +kernel)).trans ?_
  show rx x0 d iL_addSpan 17 [some (.ref 0), some (.int p1), some (.int p2), some (.int p3), some (.ref 102), none] [] _ = _
  rw [s_L_addSpan_17, s_L_addSpan_18]
theorem wt_addSpan_eIS (d : Nat) (p1 : Int32) (p2 : Int32) (p3 : Int32) (he : ev d iX7_addSpan [.ref 0, .int p1, .int p2, .int p3] (hp X.1 X.2 o h, c) = TH eIS Y o h c) : ev (d + 1) iL_addSpan [.ref 0, .int p1, .int p2, .int p3, .ref 102] (hp X.1 X.2 o h, c) = KE 2 Y o h c := by
  rw [n_L_addSpan]
  simp only [s_L_addSpan_0, s_L_addSpan_2, s_L_addSpan_3, s_L_addSpan_4, s_L_addSpan_5, s_L_addSpan_6]
  refine (r_callT (As := [.int p1, .int p2, .int p3]) (a := 0) (rest := [.int 0, .ref 102]) (t := 19) (k := 5) (aux := []) (show xat iL_addSpan 7 = some (7, .invokevirtual 33, 3, [125, 3, 698, 0, 7]) by decide +kernel) rfl hx_0 (by decide) he (by decide +kernel) (by decide +kernel) (by decide +kernel)).trans ?_
  show rx x0 d iL_addSpan 21 [some (.ref 0), some (.int p1), some (.int p2), some (.int p3), some (.ref 102), none] [] _ = _
  rw [s_L_addSpan_21, s_L_addSpan_22]
theorem wv_setLimits (d : Nat) (p1 : Int32) (p2 : Int32) (he : ev d iX7_setLimits [.ref 0, .int p1, .int p2] (hp X.1 X.2 o h, c) = RI v Y o h c) : ev (d + 1) iL_setLimits [.ref 0, .int p1, .int p2, .ref 102] (hp X.1 X.2 o h, c) = KV v Y o h c := by
  rw [n_L_setLimits]
  simp only [s_L_setLimits_0, s_L_setLimits_1, s_L_setLimits_2, s_L_setLimits_3, s_L_setLimits_4]
  refine (r_callH (As := [.int p1, .int p2]) (a := 0) (rest := [.int 0, .ref 102]) (show xat iL_setLimits 5 = some (5, .invokevirtual 37, 3, [126, 2, 716, 0, 7]) by decide +kernel) rfl hx_0 (by decide) he).trans ?_
  simp +decide only [s_L_setLimits_8, s_L_setLimits_9, s_L_setLimits_10, s_L_setLimits_17, s_L_setLimits_18, xk_s, ts_s, ts_n, Option.bind_some, xc_n, xc_i, xc_r, xc_l, xc_d, xcats_n, xcats_i, xcats_r, xcats_l, xcats_d, and_true, true_and, and_self, if_true, if_false, Nat.reduceAdd, Nat.reduceLeDiff, Nat.zero_le, decide_true, decide_false, Bool.not_true, Bool.not_false, Bool.and_true, Bool.true_and, Bool.and_false, Bool.false_and, Bool.true_or, Bool.false_or, Bool.or_true, Bool.or_false, Bool.false_eq_true, ha_102, hA_102, zt_0]
theorem wt_setLimits_eIA (d : Nat) (p1 : Int32) (p2 : Int32) (he : ev d iX7_setLimits [.ref 0, .int p1, .int p2] (hp X.1 X.2 o h, c) = TH eIA Y o h c) : ev (d + 1) iL_setLimits [.ref 0, .int p1, .int p2, .ref 102] (hp X.1 X.2 o h, c) = KE 1 Y o h c := by
  rw [n_L_setLimits]
  simp only [s_L_setLimits_0, s_L_setLimits_1, s_L_setLimits_2, s_L_setLimits_3, s_L_setLimits_4]
  refine (r_callT (As := [.int p1, .int p2]) (a := 0) (rest := [.int 0, .ref 102]) (t := 13) (k := 4) (aux := []) (show xat iL_setLimits 5 = some (5, .invokevirtual 37, 3, [126, 2, 716, 0, 7]) by decide +kernel) rfl hx_0 (by decide) he (by decide +kernel) (by decide +kernel) (by decide +kernel)).trans ?_
  show rx x0 d iL_setLimits 15 [some (.ref 0), some (.int p1), some (.int p2), some (.ref 102), none] [] _ = _
  rw [s_L_setLimits_15, s_L_setLimits_16]
theorem wv_vote (d : Nat) (p1 : Int32) (p2 : Int32) (p3 : Int32) (he : ev d iX7_vote [.ref 0, .int p1, .int p2, .int p3] (hp X.1 X.2 o h, c) = RI v Y o h c) : ev (d + 1) iL_vote [.ref 0, .int p1, .int p2, .int p3, .ref 102] (hp X.1 X.2 o h, c) = KV v Y o h c := by
  rw [n_L_vote]
  simp only [s_L_vote_0, s_L_vote_2, s_L_vote_3, s_L_vote_4, s_L_vote_5, s_L_vote_6]
  refine (r_callH (As := [.int p1, .int p2, .int p3]) (a := 0) (rest := [.int 0, .ref 102]) (show xat iL_vote 7 = some (7, .invokevirtual 40, 3, [127, 3, 723, 0, 7]) by decide +kernel) rfl hx_0 (by decide) he).trans ?_
  simp +decide only [s_L_vote_10, s_L_vote_11, s_L_vote_12, s_L_vote_23, s_L_vote_24, xk_s, ts_s, ts_n, Option.bind_some, xc_n, xc_i, xc_r, xc_l, xc_d, xcats_n, xcats_i, xcats_r, xcats_l, xcats_d, and_true, true_and, and_self, if_true, if_false, Nat.reduceAdd, Nat.reduceLeDiff, Nat.zero_le, decide_true, decide_false, Bool.not_true, Bool.not_false, Bool.and_true, Bool.true_and, Bool.and_false, Bool.false_and, Bool.true_or, Bool.false_or, Bool.or_true, Bool.or_false, Bool.false_eq_true, ha_102, hA_102, zt_0]
theorem wt_vote_eIX (d : Nat) (p1 : Int32) (p2 : Int32) (p3 : Int32) (he : ev d iX7_vote [.ref 0, .int p1, .int p2, .int p3] (hp X.1 X.2 o h, c) = TH eIX Y o h c) : ev (d + 1) iL_vote [.ref 0, .int p1, .int p2, .int p3, .ref 102] (hp X.1 X.2 o h, c) = KE 1 Y o h c := by
  rw [n_L_vote]
  simp only [s_L_vote_0, s_L_vote_2, s_L_vote_3, s_L_vote_4, s_L_vote_5, s_L_vote_6]
  refine (r_callT (As := [.int p1, .int p2, .int p3]) (a := 0) (rest := [.int 0, .ref 102]) (t := 15) (k := 5) (aux := []) (show xat iL_vote 7 = some (7, .invokevirtual 40, 3, [127, 3, 723, 0, 7]) by decide +kernel) rfl hx_0 (by decide) he (by decide +kernel) (by decide +kernel) (by decide +kernel)).trans ?_
  show rx x0 d iL_vote 17 [some (.ref 0), some (.int p1), some (.int p2), some (.int p3), some (.ref 102), none] [] _ = _
  rw [s_L_vote_17, s_L_vote_18]
theorem wt_vote_eIA (d : Nat) (p1 : Int32) (p2 : Int32) (p3 : Int32) (he : ev d iX7_vote [.ref 0, .int p1, .int p2, .int p3] (hp X.1 X.2 o h, c) = TH eIA Y o h c) : ev (d + 1) iL_vote [.ref 0, .int p1, .int p2, .int p3, .ref 102] (hp X.1 X.2 o h, c) = KE 2 Y o h c := by
  rw [n_L_vote]
  simp only [s_L_vote_0, s_L_vote_2, s_L_vote_3, s_L_vote_4, s_L_vote_5, s_L_vote_6]
  refine (r_callT (As := [.int p1, .int p2, .int p3]) (a := 0) (rest := [.int 0, .ref 102]) (t := 19) (k := 5) (aux := []) (show xat iL_vote 7 = some (7, .invokevirtual 40, 3, [127, 3, 723, 0, 7]) by decide +kernel) rfl hx_0 (by decide) he (by decide +kernel) (by decide +kernel) (by decide +kernel)).trans ?_
  show rx x0 d iL_vote 21 [some (.ref 0), some (.int p1), some (.int p2), some (.int p3), some (.ref 102), none] [] _ = _
  rw [s_L_vote_21, s_L_vote_22]
theorem wv_command (d : Nat) (p1 : Int32) (he : ev d iX7_command [.ref 0, .int p1] (hp X.1 X.2 o h, c) = RI v Y o h c) : ev (d + 1) iL_command [.ref 0, .int p1, .ref 102] (hp X.1 X.2 o h, c) = KV v Y o h c := by
  rw [n_L_command]
  simp only [s_L_command_0, s_L_command_1, s_L_command_2, s_L_command_3]
  refine (r_callH (As := [.int p1]) (a := 0) (rest := [.int 0, .ref 102]) (show xat iL_command 4 = some (4, .invokevirtual 43, 3, [131, 1, 750, 0, 7]) by decide +kernel) rfl hx_0 (by decide) he).trans ?_
  simp +decide only [s_L_command_7, s_L_command_8, s_L_command_9, s_L_command_18, s_L_command_19, xk_s, ts_s, ts_n, Option.bind_some, xc_n, xc_i, xc_r, xc_l, xc_d, xcats_n, xcats_i, xcats_r, xcats_l, xcats_d, and_true, true_and, and_self, if_true, if_false, Nat.reduceAdd, Nat.reduceLeDiff, Nat.zero_le, decide_true, decide_false, Bool.not_true, Bool.not_false, Bool.and_true, Bool.true_and, Bool.and_false, Bool.false_and, Bool.true_or, Bool.false_or, Bool.or_true, Bool.or_false, Bool.false_eq_true, ha_102, hA_102, zt_0]
theorem wt_command_eIA (d : Nat) (p1 : Int32) (he : ev d iX7_command [.ref 0, .int p1] (hp X.1 X.2 o h, c) = TH eIA Y o h c) : ev (d + 1) iL_command [.ref 0, .int p1, .ref 102] (hp X.1 X.2 o h, c) = KE 1 Y o h c := by
  rw [n_L_command]
  simp only [s_L_command_0, s_L_command_1, s_L_command_2, s_L_command_3]
  refine (r_callTn (As := [.int p1]) (a := 0) (rest := [.int 0, .ref 102]) (t := 12) (k := 3) (aux := []) (show xat iL_command 4 = some (4, .invokevirtual 43, 3, [131, 1, 750, 0, 7]) by decide +kernel) rfl hx_0 (by decide) he (by decide +kernel) (by decide +kernel) (by decide +kernel)).trans ?_
  show rx x0 d iL_command 13 [some (.ref 0), some (.int p1), some (.ref 102), none] [] _ = _
  rw [s_L_command_13, s_L_command_14]
theorem wt_command_eIS (d : Nat) (p1 : Int32) (he : ev d iX7_command [.ref 0, .int p1] (hp X.1 X.2 o h, c) = TH eIS Y o h c) : ev (d + 1) iL_command [.ref 0, .int p1, .ref 102] (hp X.1 X.2 o h, c) = KE 2 Y o h c := by
  rw [n_L_command]
  simp only [s_L_command_0, s_L_command_1, s_L_command_2, s_L_command_3]
  refine (r_callTn (As := [.int p1]) (a := 0) (rest := [.int 0, .ref 102]) (t := 15) (k := 3) (aux := []) (show xat iL_command 4 = some (4, .invokevirtual 43, 3, [131, 1, 750, 0, 7]) by decide +kernel) rfl hx_0 (by decide) he (by decide +kernel) (by decide +kernel) (by decide +kernel)).trans ?_
  show rx x0 d iL_command 16 [some (.ref 0), some (.int p1), some (.ref 102), none] [] _ = _
  rw [s_L_command_16, s_L_command_17]
theorem wv_recycle (d : Nat) (p1 : Int32) (he : ev d iX7_recycle [.ref 0, .int p1] (hp X.1 X.2 o h, c) = RI v Y o h c) : ev (d + 1) iL_recycle [.ref 0, .int p1, .ref 102] (hp X.1 X.2 o h, c) = KV v Y o h c := by
  rw [n_L_recycle]
  simp only [s_L_recycle_0, s_L_recycle_1, s_L_recycle_2, s_L_recycle_3]
  refine (r_callH (As := [.int p1]) (a := 0) (rest := [.int 0, .ref 102]) (show xat iL_recycle 4 = some (4, .invokevirtual 46, 3, [133, 1, 791, 0, 7]) by decide +kernel) rfl hx_0 (by decide) he).trans ?_
  simp +decide only [s_L_recycle_7, s_L_recycle_8, s_L_recycle_9, s_L_recycle_18, s_L_recycle_19, xk_s, ts_s, ts_n, Option.bind_some, xc_n, xc_i, xc_r, xc_l, xc_d, xcats_n, xcats_i, xcats_r, xcats_l, xcats_d, and_true, true_and, and_self, if_true, if_false, Nat.reduceAdd, Nat.reduceLeDiff, Nat.zero_le, decide_true, decide_false, Bool.not_true, Bool.not_false, Bool.and_true, Bool.true_and, Bool.and_false, Bool.false_and, Bool.true_or, Bool.false_or, Bool.or_true, Bool.or_false, Bool.false_eq_true, ha_102, hA_102, zt_0]
theorem wt_recycle_eIX (d : Nat) (p1 : Int32) (he : ev d iX7_recycle [.ref 0, .int p1] (hp X.1 X.2 o h, c) = TH eIX Y o h c) : ev (d + 1) iL_recycle [.ref 0, .int p1, .ref 102] (hp X.1 X.2 o h, c) = KE 1 Y o h c := by
  rw [n_L_recycle]
  simp only [s_L_recycle_0, s_L_recycle_1, s_L_recycle_2, s_L_recycle_3]
  refine (r_callTn (As := [.int p1]) (a := 0) (rest := [.int 0, .ref 102]) (t := 12) (k := 3) (aux := []) (show xat iL_recycle 4 = some (4, .invokevirtual 46, 3, [133, 1, 791, 0, 7]) by decide +kernel) rfl hx_0 (by decide) he (by decide +kernel) (by decide +kernel) (by decide +kernel)).trans ?_
  show rx x0 d iL_recycle 13 [some (.ref 0), some (.int p1), some (.ref 102), none] [] _ = _
  rw [s_L_recycle_13, s_L_recycle_14]
theorem wt_recycle_eIS (d : Nat) (p1 : Int32) (he : ev d iX7_recycle [.ref 0, .int p1] (hp X.1 X.2 o h, c) = TH eIS Y o h c) : ev (d + 1) iL_recycle [.ref 0, .int p1, .ref 102] (hp X.1 X.2 o h, c) = KE 2 Y o h c := by
  rw [n_L_recycle]
  simp only [s_L_recycle_0, s_L_recycle_1, s_L_recycle_2, s_L_recycle_3]
  refine (r_callTn (As := [.int p1]) (a := 0) (rest := [.int 0, .ref 102]) (t := 15) (k := 3) (aux := []) (show xat iL_recycle 4 = some (4, .invokevirtual 46, 3, [133, 1, 791, 0, 7]) by decide +kernel) rfl hx_0 (by decide) he (by decide +kernel) (by decide +kernel) (by decide +kernel)).trans ?_
  show rx x0 d iL_recycle 16 [some (.ref 0), some (.int p1), some (.ref 102), none] [] _ = _
  rw [s_L_recycle_16, s_L_recycle_17]
theorem wv_advance (d : Nat) (p1 : Int32) (he : ev d iX7_advance [.ref 0, .int p1] (hp X.1 X.2 o h, c) = RI v Y o h c) : ev (d + 1) iL_advance [.ref 0, .int p1, .ref 102] (hp X.1 X.2 o h, c) = KV v Y o h c := by
  rw [n_L_advance]
  simp only [s_L_advance_0, s_L_advance_1, s_L_advance_2, s_L_advance_3]
  refine (r_callH (As := [.int p1]) (a := 0) (rest := [.int 0, .ref 102]) (show xat iL_advance 4 = some (4, .invokevirtual 49, 3, [135, 1, 816, 0, 7]) by decide +kernel) rfl hx_0 (by decide) he).trans ?_
  simp +decide only [s_L_advance_7, s_L_advance_8, s_L_advance_9, s_L_advance_18, s_L_advance_19, xk_s, ts_s, ts_n, Option.bind_some, xc_n, xc_i, xc_r, xc_l, xc_d, xcats_n, xcats_i, xcats_r, xcats_l, xcats_d, and_true, true_and, and_self, if_true, if_false, Nat.reduceAdd, Nat.reduceLeDiff, Nat.zero_le, decide_true, decide_false, Bool.not_true, Bool.not_false, Bool.and_true, Bool.true_and, Bool.and_false, Bool.false_and, Bool.true_or, Bool.false_or, Bool.or_true, Bool.or_false, Bool.false_eq_true, ha_102, hA_102, zt_0]
theorem wt_advance_eIA (d : Nat) (p1 : Int32) (he : ev d iX7_advance [.ref 0, .int p1] (hp X.1 X.2 o h, c) = TH eIA Y o h c) : ev (d + 1) iL_advance [.ref 0, .int p1, .ref 102] (hp X.1 X.2 o h, c) = KE 1 Y o h c := by
  rw [n_L_advance]
  simp only [s_L_advance_0, s_L_advance_1, s_L_advance_2, s_L_advance_3]
  refine (r_callTn (As := [.int p1]) (a := 0) (rest := [.int 0, .ref 102]) (t := 12) (k := 3) (aux := []) (show xat iL_advance 4 = some (4, .invokevirtual 49, 3, [135, 1, 816, 0, 7]) by decide +kernel) rfl hx_0 (by decide) he (by decide +kernel) (by decide +kernel) (by decide +kernel)).trans ?_
  show rx x0 d iL_advance 13 [some (.ref 0), some (.int p1), some (.ref 102), none] [] _ = _
  rw [s_L_advance_13, s_L_advance_14]
theorem wt_advance_eIS (d : Nat) (p1 : Int32) (he : ev d iX7_advance [.ref 0, .int p1] (hp X.1 X.2 o h, c) = TH eIS Y o h c) : ev (d + 1) iL_advance [.ref 0, .int p1, .ref 102] (hp X.1 X.2 o h, c) = KE 2 Y o h c := by
  rw [n_L_advance]
  simp only [s_L_advance_0, s_L_advance_1, s_L_advance_2, s_L_advance_3]
  refine (r_callTn (As := [.int p1]) (a := 0) (rest := [.int 0, .ref 102]) (t := 15) (k := 3) (aux := []) (show xat iL_advance 4 = some (4, .invokevirtual 49, 3, [135, 1, 816, 0, 7]) by decide +kernel) rfl hx_0 (by decide) he (by decide +kernel) (by decide +kernel) (by decide +kernel)).trans ?_
  show rx x0 d iL_advance 16 [some (.ref 0), some (.int p1), some (.ref 102), none] [] _ = _
  rw [s_L_advance_16, s_L_advance_17]
theorem wv_run (d : Nat) (he : ev d iX7_run [.ref 0] (hp X.1 X.2 o h, c) = RI v Y o h c) : ev (d + 1) iL_run [.ref 0, .ref 102] (hp X.1 X.2 o h, c) = KV v Y o h c := by
  rw [n_L_run]
  simp only [s_L_run_0, s_L_run_1, s_L_run_2]
  refine (r_callH (As := []) (a := 0) (rest := [.int 0, .ref 102]) (show xat iL_run 3 = some (3, .invokevirtual 52, 3, [136, 0, 863, 0, 7]) by decide +kernel) rfl hx_0 (by decide) he).trans ?_
  simp +decide only [s_L_run_6, s_L_run_7, s_L_run_8, s_L_run_14, s_L_run_15, xk_s, ts_s, ts_n, Option.bind_some, xc_n, xc_i, xc_r, xc_l, xc_d, xcats_n, xcats_i, xcats_r, xcats_l, xcats_d, and_true, true_and, and_self, if_true, if_false, Nat.reduceAdd, Nat.reduceLeDiff, Nat.zero_le, decide_true, decide_false, Bool.not_true, Bool.not_false, Bool.and_true, Bool.true_and, Bool.and_false, Bool.false_and, Bool.true_or, Bool.false_or, Bool.or_true, Bool.or_false, Bool.false_eq_true, ha_102, hA_102, zt_0]
theorem wt_run_eIS (d : Nat) (he : ev d iX7_run [.ref 0] (hp X.1 X.2 o h, c) = TH eIS Y o h c) : ev (d + 1) iL_run [.ref 0, .ref 102] (hp X.1 X.2 o h, c) = KE 1 Y o h c := by
  rw [n_L_run]
  simp only [s_L_run_0, s_L_run_1, s_L_run_2]
  refine (r_callTn (As := []) (a := 0) (rest := [.int 0, .ref 102]) (t := 11) (k := 2) (aux := []) (show xat iL_run 3 = some (3, .invokevirtual 52, 3, [136, 0, 863, 0, 7]) by decide +kernel) rfl hx_0 (by decide) he (by decide +kernel) (by decide +kernel) (by decide +kernel)).trans ?_
  show rx x0 d iL_run 12 [some (.ref 0), some (.ref 102), none] [] _ = _
  rw [s_L_run_12, s_L_run_13]
theorem wv_save (d : Nat) (p1 : Int32) (he : ev d iX7_save [.ref 0, .int p1] (hp X.1 X.2 o h, c) = RI v Y o h c) : ev (d + 1) iL_save [.ref 0, .int p1, .ref 102] (hp X.1 X.2 o h, c) = KV v Y o h c := by
  rw [n_L_save]
  simp only [s_L_save_0, s_L_save_1, s_L_save_2, s_L_save_3]
  refine (r_callH (As := [.int p1]) (a := 0) (rest := [.int 0, .ref 102]) (show xat iL_save 4 = some (4, .invokevirtual 56, 3, [137, 1, 873, 0, 7]) by decide +kernel) rfl hx_0 (by decide) he).trans ?_
  simp +decide only [s_L_save_7, s_L_save_8, s_L_save_9, s_L_save_15, s_L_save_16, xk_s, ts_s, ts_n, Option.bind_some, xc_n, xc_i, xc_r, xc_l, xc_d, xcats_n, xcats_i, xcats_r, xcats_l, xcats_d, and_true, true_and, and_self, if_true, if_false, Nat.reduceAdd, Nat.reduceLeDiff, Nat.zero_le, decide_true, decide_false, Bool.not_true, Bool.not_false, Bool.and_true, Bool.true_and, Bool.and_false, Bool.false_and, Bool.true_or, Bool.false_or, Bool.or_true, Bool.or_false, Bool.false_eq_true, ha_102, hA_102, zt_0]
theorem wt_save_eIX (d : Nat) (p1 : Int32) (he : ev d iX7_save [.ref 0, .int p1] (hp X.1 X.2 o h, c) = TH eIX Y o h c) : ev (d + 1) iL_save [.ref 0, .int p1, .ref 102] (hp X.1 X.2 o h, c) = KE 1 Y o h c := by
  rw [n_L_save]
  simp only [s_L_save_0, s_L_save_1, s_L_save_2, s_L_save_3]
  refine (r_callTn (As := [.int p1]) (a := 0) (rest := [.int 0, .ref 102]) (t := 12) (k := 3) (aux := []) (show xat iL_save 4 = some (4, .invokevirtual 56, 3, [137, 1, 873, 0, 7]) by decide +kernel) rfl hx_0 (by decide) he (by decide +kernel) (by decide +kernel) (by decide +kernel)).trans ?_
  show rx x0 d iL_save 13 [some (.ref 0), some (.int p1), some (.ref 102), none] [] _ = _
  rw [s_L_save_13, s_L_save_14]
theorem wv_restore (d : Nat) (p1 : Int32) (he : ev d iX7_restore [.ref 0, .int p1] (hp X.1 X.2 o h, c) = RI v Y o h c) : ev (d + 1) iL_restore [.ref 0, .int p1, .ref 102] (hp X.1 X.2 o h, c) = KV v Y o h c := by
  rw [n_L_restore]
  simp only [s_L_restore_0, s_L_restore_1, s_L_restore_2, s_L_restore_3]
  refine (r_callH (As := [.int p1]) (a := 0) (rest := [.int 0, .ref 102]) (show xat iL_restore 4 = some (4, .invokevirtual 59, 3, [139, 1, 909, 0, 7]) by decide +kernel) rfl hx_0 (by decide) he).trans ?_
  simp +decide only [s_L_restore_7, s_L_restore_8, s_L_restore_9, s_L_restore_18, s_L_restore_19, xk_s, ts_s, ts_n, Option.bind_some, xc_n, xc_i, xc_r, xc_l, xc_d, xcats_n, xcats_i, xcats_r, xcats_l, xcats_d, and_true, true_and, and_self, if_true, if_false, Nat.reduceAdd, Nat.reduceLeDiff, Nat.zero_le, decide_true, decide_false, Bool.not_true, Bool.not_false, Bool.and_true, Bool.true_and, Bool.and_false, Bool.false_and, Bool.true_or, Bool.false_or, Bool.or_true, Bool.or_false, Bool.false_eq_true, ha_102, hA_102, zt_0]
theorem wt_restore_eIX (d : Nat) (p1 : Int32) (he : ev d iX7_restore [.ref 0, .int p1] (hp X.1 X.2 o h, c) = TH eIX Y o h c) : ev (d + 1) iL_restore [.ref 0, .int p1, .ref 102] (hp X.1 X.2 o h, c) = KE 1 Y o h c := by
  rw [n_L_restore]
  simp only [s_L_restore_0, s_L_restore_1, s_L_restore_2, s_L_restore_3]
  refine (r_callTn (As := [.int p1]) (a := 0) (rest := [.int 0, .ref 102]) (t := 12) (k := 3) (aux := []) (show xat iL_restore 4 = some (4, .invokevirtual 59, 3, [139, 1, 909, 0, 7]) by decide +kernel) rfl hx_0 (by decide) he (by decide +kernel) (by decide +kernel) (by decide +kernel)).trans ?_
  show rx x0 d iL_restore 13 [some (.ref 0), some (.int p1), some (.ref 102), none] [] _ = _
  rw [s_L_restore_13, s_L_restore_14]
theorem wt_restore_eIS (d : Nat) (p1 : Int32) (he : ev d iX7_restore [.ref 0, .int p1] (hp X.1 X.2 o h, c) = TH eIS Y o h c) : ev (d + 1) iL_restore [.ref 0, .int p1, .ref 102] (hp X.1 X.2 o h, c) = KE 2 Y o h c := by
  rw [n_L_restore]
  simp only [s_L_restore_0, s_L_restore_1, s_L_restore_2, s_L_restore_3]
  refine (r_callTn (As := [.int p1]) (a := 0) (rest := [.int 0, .ref 102]) (t := 15) (k := 3) (aux := []) (show xat iL_restore 4 = some (4, .invokevirtual 59, 3, [139, 1, 909, 0, 7]) by decide +kernel) rfl hx_0 (by decide) he (by decide +kernel) (by decide +kernel) (by decide +kernel)).trans ?_
  show rx x0 d iL_restore 16 [some (.ref 0), some (.int p1), some (.ref 102), none] [] _ = _
  rw [s_L_restore_16, s_L_restore_17]
theorem wv_append (d : Nat) (p1 : Int32) (he : ev d iX7_append [.ref 0, .int p1] (hp X.1 X.2 o h, c) = RI v Y o h c) : ev (d + 1) iL_append [.ref 0, .int p1, .ref 102] (hp X.1 X.2 o h, c) = KV v Y o h c := by
  rw [n_L_append]
  simp only [s_L_append_0, s_L_append_1, s_L_append_2, s_L_append_3]
  refine (r_callH (As := [.int p1]) (a := 0) (rest := [.int 0, .ref 102]) (show xat iL_append 4 = some (4, .invokevirtual 62, 3, [140, 1, 918, 0, 7]) by decide +kernel) rfl hx_0 (by decide) he).trans ?_
  simp +decide only [s_L_append_7, s_L_append_8, s_L_append_9, s_L_append_18, s_L_append_19, xk_s, ts_s, ts_n, Option.bind_some, xc_n, xc_i, xc_r, xc_l, xc_d, xcats_n, xcats_i, xcats_r, xcats_l, xcats_d, and_true, true_and, and_self, if_true, if_false, Nat.reduceAdd, Nat.reduceLeDiff, Nat.zero_le, decide_true, decide_false, Bool.not_true, Bool.not_false, Bool.and_true, Bool.true_and, Bool.and_false, Bool.false_and, Bool.true_or, Bool.false_or, Bool.or_true, Bool.or_false, Bool.false_eq_true, ha_102, hA_102, zt_0]
theorem wt_append_eIA (d : Nat) (p1 : Int32) (he : ev d iX7_append [.ref 0, .int p1] (hp X.1 X.2 o h, c) = TH eIA Y o h c) : ev (d + 1) iL_append [.ref 0, .int p1, .ref 102] (hp X.1 X.2 o h, c) = KE 1 Y o h c := by
  rw [n_L_append]
  simp only [s_L_append_0, s_L_append_1, s_L_append_2, s_L_append_3]
  refine (r_callTn (As := [.int p1]) (a := 0) (rest := [.int 0, .ref 102]) (t := 12) (k := 3) (aux := []) (show xat iL_append 4 = some (4, .invokevirtual 62, 3, [140, 1, 918, 0, 7]) by decide +kernel) rfl hx_0 (by decide) he (by decide +kernel) (by decide +kernel) (by decide +kernel)).trans ?_
  show rx x0 d iL_append 13 [some (.ref 0), some (.int p1), some (.ref 102), none] [] _ = _
  rw [s_L_append_13, s_L_append_14]
theorem wt_append_eIS (d : Nat) (p1 : Int32) (he : ev d iX7_append [.ref 0, .int p1] (hp X.1 X.2 o h, c) = TH eIS Y o h c) : ev (d + 1) iL_append [.ref 0, .int p1, .ref 102] (hp X.1 X.2 o h, c) = KE 2 Y o h c := by
  rw [n_L_append]
  simp only [s_L_append_0, s_L_append_1, s_L_append_2, s_L_append_3]
  refine (r_callTn (As := [.int p1]) (a := 0) (rest := [.int 0, .ref 102]) (t := 15) (k := 3) (aux := []) (show xat iL_append 4 = some (4, .invokevirtual 62, 3, [140, 1, 918, 0, 7]) by decide +kernel) rfl hx_0 (by decide) he (by decide +kernel) (by decide +kernel) (by decide +kernel)).trans ?_
  show rx x0 d iL_append 16 [some (.ref 0), some (.int p1), some (.ref 102), none] [] _ = _
  rw [s_L_append_16, s_L_append_17]
theorem wv_script (d : Nat) (he : ev d iX7_script [.ref 0] (hp X.1 X.2 o h, c) = RI v Y o h c) : ev (d + 1) iL_script [.ref 0, .ref 102] (hp X.1 X.2 o h, c) = KV v Y o h c := by
  rw [n_L_script]
  simp only [s_L_script_0, s_L_script_1, s_L_script_2]
  refine (r_callH (As := []) (a := 0) (rest := [.int 0, .ref 102]) (show xat iL_script 3 = some (3, .invokevirtual 65, 3, [141, 0, 949, 0, 7]) by decide +kernel) rfl hx_0 (by decide) he).trans ?_
  simp +decide only [s_L_script_6, s_L_script_7, s_L_script_8, s_L_script_14, s_L_script_15, xk_s, ts_s, ts_n, Option.bind_some, xc_n, xc_i, xc_r, xc_l, xc_d, xcats_n, xcats_i, xcats_r, xcats_l, xcats_d, and_true, true_and, and_self, if_true, if_false, Nat.reduceAdd, Nat.reduceLeDiff, Nat.zero_le, decide_true, decide_false, Bool.not_true, Bool.not_false, Bool.and_true, Bool.true_and, Bool.and_false, Bool.false_and, Bool.true_or, Bool.false_or, Bool.or_true, Bool.or_false, Bool.false_eq_true, ha_102, hA_102, zt_0]
theorem wt_script_eIS (d : Nat) (he : ev d iX7_script [.ref 0] (hp X.1 X.2 o h, c) = TH eIS Y o h c) : ev (d + 1) iL_script [.ref 0, .ref 102] (hp X.1 X.2 o h, c) = KE 1 Y o h c := by
  rw [n_L_script]
  simp only [s_L_script_0, s_L_script_1, s_L_script_2]
  refine (r_callTn (As := []) (a := 0) (rest := [.int 0, .ref 102]) (t := 11) (k := 2) (aux := []) (show xat iL_script 3 = some (3, .invokevirtual 65, 3, [141, 0, 949, 0, 7]) by decide +kernel) rfl hx_0 (by decide) he (by decide +kernel) (by decide +kernel) (by decide +kernel)).trans ?_
  show rx x0 d iL_script 12 [some (.ref 0), some (.ref 102), none] [] _ = _
  rw [s_L_script_12, s_L_script_13]
theorem wv_status (d : Nat) (p1 : Int32) (he : ev d iX7_status [.ref 0, .int p1] (hp X.1 X.2 o h, c) = RI v Y o h c) : ev (d + 1) iL_status [.ref 0, .int p1, .ref 102] (hp X.1 X.2 o h, c) = KV v Y o h c := by
  rw [n_L_status]
  simp only [s_L_status_0, s_L_status_1, s_L_status_2, s_L_status_3]
  refine (r_callH (As := [.int p1]) (a := 0) (rest := [.int 0, .ref 102]) (show xat iL_status 4 = some (4, .invokevirtual 68, 3, [144, 1, 987, 0, 7]) by decide +kernel) rfl hx_0 (by decide) he).trans ?_
  simp +decide only [s_L_status_7, s_L_status_8, s_L_status_9, s_L_status_15, s_L_status_16, xk_s, ts_s, ts_n, Option.bind_some, xc_n, xc_i, xc_r, xc_l, xc_d, xcats_n, xcats_i, xcats_r, xcats_l, xcats_d, and_true, true_and, and_self, if_true, if_false, Nat.reduceAdd, Nat.reduceLeDiff, Nat.zero_le, decide_true, decide_false, Bool.not_true, Bool.not_false, Bool.and_true, Bool.true_and, Bool.and_false, Bool.false_and, Bool.true_or, Bool.false_or, Bool.or_true, Bool.or_false, Bool.false_eq_true, ha_102, hA_102, zt_0]
theorem wt_status_eIA (d : Nat) (p1 : Int32) (he : ev d iX7_status [.ref 0, .int p1] (hp X.1 X.2 o h, c) = TH eIA Y o h c) : ev (d + 1) iL_status [.ref 0, .int p1, .ref 102] (hp X.1 X.2 o h, c) = KE 1 Y o h c := by
  rw [n_L_status]
  simp only [s_L_status_0, s_L_status_1, s_L_status_2, s_L_status_3]
  refine (r_callTn (As := [.int p1]) (a := 0) (rest := [.int 0, .ref 102]) (t := 12) (k := 3) (aux := []) (show xat iL_status 4 = some (4, .invokevirtual 68, 3, [144, 1, 987, 0, 7]) by decide +kernel) rfl hx_0 (by decide) he (by decide +kernel) (by decide +kernel) (by decide +kernel)).trans ?_
  show rx x0 d iL_status 13 [some (.ref 0), some (.int p1), some (.ref 102), none] [] _ = _
  rw [s_L_status_13, s_L_status_14]
theorem wv_items (d : Nat) (p1 : Int32) (he : ev d iX7_items [.ref 0, .int p1] (hp X.1 X.2 o h, c) = RI v Y o h c) : ev (d + 1) iL_items [.ref 0, .int p1, .ref 102] (hp X.1 X.2 o h, c) = KV v Y o h c := by
  rw [n_L_items]
  simp only [s_L_items_0, s_L_items_1, s_L_items_2, s_L_items_3]
  refine (r_callH (As := [.int p1]) (a := 0) (rest := [.int 0, .ref 102]) (show xat iL_items 4 = some (4, .invokevirtual 71, 3, [146, 1, 998, 0, 7]) by decide +kernel) rfl hx_0 (by decide) he).trans ?_
  simp +decide only [s_L_items_7, s_L_items_8, s_L_items_9, s_L_items_15, s_L_items_16, xk_s, ts_s, ts_n, Option.bind_some, xc_n, xc_i, xc_r, xc_l, xc_d, xcats_n, xcats_i, xcats_r, xcats_l, xcats_d, and_true, true_and, and_self, if_true, if_false, Nat.reduceAdd, Nat.reduceLeDiff, Nat.zero_le, decide_true, decide_false, Bool.not_true, Bool.not_false, Bool.and_true, Bool.true_and, Bool.and_false, Bool.false_and, Bool.true_or, Bool.false_or, Bool.or_true, Bool.or_false, Bool.false_eq_true, ha_102, hA_102, zt_0]
theorem wt_items_eIA (d : Nat) (p1 : Int32) (he : ev d iX7_items [.ref 0, .int p1] (hp X.1 X.2 o h, c) = TH eIA Y o h c) : ev (d + 1) iL_items [.ref 0, .int p1, .ref 102] (hp X.1 X.2 o h, c) = KE 1 Y o h c := by
  rw [n_L_items]
  simp only [s_L_items_0, s_L_items_1, s_L_items_2, s_L_items_3]
  refine (r_callTn (As := [.int p1]) (a := 0) (rest := [.int 0, .ref 102]) (t := 12) (k := 3) (aux := []) (show xat iL_items 4 = some (4, .invokevirtual 71, 3, [146, 1, 998, 0, 7]) by decide +kernel) rfl hx_0 (by decide) he (by decide +kernel) (by decide +kernel) (by decide +kernel)).trans ?_
  show rx x0 d iL_items 13 [some (.ref 0), some (.int p1), some (.ref 102), none] [] _ = _
  rw [s_L_items_13, s_L_items_14]
theorem wv_constraint (d : Nat) (p1 : Int32) (p2 : Int32) (he : ev d iX7_constraint [.ref 0, .int p1, .int p2] (hp X.1 X.2 o h, c) = RI v Y o h c) : ev (d + 1) iL_constraint [.ref 0, .int p1, .int p2, .ref 102] (hp X.1 X.2 o h, c) = KV v Y o h c := by
  rw [n_L_constraint]
  simp only [s_L_constraint_0, s_L_constraint_1, s_L_constraint_2, s_L_constraint_3, s_L_constraint_4]
  refine (r_callH (As := [.int p1, .int p2]) (a := 0) (rest := [.int 0, .ref 102]) (show xat iL_constraint 5 = some (5, .invokevirtual 74, 3, [147, 2, 1006, 0, 7]) by decide +kernel) rfl hx_0 (by decide) he).trans ?_
  simp +decide only [s_L_constraint_8, s_L_constraint_9, s_L_constraint_10, s_L_constraint_21, s_L_constraint_22, xk_s, ts_s, ts_n, Option.bind_some, xc_n, xc_i, xc_r, xc_l, xc_d, xcats_n, xcats_i, xcats_r, xcats_l, xcats_d, and_true, true_and, and_self, if_true, if_false, Nat.reduceAdd, Nat.reduceLeDiff, Nat.zero_le, decide_true, decide_false, Bool.not_true, Bool.not_false, Bool.and_true, Bool.true_and, Bool.and_false, Bool.false_and, Bool.true_or, Bool.false_or, Bool.or_true, Bool.or_false, Bool.false_eq_true, ha_102, hA_102, zt_0]
theorem wt_constraint_eIX (d : Nat) (p1 : Int32) (p2 : Int32) (he : ev d iX7_constraint [.ref 0, .int p1, .int p2] (hp X.1 X.2 o h, c) = TH eIX Y o h c) : ev (d + 1) iL_constraint [.ref 0, .int p1, .int p2, .ref 102] (hp X.1 X.2 o h, c) = KE 1 Y o h c := by
  rw [n_L_constraint]
  simp only [s_L_constraint_0, s_L_constraint_1, s_L_constraint_2, s_L_constraint_3, s_L_constraint_4]
  refine (r_callT (As := [.int p1, .int p2]) (a := 0) (rest := [.int 0, .ref 102]) (t := 13) (k := 4) (aux := []) (show xat iL_constraint 5 = some (5, .invokevirtual 74, 3, [147, 2, 1006, 0, 7]) by decide +kernel) rfl hx_0 (by decide) he (by decide +kernel) (by decide +kernel) (by decide +kernel)).trans ?_
  show rx x0 d iL_constraint 15 [some (.ref 0), some (.int p1), some (.int p2), some (.ref 102), none] [] _ = _
  rw [s_L_constraint_15, s_L_constraint_16]
theorem wt_constraint_eIA (d : Nat) (p1 : Int32) (p2 : Int32) (he : ev d iX7_constraint [.ref 0, .int p1, .int p2] (hp X.1 X.2 o h, c) = TH eIA Y o h c) : ev (d + 1) iL_constraint [.ref 0, .int p1, .int p2, .ref 102] (hp X.1 X.2 o h, c) = KE 2 Y o h c := by
  rw [n_L_constraint]
  simp only [s_L_constraint_0, s_L_constraint_1, s_L_constraint_2, s_L_constraint_3, s_L_constraint_4]
  refine (r_callT (As := [.int p1, .int p2]) (a := 0) (rest := [.int 0, .ref 102]) (t := 17) (k := 4) (aux := []) (show xat iL_constraint 5 = some (5, .invokevirtual 74, 3, [147, 2, 1006, 0, 7]) by decide +kernel) rfl hx_0 (by decide) he (by decide +kernel) (by decide +kernel) (by decide +kernel)).trans ?_
  show rx x0 d iL_constraint 19 [some (.ref 0), some (.int p1), some (.int p2), some (.ref 102), none] [] _ = _
  rw [s_L_constraint_19, s_L_constraint_20]
theorem wv_expected (d : Nat) (p1 : Int32) (he : ev d iX7_expected [.ref 0, .int p1] (hp X.1 X.2 o h, c) = RI v Y o h c) : ev (d + 1) iL_expected [.ref 0, .int p1, .ref 102] (hp X.1 X.2 o h, c) = KV v Y o h c := by
  rw [n_L_expected]
  simp only [s_L_expected_0, s_L_expected_1, s_L_expected_2, s_L_expected_3]
  refine (r_callH (As := [.int p1]) (a := 0) (rest := [.int 0, .ref 102]) (show xat iL_expected 4 = some (4, .invokevirtual 77, 3, [148, 1, 1013, 0, 7]) by decide +kernel) rfl hx_0 (by decide) he).trans ?_
  simp +decide only [s_L_expected_7, s_L_expected_8, s_L_expected_9, s_L_expected_15, s_L_expected_16, xk_s, ts_s, ts_n, Option.bind_some, xc_n, xc_i, xc_r, xc_l, xc_d, xcats_n, xcats_i, xcats_r, xcats_l, xcats_d, and_true, true_and, and_self, if_true, if_false, Nat.reduceAdd, Nat.reduceLeDiff, Nat.zero_le, decide_true, decide_false, Bool.not_true, Bool.not_false, Bool.and_true, Bool.true_and, Bool.and_false, Bool.false_and, Bool.true_or, Bool.false_or, Bool.or_true, Bool.or_false, Bool.false_eq_true, ha_102, hA_102, zt_0]
theorem wt_expected_eIX (d : Nat) (p1 : Int32) (he : ev d iX7_expected [.ref 0, .int p1] (hp X.1 X.2 o h, c) = TH eIX Y o h c) : ev (d + 1) iL_expected [.ref 0, .int p1, .ref 102] (hp X.1 X.2 o h, c) = KE 1 Y o h c := by
  rw [n_L_expected]
  simp only [s_L_expected_0, s_L_expected_1, s_L_expected_2, s_L_expected_3]
  refine (r_callTn (As := [.int p1]) (a := 0) (rest := [.int 0, .ref 102]) (t := 12) (k := 3) (aux := []) (show xat iL_expected 4 = some (4, .invokevirtual 77, 3, [148, 1, 1013, 0, 7]) by decide +kernel) rfl hx_0 (by decide) he (by decide +kernel) (by decide +kernel) (by decide +kernel)).trans ?_
  show rx x0 d iL_expected 13 [some (.ref 0), some (.int p1), some (.ref 102), none] [] _ = _
  rw [s_L_expected_13, s_L_expected_14]
theorem wv_isOpen (d : Nat) (p1 : Int32) (he : ev d iX7_isOpen [.ref 0, .int p1] (hp X.1 X.2 o h, c) = RI v Y o h c) : ev (d + 1) iL_isOpen [.ref 0, .int p1, .ref 102] (hp X.1 X.2 o h, c) = some (.inl (some (.int 0)), (hp Y.1 Y.2 (vp_updL o 0 (if v = 0 then 0 else 1)) h, c)) := by
  rw [n_L_isOpen]
  simp only [s_L_isOpen_0, s_L_isOpen_1, s_L_isOpen_2, s_L_isOpen_3]
  refine (r_callH (As := [.int p1]) (a := 0) (rest := [.int 0, .ref 102]) (show xat iL_isOpen 4 = some (4, .invokevirtual 80, 3, [149, 1, 1025, 0, 7]) by decide +kernel) rfl hx_0 (by decide) he).trans ?_
  by_cases q : v = 0
  · simp +decide only [s_L_isOpen_7, s_L_isOpen_10, s_L_isOpen_11, s_L_isOpen_14, s_L_isOpen_15, s_L_isOpen_16, s_L_isOpen_22, s_L_isOpen_23, xk_s, ts_s, ts_n, Option.bind_some, xc_n, xc_i, xc_r, xc_l, xc_d, xcats_n, xcats_i, xcats_r, xcats_l, xcats_d, and_true, true_and, and_self, if_true, if_false, Nat.reduceAdd, Nat.reduceLeDiff, Nat.zero_le, decide_true, decide_false, Bool.not_true, Bool.not_false, Bool.and_true, Bool.true_and, Bool.and_false, Bool.false_and, Bool.true_or, Bool.false_or, Bool.or_true, Bool.or_false, Bool.false_eq_true, ha_102, hA_102, zt_0, q]
  · simp +decide only [s_L_isOpen_7, s_L_isOpen_10, s_L_isOpen_11, s_L_isOpen_14, s_L_isOpen_15, s_L_isOpen_16, s_L_isOpen_22, s_L_isOpen_23, xk_s, ts_s, ts_n, Option.bind_some, xc_n, xc_i, xc_r, xc_l, xc_d, xcats_n, xcats_i, xcats_r, xcats_l, xcats_d, and_true, true_and, and_self, if_true, if_false, Nat.reduceAdd, Nat.reduceLeDiff, Nat.zero_le, decide_true, decide_false, Bool.not_true, Bool.not_false, Bool.and_true, Bool.true_and, Bool.and_false, Bool.false_and, Bool.true_or, Bool.false_or, Bool.or_true, Bool.or_false, Bool.false_eq_true, ha_102, hA_102, zt_0, q]
theorem wt_isOpen_eIA (d : Nat) (p1 : Int32) (he : ev d iX7_isOpen [.ref 0, .int p1] (hp X.1 X.2 o h, c) = TH eIA Y o h c) : ev (d + 1) iL_isOpen [.ref 0, .int p1, .ref 102] (hp X.1 X.2 o h, c) = KE 1 Y o h c := by
  rw [n_L_isOpen]
  simp only [s_L_isOpen_0, s_L_isOpen_1, s_L_isOpen_2, s_L_isOpen_3]
  refine (r_callTn (As := [.int p1]) (a := 0) (rest := [.int 0, .ref 102]) (t := 19) (k := 3) (aux := []) (show xat iL_isOpen 4 = some (4, .invokevirtual 80, 3, [149, 1, 1025, 0, 7]) by decide +kernel) rfl hx_0 (by decide) he (by decide +kernel) (by decide +kernel) (by decide +kernel)).trans ?_
  show rx x0 d iL_isOpen 20 [some (.ref 0), some (.int p1), some (.ref 102), none] [] _ = _
  rw [s_L_isOpen_20, s_L_isOpen_21]
theorem wv_ifRecycled (d : Nat) (p1 : Int32) (he : ev d iX7_ifRecycled [.ref 0, .int p1] (hp X.1 X.2 o h, c) = RI v Y o h c) : ev (d + 1) iL_ifRecycled [.ref 0, .int p1, .ref 102] (hp X.1 X.2 o h, c) = KV v Y o h c := by
  rw [n_L_ifRecycled]
  simp only [s_L_ifRecycled_0, s_L_ifRecycled_1, s_L_ifRecycled_2, s_L_ifRecycled_3]
  refine (r_callH (As := [.int p1]) (a := 0) (rest := [.int 0, .ref 102]) (show xat iL_ifRecycled 4 = some (4, .invokevirtual 84, 3, [150, 1, 1034, 0, 7]) by decide +kernel) rfl hx_0 (by decide) he).trans ?_
  simp +decide only [s_L_ifRecycled_7, s_L_ifRecycled_8, s_L_ifRecycled_9, s_L_ifRecycled_15, s_L_ifRecycled_16, xk_s, ts_s, ts_n, Option.bind_some, xc_n, xc_i, xc_r, xc_l, xc_d, xcats_n, xcats_i, xcats_r, xcats_l, xcats_d, and_true, true_and, and_self, if_true, if_false, Nat.reduceAdd, Nat.reduceLeDiff, Nat.zero_le, decide_true, decide_false, Bool.not_true, Bool.not_false, Bool.and_true, Bool.true_and, Bool.and_false, Bool.false_and, Bool.true_or, Bool.false_or, Bool.or_true, Bool.or_false, Bool.false_eq_true, ha_102, hA_102, zt_0]
theorem wt_ifRecycled_eIX (d : Nat) (p1 : Int32) (he : ev d iX7_ifRecycled [.ref 0, .int p1] (hp X.1 X.2 o h, c) = TH eIX Y o h c) : ev (d + 1) iL_ifRecycled [.ref 0, .int p1, .ref 102] (hp X.1 X.2 o h, c) = KE 1 Y o h c := by
  rw [n_L_ifRecycled]
  simp only [s_L_ifRecycled_0, s_L_ifRecycled_1, s_L_ifRecycled_2, s_L_ifRecycled_3]
  refine (r_callTn (As := [.int p1]) (a := 0) (rest := [.int 0, .ref 102]) (t := 12) (k := 3) (aux := []) (show xat iL_ifRecycled 4 = some (4, .invokevirtual 84, 3, [150, 1, 1034, 0, 7]) by decide +kernel) rfl hx_0 (by decide) he (by decide +kernel) (by decide +kernel) (by decide +kernel)).trans ?_
  show rx x0 d iL_ifRecycled 13 [some (.ref 0), some (.int p1), some (.ref 102), none] [] _ = _
  rw [s_L_ifRecycled_13, s_L_ifRecycled_14]
theorem wv_ifAdvanced (d : Nat) (p1 : Int32) (p2 : Int32) (he : ev d iX7_ifAdvanced [.ref 0, .int p1, .int p2] (hp X.1 X.2 o h, c) = RI v Y o h c) : ev (d + 1) iL_ifAdvanced [.ref 0, .int p1, .int p2, .ref 102] (hp X.1 X.2 o h, c) = KV v Y o h c := by
  rw [n_L_ifAdvanced]
  simp only [s_L_ifAdvanced_0, s_L_ifAdvanced_1, s_L_ifAdvanced_2, s_L_ifAdvanced_3, s_L_ifAdvanced_4]
  refine (r_callH (As := [.int p1, .int p2]) (a := 0) (rest := [.int 0, .ref 102]) (show xat iL_ifAdvanced 5 = some (5, .invokevirtual 87, 3, [151, 2, 1041, 0, 7]) by decide +kernel) rfl hx_0 (by decide) he).trans ?_
  simp +decide only [s_L_ifAdvanced_8, s_L_ifAdvanced_9, s_L_ifAdvanced_10, s_L_ifAdvanced_21, s_L_ifAdvanced_22, xk_s, ts_s, ts_n, Option.bind_some, xc_n, xc_i, xc_r, xc_l, xc_d, xcats_n, xcats_i, xcats_r, xcats_l, xcats_d, and_true, true_and, and_self, if_true, if_false, Nat.reduceAdd, Nat.reduceLeDiff, Nat.zero_le, decide_true, decide_false, Bool.not_true, Bool.not_false, Bool.and_true, Bool.true_and, Bool.and_false, Bool.false_and, Bool.true_or, Bool.false_or, Bool.or_true, Bool.or_false, Bool.false_eq_true, ha_102, hA_102, zt_0]
theorem wt_ifAdvanced_eIA (d : Nat) (p1 : Int32) (p2 : Int32) (he : ev d iX7_ifAdvanced [.ref 0, .int p1, .int p2] (hp X.1 X.2 o h, c) = TH eIA Y o h c) : ev (d + 1) iL_ifAdvanced [.ref 0, .int p1, .int p2, .ref 102] (hp X.1 X.2 o h, c) = KE 1 Y o h c := by
  rw [n_L_ifAdvanced]
  simp only [s_L_ifAdvanced_0, s_L_ifAdvanced_1, s_L_ifAdvanced_2, s_L_ifAdvanced_3, s_L_ifAdvanced_4]
  refine (r_callT (As := [.int p1, .int p2]) (a := 0) (rest := [.int 0, .ref 102]) (t := 13) (k := 4) (aux := []) (show xat iL_ifAdvanced 5 = some (5, .invokevirtual 87, 3, [151, 2, 1041, 0, 7]) by decide +kernel) rfl hx_0 (by decide) he (by decide +kernel) (by decide +kernel) (by decide +kernel)).trans ?_
  show rx x0 d iL_ifAdvanced 15 [some (.ref 0), some (.int p1), some (.int p2), some (.ref 102), none] [] _ = _
  rw [s_L_ifAdvanced_15, s_L_ifAdvanced_16]
theorem wt_ifAdvanced_eIS (d : Nat) (p1 : Int32) (p2 : Int32) (he : ev d iX7_ifAdvanced [.ref 0, .int p1, .int p2] (hp X.1 X.2 o h, c) = TH eIS Y o h c) : ev (d + 1) iL_ifAdvanced [.ref 0, .int p1, .int p2, .ref 102] (hp X.1 X.2 o h, c) = KE 2 Y o h c := by
  rw [n_L_ifAdvanced]
  simp only [s_L_ifAdvanced_0, s_L_ifAdvanced_1, s_L_ifAdvanced_2, s_L_ifAdvanced_3, s_L_ifAdvanced_4]
  refine (r_callT (As := [.int p1, .int p2]) (a := 0) (rest := [.int 0, .ref 102]) (t := 17) (k := 4) (aux := []) (show xat iL_ifAdvanced 5 = some (5, .invokevirtual 87, 3, [151, 2, 1041, 0, 7]) by decide +kernel) rfl hx_0 (by decide) he (by decide +kernel) (by decide +kernel) (by decide +kernel)).trans ?_
  show rx x0 d iL_ifAdvanced 19 [some (.ref 0), some (.int p1), some (.int p2), some (.ref 102), none] [] _ = _
  rw [s_L_ifAdvanced_19, s_L_ifAdvanced_20]
theorem wv_log (d : Nat) (p1 : Int32) (p2 : Int32) (he : ev d iX7_log [.ref 0, .int p1, .int p2] (hp X.1 X.2 o h, c) = RI v Y o h c) : ev (d + 1) iL_log [.ref 0, .int p1, .int p2, .ref 102] (hp X.1 X.2 o h, c) = KV v Y o h c := by
  rw [n_L_log]
  simp only [s_L_log_0, s_L_log_1, s_L_log_2, s_L_log_3, s_L_log_4]
  refine (r_callH (As := [.int p1, .int p2]) (a := 0) (rest := [.int 0, .ref 102]) (show xat iL_log 5 = some (5, .invokevirtual 90, 3, [152, 2, 1048, 0, 7]) by decide +kernel) rfl hx_0 (by decide) he).trans ?_
  simp +decide only [s_L_log_8, s_L_log_9, s_L_log_10, s_L_log_21, s_L_log_22, xk_s, ts_s, ts_n, Option.bind_some, xc_n, xc_i, xc_r, xc_l, xc_d, xcats_n, xcats_i, xcats_r, xcats_l, xcats_d, and_true, true_and, and_self, if_true, if_false, Nat.reduceAdd, Nat.reduceLeDiff, Nat.zero_le, decide_true, decide_false, Bool.not_true, Bool.not_false, Bool.and_true, Bool.true_and, Bool.and_false, Bool.false_and, Bool.true_or, Bool.false_or, Bool.or_true, Bool.or_false, Bool.false_eq_true, ha_102, hA_102, zt_0]
theorem wt_log_eIX (d : Nat) (p1 : Int32) (p2 : Int32) (he : ev d iX7_log [.ref 0, .int p1, .int p2] (hp X.1 X.2 o h, c) = TH eIX Y o h c) : ev (d + 1) iL_log [.ref 0, .int p1, .int p2, .ref 102] (hp X.1 X.2 o h, c) = KE 1 Y o h c := by
  rw [n_L_log]
  simp only [s_L_log_0, s_L_log_1, s_L_log_2, s_L_log_3, s_L_log_4]
  refine (r_callT (As := [.int p1, .int p2]) (a := 0) (rest := [.int 0, .ref 102]) (t := 13) (k := 4) (aux := []) (show xat iL_log 5 = some (5, .invokevirtual 90, 3, [152, 2, 1048, 0, 7]) by decide +kernel) rfl hx_0 (by decide) he (by decide +kernel) (by decide +kernel) (by decide +kernel)).trans ?_
  show rx x0 d iL_log 15 [some (.ref 0), some (.int p1), some (.int p2), some (.ref 102), none] [] _ = _
  rw [s_L_log_15, s_L_log_16]
theorem wt_log_eIA (d : Nat) (p1 : Int32) (p2 : Int32) (he : ev d iX7_log [.ref 0, .int p1, .int p2] (hp X.1 X.2 o h, c) = TH eIA Y o h c) : ev (d + 1) iL_log [.ref 0, .int p1, .int p2, .ref 102] (hp X.1 X.2 o h, c) = KE 2 Y o h c := by
  rw [n_L_log]
  simp only [s_L_log_0, s_L_log_1, s_L_log_2, s_L_log_3, s_L_log_4]
  refine (r_callT (As := [.int p1, .int p2]) (a := 0) (rest := [.int 0, .ref 102]) (t := 17) (k := 4) (aux := []) (show xat iL_log 5 = some (5, .invokevirtual 90, 3, [152, 2, 1048, 0, 7]) by decide +kernel) rfl hx_0 (by decide) he (by decide +kernel) (by decide +kernel) (by decide +kernel)).trans ?_
  show rx x0 d iL_log 19 [some (.ref 0), some (.int p1), some (.int p2), some (.ref 102), none] [] _ = _
  rw [s_L_log_19, s_L_log_20]
end
