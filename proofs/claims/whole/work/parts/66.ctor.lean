/-! the constructors: from the empty heap to the store -/
def zr (n : Nat) : xE := .inl (0, n, .inl (fun _ => 0))
def zb (n : Nat) : xE := .inl (2, n, .inl (fun _ => 0))
def qr (f : Nat → Option Nat) : xE := .inl (3, 3, .inr (.inr (.inr (.inr f))))
def plC (a : Nat) : List xE := [.inr (3, [.int 0, .int 0, .int 0, .int 0, .int 0, .ref (a + 1), .ref (a + 2), .ref (a + 3), .ref (a + 4), .ref (a + 5), .ref (a + 6), .ref (a + 7), .ref (a + 8)]), zr 12, zr 12, zr 4, zr 4, zr 4, zr 6, zr 6, zr 6]
def stC (a p : Nat) : List xE := [.inr (5, [.ref p, .int 0, .int 0, .int 0, .int 0, .int 0, .int 0, .int 0, .int 0, .int 0, .int 0, .int 0, .int 0, .ref (a + 1), .ref (a + 2), .ref (a + 5), .ref (a + 8), .ref (a + 11)]), .inr (2, [.int 0, .int 0, .int 0]), .inr (6, [.ref (a + 3), .ref (a + 4)]), zr 6, zr 6, .inr (4, [.ref (a + 6), .ref (a + 7), .int 0]), zr 4, zr 4, .inr (4, [.ref (a + 9), .ref (a + 10), .int 0]), zr 6, zr 6, .inr (1, [.ref (a + 12), .ref (a + 13), .ref (a + 14), .int 0, .int 0]), zr 24, zr 24, zr 24]
def bfC (a : Nat) : List xE := [.inr (0, [.ref (a + 1), .int 0, .int 0, .int 0, .int (-1)]), zr 60]
def moC (a : Nat) : List xE := [.inr (8, [.int 0, .int 60, .ref (a + 1), .ref (a + 2), .ref (a + 3), .ref (a + 4), .int 0, .ref (a + 5), .ref (a + 6), .int 0, .ref (a + 7), .ref (a + 8), .int 0, .ref (a + 9), .int 0, .ref (a + 10), .ref (a + 11), .ref (a + 12), .int 0, .ref (a + 13), .int 0, .int 0, .int 0, .int 0, .long 0]), zr 142, zr 142, zr 426, zb 3, zr 12, zr 12, zr 4, zr 4, zr 4, zr 6, zr 6, zr 6, zr 60]
theorem nw0 : xnew 0 = [.null, .int 0, .int 0, .int 0, .int 0] := rfl
theorem nw1 : xnew 1 = [.null, .null, .null, .int 0, .int 0] := rfl
theorem nw2 : xnew 2 = [.int 0, .int 0, .int 0] := rfl
theorem nw3 : xnew 3 = [.int 0, .int 0, .int 0, .int 0, .int 0, .null, .null, .null, .null, .null, .null, .null, .null] := rfl
theorem nw4 : xnew 4 = [.null, .null, .int 0] := rfl
theorem nw5 : xnew 5 = [.null, .int 0, .int 0, .int 0, .int 0, .int 0, .int 0, .int 0, .int 0, .int 0, .int 0, .int 0, .int 0, .null, .null, .null, .null, .null] := rfl
theorem nw6 : xnew 6 = [.null, .null] := rfl
theorem nw7 : xnew 7 = [.null, .null, .null, .null, .int 0, .null] := rfl
theorem nw8 : xnew 8 = [.int 0, .int 0, .null, .null, .null, .null, .int 0, .null, .null, .int 0, .null, .null, .int 0, .null, .int 0, .null, .null, .null, .int 0, .null, .int 0, .int 0, .int 0, .int 0, .long 0] := rfl
theorem nl0 : (xnew 0).length = 5 := rfl
theorem nl1 : (xnew 1).length = 5 := rfl
theorem nl2 : (xnew 2).length = 3 := rfl
theorem nl3 : (xnew 3).length = 13 := rfl
theorem nl4 : (xnew 4).length = 3 := rfl
theorem nl5 : (xnew 5).length = 18 := rfl
theorem nl6 : (xnew 6).length = 2 := rfl
theorem ct_24 : (24 : Int32).toNatClampNeg = 24 := rfl
theorem ct_60 : (60 : Int32).toNatClampNeg = 60 := rfl
theorem ct_142 : (142 : Int32).toNatClampNeg = 142 := rfl
theorem ct_426 : (426 : Int32).toNatClampNeg = 426 := rfl
section
variable {L M : xL} {ci k : Nat} {fs : List Value} {v : Value}
theorem at_c {x : xE} : (L ++ x :: M)[L.length]? = some x := by
  rw [List.getElem?_append_right (Nat.le_refl _), Nat.sub_self]
  rfl
theorem set_c {x y : xE} : (L ++ x :: M).set L.length y = L ++ y :: M := by
  rw [List.set_append_right _ _ (Nat.le_refl _), Nat.sub_self]
  rfl
theorem xput_c (hk : k < fs.length) : xput (L ++ .inr (ci, fs) :: M) L.length ci k v = some (L ++ .inr (ci, fs.set k v) :: M) := by
  unfold xput
  rw [at_c]
  simp only
  rw [if_pos ⟨trivial, hk⟩, set_c]
theorem xis_c : xis (L ++ .inr (ci, fs) :: M) L.length ci = true := by
  unfold xis
  rw [at_c]
  simp only [beq_self_eq_true]
theorem xget_app {a : Nat} (h : a < L.length) : xget (L ++ M) a ci k = xget L a ci k := by
  unfold xget
  rw [List.getElem?_append_left h]
theorem xaq_app {a t : Nat} (h : a < L.length) : xaq (L ++ M) a t = xaq L a t := by
  unfold xaq
  rw [List.getElem?_append_left h]
end
theorem c_pass (d : Nat) (L : xL) (s : Nat) : ev (d + 1) iX2_init [.ref L.length] (L ++ [.inr (2, xnew 2)], L.length + 1, s) = some (.inl none, (L ++ [.inr (2, [.int 0, .int 0, .int 0])], L.length + 1, s)) := by
  rw [n_X2_init, nw2, s_X2_init_0, s_X2_init_1 (by decide)]
  simp +decide only [s_X2_init_4, xk_s, ts_s, ts_n, Option.bind_some, xc_n, xc_i, xc_r, xc_l, xc_d, xcats_n, xcats_i, xcats_r, xcats_l, xcats_d, and_true, true_and, and_self, if_true, if_false, Nat.reduceAdd, Nat.reduceLeDiff, Nat.zero_le, decide_true, decide_false, Bool.not_true, Bool.not_false, Bool.and_true, Bool.true_and, Bool.and_false, Bool.false_and, Bool.true_or, Bool.false_or, Bool.or_true, Bool.or_false, Bool.false_eq_true]
theorem c_votes (d : Nat) (L : xL) (s : Nat) : ev (d + 1) iX6_init [.ref L.length] (L ++ [.inr (6, xnew 6)], L.length + 1, s) = some (.inl none, (L ++ [.inr (6, [.ref (L.length + 1), .ref (L.length + 2)]), zr 6, zr 6], L.length + 3, s + 12)) := by
  rw [n_X6_init, nw6, s_X6_init_0, s_X6_init_1 (by decide)]
  simp +decide only [s_X6_init_4, s_X6_init_5, s_X6_init_9, s_X6_init_12, s_X6_init_13, s_X6_init_17, s_X6_init_20, s_X6_init_7, s_X6_init_15, xk_s, ts_s, ts_n, Option.bind_some, xc_n, xc_i, xc_r, xc_l, xc_d, xcats_n, xcats_i, xcats_r, xcats_l, xcats_d, and_true, true_and, and_self, if_true, if_false, Nat.reduceAdd, Nat.reduceLeDiff, Nat.zero_le, decide_true, decide_false, Bool.not_true, Bool.not_false, Bool.and_true, Bool.true_and, Bool.and_false, Bool.false_and, Bool.true_or, Bool.false_or, Bool.or_true, Bool.or_false, Bool.false_eq_true, xput_c, zr, zt_6, List.length_append, List.length_cons, List.length_nil, List.append_assoc, List.cons_append, List.nil_append, Nat.zero_add, Nat.add_assoc, Nat.reduceLT, List.set_cons_zero, List.set_cons_succ]
theorem c_spans (d : Nat) (L : xL) (s : Nat) (n : Int32) (N : Nat) (hn : ¬ n < 0) (hN : n.toNatClampNeg = N) (h1 : N ≤ 1000) : ev (d + 1) iX4_init [.ref L.length, .int n] (L ++ [.inr (4, xnew 4)], L.length + 1, s) = some (.inl none, (L ++ [.inr (4, [.ref (L.length + 1), .ref (L.length + 2), .int 0]), zr N, zr N], L.length + 3, s + (N + N))) := by
  rw [n_X4_init, nw4, s_X4_init_0, s_X4_init_1 (by decide)]
  simp +decide only [s_X4_init_4, s_X4_init_5, s_X4_init_8, s_X4_init_11, s_X4_init_12, s_X4_init_15, s_X4_init_18, s_X4_init_6, s_X4_init_13, xk_s, ts_s, ts_n, Option.bind_some, xc_n, xc_i, xc_r, xc_l, xc_d, xcats_n, xcats_i, xcats_r, xcats_l, xcats_d, and_true, true_and, and_self, if_true, if_false, Nat.reduceAdd, Nat.reduceLeDiff, Nat.zero_le, decide_true, decide_false, Bool.not_true, Bool.not_false, Bool.and_true, Bool.true_and, Bool.and_false, Bool.false_and, Bool.true_or, Bool.false_or, Bool.or_true, Bool.or_false, Bool.false_eq_true, hn, hN, h1, xput_c, zr, List.length_append, List.length_cons, List.length_nil, List.append_assoc, List.cons_append, List.nil_append, Nat.zero_add, Nat.add_assoc, Nat.reduceLT, List.set_cons_zero, List.set_cons_succ]
theorem c_log (d : Nat) (L : xL) (s : Nat) : ev (d + 1) iX1_init [.ref L.length] (L ++ [.inr (1, xnew 1)], L.length + 1, s) = some (.inl none, (L ++ [.inr (1, [.ref (L.length + 1), .ref (L.length + 2), .ref (L.length + 3), .int 0, .int 0]), zr 24, zr 24, zr 24], L.length + 4, s + 72)) := by
  rw [n_X1_init, nw1, s_X1_init_0, s_X1_init_1 (by decide)]
  simp +decide only [s_X1_init_4, s_X1_init_5, s_X1_init_9, s_X1_init_12, s_X1_init_13, s_X1_init_17, s_X1_init_20, s_X1_init_21, s_X1_init_25, s_X1_init_28, s_X1_init_7, s_X1_init_15, s_X1_init_23, xk_s, ts_s, ts_n, Option.bind_some, xc_n, xc_i, xc_r, xc_l, xc_d, xcats_n, xcats_i, xcats_r, xcats_l, xcats_d, and_true, true_and, and_self, if_true, if_false, Nat.reduceAdd, Nat.reduceLeDiff, Nat.zero_le, decide_true, decide_false, Bool.not_true, Bool.not_false, Bool.and_true, Bool.true_and, Bool.and_false, Bool.false_and, Bool.true_or, Bool.false_or, Bool.or_true, Bool.or_false, Bool.false_eq_true, ct_24, xput_c, zr, List.length_append, List.length_cons, List.length_nil, List.append_assoc, List.cons_append, List.nil_append, Nat.zero_add, Nat.add_assoc, Nat.reduceLT, List.set_cons_zero, List.set_cons_succ]
theorem c_plan (d : Nat) (L : xL) (s : Nat) : ev (d + 1) iX3_init [.ref L.length] (L ++ [.inr (3, xnew 3)], L.length + 1, s) = some (.inl none, (L ++ plC L.length, L.length + 9, s + 54)) := by
  rw [n_X3_init, nw3, s_X3_init_0, s_X3_init_1 (by decide)]
  simp +decide only [s_X3_init_4, s_X3_init_5, s_X3_init_9, s_X3_init_12, s_X3_init_13, s_X3_init_17, s_X3_init_20, s_X3_init_21, s_X3_init_24, s_X3_init_27, s_X3_init_28, s_X3_init_31, s_X3_init_34, s_X3_init_35, s_X3_init_38, s_X3_init_41, s_X3_init_42, s_X3_init_46, s_X3_init_49, s_X3_init_50, s_X3_init_54, s_X3_init_57, s_X3_init_58, s_X3_init_62, s_X3_init_65, s_X3_init_7, s_X3_init_15, s_X3_init_22, s_X3_init_29, s_X3_init_36, s_X3_init_44, s_X3_init_52, s_X3_init_60, xk_s, ts_s, ts_n, Option.bind_some, xc_n, xc_i, xc_r, xc_l, xc_d, xcats_n, xcats_i, xcats_r, xcats_l, xcats_d, and_true, true_and, and_self, if_true, if_false, Nat.reduceAdd, Nat.reduceLeDiff, Nat.zero_le, decide_true, decide_false, Bool.not_true, Bool.not_false, Bool.and_true, Bool.true_and, Bool.and_false, Bool.false_and, Bool.true_or, Bool.false_or, Bool.or_true, Bool.or_false, Bool.false_eq_true, zt_12, zt_4, zt_6, xput_c, plC, zr, List.length_append, List.length_cons, List.length_nil, List.append_assoc, List.cons_append, List.nil_append, Nat.zero_add, Nat.add_assoc, Nat.reduceLT, List.set_cons_zero, List.set_cons_succ]
theorem c_state (d : Nat) (L : xL) (p s : Nat) : ev (d + 2) iX5_init [.ref L.length, .ref p] (L ++ [.inr (5, xnew 5)], L.length + 1, s) = some (.inl none, (L ++ stC L.length p, L.length + 15, s + 120)) := by
  have k1 := fun x0 s => c_pass d (L ++ [x0]) s
  have k2 := fun x0 x1 s => c_votes d (L ++ [x0, x1]) s
  have k3 := fun x0 x1 x2 x3 x4 s => c_spans d (L ++ [x0, x1, x2, x3, x4]) s 4 4 (by decide) rfl (by decide)
  have k4 := fun x0 x1 x2 x3 x4 x5 x6 x7 s => c_spans d (L ++ [x0, x1, x2, x3, x4, x5, x6, x7]) s 6 6 (by decide) rfl (by decide)
  have k5 := fun x0 x1 x2 x3 x4 x5 x6 x7 x8 x9 x10 s => c_log d (L ++ [x0, x1, x2, x3, x4, x5, x6, x7, x8, x9, x10]) s
  simp only [List.length_append, List.length_cons, List.length_nil, List.append_assoc, List.cons_append, List.nil_append, Nat.zero_add, Nat.add_assoc, Nat.reduceAdd] at k1 k2 k3 k4 k5
  rw [n_X5_init, nw5, s_X5_init_0, s_X5_init_1 (by decide)]
  simp +decide only [s_X5_init_4, s_X5_init_8, s_X5_init_8i, s_X5_init_9, s_X5_init_12, s_X5_init_15, s_X5_init_19, s_X5_init_19i, s_X5_init_20, s_X5_init_23, s_X5_init_26, s_X5_init_30, s_X5_init_30i, s_X5_init_31, s_X5_init_32, s_X5_init_35, s_X5_init_38, s_X5_init_42, s_X5_init_42i, s_X5_init_43, s_X5_init_45, s_X5_init_48, s_X5_init_51, s_X5_init_55, s_X5_init_55i, s_X5_init_56, s_X5_init_59, s_X5_init_62, s_X5_init_63, s_X5_init_64, s_X5_init_67, s_X5_init_5, s_X5_init_16, s_X5_init_27, s_X5_init_39, s_X5_init_52, xk_s, ts_s, ts_n, Option.bind_some, xc_n, xc_i, xc_r, xc_l, xc_d, xcats_n, xcats_i, xcats_r, xcats_l, xcats_d, and_true, true_and, and_self, if_true, if_false, Nat.reduceAdd, Nat.reduceLeDiff, Nat.zero_le, decide_true, decide_false, Bool.not_true, Bool.not_false, Bool.and_true, Bool.true_and, Bool.and_false, Bool.false_and, Bool.true_or, Bool.false_or, Bool.or_true, Bool.or_false, Bool.false_eq_true, k1, k2, k3, k4, k5, nl1, nl2, nl4, nl6, xput_c, stC, List.length_append, List.length_cons, List.length_nil, List.append_assoc, List.cons_append, List.nil_append, Nat.zero_add, Nat.add_assoc, Nat.reduceLT, List.set_cons_zero, List.set_cons_succ]
theorem c_bclr (d : Nat) (L M : xL) (r : Nat) (a b e f : Int32) (w : Nat × Nat) : ev (d + 1) iX0_clear [.ref L.length] (L ++ .inr (0, [.ref r, .int a, .int b, .int e, .int f]) :: M, w) = some (.inl none, (L ++ .inr (0, [.ref r, .int 0, .int 0, .int 0, .int (-1)]) :: M, w)) := by
  rw [n_X0_clear]
  simp +decide only [s_X0_clear_0, s_X0_clear_1, s_X0_clear_2, s_X0_clear_5, s_X0_clear_6, s_X0_clear_7, s_X0_clear_10, s_X0_clear_11, s_X0_clear_12, s_X0_clear_15, s_X0_clear_16, s_X0_clear_17, s_X0_clear_20, xk_s, ts_s, ts_n, Option.bind_some, xc_n, xc_i, xc_r, xc_l, xc_d, xcats_n, xcats_i, xcats_r, xcats_l, xcats_d, and_true, true_and, and_self, if_true, if_false, Nat.reduceAdd, Nat.reduceLeDiff, Nat.zero_le, decide_true, decide_false, Bool.not_true, Bool.not_false, Bool.and_true, Bool.true_and, Bool.and_false, Bool.false_and, Bool.true_or, Bool.false_or, Bool.or_true, Bool.or_false, Bool.false_eq_true, xput_c, List.length_cons, List.length_nil, Nat.zero_add, Nat.reduceLT, List.set_cons_zero, List.set_cons_succ]
theorem c_buffer (d : Nat) (L : xL) (s : Nat) : ev (d + 2) iX0_init [.ref L.length] (L ++ [.inr (0, xnew 0)], L.length + 1, s) = some (.inl none, (L ++ bfC L.length, L.length + 2, s + 60)) := by
  have k1 := fun r a b e f w => c_bclr d L [.inl (0, 60, .inl (fun _ => 0))] r a b e f w
  rw [n_X0_init, nw0, s_X0_init_0, s_X0_init_1 (by decide)]
  simp +decide only [s_X0_init_4, s_X0_init_5, s_X0_init_9, s_X0_init_12, s_X0_init_13, s_X0_init_16, s_X0_init_7, xk_s, ts_s, ts_n, Option.bind_some, xc_n, xc_i, xc_r, xc_l, xc_d, xcats_n, xcats_i, xcats_r, xcats_l, xcats_d, and_true, true_and, and_self, if_true, if_false, Nat.reduceAdd, Nat.reduceLeDiff, Nat.zero_le, decide_true, decide_false, Bool.not_true, Bool.not_false, Bool.and_true, Bool.true_and, Bool.and_false, Bool.false_and, Bool.true_or, Bool.false_or, Bool.or_true, Bool.or_false, Bool.false_eq_true, k1, ct_60, xput_c, xis_c, bfC, zr, List.length_append, List.length_cons, List.length_nil, List.append_assoc, List.cons_append, List.nil_append, Nat.zero_add, Nat.add_assoc, Nat.reduceLT, List.set_cons_zero, List.set_cons_succ]
/-- a saved state's place is made -/
theorem l_it (d : Nat) (L : xL) (n s : Nat) (f : Nat → Option Nat) (i : Int32) (i' : Nat) (hn : L.length = n) (h41 : 41 ≤ n) (h0 : xget L 0 7 3 = some (.ref 40)) (h1 : xget L 0 7 0 = some (.ref 1)) (h2 : xaq L 40 3 = some (3, f)) (hi : i < 3) (hi0 : ¬ i < 0) (hi' : i.toNatClampNeg = i') : rx x0 (d + 4) iX7_init 55 [some (.ref 0), some (.int i)] [] (L, n, s) = rx x0 (d + 4) iX7_init 55 [some (.ref 0), some (.int (i + 1))] [] ((L ++ stC n 1).set 40 (qr (va_up f i' (some n))), n + 15, s + 138) := by
  subst hn
  subst hi'
  have k := fun s => c_state (d + 2) L 1 s
  have g1 : ∀ x, xget (L ++ [x]) 0 7 0 = some (.ref 1) := fun x => (xget_app (by omega)).trans h1
  have g2 : xaq (L ++ stC L.length 1) 40 3 = some (3, f) := (xaq_app (by omega)).trans h2
  have g3 : xis (L ++ stC L.length 1) L.length 5 = true := xis_c
  have hi3 : i.toNatClampNeg < 3 := by
    obtain ⟨j, hj, rfl⟩ := nI_of hi0
    have := (nI_ltI (b := 3) hj (by decide)).mp hi
    rw [nI_clamp hj]
    exact this
  have g4 : ¬ (i < 0 ∨ 3 ≤ i.toNatClampNeg ∨ xis (L ++ stC L.length 1) L.length 5 = false) := by
    rw [g3]
    rintro (q | q | q)
    · exact hi0 q
    · omega
    · exact absurd q (by decide)
  rw [s_X7_init_55]
  simp +decide only [s_X7_init_56, s_X7_init_57, s_X7_init_60, s_X7_init_61, s_X7_init_64, s_X7_init_65, s_X7_init_68, s_X7_init_69, s_X7_init_70, s_X7_init_73, xk_s, ts_s, ts_n, Option.bind_some, xc_n, xc_i, xc_r, xc_l, xc_d, xcats_n, xcats_i, xcats_r, xcats_l, xcats_d, and_true, true_and, and_self, if_true, if_false, Nat.reduceAdd, Nat.reduceLeDiff, Nat.zero_le, decide_true, decide_false, Bool.not_true, Bool.not_false, Bool.and_true, Bool.true_and, Bool.and_false, Bool.false_and, Bool.true_or, Bool.false_or, Bool.or_true, Bool.or_false, Bool.false_eq_true, hi, h0, g1, k, nl5]
  rw [s_X7_init_76 g2 g4]
  simp +decide only [s_X7_init_77, s_X7_init_80, xk_s, ts_s, ts_n, Option.bind_some, xc_n, xc_i, xc_r, xc_l, xc_d, xcats_n, xcats_i, xcats_r, xcats_l, xcats_d, and_true, true_and, and_self, if_true, if_false, Nat.reduceAdd, Nat.reduceLeDiff, Nat.zero_le, decide_true, decide_false, Bool.not_true, Bool.not_false, Bool.and_true, Bool.true_and, Bool.and_false, Bool.false_and, Bool.true_or, Bool.false_or, Bool.or_true, Bool.or_false, Bool.false_eq_true, qr, Nat.add_assoc, Nat.reduceAdd]
theorem l_bf (d : Nat) (L : xL) (n s : Nat) (l1 : Option Value) (hn : L.length = n) : rx x0 (d + 4) iX7_init 83 [some (.ref 0), l1] [] (L, n, s) = (xput (L ++ bfC n) 0 7 5 (.ref n)).bind (fun L' => rx x0 (d + 4) iX7_init 94 [some (.ref 0), l1] [] (L', n + 2, s + 65)) := by
  subst hn
  have k := fun s => c_buffer (d + 2) L s
  simp +decide only [s_X7_init_83, s_X7_init_84, s_X7_init_87, s_X7_init_88, s_X7_init_91, xk_s, ts_s, ts_n, Option.bind_some, xc_n, xc_i, xc_r, xc_l, xc_d, xcats_n, xcats_i, xcats_r, xcats_l, xcats_d, and_true, true_and, and_self, if_true, if_false, Nat.reduceAdd, Nat.reduceLeDiff, Nat.zero_le, decide_true, decide_false, Bool.not_true, Bool.not_false, Bool.and_true, Bool.true_and, Bool.and_false, Bool.false_and, Bool.true_or, Bool.false_or, Bool.or_true, Bool.or_false, Bool.false_eq_true, k, nl0, Nat.add_assoc, Nat.reduceAdd]
/-- the store that the constructors make -/
def gB : Nat → Int32 := va_up (va_up (fun _ => 0) 9 (-1)) 121 60
def GB : Nat → Nat → Int32 := fun _ _ => 0
def oB : Nat → Int64 := fun _ => 0
def gI : Nat → Int32 := (anewF (gB, GB) 60).1
def GI : Nat → Nat → Int32 := (anewF (gB, GB) 60).2
def Hc4 : xL := .inr (7, [.ref 1, .ref 10, .ref 25, .ref 40, .int 0, .null]) :: (plC 1 ++ (stC 10 1 ++ (stC 25 1 ++ [qr (fun _ => none)])))
def fc1 : Nat → Option Nat := va_up (fun _ => none) 0 (some 41)
def fc2 : Nat → Option Nat := va_up fc1 1 (some 56)
def fc3 : Nat → Option Nat := va_up fc2 2 (some 71)
def Hc5 : xL := (Hc4 ++ stC 41 1).set 40 (qr fc1)
def Hc6 : xL := (Hc5 ++ stC 56 1).set 40 (qr fc2)
def Hc7 : xL := (Hc6 ++ stC 71 1).set 40 (qr fc3)
theorem fc3_eq : fc3 = ysaved := by
  funext j
  unfold fc3 fc2 fc1 va_up ysaved
  by_cases h0 : j = 0
  · subst h0; rfl
  by_cases h1 : j = 1
  · subst h1; rfl
  by_cases h2 : j = 2
  · subst h2; rfl
  simp only [h0, h1, h2, if_false]
theorem hc_end : xput (Hc7 ++ bfC 86) 0 7 5 (.ref 86) = some (hq8 gB GB oB 0) := by
  unfold Hc7
  rw [fc3_eq]
  rfl
theorem c_initA (d s : Nat) : ev (d + 5) iX7_init [.ref 0] ([.inr (7, xnew 7)], 1, s) = rx x0 (d + 4) iX7_init 55 [some (.ref 0), some (.int 0)] [] (Hc4, 41, s + 346) := by
  have k1 := fun x0 s => c_plan (d + 3) [x0] s
  have k2 := fun x0 s => c_state (d + 2) (x0 :: plC 1) 1 s
  have k3 := fun x0 s => c_state (d + 2) (x0 :: (plC 1 ++ stC 10 1)) 1 s
  have q1 : (plC 1).length = 9 := rfl
  have q2 : (stC 10 1).length = 15 := rfl
  have q3 : (stC 25 1).length = 15 := rfl
  simp only [List.length_append, List.length_cons, List.length_nil, List.append_assoc, List.cons_append, List.nil_append, Nat.zero_add, Nat.add_assoc, Nat.reduceAdd, q1, q2, q3] at k1 k2 k3
  have p0 : ∀ (fs : List Value) (M : xL) (k : Nat) (v : Value), k < fs.length → xput (.inr (7, fs) :: M) 0 7 k v = some (.inr (7, fs.set k v) :: M) := fun fs M k v hk => xput_c (L := []) hk
  have r0 : ∀ (fs : List Value) (M : xL) (k : Nat), xget (.inr (7, fs) :: M) 0 7 k = fs[k]? := fun fs M k => rfl
  rw [n_X7_init, nw7, s_X7_init_0, s_X7_init_1 (by decide)]
  simp +decide only [s_X7_init_4, s_X7_init_8, s_X7_init_8i, s_X7_init_9, s_X7_init_12, s_X7_init_15, s_X7_init_19, s_X7_init_19i, s_X7_init_20, s_X7_init_21, s_X7_init_24, s_X7_init_27, s_X7_init_30, s_X7_init_34, s_X7_init_34i, s_X7_init_35, s_X7_init_36, s_X7_init_39, s_X7_init_42, s_X7_init_45, s_X7_init_46, s_X7_init_50, s_X7_init_53, s_X7_init_54, s_X7_init_83, s_X7_init_87, s_X7_init_87i, s_X7_init_88, s_X7_init_91, s_X7_init_94, s_X7_init_95, s_X7_init_97, s_X7_init_100, s_X7_init_5, s_X7_init_16, s_X7_init_31, s_X7_init_47, s_X7_init_84, xk_s, ts_s, ts_n, Option.bind_some, xc_n, xc_i, xc_r, xc_l, xc_d, xcats_n, xcats_i, xcats_r, xcats_l, xcats_d, and_true, true_and, and_self, if_true, if_false, Nat.reduceAdd, Nat.reduceLeDiff, Nat.zero_le, decide_true, decide_false, Bool.not_true, Bool.not_false, Bool.and_true, Bool.true_and, Bool.and_false, Bool.false_and, Bool.true_or, Bool.false_or, Bool.or_true, Bool.or_false, Bool.false_eq_true, k1, k2, k3, q1, q2, q3, nl3, nl5, p0, r0, Hc4, qr, List.length_append, List.length_cons, List.length_nil, List.append_assoc, List.cons_append, List.nil_append, Nat.zero_add, Nat.add_assoc, Nat.reduceLT, List.set_cons_zero, List.set_cons_succ, List.getElem?_cons_zero, zt_3]
theorem c_init (d s : Nat) : ev (d + 5) iX7_init [.ref 0] ([.inr (7, xnew 7)], 1, s) = some (.inl none, (hq8 gI GI oB 0, 88, s + 825)) := by
  rw [c_initA]
  rw [l_it d Hc4 41 (s + 346) (fun _ => none) 0 0 rfl (by decide) rfl rfl rfl (by decide) (by decide) rfl]
  show rx x0 (d + 4) iX7_init 55 [some (.ref 0), some (.int 1)] [] (Hc5, 56, s + 484) = _
  rw [l_it d Hc5 56 (s + 484) fc1 1 1 rfl (by decide) rfl rfl rfl (by decide) (by decide) rfl]
  show rx x0 (d + 4) iX7_init 55 [some (.ref 0), some (.int 2)] [] (Hc6, 71, s + 622) = _
  rw [l_it d Hc6 71 (s + 622) fc2 2 2 rfl (by decide) rfl rfl rfl (by decide) (by decide) rfl]
  show rx x0 (d + 4) iX7_init 55 [some (.ref 0), some (.int 3)] [] (Hc7, 86, s + 760) = _
  rw [s_X7_init_55]
  simp +decide only [s_X7_init_56, s_X7_init_57, xk_s, ts_s, ts_n, Option.bind_some, xc_n, xc_i, xc_r, xc_l, xc_d, xcats_n, xcats_i, xcats_r, xcats_l, xcats_d, and_true, true_and, and_self, if_true, if_false, Nat.reduceAdd, Nat.reduceLeDiff, Nat.zero_le, decide_true, decide_false, Bool.not_true, Bool.not_false, Bool.and_true, Bool.true_and, Bool.and_false, Bool.false_and, Bool.true_or, Bool.false_or, Bool.or_true, Bool.or_false, Bool.false_eq_true]
  rw [l_bf d Hc7 86 (s + 760) _ rfl, hc_end]
  have k := e_anew_8 (o := oB) (h := 0) (c := (88, s + 825)) d (gB, GB) 60
  simp +decide only [s_X7_init_94, s_X7_init_95, s_X7_init_97, s_X7_init_100, xk_s, ts_s, ts_n, Option.bind_some, xc_n, xc_i, xc_r, xc_l, xc_d, xcats_n, xcats_i, xcats_r, xcats_l, xcats_d, and_true, true_and, and_self, if_true, if_false, Nat.reduceAdd, Nat.reduceLeDiff, Nat.zero_le, decide_true, decide_false, Bool.not_true, Bool.not_false, Bool.and_true, Bool.true_and, Bool.and_false, Bool.false_and, Bool.true_or, Bool.false_or, Bool.or_true, Bool.or_false, Bool.false_eq_true, p8_hx_0, Nat.add_assoc, Nat.reduceAdd, k, gI, GI]
theorem hq8_len (g : Nat → Int32) (G : Nat → Nat → Int32) (o : Nat → Int64) (h : Int64) : (hq8 g G o h).length = 88 := rfl
theorem hq9_len (g : Nat → Int32) (G : Nat → Nat → Int32) (o : Nat → Int64) (h : Int64) : (hq9 g G o h).length = 102 := rfl
theorem hq9_split (g : Nat → Int32) (G : Nat → Nat → Int32) (o : Nat → Int64) (h : Int64) : hq9 g G o h = hq8 g G o h ++ [.inr (8, [.int (g 120), .int (g 121), .ref 89, .ref 90, .ref 91, .ref 92, .int (g 122), .ref 93, .ref 94, .int (g 123), .ref 95, .ref 96, .int (g 124), .ref 97, .int (g 125), .ref 98, .ref 99, .ref 100, .int (g 126), .ref 101, .int (g 127), .int (g 128), .int (g 129), .int (g 130), .long h]), .inl (0, 142, .inl (G 60)), .inl (0, 142, .inl (G 61)), .inl (0, 426, .inl (G 62)), .inl (2, 3, .inl (G 63)), .inl (0, 12, .inl (G 64)), .inl (0, 12, .inl (G 65)), .inl (0, 4, .inl (G 66)), .inl (0, 4, .inl (G 67)), .inl (0, 4, .inl (G 68)), .inl (0, 6, .inl (G 69)), .inl (0, 6, .inl (G 70)), .inl (0, 6, .inl (G 71)), .inl (0, 60, .inl (G 72))] := rfl
theorem hq9_of (o : Nat → Int64) : hq8 gI GI o 0 ++ moC 88 = hq9 gI GI o 0 := by
  have h1 : ∀ k, 39 ≤ k → gI k = gB k := fun k hk => anew_far _ _ _ (Or.inr hk)
  have h2 : ∀ k, k ≠ 10 → k ≠ 11 → GI k = GB k := fun k a b => anew_row _ _ _ a b
  rw [hq9_split, h1 120 (by decide), h1 121 (by decide), h1 122 (by decide), h1 123 (by decide), h1 124 (by decide), h1 125 (by decide), h1 126 (by decide), h1 127 (by decide), h1 128 (by decide), h1 129 (by decide), h1 130 (by decide), h2 60 (by decide) (by decide), h2 61 (by decide) (by decide), h2 62 (by decide) (by decide), h2 63 (by decide) (by decide), h2 64 (by decide) (by decide), h2 65 (by decide) (by decide), h2 66 (by decide) (by decide), h2 67 (by decide) (by decide), h2 68 (by decide) (by decide), h2 69 (by decide) (by decide), h2 70 (by decide) (by decide), h2 71 (by decide) (by decide), h2 72 (by decide) (by decide)]
  refine congrArg (fun z => hq8 gI GI o 0 ++ z) ?_
  rfl
theorem hp_of (g : Nat → Int32) (G : Nat → Nat → Int32) (o : Nat → Int64) (h : Int64) : hq9 g G o h ++ [.inl (1, 1, .inr (.inl o))] = hp g G o h := rfl
def gJ : Nat → Int32 := startG gI 60
def GJ : Nat → Nat → Int32 := va_up (va_up GI 60 (startZ (GI 60) 60)) 63 (upd (upd (upd (GI 63) 0 0) 1 0) 2 0)
theorem c_model0 (d s : Nat) (L : xL) (w : xW) (hs : ev (d + 1) iX8_start [.ref L.length, .int 60] (L ++ moC L.length, L.length + 14, s + 827) = some (.inl none, w)) : ev (d + 2) iX8_init [.ref L.length] (L ++ [.inr (8, xnew 8)], L.length + 1, s) = some (.inl none, w) := by
  simp only [moC, zr, zb] at hs
  rw [n_X8_init, nw8, s_X8_init_0, s_X8_init_1 (by decide)]
  simp +decide only [s_X8_init_4, s_X8_init_5, s_X8_init_7, s_X8_init_10, s_X8_init_11, s_X8_init_16, s_X8_init_19, s_X8_init_20, s_X8_init_25, s_X8_init_28, s_X8_init_29, s_X8_init_34, s_X8_init_37, s_X8_init_38, s_X8_init_41, s_X8_init_44, s_X8_init_45, s_X8_init_49, s_X8_init_52, s_X8_init_53, s_X8_init_57, s_X8_init_60, s_X8_init_61, s_X8_init_64, s_X8_init_67, s_X8_init_68, s_X8_init_71, s_X8_init_74, s_X8_init_75, s_X8_init_78, s_X8_init_81, s_X8_init_82, s_X8_init_86, s_X8_init_89, s_X8_init_90, s_X8_init_94, s_X8_init_97, s_X8_init_98, s_X8_init_102, s_X8_init_105, s_X8_init_106, s_X8_init_110, s_X8_init_113, s_X8_init_114, s_X8_init_116, s_X8_init_119, s_X8_init_14, s_X8_init_23, s_X8_init_32, s_X8_init_39, s_X8_init_47, s_X8_init_55, s_X8_init_62, s_X8_init_69, s_X8_init_76, s_X8_init_84, s_X8_init_92, s_X8_init_100, s_X8_init_108, xk_s, ts_s, ts_n, Option.bind_some, xc_n, xc_i, xc_r, xc_l, xc_d, xcats_n, xcats_i, xcats_r, xcats_l, xcats_d, and_true, true_and, and_self, if_true, if_false, Nat.reduceAdd, Nat.reduceLeDiff, Nat.zero_le, decide_true, decide_false, Bool.not_true, Bool.not_false, Bool.and_true, Bool.true_and, Bool.and_false, Bool.false_and, Bool.true_or, Bool.false_or, Bool.or_true, Bool.or_false, Bool.false_eq_true, ct_142, ct_426, ct_60, zt_3, zt_12, zt_4, zt_6, xput_c, xis_c, hs, List.length_append, List.length_cons, List.length_nil, List.append_assoc, List.cons_append, List.nil_append, Nat.zero_add, Nat.add_assoc, Nat.reduceLT, List.set_cons_zero, List.set_cons_succ]
theorem c_model (d s : Nat) : ev (d + 2) iX8_init [.ref 88] (hq8 gI GI oB 0 ++ [.inr (8, xnew 8)], 89, s) = some (.inl none, (hq9 gJ GJ oB 0, 102, s + 827)) := by
  have k := e_start_9 (g := gI) (G := GI) (o := oB) (h := 0) (c := (102, s + 827)) d 60
  rw [← hq9_of] at k
  exact c_model0 d s (hq8 gI GI oB 0) _ k
theorem law_start (L : Nat) (xs : Nat → Int32) : rx (L + 1, xs) 10 iL_law 0 (xent 9 [.float 0]) [] ([], 0, 0) = rx (L + 1, xs) 10 iL_law 23 (LV 0 none none none none) [] (hp gJ GJ oB 0, 103, 1684) := by
  have k1 : ev 10 iX7_init [.ref 0] ([.inr (7, xnew 7)], 1, 6) = some (.inl none, (hq8 gI GI oB 0, 88, 831)) := c_init 5 6
  have k2 : ev 10 iX8_init [.ref 88] (hq8 gI GI oB 0 ++ [.inr (8, xnew 8)], 89, 856) = some (.inl none, (hq9 gJ GJ oB 0, 102, 1683)) := c_model 8 856
  have n7 : (xnew 7).length = 6 := rfl
  have n8 : (xnew 8).length = 25 := rfl
  show rx (L + 1, xs) 10 iL_law 0 [some (.float 0), none, none, none, none, none, none, none, none] [] ([], 0, 0) = _
  rw [s_L_law_0 rfl]
  show rx (L + 1, xs) 10 iL_law 3 [some (.float 0), none, none, none, none, none, none, none, none] [.ref 0] ([.inr (7, xnew 7)], 1, 6) = _
  simp +decide only [s_L_law_3, s_L_law_4, s_L_law_7, xk_s, ts_s, ts_n, Option.bind_some, xc_n, xc_i, xc_r, xc_l, xc_d, xcats_n, xcats_i, xcats_r, xcats_l, xcats_d, and_true, true_and, and_self, if_true, if_false, Nat.reduceAdd, Nat.reduceLeDiff, Nat.zero_le, decide_true, decide_false, Bool.not_true, Bool.not_false, Bool.and_true, Bool.true_and, Bool.and_false, Bool.false_and, Bool.true_or, Bool.false_or, Bool.or_true, Bool.or_false, Bool.false_eq_true, k1, xc_f]
  rw [s_L_law_8 (hq8_len _ _ _ _).symm]
  show rx (L + 1, xs) 10 iL_law 11 [some (.float 0), some (.ref 0), none, none, none, none, none, none, none] [.ref 88] (hq8 gI GI oB 0 ++ [.inr (8, xnew 8)], 89, 856) = _
  simp +decide only [s_L_law_11, s_L_law_12, s_L_law_15, s_L_law_16, xk_s, ts_s, ts_n, Option.bind_some, xc_n, xc_i, xc_r, xc_l, xc_d, xcats_n, xcats_i, xcats_r, xcats_l, xcats_d, and_true, true_and, and_self, if_true, if_false, Nat.reduceAdd, Nat.reduceLeDiff, Nat.zero_le, decide_true, decide_false, Bool.not_true, Bool.not_false, Bool.and_true, Bool.true_and, Bool.and_false, Bool.false_and, Bool.true_or, Bool.false_or, Bool.or_true, Bool.or_false, Bool.false_eq_true, k2, xc_f]
  rw [s_L_law_17 ⟨(hq9_len _ _ _ _).symm, by decide, by decide⟩]
  show rx (L + 1, xs) 10 iL_law 19 [some (.float 0), some (.ref 0), some (.ref 88), none, none, none, none, none, none] [.ref 102] (hq9 gJ GJ oB 0 ++ [.inl (1, 1, .inr (.inl oB))], 103, 1684) = _
  rw [hp_of]
  simp +decide only [s_L_law_19, s_L_law_20, s_L_law_21, xk_s, ts_s, ts_n, Option.bind_some, xc_n, xc_i, xc_r, xc_l, xc_d, xcats_n, xcats_i, xcats_r, xcats_l, xcats_d, and_true, true_and, and_self, if_true, if_false, Nat.reduceAdd, Nat.reduceLeDiff, Nat.zero_le, decide_true, decide_false, Bool.not_true, Bool.not_false, Bool.and_true, Bool.true_and, Bool.and_false, Bool.false_and, Bool.true_or, Bool.false_or, Bool.or_true, Bool.or_false, Bool.false_eq_true, LV]
