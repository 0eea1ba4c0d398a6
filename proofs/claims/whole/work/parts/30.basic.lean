/-! specs of the smallest methods -/
theorem xcats_n : xcats [] = 0 := rfl
theorem xcats_i (a : Int32) (st : List Value) : xcats (.int a :: st) = 1 + xcats st := rfl
theorem xcats_r (a : Nat) (st : List Value) : xcats (.ref a :: st) = 1 + xcats st := rfl
theorem xcats_l (a : Int64) (st : List Value) : xcats (.long a :: st) = 2 + xcats st := rfl
theorem xcats_d (a : UInt64) (st : List Value) : xcats (.double a :: st) = 2 + xcats st := rfl
/-- the machine's truth -/
abbrev bi (P : Prop) (h : Decidable P) : Int32 := if P then 1 else 0
def ush (x : Int32) (k : Int32) : Int32 := (x.toUInt32 >>> (k.toUInt32 &&& Int32.toUInt32 31)).toInt32
def bc1 (x : Int32) : Int32 := x - (ush x 1 &&& 1431655765)
def bc2 (x : Int32) : Int32 := (x &&& 858993459) + (ush x 2 &&& 858993459)
def bc3 (x : Int32) : Int32 := (x + ush x 4) &&& 252645135
def bc4 (x : Int32) : Int32 := x + ush x 8
def bc5 (x : Int32) : Int32 := x + ush x 16
/-- Integer.bitCount -/
def bc (x : Int32) : Int32 := bc5 (bc4 (bc3 (bc2 (bc1 x)))) &&& 63
theorem e_bitCount (d : Nat) (x : Int32) (w : xW) : ev (d + 1) iJ6_bitCount_0f7a4 [.int x] w = some (.inl (some (.int (bc x))), w) := by
  rw [n_J6_bitCount_0f7a4]
  simp only [s_J6_bitCount_0f7a4_0, s_J6_bitCount_0f7a4_1, s_J6_bitCount_0f7a4_2, s_J6_bitCount_0f7a4_3, s_J6_bitCount_0f7a4_4, s_J6_bitCount_0f7a4_7, s_J6_bitCount_0f7a4_8, s_J6_bitCount_0f7a4_9, s_J6_bitCount_0f7a4_10, s_J6_bitCount_0f7a4_11, s_J6_bitCount_0f7a4_14, s_J6_bitCount_0f7a4_15, s_J6_bitCount_0f7a4_16, s_J6_bitCount_0f7a4_17, s_J6_bitCount_0f7a4_18, s_J6_bitCount_0f7a4_21, s_J6_bitCount_0f7a4_22, s_J6_bitCount_0f7a4_23, s_J6_bitCount_0f7a4_24, s_J6_bitCount_0f7a4_25, s_J6_bitCount_0f7a4_26, s_J6_bitCount_0f7a4_27, s_J6_bitCount_0f7a4_28, s_J6_bitCount_0f7a4_29, s_J6_bitCount_0f7a4_32, s_J6_bitCount_0f7a4_33, s_J6_bitCount_0f7a4_34, s_J6_bitCount_0f7a4_35, s_J6_bitCount_0f7a4_36, s_J6_bitCount_0f7a4_38, s_J6_bitCount_0f7a4_39, s_J6_bitCount_0f7a4_40, s_J6_bitCount_0f7a4_41, s_J6_bitCount_0f7a4_42, s_J6_bitCount_0f7a4_43, s_J6_bitCount_0f7a4_45, s_J6_bitCount_0f7a4_46, s_J6_bitCount_0f7a4_47, s_J6_bitCount_0f7a4_48, s_J6_bitCount_0f7a4_49, s_J6_bitCount_0f7a4_51, s_J6_bitCount_0f7a4_52, xk_s, ts_s, ts_n, Option.bind_some, xc_n, xc_i, xc_r, xc_l, xc_d, xcats_n, xcats_i, xcats_r, xcats_l, xcats_d, and_true, true_and, and_self, if_true, if_false, Nat.reduceAdd, Nat.reduceLeDiff, Nat.zero_le, decide_true, decide_false, Bool.not_true, Bool.not_false, Bool.and_true, Bool.true_and, Bool.and_false, Bool.false_and, Bool.true_or, Bool.false_or, Bool.or_true, Bool.or_false, Bool.false_eq_true]
  rfl
theorem e_hasBit (d : Nat) (x k : Int32) (w : xW) : ev (d + 1) iX7_hasBit [.int x, .int k] w = some (.inl (some (.int (if (x >>> (k &&& 31)) &&& 1 = 0 then 0 else 1))), w) := by
  rw [n_X7_hasBit]
  simp only [s_X7_hasBit_0, s_X7_hasBit_1, s_X7_hasBit_2, s_X7_hasBit_3, s_X7_hasBit_4, s_X7_hasBit_5, s_X7_hasBit_8, s_X7_hasBit_9, s_X7_hasBit_12, s_X7_hasBit_13, s_X7_hasBit_13b, s_X7_hasBit_13c, xk_s, ts_s, ts_n, Option.bind_some, xc_n, xc_i, xc_r, xc_l, xc_d, xcats_n, xcats_i, xcats_r, xcats_l, xcats_d, and_true, true_and, and_self, if_true, if_false, Nat.reduceAdd, Nat.reduceLeDiff, Nat.zero_le, decide_true, decide_false, Bool.not_true, Bool.not_false, Bool.and_true, Bool.true_and, Bool.and_false, Bool.false_and, Bool.true_or, Bool.false_or, Bool.or_true, Bool.or_false, Bool.false_eq_true]
  split <;> rfl
theorem e_isVoter (d : Nat) (x : Int32) (w : xW) : ev (d + 1) iX7_isVoter [.int x] w = some (.inl (some (.int (if x < 0 then 0 else if x < 5 then 1 else 0))), w) := by
  rw [n_X7_isVoter]
  simp only [s_X7_isVoter_0, s_X7_isVoter_1, s_X7_isVoter_4, s_X7_isVoter_5, s_X7_isVoter_6, s_X7_isVoter_9, s_X7_isVoter_10, s_X7_isVoter_13, s_X7_isVoter_14, s_X7_isVoter_14b, s_X7_isVoter_14c, xk_s, ts_s, ts_n, Option.bind_some, xc_n, xc_i, xc_r, xc_l, xc_d, xcats_n, xcats_i, xcats_r, xcats_l, xcats_d, and_true, true_and, and_self, if_true, if_false, Nat.reduceAdd, Nat.reduceLeDiff, Nat.zero_le, decide_true, decide_false, Bool.not_true, Bool.not_false, Bool.and_true, Bool.true_and, Bool.and_false, Bool.false_and, Bool.true_or, Bool.false_or, Bool.or_true, Bool.or_false, Bool.false_eq_true]
  (repeat' split) <;> rfl
theorem e_hasCount (d : Nat) (x : Int32) {g : Nat → Int32} {G : Nat → Nat → Int32} {o : Nat → Int64} {h : Int64} {c : Nat × Nat} : ev (d + 1) iX3_hasCount [.ref 1, .int x] (hp g G o h, c) = some (.inl (some (.int (if x < 0 then 0 else if g 1 < x then 0 else 1))), (hp g G o h, c)) := by
  rw [n_X3_hasCount]
  simp only [s_X3_hasCount_0, s_X3_hasCount_1, s_X3_hasCount_4, s_X3_hasCount_5, s_X3_hasCount_6, s_X3_hasCount_9, s_X3_hasCount_12, s_X3_hasCount_13, s_X3_hasCount_16, s_X3_hasCount_17, s_X3_hasCount_17b, s_X3_hasCount_17c, hx_1, hg_1_0, hs_1_0, hg_1_1, hs_1_1, hg_1_2, hs_1_2, hg_1_3, hs_1_3, hg_1_4, hs_1_4, hg_1_5, hg_1_6, hg_1_7, hg_1_8, hg_1_9, hg_1_10, hg_1_11, hg_1_12, xk_s, ts_s, ts_n, Option.bind_some, xc_n, xc_i, xc_r, xc_l, xc_d, xcats_n, xcats_i, xcats_r, xcats_l, xcats_d, and_true, true_and, and_self, if_true, if_false, Nat.reduceAdd, Nat.reduceLeDiff, Nat.zero_le, decide_true, decide_false, Bool.not_true, Bool.not_false, Bool.and_true, Bool.true_and, Bool.and_false, Bool.false_and, Bool.true_or, Bool.false_or, Bool.or_true, Bool.or_false, Bool.false_eq_true]
  (repeat' split) <;> rfl
theorem e_isActive (d : Nat) (k x : Int32) {g : Nat → Int32} {G : Nat → Nat → Int32} {o : Nat → Int64} {h : Int64} {c : Nat × Nat} (hk : ixb k 6 = true) : ev (d + 1) iX3_isActive [.ref 1, .int k, .int x] (hp g G o h, c) = some (.inl (some (.int (if G 5 k.toNatClampNeg < x then 0 else if x < G 6 k.toNatClampNeg then 0 else 1))), (hp g G o h, c)) := by
  rw [n_X3_isActive]
  simp only [s_X3_isActive_0, s_X3_isActive_1, s_X3_isActive_2, s_X3_isActive_5, s_X3_isActive_6, s_X3_isActive_7, s_X3_isActive_10, s_X3_isActive_11, s_X3_isActive_12, s_X3_isActive_15, s_X3_isActive_16, s_X3_isActive_17, s_X3_isActive_20, s_X3_isActive_21, s_X3_isActive_24, s_X3_isActive_25, s_X3_isActive_25b, s_X3_isActive_25c, hx_1, hg_1_0, hs_1_0, hg_1_1, hs_1_1, hg_1_2, hs_1_2, hg_1_3, hs_1_3, hg_1_4, hs_1_4, hg_1_5, hg_1_6, hg_1_7, hg_1_8, hg_1_9, hg_1_10, hg_1_11, hg_1_12, hn_7, ha_7, hA_7, hn_8, ha_8, hA_8, xk_s, ts_s, ts_n, Option.bind_some, xc_n, xc_i, xc_r, xc_l, xc_d, xcats_n, xcats_i, xcats_r, xcats_l, xcats_d, and_true, true_and, and_self, if_true, if_false, Nat.reduceAdd, Nat.reduceLeDiff, Nat.zero_le, decide_true, decide_false, Bool.not_true, Bool.not_false, Bool.and_true, Bool.true_and, Bool.and_false, Bool.false_and, Bool.true_or, Bool.false_or, Bool.or_true, Bool.or_false, Bool.false_eq_true, hk]
  (repeat' split) <;> rfl
