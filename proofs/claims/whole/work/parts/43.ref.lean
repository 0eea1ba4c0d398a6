/-! the reference: its numbers z stand in row 60 -/
theorem up_up {α : Type} (f : Nat → α) (k : Nat) (a b : α) : va_up (va_up f k a) k b = va_up f k b := by
  funext j
  unfold va_up
  split <;> rfl
theorem ud_e (f : Nat → Int32) (k : Nat) (v : Int32) : upd f k v k = v := by simp [upd]
theorem ud_n (f : Nat → Int32) (k j : Nat) (v : Int32) (h : j ≠ k) : upd f k v j = f j := by simp [upd, h]
theorem zi_0 : ixb (0 : Int32) 142 = true := rfl
theorem zt_0 : (0 : Int32).toNatClampNeg = 0 := rfl
theorem zi_1 : ixb (1 : Int32) 142 = true := rfl
theorem zt_1 : (1 : Int32).toNatClampNeg = 1 := rfl
theorem zi_2 : ixb (2 : Int32) 142 = true := rfl
theorem zt_2 : (2 : Int32).toNatClampNeg = 2 := rfl
theorem zi_3 : ixb (3 : Int32) 142 = true := rfl
theorem zt_3 : (3 : Int32).toNatClampNeg = 3 := rfl
theorem zi_4 : ixb (4 : Int32) 142 = true := rfl
theorem zt_4 : (4 : Int32).toNatClampNeg = 4 := rfl
theorem zi_5 : ixb (5 : Int32) 142 = true := rfl
theorem zt_5 : (5 : Int32).toNatClampNeg = 5 := rfl
theorem zi_6 : ixb (6 : Int32) 142 = true := rfl
theorem zt_6 : (6 : Int32).toNatClampNeg = 6 := rfl
theorem zi_7 : ixb (7 : Int32) 142 = true := rfl
theorem zt_7 : (7 : Int32).toNatClampNeg = 7 := rfl
theorem zi_8 : ixb (8 : Int32) 142 = true := rfl
theorem zt_8 : (8 : Int32).toNatClampNeg = 8 := rfl
theorem zi_9 : ixb (9 : Int32) 142 = true := rfl
theorem zt_9 : (9 : Int32).toNatClampNeg = 9 := rfl
theorem zi_10 : ixb (10 : Int32) 142 = true := rfl
theorem zt_10 : (10 : Int32).toNatClampNeg = 10 := rfl
theorem zi_11 : ixb (11 : Int32) 142 = true := rfl
theorem zt_11 : (11 : Int32).toNatClampNeg = 11 := rfl
theorem zi_12 : ixb (12 : Int32) 142 = true := rfl
theorem zt_12 : (12 : Int32).toNatClampNeg = 12 := rfl
theorem zi_13 : ixb (13 : Int32) 142 = true := rfl
theorem zt_13 : (13 : Int32).toNatClampNeg = 13 := rfl
theorem zi_14 : ixb (14 : Int32) 142 = true := rfl
theorem zt_14 : (14 : Int32).toNatClampNeg = 14 := rfl
theorem zi_15 : ixb (15 : Int32) 142 = true := rfl
theorem zt_15 : (15 : Int32).toNatClampNeg = 15 := rfl
theorem zi_16 : ixb (16 : Int32) 142 = true := rfl
theorem zt_16 : (16 : Int32).toNatClampNeg = 16 := rfl
theorem zi_17 : ixb (17 : Int32) 142 = true := rfl
theorem zt_17 : (17 : Int32).toNatClampNeg = 17 := rfl

theorem nI_mul (a b : Nat) : nI a * nI b = nI (a * b) := (Int32.ofNat_mul a b).symm
theorem and1 (y : Int32) : y &&& 1 = 0 ∨ y &&& 1 = 1 := by
  have h : y.toBitVec &&& 1#32 = 0#32 ∨ y.toBitVec &&& 1#32 = 1#32 := by
    rw [BitVec.and_one_eq_setWidth_ofBool_getLsbD]
    cases y.toBitVec.getLsbD 0
    · exact Or.inl rfl
    · exact Or.inr rfl
  rcases h with h | h
  · exact Or.inl (Int32.toBitVec_inj.mp h)
  · exact Or.inr (Int32.toBitVec_inj.mp h)
/-- votes of a sort -/
def vcF (z : Nat → Int32) (C : Nat) (x : Int32) : Nat → Nat → Int32 → Int32
  | _, 0, a => a
  | j, n + 1, a => vcF z C x (j + 1) n (a + if z (20 + 5 * C + j) = x then 1 else 0)
def rgoB (G : Nat → Nat → Int32) (z : Nat → Int32) (k : Nat) : Bool := !(decide (vcF z k 1 0 5 0 < G 71 k)) && decide (vcF z k 2 0 5 0 < vcF z k 1 0 5 0)
def ractB (G : Nat → Nat → Int32) (x : Int32) (k : Nat) : Bool := !(decide (x < G 70 k)) && !(decide (G 69 k < x))
def shiftF (z : Nat → Int32) : Nat → Int32 := fun j => if 70 ≤ j ∧ j < 139 then z (j + 3) else z j
def nt1 (z : Nat → Int32) : Nat → Int32 := if z 16 = 24 then upd (shiftF z) 16 (z 16 - 1) else z
def noteF (z : Nat → Int32) (a b : Int32) : Nat → Int32 := upd (upd (upd (upd (nt1 z) (70 + 3 * (nt1 z 16).toNatClampNeg) (nt1 z 1)) (71 + 3 * (nt1 z 16).toNatClampNeg) a) (72 + 3 * (nt1 z 16).toNatClampNeg) b) 16 (nt1 z 16 + 1)
def ropB (z : Nat → Int32) (x : Int32) : Bool := fa (fun k => !(decide (x < z (50 + 2 * k))) && !(decide (z (51 + 2 * k) < x))) 0 (z 14).toNatClampNeg && !(fa (fun k => !(decide (x < z (58 + 2 * k))) && !(decide (z (59 + 2 * k) < x))) 0 (z 15).toNatClampNeg)
def stopF (z : Nat → Int32) (r : Int32) : Nat → Int32 := noteF (upd (upd z 0 3) 9 r) 3 r
def lessF (z : Nat → Int32) : Nat → Int32 := if z 8 - 1 = 0 then noteF (upd (upd z 8 (z 8 - 1)) 0 1) 2 (z 17) else upd z 8 (z 8 - 1)
def rholdF (G : Nat → Nat → Int32) (z : Nat → Int32) (H : Nat) : Int32 := ff (fun k => decide (G 66 k = z 2) && decide ((z 13 >>> (nI k &&& 31)) &&& 1 = 0)) 0 H
def bholdF (G : Nat → Nat → Int32) (z : Nat → Int32) (k : Int32) : Nat → Int32 := lessF (noteF (upd (upd (upd (upd z 0 2) 13 (z 13 ||| 1 <<< (k &&& 31))) 17 k) 8 (G 67 k.toNatClampNeg)) 1 k)
def rfireF (G : Nat → Nat → Int32) : Nat → Nat → (Nat → Int32) → (Nat → Int32)
  | _, 0, z => z
  | j, n + 1, z => if z 0 = 1 then rfireF G (j + 1) n (if G 64 j = z 2 ∧ (z 12 >>> (nI j &&& 31)) &&& 1 = 0 then (if ¬ G 65 j = -1 ∧ rgoB G z (G 65 j).toNatClampNeg = false then stopF z (G 65 j) else noteF (upd z 12 (z 12 ||| 1 <<< (nI j &&& 31))) 0 (nI j)) else z) else z
def rdownF (z : Nat → Int32) : Nat → Int32 := if 0 < z 2 then upd z 2 (z 2 - 1) else if ropB z (z 1) = true then noteF (upd (upd z 0 5) 11 (z 1)) 7 0 else stopF z 11
def ragF (G : Nat → Nat → Int32) (z : Nat → Int32) (C : Nat) : Int32 := ff (fun k => ractB G (z 2) k && !(rgoB G z k)) 0 C
def rE (g : Nat → Int32) : Nat := (g 122).toNatClampNeg
def rH (g : Nat → Int32) : Nat := (g 123).toNatClampNeg
def rC (g : Nat → Int32) : Nat := (g 125).toNatClampNeg
def rrunsF (g : Nat → Int32) (G : Nat → Nat → Int32) (z : Nat → Int32) : Nat → Int32 := if rholdF G z (rH g) = -1 then (if ragF G z (rC g) = -1 then (if rfireF G 0 (rE g) z 0 = 1 then rdownF (rfireF G 0 (rE g) z) else rfireF G 0 (rE g) z) else stopF z (ragF G z (rC g))) else bholdF G z (rholdF G z (rH g))
def waitF (z : Nat → Int32) : Nat → Int32 := if z 6 < z 4 + 1 then noteF (upd (upd z 4 (z 4 + 1)) 0 4) 6 1 else upd z 4 (z 4 + 1)
def rsec1 (g : Nat → Int32) (G : Nat → Nat → Int32) (z : Nat → Int32) : Nat → Int32 := if z 0 = 1 then rrunsF g G z else if z 0 = 2 then lessF z else if z 0 = 3 then waitF z else z
def rsecF (g : Nat → Int32) (G : Nat → Nat → Int32) (z : Nat → Int32) : Nat → Int32 := upd (rsec1 g G z) 1 (rsec1 g G z 1 + 1)
/-- what the plan must be -/
def Pp (g : Nat → Int32) (G : Nat → Nat → Int32) : Prop := (∃ n, n ≤ 12 ∧ g 122 = nI n) ∧ (∃ n, n ≤ 4 ∧ g 123 = nI n) ∧ (∃ n, n ≤ 4 ∧ g 124 = nI n) ∧ (∃ n, n ≤ 6 ∧ g 125 = nI n) ∧ (∀ j, G 65 j = -1 ∨ ixb (G 65 j) 6 = true)
/-- and the numbers -/
def Pz (z : Nat → Int32) : Prop := (∃ n, n ≤ 4 ∧ z 14 = nI n) ∧ (∃ n, n ≤ 6 ∧ z 15 = nI n) ∧ (∃ n, n ≤ 24 ∧ z 16 = nI n)
theorem pz_ud {z : Nat → Int32} {k : Nat} {v : Int32} (hz : Pz z) (h1 : k ≠ 14) (h2 : k ≠ 15) (h3 : k ≠ 16) : Pz (upd z k v) := by
  unfold Pz
  rw [ud_n _ _ _ _ (Ne.symm h1), ud_n _ _ _ _ (Ne.symm h2), ud_n _ _ _ _ (Ne.symm h3)]
  exact hz
theorem nt1_16 {z : Nat → Int32} {K : Nat} (hK : K ≤ 24) (hz : z 16 = nI K) : nt1 z 16 = nI (if K = 24 then 23 else K) := by
  unfold nt1
  by_cases h : K = 24
  · subst h
    rw [if_pos (show z 16 = 24 from hz), if_pos rfl, ud_e, hz]; rfl
  · rw [if_neg (by rw [hz]; intro e; exact h (nI_inj (b := 24) (by omega) (by decide) e)), if_neg h, hz]
theorem nt1_n {z : Nat → Int32} {k : Nat} (hk : k < 70) (h16 : k ≠ 16) : nt1 z k = z k := by
  unfold nt1
  split
  · rw [ud_n _ _ _ _ h16]; unfold shiftF; rw [if_neg (by omega)]
  · rfl
theorem note_n {z : Nat → Int32} {a b : Int32} {k : Nat} (hk : k < 70) (h16 : k ≠ 16) : noteF z a b k = z k := by
  unfold noteF
  rw [ud_n _ _ _ _ h16, ud_n _ _ _ _ (by omega), ud_n _ _ _ _ (by omega), ud_n _ _ _ _ (by omega), nt1_n hk h16]
theorem note_16 {z : Nat → Int32} {a b : Int32} {K : Nat} (hK : K ≤ 24) (hz : z 16 = nI K) : noteF z a b 16 = nI (if K = 24 then 24 else K + 1) := by
  unfold noteF
  rw [ud_e, nt1_16 hK hz, nI_1]
  by_cases h : K = 24
  · rw [if_pos h, if_pos h]
  · rw [if_neg h, if_neg h]
theorem pz_note {z : Nat → Int32} {a b : Int32} (hz : Pz z) : Pz (noteF z a b) := by
  obtain ⟨h1, h2, K, k1, k2⟩ := hz
  unfold Pz
  rw [note_n (by decide) (by decide), note_n (by decide) (by decide), note_16 k1 k2]
  refine ⟨h1, h2, _, ?_, rfl⟩
  split <;> omega
theorem pz_stop {z : Nat → Int32} {r : Int32} (hz : Pz z) : Pz (stopF z r) := pz_note (pz_ud (pz_ud hz (by decide) (by decide) (by decide)) (by decide) (by decide) (by decide))
theorem pz_less {z : Nat → Int32} (hz : Pz z) : Pz (lessF z) := by
  unfold lessF
  split
  · exact pz_note (pz_ud (pz_ud hz (by decide) (by decide) (by decide)) (by decide) (by decide) (by decide))
  · exact pz_ud hz (by decide) (by decide) (by decide)
theorem pz_bhold {G : Nat → Nat → Int32} {z : Nat → Int32} {k : Int32} (hz : Pz z) : Pz (bholdF G z k) := pz_less (pz_note (pz_ud (pz_ud (pz_ud (pz_ud hz (by decide) (by decide) (by decide)) (by decide) (by decide) (by decide)) (by decide) (by decide) (by decide)) (by decide) (by decide) (by decide)))
theorem pz_fire {G : Nat → Nat → Int32} : ∀ (n j : Nat) (z : Nat → Int32), Pz z → Pz (rfireF G j n z) := by
  intro n
  induction n with
  | zero => intro j z hz; exact hz
  | succ n ih =>
    intro j z hz
    simp only [rfireF]
    split
    · apply ih
      split
      · split
        · exact pz_stop hz
        · exact pz_note (pz_ud hz (by decide) (by decide) (by decide))
      · exact hz
    · exact hz
theorem pz_down {z : Nat → Int32} (hz : Pz z) : Pz (rdownF z) := by
  unfold rdownF
  split
  · exact pz_ud hz (by decide) (by decide) (by decide)
  · split
    · exact pz_note (pz_ud (pz_ud hz (by decide) (by decide) (by decide)) (by decide) (by decide) (by decide))
    · exact pz_stop hz
theorem pz_runs {g : Nat → Int32} {G : Nat → Nat → Int32} {z : Nat → Int32} (hz : Pz z) : Pz (rrunsF g G z) := by
  unfold rrunsF
  split
  · split
    · split
      · exact pz_down (pz_fire _ _ _ hz)
      · exact pz_fire _ _ _ hz
    · exact pz_stop hz
  · exact pz_bhold hz
theorem pz_wait {z : Nat → Int32} (hz : Pz z) : Pz (waitF z) := by
  unfold waitF
  split
  · exact pz_note (pz_ud (pz_ud hz (by decide) (by decide) (by decide)) (by decide) (by decide) (by decide))
  · exact pz_ud hz (by decide) (by decide) (by decide)
theorem pz_sec1 {g : Nat → Int32} {G : Nat → Nat → Int32} {z : Nat → Int32} (hz : Pz z) : Pz (rsec1 g G z) := by
  unfold rsec1
  split
  · exact pz_runs hz
  · split
    · exact pz_less hz
    · split
      · exact pz_wait hz
      · exact hz
theorem pz_sec {g : Nat → Int32} {G : Nat → Nat → Int32} {z : Nat → Int32} (hz : Pz z) : Pz (rsecF g G z) := pz_ud (pz_sec1 hz) (by decide) (by decide) (by decide)
section
variable {g : Nat → Int32} {G : Nat → Nat → Int32} {z : Nat → Int32} {o : Nat → Int64} {h : Int64} {c : Nat × Nat}
theorem e_within (d : Nat) (x a b : Int32) (w : xW) : ev (d + 1) iX8_within [.int x, .int a, .int b] w = some (.inl (some (.int (if x < a then 0 else if b < x then 0 else 1))), w) := by
  rw [n_X8_within]
  by_cases h1 : x < a <;> by_cases h2 : b < x <;> simp +decide only [s_X8_within_0, s_X8_within_1, s_X8_within_2, s_X8_within_5, s_X8_within_6, s_X8_within_7, s_X8_within_10, s_X8_within_11, s_X8_within_14, s_X8_within_15, s_X8_within_15b, s_X8_within_15c, xk_s, ts_s, ts_n, Option.bind_some, xc_n, xc_i, xc_r, xc_l, xc_d, xcats_n, xcats_i, xcats_r, xcats_l, xcats_d, and_true, true_and, and_self, if_true, if_false, Nat.reduceAdd, Nat.reduceLeDiff, Nat.zero_le, decide_true, decide_false, Bool.not_true, Bool.not_false, Bool.and_true, Bool.true_and, Bool.and_false, Bool.false_and, Bool.true_or, Bool.false_or, Bool.or_true, Bool.or_false, Bool.false_eq_true, h1, h2]
theorem e_isIn (d : Nat) (x k : Int32) (w : xW) : ev (d + 1) iX8_isIn [.int x, .int k] w = some (.inl (some (.int (if (x >>> (k &&& 31)) &&& 1 = 0 then 0 else 1))), w) := by
  rw [n_X8_isIn]
  rcases and1 (x >>> (k &&& 31)) with q | q <;> simp +decide only [s_X8_isIn_0, s_X8_isIn_1, s_X8_isIn_2, s_X8_isIn_3, s_X8_isIn_4, s_X8_isIn_5, s_X8_isIn_6, s_X8_isIn_9, s_X8_isIn_10, s_X8_isIn_13, s_X8_isIn_14, s_X8_isIn_14b, s_X8_isIn_14c, xk_s, ts_s, ts_n, Option.bind_some, xc_n, xc_i, xc_r, xc_l, xc_d, xcats_n, xcats_i, xcats_r, xcats_l, xcats_d, and_true, true_and, and_self, if_true, if_false, Nat.reduceAdd, Nat.reduceLeDiff, Nat.zero_le, decide_true, decide_false, Bool.not_true, Bool.not_false, Bool.and_true, Bool.true_and, Bool.and_false, Bool.false_and, Bool.true_or, Bool.false_or, Bool.or_true, Bool.or_false, Bool.false_eq_true, q]
theorem e_isPhase (d : Nat) (k : Int32) : ev (d + 1) iX8_isPhase [.ref 88, .int k] (hp g (va_up G 60 z) o h, c) = some (.inl (some (.int (if z 0 = k then 1 else 0))), (hp g (va_up G 60 z) o h, c)) := by
  rw [n_X8_isPhase]
  by_cases h1 : z 0 = k <;> simp +decide only [s_X8_isPhase_0, s_X8_isPhase_1, s_X8_isPhase_4, s_X8_isPhase_5, s_X8_isPhase_6, s_X8_isPhase_7, s_X8_isPhase_10, s_X8_isPhase_11, s_X8_isPhase_14, s_X8_isPhase_15, s_X8_isPhase_15b, s_X8_isPhase_15c, hx_88, hg_88_0, hs_88_0, hg_88_1, hs_88_1, hg_88_2, hg_88_3, hg_88_4, hg_88_5, hg_88_6, hs_88_6, hg_88_7, hg_88_8, hg_88_9, hs_88_9, hg_88_10, hg_88_11, hg_88_12, hs_88_12, hg_88_13, hg_88_14, hs_88_14, hg_88_15, hg_88_16, hg_88_17, hg_88_18, hs_88_18, hg_88_19, hg_88_20, hs_88_20, hg_88_21, hs_88_21, hg_88_22, hs_88_22, hg_88_23, hs_88_23, hg_88_24, hs_88_24, hn_89, ha_89, hA_89, xk_s, ts_s, ts_n, Option.bind_some, xc_n, xc_i, xc_r, xc_l, xc_d, xcats_n, xcats_i, xcats_r, xcats_l, xcats_d, and_true, true_and, and_self, if_true, if_false, Nat.reduceAdd, Nat.reduceLeDiff, Nat.zero_le, decide_true, decide_false, Bool.not_true, Bool.not_false, Bool.and_true, Bool.true_and, Bool.and_false, Bool.false_and, Bool.true_or, Bool.false_or, Bool.or_true, Bool.or_false, Bool.false_eq_true, up_e, up_n, up_up, ud_e, ud_n, ne_eq, Nat.reduceEqDiff, not_false_eq_true, reduceCtorEq, zi_0, zt_0, zi_1, zt_1, zi_2, zt_2, zi_3, zt_3, zi_4, zt_4, zi_5, zt_5, zi_6, zt_6, zi_7, zt_7, zi_8, zt_8, zi_9, zt_9, zi_10, zt_10, zi_11, zt_11, zi_12, zt_12, zi_13, zt_13, zi_14, zt_14, zi_15, zt_15, zi_16, zt_16, zi_17, zt_17, h1]
theorem l_votes (d : Nat) (C : Nat) (hC : C < 6) (x : Int32) : ∀ (n j : Nat) (a : Int32), j + n = 5 → rx x0 d iX8_votes 5 [some (.ref 88), some (.int (nI C)), some (.int x), some (.int a), some (.int (nI j))] [] (hp g (va_up G 60 z) o h, c) = some (.inl (some (.int (vcF z C x j n a))), (hp g (va_up G 60 z) o h, c)) := by
  intro n
  induction n with
  | zero =>
    intro j a hj
    have h1 : ¬ nI j < 5 := nI_nlt (b := 5) (by omega) (by omega)
    rw [s_X8_votes_5]
    simp +decide only [s_X8_votes_0, s_X8_votes_1, s_X8_votes_2, s_X8_votes_3, s_X8_votes_7, s_X8_votes_8, s_X8_votes_11, s_X8_votes_12, s_X8_votes_13, s_X8_votes_16, s_X8_votes_18, s_X8_votes_19, s_X8_votes_20, s_X8_votes_21, s_X8_votes_22, s_X8_votes_24, s_X8_votes_25, s_X8_votes_26, s_X8_votes_27, s_X8_votes_30, s_X8_votes_31, s_X8_votes_34, s_X8_votes_35, s_X8_votes_36, s_X8_votes_37, s_X8_votes_40, s_X8_votes_43, s_X8_votes_44, hx_88, hg_88_0, hs_88_0, hg_88_1, hs_88_1, hg_88_2, hg_88_3, hg_88_4, hg_88_5, hg_88_6, hs_88_6, hg_88_7, hg_88_8, hg_88_9, hs_88_9, hg_88_10, hg_88_11, hg_88_12, hs_88_12, hg_88_13, hg_88_14, hs_88_14, hg_88_15, hg_88_16, hg_88_17, hg_88_18, hs_88_18, hg_88_19, hg_88_20, hs_88_20, hg_88_21, hs_88_21, hg_88_22, hs_88_22, hg_88_23, hs_88_23, hg_88_24, hs_88_24, hn_89, ha_89, hA_89, xk_s, ts_s, ts_n, Option.bind_some, xc_n, xc_i, xc_r, xc_l, xc_d, xcats_n, xcats_i, xcats_r, xcats_l, xcats_d, and_true, true_and, and_self, if_true, if_false, Nat.reduceAdd, Nat.reduceLeDiff, Nat.zero_le, decide_true, decide_false, Bool.not_true, Bool.not_false, Bool.and_true, Bool.true_and, Bool.and_false, Bool.false_and, Bool.true_or, Bool.false_or, Bool.or_true, Bool.or_false, Bool.false_eq_true, up_e, up_n, up_up, ud_e, ud_n, ne_eq, Nat.reduceEqDiff, not_false_eq_true, reduceCtorEq, zi_0, zt_0, zi_1, zt_1, zi_2, zt_2, zi_3, zt_3, zi_4, zt_4, zi_5, zt_5, zi_6, zt_6, zi_7, zt_7, zi_8, zt_8, zi_9, zt_9, zi_10, zt_10, zi_11, zt_11, zi_12, zt_12, zi_13, zt_13, zi_14, zt_14, zi_15, zt_15, zi_16, zt_16, zi_17, zt_17, h1, vcF]
  | succ n ih =>
    intro j a hj
    have h1 : nI j < 5 := nI_lt (b := 5) (by omega) (by omega)
    have h2 : (20 : Int32) + 5 * nI C + nI j = nI (20 + 5 * C + j) := by rw [show (20 : Int32) = nI 20 from rfl, show (5 : Int32) = nI 5 from rfl, nI_mul, nI_add, nI_add]
    have h3 : ixb (nI (20 + 5 * C + j)) 142 = true := ixb_nI (by omega) (by decide)
    have h4 := nI_clamp (n := 20 + 5 * C + j) (by omega)
    rw [s_X8_votes_5]
    by_cases q : z (20 + 5 * C + j) = x
    · simp +decide only [s_X8_votes_0, s_X8_votes_1, s_X8_votes_2, s_X8_votes_3, s_X8_votes_7, s_X8_votes_8, s_X8_votes_11, s_X8_votes_12, s_X8_votes_13, s_X8_votes_16, s_X8_votes_18, s_X8_votes_19, s_X8_votes_20, s_X8_votes_21, s_X8_votes_22, s_X8_votes_24, s_X8_votes_25, s_X8_votes_26, s_X8_votes_27, s_X8_votes_30, s_X8_votes_31, s_X8_votes_34, s_X8_votes_35, s_X8_votes_36, s_X8_votes_37, s_X8_votes_40, s_X8_votes_43, s_X8_votes_44, hx_88, hg_88_0, hs_88_0, hg_88_1, hs_88_1, hg_88_2, hg_88_3, hg_88_4, hg_88_5, hg_88_6, hs_88_6, hg_88_7, hg_88_8, hg_88_9, hs_88_9, hg_88_10, hg_88_11, hg_88_12, hs_88_12, hg_88_13, hg_88_14, hs_88_14, hg_88_15, hg_88_16, hg_88_17, hg_88_18, hs_88_18, hg_88_19, hg_88_20, hs_88_20, hg_88_21, hs_88_21, hg_88_22, hs_88_22, hg_88_23, hs_88_23, hg_88_24, hs_88_24, hn_89, ha_89, hA_89, xk_s, ts_s, ts_n, Option.bind_some, xc_n, xc_i, xc_r, xc_l, xc_d, xcats_n, xcats_i, xcats_r, xcats_l, xcats_d, and_true, true_and, and_self, if_true, if_false, Nat.reduceAdd, Nat.reduceLeDiff, Nat.zero_le, decide_true, decide_false, Bool.not_true, Bool.not_false, Bool.and_true, Bool.true_and, Bool.and_false, Bool.false_and, Bool.true_or, Bool.false_or, Bool.or_true, Bool.or_false, Bool.false_eq_true, up_e, up_n, up_up, ud_e, ud_n, ne_eq, Nat.reduceEqDiff, not_false_eq_true, reduceCtorEq, zi_0, zt_0, zi_1, zt_1, zi_2, zt_2, zi_3, zt_3, zi_4, zt_4, zi_5, zt_5, zi_6, zt_6, zi_7, zt_7, zi_8, zt_8, zi_9, zt_9, zi_10, zt_10, zi_11, zt_11, zi_12, zt_12, zi_13, zt_13, zi_14, zt_14, zi_15, zt_15, zi_16, zt_16, zi_17, zt_17, h1, h2, h3, h4, q, vcF, nI_1]
      exact ih (j + 1) _ (by omega)
    · simp +decide only [s_X8_votes_0, s_X8_votes_1, s_X8_votes_2, s_X8_votes_3, s_X8_votes_7, s_X8_votes_8, s_X8_votes_11, s_X8_votes_12, s_X8_votes_13, s_X8_votes_16, s_X8_votes_18, s_X8_votes_19, s_X8_votes_20, s_X8_votes_21, s_X8_votes_22, s_X8_votes_24, s_X8_votes_25, s_X8_votes_26, s_X8_votes_27, s_X8_votes_30, s_X8_votes_31, s_X8_votes_34, s_X8_votes_35, s_X8_votes_36, s_X8_votes_37, s_X8_votes_40, s_X8_votes_43, s_X8_votes_44, hx_88, hg_88_0, hs_88_0, hg_88_1, hs_88_1, hg_88_2, hg_88_3, hg_88_4, hg_88_5, hg_88_6, hs_88_6, hg_88_7, hg_88_8, hg_88_9, hs_88_9, hg_88_10, hg_88_11, hg_88_12, hs_88_12, hg_88_13, hg_88_14, hs_88_14, hg_88_15, hg_88_16, hg_88_17, hg_88_18, hs_88_18, hg_88_19, hg_88_20, hs_88_20, hg_88_21, hs_88_21, hg_88_22, hs_88_22, hg_88_23, hs_88_23, hg_88_24, hs_88_24, hn_89, ha_89, hA_89, xk_s, ts_s, ts_n, Option.bind_some, xc_n, xc_i, xc_r, xc_l, xc_d, xcats_n, xcats_i, xcats_r, xcats_l, xcats_d, and_true, true_and, and_self, if_true, if_false, Nat.reduceAdd, Nat.reduceLeDiff, Nat.zero_le, decide_true, decide_false, Bool.not_true, Bool.not_false, Bool.and_true, Bool.true_and, Bool.and_false, Bool.false_and, Bool.true_or, Bool.false_or, Bool.or_true, Bool.or_false, Bool.false_eq_true, up_e, up_n, up_up, ud_e, ud_n, ne_eq, Nat.reduceEqDiff, not_false_eq_true, reduceCtorEq, zi_0, zt_0, zi_1, zt_1, zi_2, zt_2, zi_3, zt_3, zi_4, zt_4, zi_5, zt_5, zi_6, zt_6, zi_7, zt_7, zi_8, zt_8, zi_9, zt_9, zi_10, zt_10, zi_11, zt_11, zi_12, zt_12, zi_13, zt_13, zi_14, zt_14, zi_15, zt_15, zi_16, zt_16, zi_17, zt_17, h1, h2, h3, h4, q, vcF, nI_1]
      exact ih (j + 1) _ (by omega)
theorem e_votes (d : Nat) (C : Nat) (hC : C < 6) (x : Int32) : ev (d + 1) iX8_votes [.ref 88, .int (nI C), .int x] (hp g (va_up G 60 z) o h, c) = some (.inl (some (.int (vcF z C x 0 5 0))), (hp g (va_up G 60 z) o h, c)) := by
  rw [n_X8_votes]
  simp +decide only [s_X8_votes_0, s_X8_votes_1, s_X8_votes_2, s_X8_votes_3, xk_s, ts_s, ts_n, Option.bind_some, xc_n, xc_i, xc_r, xc_l, xc_d, xcats_n, xcats_i, xcats_r, xcats_l, xcats_d, and_true, true_and, and_self, if_true, if_false, Nat.reduceAdd, Nat.reduceLeDiff, Nat.zero_le, decide_true, decide_false, Bool.not_true, Bool.not_false, Bool.and_true, Bool.true_and, Bool.and_false, Bool.false_and, Bool.true_or, Bool.false_or, Bool.or_true, Bool.or_false, Bool.false_eq_true]
  exact l_votes d C hC x 5 0 0 (by omega)
theorem e_rgo (d : Nat) (C : Nat) (hC : C < 6) : ev (d + 2) iX8_isGo [.ref 88, .int (nI C)] (hp g (va_up G 60 z) o h, c) = some (.inl (some (.int (if rgoB G z C = true then 1 else 0))), (hp g (va_up G 60 z) o h, c)) := by
  have h3 : ixb (nI C) 6 = true := ixb_nI hC (by decide)
  have h4 := nI_clamp (n := C) (by omega)
  rw [n_X8_isGo]
  by_cases q1 : vcF z C 1 0 5 0 < G 71 C <;> by_cases q2 : vcF z C 2 0 5 0 < vcF z C 1 0 5 0 <;> simp +decide only [s_X8_isGo_0, s_X8_isGo_1, s_X8_isGo_2, s_X8_isGo_3, s_X8_isGo_6, s_X8_isGo_7, s_X8_isGo_10, s_X8_isGo_11, s_X8_isGo_12, s_X8_isGo_15, s_X8_isGo_16, s_X8_isGo_17, s_X8_isGo_18, s_X8_isGo_21, s_X8_isGo_22, s_X8_isGo_23, s_X8_isGo_24, s_X8_isGo_27, s_X8_isGo_30, s_X8_isGo_31, s_X8_isGo_34, s_X8_isGo_35, s_X8_isGo_35b, s_X8_isGo_35c, hx_88, hg_88_0, hs_88_0, hg_88_1, hs_88_1, hg_88_2, hg_88_3, hg_88_4, hg_88_5, hg_88_6, hs_88_6, hg_88_7, hg_88_8, hg_88_9, hs_88_9, hg_88_10, hg_88_11, hg_88_12, hs_88_12, hg_88_13, hg_88_14, hs_88_14, hg_88_15, hg_88_16, hg_88_17, hg_88_18, hs_88_18, hg_88_19, hg_88_20, hs_88_20, hg_88_21, hs_88_21, hg_88_22, hs_88_22, hg_88_23, hs_88_23, hg_88_24, hs_88_24, hn_100, ha_100, hA_100, xk_s, ts_s, ts_n, Option.bind_some, xc_n, xc_i, xc_r, xc_l, xc_d, xcats_n, xcats_i, xcats_r, xcats_l, xcats_d, and_true, true_and, and_self, if_true, if_false, Nat.reduceAdd, Nat.reduceLeDiff, Nat.zero_le, decide_true, decide_false, Bool.not_true, Bool.not_false, Bool.and_true, Bool.true_and, Bool.and_false, Bool.false_and, Bool.true_or, Bool.false_or, Bool.or_true, Bool.or_false, Bool.false_eq_true, up_e, up_n, up_up, ud_e, ud_n, ne_eq, Nat.reduceEqDiff, not_false_eq_true, reduceCtorEq, zi_0, zt_0, zi_1, zt_1, zi_2, zt_2, zi_3, zt_3, zi_4, zt_4, zi_5, zt_5, zi_6, zt_6, zi_7, zt_7, zi_8, zt_8, zi_9, zt_9, zi_10, zt_10, zi_11, zt_11, zi_12, zt_12, zi_13, zt_13, zi_14, zt_14, zi_15, zt_15, zi_16, zt_16, zi_17, zt_17, h3, h4, e_votes _ _ hC, q1, q2, rgoB]
theorem e_ract (d : Nat) (C : Nat) (hC : C < 6) : ev (d + 2) iX8_isActive [.ref 88, .int (nI C)] (hp g (va_up G 60 z) o h, c) = some (.inl (some (.int (if ractB G (z 2) C = true then 1 else 0))), (hp g (va_up G 60 z) o h, c)) := by
  have h3 : ixb (nI C) 6 = true := ixb_nI hC (by decide)
  have h4 := nI_clamp (n := C) (by omega)
  rw [n_X8_isActive]
  by_cases q1 : z 2 < G 70 C <;> by_cases q2 : G 69 C < z 2 <;> simp +decide only [s_X8_isActive_0, s_X8_isActive_1, s_X8_isActive_4, s_X8_isActive_5, s_X8_isActive_6, s_X8_isActive_7, s_X8_isActive_10, s_X8_isActive_11, s_X8_isActive_12, s_X8_isActive_13, s_X8_isActive_16, s_X8_isActive_17, s_X8_isActive_18, s_X8_isActive_21, s_X8_isActive_21b, s_X8_isActive_21c, hx_88, hg_88_0, hs_88_0, hg_88_1, hs_88_1, hg_88_2, hg_88_3, hg_88_4, hg_88_5, hg_88_6, hs_88_6, hg_88_7, hg_88_8, hg_88_9, hs_88_9, hg_88_10, hg_88_11, hg_88_12, hs_88_12, hg_88_13, hg_88_14, hs_88_14, hg_88_15, hg_88_16, hg_88_17, hg_88_18, hs_88_18, hg_88_19, hg_88_20, hs_88_20, hg_88_21, hs_88_21, hg_88_22, hs_88_22, hg_88_23, hs_88_23, hg_88_24, hs_88_24, hn_89, ha_89, hA_89, hn_98, ha_98, hA_98, hn_99, ha_99, hA_99, xk_s, ts_s, ts_n, Option.bind_some, xc_n, xc_i, xc_r, xc_l, xc_d, xcats_n, xcats_i, xcats_r, xcats_l, xcats_d, and_true, true_and, and_self, if_true, if_false, Nat.reduceAdd, Nat.reduceLeDiff, Nat.zero_le, decide_true, decide_false, Bool.not_true, Bool.not_false, Bool.and_true, Bool.true_and, Bool.and_false, Bool.false_and, Bool.true_or, Bool.false_or, Bool.or_true, Bool.or_false, Bool.false_eq_true, up_e, up_n, up_up, ud_e, ud_n, ne_eq, Nat.reduceEqDiff, not_false_eq_true, reduceCtorEq, zi_0, zt_0, zi_1, zt_1, zi_2, zt_2, zi_3, zt_3, zi_4, zt_4, zi_5, zt_5, zi_6, zt_6, zi_7, zt_7, zi_8, zt_8, zi_9, zt_9, zi_10, zt_10, zi_11, zt_11, zi_12, zt_12, zi_13, zt_13, zi_14, zt_14, zi_15, zt_15, zi_16, zt_16, zi_17, zt_17, h3, h4, e_within, q1, q2, ractB]
theorem l_ag (d : Nat) (N : Nat) (hN : N ≤ 6) (hg : g 125 = nI N) : ∀ n j : Nat, j + n = N → rx x0 (d + 2) iX8_against 2 [some (.ref 88), some (.int (nI j))] [] (hp g (va_up G 60 z) o h, c) = some (.inl (some (.int (ff (fun k => ractB G (z 2) k && !(rgoB G z k)) j n))), (hp g (va_up G 60 z) o h, c)) := by
  intro n
  induction n with
  | zero =>
    intro j hj
    have h1 : ¬ nI j < nI N := nI_nlt (by omega) (by omega)
    rw [s_X8_against_2]
    simp +decide only [s_X8_against_0, s_X8_against_1, s_X8_against_3, s_X8_against_4, s_X8_against_7, s_X8_against_10, s_X8_against_11, s_X8_against_12, s_X8_against_15, s_X8_against_18, s_X8_against_19, s_X8_against_20, s_X8_against_23, s_X8_against_26, s_X8_against_29, s_X8_against_32, s_X8_against_33, s_X8_against_34, s_X8_against_37, s_X8_against_40, s_X8_against_41, s_X8_against_44, s_X8_against_45, hx_88, hg_88_0, hs_88_0, hg_88_1, hs_88_1, hg_88_2, hg_88_3, hg_88_4, hg_88_5, hg_88_6, hs_88_6, hg_88_7, hg_88_8, hg_88_9, hs_88_9, hg_88_10, hg_88_11, hg_88_12, hs_88_12, hg_88_13, hg_88_14, hs_88_14, hg_88_15, hg_88_16, hg_88_17, hg_88_18, hs_88_18, hg_88_19, hg_88_20, hs_88_20, hg_88_21, hs_88_21, hg_88_22, hs_88_22, hg_88_23, hs_88_23, hg_88_24, hs_88_24, xk_s, ts_s, ts_n, Option.bind_some, xc_n, xc_i, xc_r, xc_l, xc_d, xcats_n, xcats_i, xcats_r, xcats_l, xcats_d, and_true, true_and, and_self, if_true, if_false, Nat.reduceAdd, Nat.reduceLeDiff, Nat.zero_le, decide_true, decide_false, Bool.not_true, Bool.not_false, Bool.and_true, Bool.true_and, Bool.and_false, Bool.false_and, Bool.true_or, Bool.false_or, Bool.or_true, Bool.or_false, Bool.false_eq_true, hg, h1, ff]
  | succ n ih =>
    intro j hj
    have h1 : nI j < nI N := nI_lt (by omega) (by omega)
    have ih := ih (j + 1) (by omega)
    rw [s_X8_against_2]
    cases q1 : ractB G (z 2) j <;> cases q2 : rgoB G z j <;> simp +decide only [s_X8_against_0, s_X8_against_1, s_X8_against_3, s_X8_against_4, s_X8_against_7, s_X8_against_10, s_X8_against_11, s_X8_against_12, s_X8_against_15, s_X8_against_18, s_X8_against_19, s_X8_against_20, s_X8_against_23, s_X8_against_26, s_X8_against_29, s_X8_against_32, s_X8_against_33, s_X8_against_34, s_X8_against_37, s_X8_against_40, s_X8_against_41, s_X8_against_44, s_X8_against_45, hx_88, hg_88_0, hs_88_0, hg_88_1, hs_88_1, hg_88_2, hg_88_3, hg_88_4, hg_88_5, hg_88_6, hs_88_6, hg_88_7, hg_88_8, hg_88_9, hs_88_9, hg_88_10, hg_88_11, hg_88_12, hs_88_12, hg_88_13, hg_88_14, hs_88_14, hg_88_15, hg_88_16, hg_88_17, hg_88_18, hs_88_18, hg_88_19, hg_88_20, hs_88_20, hg_88_21, hs_88_21, hg_88_22, hs_88_22, hg_88_23, hs_88_23, hg_88_24, hs_88_24, xk_s, ts_s, ts_n, Option.bind_some, xc_n, xc_i, xc_r, xc_l, xc_d, xcats_n, xcats_i, xcats_r, xcats_l, xcats_d, and_true, true_and, and_self, if_true, if_false, Nat.reduceAdd, Nat.reduceLeDiff, Nat.zero_le, decide_true, decide_false, Bool.not_true, Bool.not_false, Bool.and_true, Bool.true_and, Bool.and_false, Bool.false_and, Bool.true_or, Bool.false_or, Bool.or_true, Bool.or_false, Bool.false_eq_true, hg, h1, q1, q2, ff, nI_1, ih, e_ract _ j (by omega : j < 6), e_rgo _ j (by omega : j < 6)]
theorem e_ag (d : Nat) (hP : Pp g G) : ev (d + 3) iX8_against [.ref 88] (hp g (va_up G 60 z) o h, c) = some (.inl (some (.int (ragF G z (rC g)))), (hp g (va_up G 60 z) o h, c)) := by
  obtain ⟨N, n1, n2⟩ := hP.2.2.2.1
  rw [n_X8_against, show rC g = N from clamp_of' n2 (by omega)]
  simp only [s_X8_against_0, s_X8_against_1, xk_s, ts_s, ts_n, Option.bind_some, xc_n, xc_i, xc_r, xc_l, xc_d, xcats_n, xcats_i, xcats_r, xcats_l, xcats_d, and_true, true_and, and_self, if_true, if_false, Nat.reduceAdd, Nat.reduceLeDiff, Nat.zero_le, decide_true, decide_false, Bool.not_true, Bool.not_false, Bool.and_true, Bool.true_and, Bool.and_false, Bool.false_and, Bool.true_or, Bool.false_or, Bool.or_true, Bool.or_false, Bool.false_eq_true]
  exact l_ag d N n1 n2 N 0 (by omega)
end
