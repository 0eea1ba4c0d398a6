/-! doubles: a quotient of whole numbers is no NaN, one times a whole number is that number -/
theorem fc_t : FP.Core.b64.tails = 4503599627370496 := by decide
theorem fc_e : FP.Core.b64.exps = 2048 := by decide
theorem fc_m : FP.Core.b64.qmin = -1074 := by decide
theorem fc_x : FP.Core.b64.qmax = 971 := by decide
theorem fc_p : (2 : Nat) ^ FP.Core.b64.p = 9007199254740992 := by decide
theorem fc_q : ((FP.Core.b64.p : Nat) : Int) = 53 := by decide
theorem fp_mask (a : UInt64) : (a &&& 0x7fffffffffffffff).toNat = a.toNat % 9223372036854775808 := by
  rw [UInt64.toNat_and]
  exact Nat.and_two_pow_sub_one_eq_mod a.toNat 63
/-- an encoding that is no NaN -/
def encOk (n : Nat) : Prop := n % 9223372036854775808 ≤ 9218868437227405312 ∧ n < 18446744073709551616
theorem asm_ok (s : Bool) {e t : Nat} (h : e * 4503599627370496 + t ≤ 9218868437227405312) : encOk (FP.Core.assemble FP.Core.b64 s e t) := by
  unfold FP.Core.assemble encOk
  rw [fc_t, fc_e]
  cases s
  · show ((0 * 2048 + e) * 4503599627370496 + t) % 9223372036854775808 ≤ 9218868437227405312 ∧ (0 * 2048 + e) * 4503599627370496 + t < 18446744073709551616
    omega
  · show ((1 * 2048 + e) * 4503599627370496 + t) % 9223372036854775808 ≤ 9218868437227405312 ∧ (1 * 2048 + e) * 4503599627370496 + t < 18446744073709551616
    omega
theorem enc_fin (s : Bool) {c : Nat} {q : Int} (hc : c < 9007199254740992) (hq : q ≤ 971) : encOk (FP.Core.encode FP.Core.b64 (.fin s c q)) := by
  unfold FP.Core.encode
  simp only
  rw [fc_t, fc_m]
  split
  · exact asm_ok s (by omega)
  · exact asm_ok s (by omega)
theorem enc_inf (s : Bool) : encOk (FP.Core.encode FP.Core.b64 (.inf s)) := by
  unfold FP.Core.encode
  simp only
  rw [fc_e]
  exact asm_ok s (by omega)
theorem enc_bound (s : Bool) {c : Nat} {q : Int} (hc : c < 9007199254740992) : encOk (FP.Core.encode FP.Core.b64 (FP.Core.bound FP.Core.b64 s c q)) := by
  unfold FP.Core.bound
  rw [fc_x]
  split
  · rename_i h
    exact enc_fin s hc h
  · exact enc_inf s
theorem enc_ratio (s : Bool) (n d : Nat) (e : Int) : encOk (FP.Core.encode FP.Core.b64 (FP.Core.roundRatio FP.Core.b64 s n d e)) := by
  unfold FP.Core.roundRatio
  split
  · rw [fc_m]; exact enc_fin s (by omega) (by omega)
  · unfold FP.Core.roundAt FP.Core.settle
    rw [fc_p]
    split
    · rename_i h
      exact enc_bound s h
    · rw [fc_t]; exact enc_bound s (by omega)
theorem ok_mask {n : Nat} (h : encOk n) : UInt64.ofNat n &&& 0x7fffffffffffffff ≤ 0x7ff0000000000000 := by
  rw [UInt64.le_iff_toNat_le, fp_mask, UInt64.toNat_ofNat']
  show _ ≤ 9218868437227405312
  have h1 := h.1
  have h2 : n % 2 ^ 64 = n := Nat.mod_eq_of_lt h.2
  rw [h2]
  exact h1
theorem enc_eq (s : Bool) {m : Nat} {q : Int} (h1 : 4503599627370496 ≤ m) : FP.Core.encode FP.Core.b64 (.fin s m q) = (s.toNat * 2048 + ((q + 1074).toNat + 1)) * 4503599627370496 + (m - 4503599627370496) := by
  unfold FP.Core.encode
  simp only
  rw [fc_t, fc_m, if_neg (by omega), show q - -1074 = q + 1074 by omega]
  unfold FP.Core.assemble
  rw [fc_t, fc_e]
theorem dec_at {N e t : Nat} {s : Bool} (hN : N = (s.toNat * 2048 + e) * 4503599627370496 + t) (ht : t < 4503599627370496) (he : 1 ≤ e) (he2 : e ≤ 2046) : FP.Core.decode FP.Core.b64 N = .fin s (4503599627370496 + t) (-1074 + ((e : Int) - 1)) := by
  have hE : FP.Core.fieldE FP.Core.b64 N = e := by
    unfold FP.Core.fieldE
    rw [fc_t, fc_e, hN]
    cases s
    · show ((0 * 2048 + e) * 4503599627370496 + t) / 4503599627370496 % 2048 = e
      omega
    · show ((1 * 2048 + e) * 4503599627370496 + t) / 4503599627370496 % 2048 = e
      omega
  have hT : FP.Core.fieldT FP.Core.b64 N = t := by
    unfold FP.Core.fieldT
    rw [fc_t, hN]
    omega
  have hS : FP.Core.fieldS FP.Core.b64 N = s := by
    unfold FP.Core.fieldS
    rw [fc_t, fc_e, hN]
    cases s
    · have : ((0 * 2048 + e) * 4503599627370496 + t) / 4503599627370496 / 2048 % 2 = 0 := by omega
      show (((0 * 2048 + e) * 4503599627370496 + t) / 4503599627370496 / 2048 % 2 == 1) = false
      rw [this]; rfl
    · have : ((1 * 2048 + e) * 4503599627370496 + t) / 4503599627370496 / 2048 % 2 = 1 := by omega
      show (((1 * 2048 + e) * 4503599627370496 + t) / 4503599627370496 / 2048 % 2 == 1) = true
      rw [this]; rfl
  unfold FP.Core.decode
  rw [hE, hT, hS, fc_e, fc_t, fc_m, if_neg (by omega), if_neg (by omega)]
theorem dec_enc (s : Bool) {m : Nat} {q : Int} (h1 : 4503599627370496 ≤ m) (h2 : m < 9007199254740992) (h3 : -1074 ≤ q) (h4 : q ≤ 971) : FP.Core.decode FP.Core.b64 (UInt64.ofNat (FP.Core.encode FP.Core.b64 (.fin s m q))).toNat = .fin s m q := by
  have hok := enc_fin s h2 h4
  rw [UInt64.toNat_ofNat', Nat.mod_eq_of_lt (show _ < 2 ^ 64 from hok.2)]
  rw [dec_at (e := (q + 1074).toNat + 1) (t := m - 4503599627370496) (s := s) (enc_eq s h1) (by omega) (by omega) (by omega)]
  rw [show 4503599627370496 + (m - 4503599627370496) = m by omega, show -1074 + ((((q + 1074).toNat + 1 : Nat) : Int) - 1) = q by omega]
theorem lead1 {c : Nat} (hn : c ≠ 0) : FP.Core.leading c 1 = (c.log2 : Int) := by
  have h1 : Nat.log2 1 = 0 := by decide
  unfold FP.Core.leading
  rw [h1]
  have e1 : ((c.log2 : Int) - ((0 : Nat) : Int)).toNat = c.log2 := by omega
  have e2 : (-((c.log2 : Int) - ((0 : Nat) : Int))).toNat = 0 := by omega
  simp only
  rw [e1, e2, if_pos (by rw [Nat.one_mul, Nat.pow_zero, Nat.mul_one]; exact Nat.log2_self_le hn)]
  omega
theorem rr_exact (s : Bool) {c m : Nat} {e q : Int} (hn : c ≠ 0) (hq : FP.Core.quantum FP.Core.b64 c 1 e = q) (hm : FP.Core.nearest (FP.Core.unitsNum c e q) (FP.Core.unitsDen 1 e q) = m) (h2 : m < 9007199254740992) (h4 : q ≤ 971) : FP.Core.roundRatio FP.Core.b64 s c 1 e = .fin s m q := by
  unfold FP.Core.roundRatio
  rw [if_neg hn, hq]
  unfold FP.Core.roundAt FP.Core.settle FP.Core.bound
  rw [hm, fc_p, if_pos h2, fc_x, if_pos h4]
/-- a whole number as a double -/
theorem i2d_dec {x : Int32} (hx : ¬ x = 0) : ∃ (s : Bool) (m : Nat) (q : Int), 4503599627370496 ≤ m ∧ m < 9007199254740992 ∧ -52 ≤ q ∧ q ≤ 0 ∧ FP.i2d x = UInt64.ofNat (FP.Core.encode FP.Core.b64 (.fin s m q)) := by
  have hb1 : -2147483648 ≤ x.toInt := Int32.le_toInt x
  have hb2 : x.toInt < 2147483648 := Int32.toInt_lt x
  have hn : x.toInt.natAbs ≠ 0 := fun w => hx (eq_toInt.mpr (by rw [i0_toInt]; omega))
  have hr : FP.i2d x = UInt64.ofNat (FP.Core.encode FP.Core.b64 (FP.Core.roundRatio FP.Core.b64 (decide (x.toInt < 0)) x.toInt.natAbs 1 0)) := rfl
  have hlt : x.toInt.natAbs < 2 ^ 32 := by omega
  rw [hr]
  generalize decide (x.toInt < 0) = s
  generalize x.toInt.natAbs = c at *
  have k1 := Nat.log2_self_le hn
  have k2 : c < 2 ^ (c.log2 + 1) := Nat.lt_log2_self
  have k3 : c.log2 < 32 := (Nat.log2_lt hn).mpr hlt
  have hl := lead1 hn
  generalize c.log2 = k at *
  have hq : FP.Core.quantum FP.Core.b64 c 1 0 = (k : Int) - 52 := by
    unfold FP.Core.quantum
    rw [hl, fc_m, fc_q]
    omega
  have e1 : (0 - ((k : Int) - 52)).toNat = 52 - k := by omega
  have e2 : (((k : Int) - 52) - 0).toNat = 0 := by omega
  have hm : FP.Core.nearest (FP.Core.unitsNum c 0 ((k : Int) - 52)) (FP.Core.unitsDen 1 0 ((k : Int) - 52)) = c * 2 ^ (52 - k) := by
    unfold FP.Core.unitsNum FP.Core.unitsDen FP.Core.nearest
    rw [e1, e2, Nat.pow_zero, Nat.mul_one, Nat.mod_one, if_pos (by decide), Nat.div_one]
  have hp : 2 ^ k * 2 ^ (52 - k) = 4503599627370496 := by
    rw [← Nat.pow_add, show k + (52 - k) = 52 by omega]
  have hp2 : 2 ^ (k + 1) * 2 ^ (52 - k) = 9007199254740992 := by
    rw [← Nat.pow_add, show k + 1 + (52 - k) = 53 by omega]
  have m1 : 4503599627370496 ≤ c * 2 ^ (52 - k) := by
    rw [← hp]; exact Nat.mul_le_mul_right _ k1
  have m2 : c * 2 ^ (52 - k) < 9007199254740992 := by
    rw [← hp2]; exact Nat.mul_lt_mul_of_pos_right k2 (Nat.pow_pos (by decide))
  rw [rr_exact s hn hq hm m2 (by omega)]
  exact ⟨s, _, _, m1, m2, by omega, by omega, rfl⟩
theorem i2d_0 : FP.i2d 0 = 0 := by decide +kernel
/-- what a whole number stands for -/
theorem i2d_fin (x : Int32) : ∃ (s : Bool) (m : Nat) (q : Int), FP.Core.decode FP.Core.b64 (FP.i2d x).toNat = .fin s m q ∧ (¬ x = 0 → ¬ m = 0) := by
  by_cases hx : x = 0
  · subst hx
    exact ⟨false, 0, -1074, by decide +kernel, fun w => absurd rfl w⟩
  · obtain ⟨s, m, q, h1, h2, h3, h4, h5⟩ := i2d_dec hx
    exact ⟨s, m, q, by rw [h5]; exact dec_enc s h1 h2 (by omega) (by omega), fun _ => by omega⟩
theorem fp_int (x : Int32) : FP.i2d x &&& 0x7fffffffffffffff ≤ 0x7ff0000000000000 := by
  by_cases hx : x = 0
  · subst hx; decide +kernel
  · obtain ⟨s, m, q, h1, h2, h3, h4, h5⟩ := i2d_dec hx
    rw [h5]
    exact ok_mask (enc_fin s h2 (by omega))
theorem fp_div (x y : Int32) (hy : ¬ y = 0) : FP.ddiv (FP.i2d x) (FP.i2d y) &&& 0x7fffffffffffffff ≤ 0x7ff0000000000000 := by
  obtain ⟨s, m, q, h1, -⟩ := i2d_fin x
  obtain ⟨t, n, r, h2, h3⟩ := i2d_fin y
  have e : FP.ddiv (FP.i2d x) (FP.i2d y) = UInt64.ofNat (FP.Core.encode FP.Core.b64 (FP.Core.quotient FP.Core.b64 (FP.Core.decode FP.Core.b64 (FP.i2d x).toNat) (FP.Core.decode FP.Core.b64 (FP.i2d y).toNat))) := rfl
  rw [e, h1, h2]
  unfold FP.Core.quotient
  simp only
  rw [if_neg (h3 hy)]
  exact ok_mask (enc_ratio _ _ _ _)
theorem fp_one (x : Int32) : FP.dmul FP.dconst1 (FP.i2d x) = FP.i2d x := by
  by_cases hx : x = 0
  · subst hx; decide +kernel
  · obtain ⟨s, m, q, h1, h2, h3, h4, h5⟩ := i2d_dec hx
    have hd := dec_enc s h1 h2 (show -1074 ≤ q by omega) (by omega)
    have e1 : FP.Core.decode FP.Core.b64 FP.dconst1.toNat = .fin false 4503599627370496 (-52) := by decide +kernel
    have e : FP.dmul FP.dconst1 (FP.i2d x) = UInt64.ofNat (FP.Core.encode FP.Core.b64 (FP.Core.round FP.Core.b64 (FP.Core.exactProduct (FP.Core.decode FP.Core.b64 FP.dconst1.toNat) (FP.Core.decode FP.Core.b64 (FP.i2d x).toNat)))) := rfl
    rw [e, h5, hd, e1]
    have hs : (false != s) = s := by cases s <;> rfl
    have hr : FP.Core.round FP.Core.b64 (FP.Core.exactProduct (.fin false 4503599627370496 (-52)) (.fin s m q)) = FP.Core.roundRatio FP.Core.b64 (false != s) (4503599627370496 * m) 1 (-52 + q) := rfl
    rw [hr, hs]
    have hn : 4503599627370496 * m ≠ 0 := by omega
    have hl : (4503599627370496 * m).log2 = 104 := (Nat.log2_eq_iff hn).mpr ⟨by omega, by omega⟩
    have hq : FP.Core.quantum FP.Core.b64 (4503599627370496 * m) 1 (-52 + q) = q := by
      unfold FP.Core.quantum
      rw [lead1 hn, hl, fc_m, fc_q]
      omega
    have g1 : (-52 + q - q).toNat = 0 := by omega
    have g2 : (q - (-52 + q)).toNat = 52 := by omega
    have hm : FP.Core.nearest (FP.Core.unitsNum (4503599627370496 * m) (-52 + q) q) (FP.Core.unitsDen 1 (-52 + q) q) = m := by
      unfold FP.Core.unitsNum FP.Core.unitsDen FP.Core.nearest
      rw [g1, g2, Nat.pow_zero, Nat.mul_one, Nat.one_mul, show (2 : Nat) ^ 52 = 4503599627370496 from rfl, if_pos (by omega)]
      omega
    rw [rr_exact s hn hq hm h2 (by omega)]
theorem cmp_self (a : Int) : compare a a = Ordering.eq := by
  show compareOfLessAndEq a a = .eq
  unfold compareOfLessAndEq
  rw [if_neg (by omega), if_pos rfl]
/-- a double beside itself -/
theorem dcmp_self2 (p : UInt64) : FP.dcmp p p = some .eq ∨ FP.dcmp p p = none := by
  have e : FP.dcmp p p = FP.Core.order (FP.Core.decode FP.Core.b64 p.toNat) (FP.Core.decode FP.Core.b64 p.toNat) := rfl
  rw [e]
  cases FP.Core.decode FP.Core.b64 p.toNat with
  | nan => exact Or.inr rfl
  | inf s => left; show some (compare _ _) = _; rw [cmp_self]
  | fin s c q => left; show some (compare _ _) = _; rw [cmp_self]
