/-! a second of class and reference -/
theorem andn_congr {a a' b b' : Bool} (h1 : a = a') (h2 : b = b') : (a && !b) = (a' && !b') := by rw [h1, h2]
theorem nm1 {k : Nat} (hk : k < 2 ^ 31) : ¬ nI k = -1 := fun q => nI_nneg hk (by rw [q]; decide)
theorem bcv : ∀ a, a < 32 → bc (nI a) = 0 + nI (a / 2 ^ 0 % 2) + nI (a / 2 ^ 1 % 2) + nI (a / 2 ^ 2 % 2) + nI (a / 2 ^ 3 % 2) + nI (a / 2 ^ 4 % 2) := by decide +kernel
theorem vt_1 {x : Int32} {a b v : Nat} (h : vtB x a b v) : (if x = 1 then (1 : Int32) else 0) = nI (a / 2 ^ v % 2) := by
  rcases h with ⟨e, h1, -⟩ | ⟨e, h1, -⟩ | ⟨e, h1, -⟩ <;> rw [e, h1] <;> decide
theorem vt_2 {x : Int32} {a b v : Nat} (h : vtB x a b v) : (if x = 2 then (1 : Int32) else 0) = nI (b / 2 ^ v % 2) := by
  rcases h with ⟨e, -, h1⟩ | ⟨e, -, h1⟩ | ⟨e, -, h1⟩ <;> rw [e, h1] <;> decide
theorem vc_un (z : Nat → Int32) (k : Nat) (x : Int32) : vcF z k x 0 5 0 = 0 + (if z (20 + 5 * k + 0) = x then 1 else 0) + (if z (20 + 5 * k + 1) = x then 1 else 0) + (if z (20 + 5 * k + 2) = x then 1 else 0) + (if z (20 + 5 * k + 3) = x then 1 else 0) + (if z (20 + 5 * k + 4) = x then 1 else 0) := rfl
theorem vc_1 {ao : Nat} {X : yS} {z : Nat → Int32} (h : RV ao X z) {k : Nat} (hk : k < 6) : bc (X.2 ao k) = vcF z k 1 0 5 0 ∧ bc (X.2 (ao + 1) k) = vcF z k 2 0 5 0 := by
  obtain ⟨a, b, ha, hb, e1, e2, e3⟩ := h k hk
  rw [e1, e2, bcv a ha, bcv b hb, vc_un, vc_un, vt_1 (e3 0 (by decide)), vt_1 (e3 1 (by decide)), vt_1 (e3 2 (by decide)), vt_1 (e3 3 (by decide)), vt_1 (e3 4 (by decide)), vt_2 (e3 0 (by decide)), vt_2 (e3 1 (by decide)), vt_2 (e3 2 (by decide)), vt_2 (e3 3 (by decide)), vt_2 (e3 4 (by decide))]
  exact ⟨rfl, rfl⟩
theorem ff_congr {P Q : Nat → Bool} : ∀ n j, (∀ k, j ≤ k → k < j + n → P k = Q k) → ff P j n = ff Q j n := by
  intro n
  induction n with
  | zero => intro j _; rfl
  | succ n ih =>
    intro j h
    simp only [ff]
    rw [h j (Nat.le_refl _) (by omega), ih (j + 1) (fun k h1 h2 => h k (by omega) (by omega))]
theorem fa_congr {P Q : Nat → Bool} : ∀ n j, (∀ k, j ≤ k → k < j + n → P k = Q k) → fa P j n = fa Q j n := by
  intro n
  induction n with
  | zero => intro j _; rfl
  | succ n ih =>
    intro j h
    simp only [fa]
    rw [h j (Nat.le_refl _) (by omega), ih (j + 1) (fun k h1 h2 => h k (by omega) (by omega))]
theorem rs_nt {so ao : Nat} {X : yS} {z : Nat → Int32} (h : RS so ao X z) {s : Int32} (hs : s = X.1 (so + 1)) (b v : Int32) : RS so ao (logPut so ao X s b v) (noteF z b v) := by
  subst hs
  exact rs_note h b v
section
variable {so ao : Nat} {X : yS} {z g : Nat → Int32} {G : Nat → Nat → Int32}
theorem go_eq (h : RV ao X z) (hL : PL X g G) {k : Nat} (hk : k < 6) : goB ao X.2 k = rgoB G z k := by
  obtain ⟨l1, l2, l3, l4, l5, r0, r1, r2, r3, r4, r5, r6, r7⟩ := hL
  unfold goB rgoB
  rw [(vc_1 h hk).1, (vc_1 h hk).2, r7]
theorem act_eq (hL : PL X g G) (x : Int32) (k : Nat) : actB X.2 x k = ractB G x k := by
  obtain ⟨l1, l2, l3, l4, l5, r0, r1, r2, r3, r4, r5, r6, r7⟩ := hL
  unfold actB ractB
  rw [r5, r6]
  exact Bool.and_comm _ _
theorem block_eq (h : RS so ao X z) (hL : PL X g G) (hP : Pp g G) : blockF so ao X = ragF G z (rC g) := by
  have hn : nC X = rC g := by unfold nC rC; rw [hL.2.2.2.2.1]
  obtain ⟨N, n1, n2⟩ := hP.2.2.2.1
  have hc : rC g = N := clamp_of' n2 (by omega)
  unfold blockF ragF
  rw [hn, h.1.2.2.1]
  refine ff_congr _ _ (fun k _ hk => ?_)
  have hk6 : k < 6 := by omega
  simp only [act_eq hL, go_eq h.2.2.2.2.2.1 hL hk6]
theorem due_eq (h : RS so ao X z) (hL : PL X g G) (hI : PI g G) : (dueF so X ≠ -1 ∧ (X.1 (so + 14) >>> (dueF so X &&& 31)) &&& 1 = 0 → rholdF G z (rH g) = dueF so X ∧ ∃ k, k < rH g ∧ dueF so X = nI k) ∧ (¬ (dueF so X ≠ -1 ∧ (X.1 (so + 14) >>> (dueF so X &&& 31)) &&& 1 = 0) → rholdF G z (rH g) = -1) := by
  have n2 : z 2 = X.1 (so + 2) := h.1.2.2.1
  have n13 : z 13 = X.1 (so + 14) := h.1.2.2.2.2.2.2.2.2.2.2.2.2.1
  obtain ⟨l1, l2, l3, l4, l5, r0, r1, r2, r3, r4, r5, r6, r7⟩ := hL
  have hn : nH X = rH g := by unfold nH rH; rw [l3]
  obtain ⟨N, m1, m2⟩ := hI.1.2.1
  have hc : rH g = N := clamp_of' m2 (by omega)
  have hD : dueF so X = ff (fun k => decide (G 66 k = X.1 (so + 2))) 0 (rH g) := by unfold dueF; rw [hn, r2]
  have hR : rholdF G z (rH g) = ff (fun k => decide (G 66 k = X.1 (so + 2)) && decide ((X.1 (so + 14) >>> (nI k &&& 31)) &&& 1 = 0)) 0 (rH g) := by unfold rholdF; rw [n2, n13]
  rw [hD, hR]
  have hu : ∀ i j, i < rH g → j < rH g → G 66 i = X.1 (so + 2) → G 66 j = X.1 (so + 2) → i = j := by
    intro i j hi hj e1 e2
    rcases Nat.lt_trichotomy i j with q | q | q
    · exact absurd (e1.trans e2.symm) (hI.2.2 i j q hj)
    · exact q
    · exact absurd (e2.trans e1.symm) (hI.2.2 j i q hi)
  rcases ff_spec (fun k => decide (G 66 k = X.1 (so + 2)) && decide ((X.1 (so + 14) >>> (nI k &&& 31)) &&& 1 = 0)) (rH g) 0 (by omega) with ⟨q1, q2⟩ | ⟨i, i1, i2, i3, i4, -⟩
  · rw [q1]
    refine ⟨fun hx => ?_, fun _ => rfl⟩
    exfalso
    rcases ff_spec (fun k => decide (G 66 k = X.1 (so + 2))) (rH g) 0 (by omega) with ⟨p1, -⟩ | ⟨k, k1, k2, k3, k4, -⟩
    · exact hx.1 p1
    · rw [k3] at hx
      have := q2 k k1 k2
      simp only [k4, hx.2, decide_true, Bool.and_true] at this
      exact absurd this (by decide)
  · simp only [Bool.and_eq_true, decide_eq_true_eq] at i4
    have hff : ff (fun k => decide (G 66 k = X.1 (so + 2))) 0 (rH g) = nI i := by
      rcases ff_spec (fun k => decide (G 66 k = X.1 (so + 2))) (rH g) 0 (by omega) with ⟨-, p2⟩ | ⟨k, k1, k2, k3, k4, -⟩
      · have := p2 i i1 i2
        simp only [i4.1, decide_true] at this
        exact absurd this (by decide)
      · rw [k3, hu k i (by omega) (by omega) (of_decide_eq_true k4) i4.1]
    rw [hff, i3]
    refine ⟨fun _ => ⟨rfl, i, by omega, rfl⟩, fun hx => absurd ⟨nm1 (by omega), i4.2⟩ hx⟩
theorem op_eq (h : RS so ao X z) (x : Int32) : opB so ao X x = ropB z x := by
  obtain ⟨p1, p2, p3, p4⟩ := h.2.2.2.2.1
  unfold opB ropB wN cN
  rw [← p1, ← p2]
  refine andn_congr (fa_congr _ _ (fun k _ hk => ?_)) (fa_congr _ _ (fun k _ hk => ?_))
  · have hk' : k < (z 14).toNatClampNeg := by omega
    simp only [(p3 k hk').1, (p3 k hk').2]
  · have hk' : k < (z 15).toNatClampNeg := by omega
    simp only [(p4 k hk').1, (p4 k hk').2]
theorem rs_A (h : RS so ao X z) {j : Nat} (hj : j < 12) : RS so ao (va_up X.1 (so + 13) (X.1 (so + 13) ||| 1 <<< (nI j &&& 31)), X.2) (upd z 12 (z 12 ||| 1 <<< (nI j &&& 31))) := by
  obtain ⟨n0, n1, n2, n3, n4, n5, n6, n7, n8, n9, n11, n12, n13, n17, n10⟩ := h.1
  refine rs_sc h ?_ ?_ (fun k h1 h2 => up_n _ _ _ _ (by omega)) (fun k _ => rfl) (fun i h1 h2 => ud_n _ _ _ _ (by omega))
  · simp +decide only [RN, u_ab, u_0b, u_a0, up_e, ud_at, Nat.reduceEqDiff, if_true, if_false, true_and, and_true, true_or, or_true, eq_self, n0, n1, n2, n3, n4, n5, n6, n7, n8, n9, n11, n12, n13, n17]
    exact n10
  · have := iq_fi h.2.1 hj
    unfold IZ
    simp +decide only [u_ab, u_0b, u_a0, up_e, ud_at, Nat.reduceEqDiff, if_true, if_false, true_and, and_true, true_or, or_true, eq_self]
    exact this
theorem rs_B (h : RS so ao X z) (hp : z 0 = 1) (r : Int32) : RS so ao (va_up (va_up X.1 so 3) (so + 7) r, X.2) (upd (upd z 0 3) 9 r) := by
  obtain ⟨n0, n1, n2, n3, n4, n5, n6, n7, n8, n9, n11, n12, n13, n17, n10⟩ := h.1
  refine rs_sc h ?_ ?_ (fun k h1 h2 => (up_n _ _ _ _ (by omega)).trans (up_n _ _ _ _ (by omega))) (fun k _ => rfl) (fun i h1 h2 => (ud_n _ _ _ _ (by omega)).trans (ud_n _ _ _ _ (by omega)))
  · simp +decide only [RN, u_ab, u_0b, u_a0, up_e, ud_at, Nat.reduceEqDiff, if_true, if_false, true_and, and_true, true_or, or_true, eq_self, n0, n1, n2, n3, n4, n5, n6, n7, n8, n9, n11, n12, n13, n17]
    exact n10
  · have := iq_p h.2.1 (p' := 3) (Or.inl hp) (by decide) (by decide)
    unfold IZ
    simp +decide only [u_ab, u_0b, u_a0, up_e, ud_at, Nat.reduceEqDiff, if_true, if_false, true_and, and_true, true_or, or_true, eq_self]
    exact this
theorem rs_C (h : RS so ao X z) (hp : z 0 = 1) {j : Nat} (hj : j < 12) {l : Int32} (hl : ∃ m, 1 ≤ m ∧ m ≤ 999 ∧ l = nI m) : RS so ao (va_up (va_up (va_up (va_up X.1 so 2) (so + 5) (nI j)) (so + 6) l) (so + 14) (X.1 (so + 14) ||| 1 <<< (nI j &&& 31)), X.2) (upd (upd (upd (upd z 0 2) 13 (z 13 ||| 1 <<< (nI j &&& 31))) 17 (nI j)) 8 l) := by
  obtain ⟨n0, n1, n2, n3, n4, n5, n6, n7, n8, n9, n11, n12, n13, n17, n10⟩ := h.1
  refine rs_sc h ?_ ?_ (fun k h1 h2 => (up_n _ _ _ _ (by omega)).trans ((up_n _ _ _ _ (by omega)).trans ((up_n _ _ _ _ (by omega)).trans (up_n _ _ _ _ (by omega))))) (fun k _ => rfl) (fun i h1 h2 => (ud_n _ _ _ _ (by omega)).trans ((ud_n _ _ _ _ (by omega)).trans ((ud_n _ _ _ _ (by omega)).trans (ud_n _ _ _ _ (by omega)))))
  · simp +decide only [RN, u_ab, u_0b, u_a0, up_e, ud_at, Nat.reduceEqDiff, if_true, if_false, true_and, and_true, true_or, or_true, eq_self, n0, n1, n2, n3, n4, n5, n6, n7, n8, n9, n11, n12, n13, n17]
    exact n10
  · have := iq_ho h.2.1 hp hj hl
    unfold IZ
    simp +decide only [u_ab, u_0b, u_a0, up_e, ud_at, Nat.reduceEqDiff, if_true, if_false, true_and, and_true, true_or, or_true, eq_self]
    exact this
theorem rs_D (h : RS so ao X z) (hl : z 0 = 2 → ∃ m, 1 ≤ m ∧ m ≤ 999 ∧ z 8 - 1 = nI m) : RS so ao (va_up X.1 (so + 6) (X.1 (so + 6) - 1), X.2) (upd z 8 (z 8 - 1)) := by
  obtain ⟨n0, n1, n2, n3, n4, n5, n6, n7, n8, n9, n11, n12, n13, n17, n10⟩ := h.1
  refine rs_sc h ?_ ?_ (fun k h1 h2 => up_n _ _ _ _ (by omega)) (fun k _ => rfl) (fun i h1 h2 => ud_n _ _ _ _ (by omega))
  · simp +decide only [RN, u_ab, u_0b, u_a0, up_e, ud_at, Nat.reduceEqDiff, if_true, if_false, true_and, and_true, true_or, or_true, eq_self, n0, n1, n2, n3, n4, n5, n6, n7, n8, n9, n11, n12, n13, n17]
    exact n10
  · have := iq_lf h.2.1 hl
    unfold IZ
    simp +decide only [u_ab, u_0b, u_a0, up_e, ud_at, Nat.reduceEqDiff, if_true, if_false, true_and, and_true, true_or, or_true, eq_self]
    exact this
theorem rs_D1 (h : RS so ao X z) (hp : z 0 = 2) : RS so ao (va_up (va_up X.1 (so + 6) (X.1 (so + 6) - 1)) so 1, X.2) (upd (upd z 8 (z 8 - 1)) 0 1) := by
  obtain ⟨n0, n1, n2, n3, n4, n5, n6, n7, n8, n9, n11, n12, n13, n17, n10⟩ := h.1
  refine rs_sc h ?_ ?_ (fun k h1 h2 => (up_n _ _ _ _ (by omega)).trans (up_n _ _ _ _ (by omega))) (fun k _ => rfl) (fun i h1 h2 => (ud_n _ _ _ _ (by omega)).trans (ud_n _ _ _ _ (by omega)))
  · simp +decide only [RN, u_ab, u_0b, u_a0, up_e, ud_at, Nat.reduceEqDiff, if_true, if_false, true_and, and_true, true_or, or_true, eq_self, n0, n1, n2, n3, n4, n5, n6, n7, n8, n9, n11, n12, n13, n17]
    exact n10
  · have := iq_lf (iq_p h.2.1 (p' := 1) (Or.inr (Or.inl hp)) (by decide) (by decide)) (lf' := z 8 - 1) (fun q => absurd q (by decide))
    unfold IZ
    simp +decide only [u_ab, u_0b, u_a0, up_e, ud_at, Nat.reduceEqDiff, if_true, if_false, true_and, and_true, true_or, or_true, eq_self]
    exact this
theorem rs_E (h : RS so ao X z) : RS so ao (va_up X.1 (so + 8) (X.1 (so + 8) + 1), X.2) (upd z 4 (z 4 + 1)) := by
  obtain ⟨n0, n1, n2, n3, n4, n5, n6, n7, n8, n9, n11, n12, n13, n17, n10⟩ := h.1
  refine rs_sc h ?_ ?_ (fun k h1 h2 => up_n _ _ _ _ (by omega)) (fun k _ => rfl) (fun i h1 h2 => ud_n _ _ _ _ (by omega))
  · simp +decide only [RN, u_ab, u_0b, u_a0, up_e, ud_at, Nat.reduceEqDiff, if_true, if_false, true_and, and_true, true_or, or_true, eq_self, n0, n1, n2, n3, n4, n5, n6, n7, n8, n9, n11, n12, n13, n17]
    exact n10
  · have := h.2.1
    unfold IZ
    simp +decide only [u_ab, u_0b, u_a0, up_e, ud_at, Nat.reduceEqDiff, if_true, if_false, true_and, and_true, true_or, or_true, eq_self]
    exact this
theorem rs_p (h : RS so ao X z) {p' : Int32} (hp : z 0 = 1 ∨ z 0 = 2 ∨ z 0 = 3 ∨ p' = 4) (h0 : ¬ p' = 0) (h2 : ¬ p' = 2) : RS so ao (va_up X.1 so p', X.2) (upd z 0 p') := by
  obtain ⟨n0, n1, n2, n3, n4, n5, n6, n7, n8, n9, n11, n12, n13, n17, n10⟩ := h.1
  refine rs_sc h ?_ ?_ (fun k h1 h2 => up_n _ _ _ _ (by omega)) (fun k _ => rfl) (fun i h1 h2 => ud_n _ _ _ _ (by omega))
  · simp +decide only [RN, u_ab, u_0b, u_a0, up_e, ud_at, Nat.reduceEqDiff, if_true, if_false, true_and, and_true, true_or, or_true, eq_self, n0, n1, n2, n3, n4, n5, n6, n7, n8, n9, n11, n12, n13, n17]
    exact n10
  · have := iq_p h.2.1 hp h0 h2
    unfold IZ
    simp +decide only [u_ab, u_0b, u_a0, up_e, ud_at, Nat.reduceEqDiff, if_true, if_false, true_and, and_true, true_or, or_true, eq_self]
    exact this
theorem rs_F (h : RS so ao X z) (hp : z 0 = 1) : RS so ao (va_up (va_up X.1 so 5) (so + 4) (X.1 (so + 1)), X.2) (upd (upd z 0 5) 11 (z 1)) := by
  obtain ⟨n0, n1, n2, n3, n4, n5, n6, n7, n8, n9, n11, n12, n13, n17, n10⟩ := h.1
  refine rs_sc h ?_ ?_ (fun k h1 h2 => (up_n _ _ _ _ (by omega)).trans (up_n _ _ _ _ (by omega))) (fun k _ => rfl) (fun i h1 h2 => (ud_n _ _ _ _ (by omega)).trans (ud_n _ _ _ _ (by omega)))
  · simp +decide only [RN, u_ab, u_0b, u_a0, up_e, ud_at, Nat.reduceEqDiff, if_true, if_false, true_and, and_true, true_or, or_true, eq_self, n0, n1, n2, n3, n4, n5, n6, n7, n8, n9, n11, n12, n13, n17]
    exact n10
  · have := iq_p h.2.1 (p' := 5) (Or.inl hp) (by decide) (by decide)
    unfold IZ
    simp +decide only [u_ab, u_0b, u_a0, up_e, ud_at, Nat.reduceEqDiff, if_true, if_false, true_and, and_true, true_or, or_true, eq_self]
    exact this
theorem rs_G (h : RS so ao X z) : RS so ao (va_up X.1 (so + 2) (X.1 (so + 2) - 1), X.2) (upd z 2 (z 2 - 1)) := by
  obtain ⟨n0, n1, n2, n3, n4, n5, n6, n7, n8, n9, n11, n12, n13, n17, n10⟩ := h.1
  refine rs_sc h ?_ ?_ (fun k h1 h2 => up_n _ _ _ _ (by omega)) (fun k _ => rfl) (fun i h1 h2 => ud_n _ _ _ _ (by omega))
  · simp +decide only [RN, u_ab, u_0b, u_a0, up_e, ud_at, Nat.reduceEqDiff, if_true, if_false, true_and, and_true, true_or, or_true, eq_self, n0, n1, n2, n3, n4, n5, n6, n7, n8, n9, n11, n12, n13, n17]
    exact n10
  · have := h.2.1
    unfold IZ
    simp +decide only [u_ab, u_0b, u_a0, up_e, ud_at, Nat.reduceEqDiff, if_true, if_false, true_and, and_true, true_or, or_true, eq_self]
    exact this
theorem rs_H (h : RS so ao X z) (hc : z 1 < 99999) : RS so ao (va_up X.1 (so + 1) (X.1 (so + 1) + 1), X.2) (upd z 1 (z 1 + 1)) := by
  obtain ⟨n0, n1, n2, n3, n4, n5, n6, n7, n8, n9, n11, n12, n13, n17, n10⟩ := h.1
  refine rs_sc h ?_ ?_ (fun k h1 h2 => up_n _ _ _ _ (by omega)) (fun k _ => rfl) (fun i h1 h2 => ud_n _ _ _ _ (by omega))
  · simp +decide only [RN, u_ab, u_0b, u_a0, up_e, ud_at, Nat.reduceEqDiff, if_true, if_false, true_and, and_true, true_or, or_true, eq_self, n0, n1, n2, n3, n4, n5, n6, n7, n8, n9, n11, n12, n13, n17]
    exact n10
  · have := iq_cl h.2.1 hc
    unfold IZ
    simp +decide only [u_ab, u_0b, u_a0, up_e, ud_at, Nat.reduceEqDiff, if_true, if_false, true_and, and_true, true_or, or_true, eq_self]
    exact this
theorem rs_unpl (h : RS so ao X z) (hp : z 0 = 1) (r : Int32) : RS so ao (unpl so ao X r) (stopF z r) := by
  have hs : X.1 (so + 1) = va_up (va_up X.1 so 3) (so + 7) r (so + 1) := by simp +decide only [u_ab, u_0b, u_a0, up_e, ud_at, Nat.reduceEqDiff, if_true, if_false, true_and, and_true, true_or, or_true, eq_self]
  exact rs_nt (rs_B h hp r) hs 3 r
theorem rs_less (h : RS so ao X z) (hp : z 0 = 2) : RS so ao (shold so ao X) (lessF z) := by
  obtain ⟨l, l1, l2, l3⟩ := h.2.1.2.2.2.2 hp
  have n8 : z 8 = X.1 (so + 6) := h.1.2.2.2.2.2.2.2.2.1
  have e1 : z 8 - 1 = nI (l - 1) := by
    rw [l3]
    obtain ⟨m, rfl⟩ : ∃ m, l = m + 1 := ⟨l - 1, by omega⟩
    exact nI_pred m
  unfold shold lessF
  rw [← n8]
  by_cases q : l = 1
  · have e2 : z 8 - 1 = 0 := by rw [e1, q]; rfl
    rw [if_neg (by rw [e2]; decide), if_pos e2]
    have n17 : z 17 = X.1 (so + 5) := h.1.2.2.2.2.2.2.2.2.2.2.2.2.2.1
    have hs : X.1 (so + 1) = va_up (va_up X.1 (so + 6) (X.1 (so + 6) - 1)) so 1 (so + 1) := by simp +decide only [u_ab, u_0b, u_a0, up_e, ud_at, Nat.reduceEqDiff, if_true, if_false, true_and, and_true, true_or, or_true, eq_self]
    have := rs_nt (rs_D1 h hp) hs 2 (z 17)
    rw [n8, ← n17]
    rw [n8] at this
    exact this
  · have e2 : ¬ z 8 - 1 = 0 := by rw [e1]; exact nI_ne0 (by omega) (by omega)
    have e3 : 0 < z 8 - 1 := by rw [e1]; exact nI_lt (a := 0) (by omega) (by omega)
    rw [if_pos e3, if_neg e2]
    have := rs_D h (fun _ => ⟨l - 1, by omega, by omega, e1⟩)
    rw [← n8] at this
    exact this
theorem sec2_no {Y : yS} (h : ¬ Y.1 so = 2) : sec2 so ao Y = Y := by unfold sec2; rw [if_neg h]
theorem stop_0 (r : Int32) : stopF z r 0 = 3 := by unfold stopF; rw [note_n (by decide) (by decide)]; rfl
theorem stop_1 (r : Int32) : stopF z r 1 = z 1 := by unfold stopF; rw [note_n (by decide) (by decide)]; rfl
theorem rfire_no {w : Nat → Int32} (h : ¬ w 0 = 1) : ∀ n j, rfireF G j n w = w := by
  intro n j
  cases n with
  | zero => rfl
  | succ n => simp only [rfireF]; rw [if_neg h]
end
section
variable {so ao : Nat} {g : Nat → Int32} {G : Nat → Nat → Int32}
theorem rs_fire (hso : 20 ≤ so) (hao : 10 ≤ ao) (hP : Pp g G) : ∀ (n j : Nat) (X : yS) (z : Nat → Int32), RS so ao X z → PL X g G → z 0 = 1 → j + n ≤ 12 → ((fireF so ao j n X).1 = -1 ∧ RS so ao (fireF so ao j n X).2 (rfireF G j n z) ∧ rfireF G j n z 0 = 1 ∧ rfireF G j n z 1 = z 1) ∨ (¬ (fireF so ao j n X).1 = -1 ∧ ∃ w, RS so ao (fireF so ao j n X).2 w ∧ w 0 = 1 ∧ w 1 = z 1 ∧ rfireF G j n z = stopF w (fireF so ao j n X).1) := by
  intro n
  induction n with
  | zero => intro j X z h hL hp hj; exact Or.inl ⟨rfl, h, hp, rfl⟩
  | succ n ih =>
    intro j X z h hL hp hj
    have n2 : z 2 = X.1 (so + 2) := h.1.2.2.1
    have n12 : z 12 = X.1 (so + 13) := h.1.2.2.2.2.2.2.2.2.2.2.2.1
    have r0 : X.2 0 = G 64 := hL.2.2.2.2.2.1
    have r1 : X.2 1 = G 65 := hL.2.2.2.2.2.2.1
    simp only [fireF, rfireF]
    rw [if_pos hp]
    by_cases hc : X.2 0 j = X.1 (so + 2) ∧ (X.1 (so + 13) >>> (nI j &&& 31)) &&& 1 = 0
    · have hc' : G 64 j = z 2 ∧ (z 12 >>> (nI j &&& 31)) &&& 1 = 0 := by rw [← r0, n2, n12]; exact hc
      rw [if_pos hc, if_pos hc']
      have hk : ¬ X.2 1 j = -1 → (X.2 1 j).toNatClampNeg < 6 := by
        intro q
        rcases (inv_of h hL hP).2.2.2.1 j with e | e
        · exact absurd e q
        · obtain ⟨k, k1, k2⟩ := ixb_spec e (by decide)
          rw [k2, nI_clamp (by omega)]
          exact k1
      by_cases hd : X.2 1 j ≠ -1 ∧ goB ao X.2 (X.2 1 j).toNatClampNeg = false
      · have hd' : ¬ G 65 j = -1 ∧ rgoB G z (G 65 j).toNatClampNeg = false := by
          rw [← r1]
          exact ⟨hd.1, by rw [← go_eq h.2.2.2.2.2.1 hL (hk hd.1)]; exact hd.2⟩
        rw [if_pos hd, if_pos hd']
        right
        refine ⟨hd.1, z, h, hp, rfl, ?_⟩
        rw [rfire_no (by rw [stop_0]; decide), r1]
      · have hd' : ¬ (¬ G 65 j = -1 ∧ rgoB G z (G 65 j).toNatClampNeg = false) := by
          rw [← r1]
          intro q
          exact hd ⟨q.1, by rw [go_eq h.2.2.2.2.2.1 hL (hk q.1)]; exact q.2⟩
        rw [if_neg hd, if_neg hd']
        have hs : X.1 (so + 1) = va_up X.1 (so + 13) (X.1 (so + 13) ||| 1 <<< (nI j &&& 31)) (so + 1) := by simp +decide only [u_ab, u_0b, u_a0, up_e, ud_at, Nat.reduceEqDiff, if_true, if_false, true_and, and_true, true_or, or_true, eq_self]
        have h1 := rs_nt (rs_A h (j := j) (by omega)) hs 0 (nI j)
        have hp1 : noteF (upd z 12 (z 12 ||| 1 <<< (nI j &&& 31))) 0 (nI j) 0 = 1 := by rw [note_n (by decide) (by decide)]; exact hp
        have hc1 : noteF (upd z 12 (z 12 ||| 1 <<< (nI j &&& 31))) 0 (nI j) 1 = z 1 := by rw [note_n (by decide) (by decide)]; rfl
        have := ih (j + 1) _ _ h1 (pl_fr (fr_log (fr_up fr_refl 13 (by decide) _) _ _ _) hso hao hL) hp1 (by omega)
        rw [hc1] at this
        exact this
    · have hc' : ¬ (G 64 j = z 2 ∧ (z 12 >>> (nI j &&& 31)) &&& 1 = 0) := by rw [← r0, n2, n12]; exact hc
      rw [if_neg hc, if_neg hc']
      exact ih (j + 1) X z h hL hp (by omega)
theorem rs_down {Y : yS} {w : Nat → Int32} (h : RS so ao Y w) (hp : w 0 = 1) : RS so ao (sec2 so ao (downF so ao (-1) Y)) (rdownF w) ∧ rdownF w 1 = w 1 := by
  have n0 : w 0 = Y.1 so := h.1.1
  have n1 : w 1 = Y.1 (so + 1) := h.1.2.1
  have n2 : w 2 = Y.1 (so + 2) := h.1.2.2.1
  unfold downF rdownF
  rw [if_pos rfl]
  by_cases q1 : 0 < Y.1 (so + 2)
  · have q1' : 0 < w 2 := by rw [n2]; exact q1
    rw [if_pos q1, if_pos q1']
    have h1 := rs_G h
    have : ¬ (va_up Y.1 (so + 2) (Y.1 (so + 2) - 1), Y.2).1 so = 2 := by
      rw [← h1.1.1]
      show ¬ w 0 = 2
      rw [hp]
      decide
    rw [sec2_no this]
    exact ⟨h1, rfl⟩
  · have q1' : ¬ 0 < w 2 := by rw [n2]; exact q1
    rw [if_neg q1, if_neg q1', op_eq h, ← n1]
    cases q2 : ropB w (w 1)
    · rw [if_neg (by decide), if_neg (by decide)]
      have h1 := rs_unpl h hp 11
      have : ¬ (unpl so ao Y 11).1 so = 2 := by rw [← h1.1.1, stop_0]; decide
      rw [sec2_no this]
      exact ⟨h1, stop_1 11⟩
    · rw [if_pos rfl, if_pos rfl]
      have hs : Y.1 (so + 1) = va_up (va_up Y.1 so 5) (so + 4) (Y.1 (so + 1)) (so + 1) := by simp +decide only [u_ab, u_0b, u_a0, up_e, ud_at, Nat.reduceEqDiff, if_true, if_false, true_and, and_true, true_or, or_true, eq_self]
      have h1 : RS so ao (liftF so ao Y) (noteF (upd (upd w 0 5) 11 (w 1)) 7 0) := rs_nt (rs_F h hp) hs 7 0
      have : ¬ (liftF so ao Y).1 so = 2 := by
        rw [← h1.1.1, note_n (by decide) (by decide)]
        show ¬ (5 : Int32) = 2
        decide
      rw [sec2_no this]
      exact ⟨h1, by rw [note_n (by decide) (by decide)]; rfl⟩
theorem less_1 (z : Nat → Int32) : lessF z 1 = z 1 := by
  unfold lessF
  split
  · rw [note_n (by decide) (by decide)]; rfl
  · rfl
theorem rs_cdown (hso : 20 ≤ so) (hao : 10 ≤ ao) {X : yS} {z : Nat → Int32} (h : RS so ao X z) (hL : PL X g G) (hI : PI g G) (hp : z 0 = 1) : RS so ao (sec2 so ao (cdown so ao X)) (rrunsF g G z) ∧ rrunsF g G z 1 = z 1 := by
  have r3 : X.2 3 = G 67 := hL.2.2.2.2.2.2.2.2.1
  have hE : nE X = rE g := by unfold nE rE; rw [hL.2.1]
  obtain ⟨NE, e1, e2⟩ := hI.1.1
  have hNE : rE g = NE := clamp_of' e2 (by omega)
  obtain ⟨NH, f1, f2⟩ := hI.1.2.1
  have hNH : rH g = NH := clamp_of' f2 (by omega)
  obtain ⟨d1, d2⟩ := due_eq h hL hI
  unfold cdown rrunsF
  by_cases hd : dueF so X ≠ -1 ∧ (X.1 (so + 14) >>> (dueF so X &&& 31)) &&& 1 = 0
  · obtain ⟨e, k, hk, ek⟩ := d1 hd
    rw [if_pos hd, e, if_neg hd.1, ek]
    have hl : ∃ m, 1 ≤ m ∧ m ≤ 999 ∧ X.2 3 (nI k).toNatClampNeg = nI m := by
      rw [nI_clamp (by omega), r3]
      exact hI.2.1 k hk
    have hs : X.1 (so + 1) = va_up (va_up (va_up (va_up X.1 so 2) (so + 5) (nI k)) (so + 6) (X.2 3 (nI k).toNatClampNeg)) (so + 14) (X.1 (so + 14) ||| 1 <<< (nI k &&& 31)) (so + 1) := by simp +decide only [u_ab, u_0b, u_a0, up_e, ud_at, Nat.reduceEqDiff, if_true, if_false, true_and, and_true, true_or, or_true, eq_self]
    have h1 := rs_nt (rs_C h hp (j := k) (by omega) hl) hs 1 (nI k)
    have hp1 : noteF (upd (upd (upd (upd z 0 2) 13 (z 13 ||| 1 <<< (nI k &&& 31))) 17 (nI k)) 8 (X.2 3 (nI k).toNatClampNeg)) 1 (nI k) 0 = 2 := by rw [note_n (by decide) (by decide)]; rfl
    have hb : (bhold so ao X (nI k)).1 so = 2 := by
      have := h1.1.1
      rw [hp1] at this
      exact this.symm
    have h2 := rs_less h1 hp1
    unfold sec2
    rw [if_pos hb]
    unfold bholdF
    rw [← r3]
    refine ⟨h2, ?_⟩
    rw [less_1, note_n (by decide) (by decide)]
    rfl
  · rw [if_neg hd, d2 hd, if_pos rfl, block_eq h hL hI.1]
    by_cases hb : ragF G z (rC g) = -1
    · rw [if_pos hb, if_pos hb, hE]
      rcases rs_fire hso hao hI.1 (rE g) 0 X z h hL hp (by omega) with ⟨f1, f2, f3, f4⟩ | ⟨f1, w, f2, f3, f4, f5⟩
      · rw [f1, if_pos f3, ← f4]
        exact rs_down f2 f3
      · rw [f5, if_neg (by rw [stop_0]; decide)]
        have h1 := rs_unpl f2 f3 (fireF so ao 0 (rE g) X).1
        have hd' : downF so ao (fireF so ao 0 (rE g) X).1 (fireF so ao 0 (rE g) X).2 = unpl so ao (fireF so ao 0 (rE g) X).2 (fireF so ao 0 (rE g) X).1 := by unfold downF; rw [if_neg f1]
        rw [hd']
        have : ¬ (unpl so ao (fireF so ao 0 (rE g) X).2 (fireF so ao 0 (rE g) X).1).1 so = 2 := by rw [← h1.1.1, stop_0]; decide
        rw [sec2_no this]
        exact ⟨h1, by rw [stop_1, f4]⟩
    · rw [if_neg hb, if_neg hb]
      have h1 := rs_unpl h hp (ragF G z (rC g))
      have hd' : downF so ao (ragF G z (rC g)) X = unpl so ao X (ragF G z (rC g)) := by unfold downF; rw [if_neg hb]
      rw [hd']
      have : ¬ (unpl so ao X (ragF G z (rC g))).1 so = 2 := by rw [← h1.1.1, stop_0]; decide
      rw [sec2_no this]
      exact ⟨h1, stop_1 _⟩
theorem rs_wait {X : yS} {z : Nat → Int32} (h : RS so ao X z) (hp : z 0 = 3) : RS so ao (sbudget so ao X) (waitF z) ∧ waitF z 1 = z 1 := by
  have n4 : z 4 = X.1 (so + 8) := h.1.2.2.2.2.1
  have n6 : z 6 = X.1 (so + 10) := h.1.2.2.2.2.2.2.1
  unfold sbudget waitF
  rw [n4, n6]
  have h1 := rs_E h
  rw [n4] at h1
  by_cases q : X.1 (so + 10) < X.1 (so + 8) + 1
  · rw [if_pos q, if_pos q]
    have h2 := rs_p h1 (p' := 4) (Or.inr (Or.inr (Or.inr rfl))) (by decide) (by decide)
    unfold scrubF
    refine ⟨rs_nt h2 ?_ 6 1, by rw [note_n (by decide) (by decide)]; rfl⟩
    simp +decide only [u_ab, u_0b, u_a0, up_e, ud_at, Nat.reduceEqDiff, if_true, if_false, true_and, and_true, true_or, or_true, eq_self]
  · rw [if_neg q, if_neg q]
    exact ⟨h1, rfl⟩
theorem rs_sec (hso : 20 ≤ so) (hao : 10 ≤ ao) {X : yS} {z : Nat → Int32} (h : RS so ao X z) (hL : PL X g G) (hI : PI g G) (hc : z 1 < 99999) : RS so ao (secF so ao X) (rsecF g G z) ∧ rsecF g G z 1 = z 1 + 1 := by
  have n0 : z 0 = X.1 so := h.1.1
  have h1 : RS so ao (sec2 so ao (sec1 so ao X)) (rsec1 g G z) ∧ rsec1 g G z 1 = z 1 := by
    unfold sec1 rsec1
    rw [← n0]
    by_cases q1 : z 0 = 1
    · rw [if_pos q1, if_pos q1]
      exact rs_cdown hso hao h hL hI q1
    rw [if_neg q1, if_neg q1]
    by_cases q2 : z 0 = 2
    · rw [if_pos q2, if_neg (by rw [q2]; decide)]
      unfold sec2
      rw [← n0, if_pos q2]
      exact ⟨rs_less h q2, less_1 z⟩
    rw [if_neg q2]
    by_cases q3 : z 0 = 3
    · rw [if_pos q3, if_pos q3]
      have h2 := rs_wait h q3
      have : ¬ (sbudget so ao X).1 so = 2 := by
        rw [← h2.1.1.1]
        unfold waitF
        split
        · rw [note_n (by decide) (by decide)]
          show ¬ (4 : Int32) = 2
          decide
        · show ¬ z 0 = 2
          exact q2
      rw [sec2_no this]
      exact h2
    · rw [if_neg q3, if_neg q3, sec2_no (by rw [← n0]; exact q2)]
      exact ⟨h, rfl⟩
  have h2 := rs_H h1.1 (by rw [h1.2]; exact hc)
  refine ⟨h2, ?_⟩
  show rsec1 g G z 1 + 1 = z 1 + 1
  rw [h1.2]
theorem rs_secs (hso : 20 ≤ so) (hao : 10 ≤ ao) (hI : PI g G) : ∀ (n : Nat) (X : yS) (z : Nat → Int32) (C : Nat), RS so ao X z → PL X g G → z 1 = nI C → C + n ≤ 99999 → RS so ao (secs so ao n X) (rsecs g G n z) := by
  intro n
  induction n with
  | zero => intro X z C h _ _ _; exact h
  | succ n ih =>
    intro X z C h hL hC hn
    have h1 := rs_sec hso hao h hL hI (by rw [hC]; exact nI_lt (b := 99999) (by omega) (by decide))
    exact ih _ _ (C + 1) h1.1 (pl_fr (fr_sec fr_refl) hso hao hL) (by rw [h1.2, hC, nI_1]) (by omega)
theorem rs_run (hI : PI g G) (fp f : Int32) : ∀ (n : Nat) (b : Int32) (X : yS) (z : Nat → Int32) (C : Nat), RS 20 10 X z → PL X g G → z 1 = nI C → C + n ≤ 99999 → (b = 0 ↔ z 12 = f) → (runF fp n b X).1 = (rrunF g G fp f n z).1 ∧ RS 20 10 (runF fp n b X).2 (rrunF g G fp f n z).2 ∧ Fr 20 10 X (runF fp n b X).2 := by
  intro n
  induction n with
  | zero => intro b X z C h _ _ _ _; exact ⟨rfl, h, fr_refl⟩
  | succ n ih =>
    intro b X z C h hL hC hn hb
    simp only [runF, rrunF]
    have n0 : z 0 = X.1 20 := h.1.1
    by_cases q : X.1 20 = fp ∧ b = 0
    · have q' : z 0 = fp ∧ z 12 = f := ⟨n0.trans q.1, hb.mp q.2⟩
      rw [if_pos q, if_pos q']
      have h1 := rs_sec (by decide) (by decide) h hL hI (by rw [hC]; exact nI_lt (b := 99999) (by omega) (by decide))
      have n12 : z 12 = X.1 33 := h.1.2.2.2.2.2.2.2.2.2.2.2.1
      have m12 : rsecF g G z 12 = (secF 20 10 X).1 33 := h1.1.1.2.2.2.2.2.2.2.2.2.2.2.1
      have hb1 : ((if (secF 20 10 X).1 33 = X.1 33 then (0 : Int32) else 1) = 0 ↔ rsecF g G z 12 = f) := by
        rw [m12, ← q'.2, n12]
        split
        · rename_i e; exact ⟨fun _ => e, fun _ => rfl⟩
        · rename_i e; exact ⟨fun w => absurd w (by decide), fun w => absurd w e⟩
      obtain ⟨i1, i2, i3⟩ := ih (if (secF 20 10 X).1 33 = X.1 33 then 0 else 1) (secF 20 10 X) (rsecF g G z) (C + 1) h1.1 (pl_fr (fr_sec fr_refl) (by decide) (by decide) hL) (by rw [h1.2, hC, nI_1]) (by omega) hb1
      refine ⟨by rw [i1], i2, fr_trans (fr_sec fr_refl) i3⟩
    · have q' : ¬ (z 0 = fp ∧ z 12 = f) := fun w => q ⟨n0.symm.trans w.1, hb.mpr w.2⟩
      rw [if_neg q, if_neg q']
      exact ⟨rfl, h, fr_refl⟩
end
