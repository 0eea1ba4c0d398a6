/-! questions of class and reference -/
theorem bits4 : ∀ a, a < 64 → ∀ b, b < 64 → bc (nI (64 * a + b)) = bitsF (nI (64 * a + b)) 0 12 0 := by decide +kernel
theorem bits_eq {f : Nat} (hf : f < 4096) : bc (nI f) = bitsF (nI f) 0 12 0 := by
  have h := bits4 (f / 64) (by omega) (f % 64) (by omega)
  rw [show 64 * (f / 64) + f % 64 = f by omega] at h
  exact h
theorem hw_eq {X : yS} {G : Nat → Nat → Int32} (r2 : X.2 2 = G 66) (r3 : X.2 3 = G 67) (fr to wo d : Int32) : ∀ (n j : Nat) (a : Int32), hsum X.2 fr to wo j n a + d = whF G fr to wo j n (a + d) := by
  intro n
  induction n with
  | zero => intro j a; rfl
  | succ n ih =>
    intro j a
    simp only [hsum, whF]
    rw [ih, r2, r3]
    congr 1
    by_cases q1 : fr < G 66 j
    · rw [if_pos q1, if_neg (fun q => q.2.2 q1), Int32.add_zero]
    rw [if_neg q1]
    by_cases q2 : G 66 j < to
    · rw [if_pos q2, if_neg (fun q => q.2.1 q2), Int32.add_zero]
    rw [if_neg q2]
    by_cases q3 : (wo >>> (nI j &&& 31)) &&& 1 = 0
    · rw [if_pos q3, if_pos ⟨q3, q2, q1⟩]
      ac_rfl
    · rw [if_neg q3, if_neg (fun q => q3 q.1), Int32.add_zero]
section
variable {so ao : Nat} {X : yS} {z g : Nat → Int32} {G : Nat → Nat → Int32}
theorem num_eq (h : RS so ao X z) (hL : PL X g G) (k : Int32) : numF so X k = toldF g z k := by
  obtain ⟨n0, n1, n2, n3, n4, n5, n6, n7, n8, n9, n11, n12, n13, n17, n10⟩ := h.1
  obtain ⟨-, -, ⟨f, f1, f2⟩, ⟨t, t1, t2⟩, -⟩ := h.2.1
  obtain ⟨K, n, -, -, e1, e2, -⟩ := h.2.2.2.2.2.2
  have b1 : bc (X.1 (so + 13)) = bitsF (z 12) 0 12 0 := by rw [← n12, f2]; exact bits_eq f1
  have b2 : bc (X.1 (so + 14)) = bitsF (z 13) 0 12 0 := by rw [← n13, t2]; exact bits_eq t1
  unfold numF toldF
  rw [b1, b2, n0, n1, n2, n3, n4, n5, n8, n9, e1, e2, hL.1]
theorem it_eq (h : RS 20 10 X z) (hL : PL X g G) (k : Int32) : itF X k = ritF g z k := by
  obtain ⟨l1, l2, l3, l4, l5, -⟩ := hL
  have p1 : z 14 = X.1 35 := h.2.2.2.2.1.1
  have p2 : z 15 = X.1 36 := h.2.2.2.2.1.2.1
  unfold itF ritF
  rw [l2, l3, l4, l5, p1, p2]
theorem prop_eq (h : RS 20 10 X z) (hL : PL X g G) {C : Nat} (hC : C < 6) {x : Int32} (hx : x = 0 ∨ x = 1 ∨ x = 2 ∨ x = 3) : propF X (nI C) x = rpropF G z C x := by
  have hc := nI_clamp (n := C) (by omega)
  have n2 : z 2 = X.1 22 := h.1.2.2.1
  obtain ⟨v1, v2⟩ := vc_1 h.2.2.2.2.2.1 hC
  unfold propF rpropF
  rw [hc, go_eq h.2.2.2.2.2.1 hL hC, act_eq hL, bb_if, bb_if, n2, v1, v2]
  rcases hx with e | e | e | e <;> subst e <;> rfl
theorem secOf_eq (h : RS so ao X z) (hL : PL X g G) (t : Int32) : secOf so X t = wnowF g G z t := by
  obtain ⟨n0, n1, n2, n3, n4, n5, n6, n7, n8, n9, n11, n12, n13, n17, n10⟩ := h.1
  obtain ⟨l1, l2, l3, l4, l5, r0, r1, r2, r3, r4, r5, r6, r7⟩ := hL
  have hn : nH X = rH g := by unfold nH rH; rw [l3]
  unfold secOf wnowF whenF
  have e := hw_eq r2 r3 (X.1 (so + 2)) t (X.1 (so + 14)) (X.1 (so + 1) + X.1 (so + 2) - t) (rH g) 0 0
  rw [Int32.zero_add] at e
  rw [n0, n1, n2, n13, n8, hn, ← e, Int32.sub_eq_add_neg, Int32.sub_eq_add_neg]
  ac_rfl
theorem rec_eq (h : RS so ao X z) (hL : PL X g G) (k : Int32) : recF so X k = rrecF g G z k := by
  obtain ⟨n0, n1, n2, n3, n4, n5, n6, n7, n8, n9, n11, n12, n13, n17, n10⟩ := h.1
  obtain ⟨l1, l2, l3, l4, l5, r0, r1, r2, r3, r4, r5, r6, r7⟩ := hL
  have hn : nH X = rH g := by unfold nH rH; rw [l3]
  unfold recF rrecF whenF
  rw [n0, n1, n2, hn, ← r4]
  have e := hw_eq r2 r3 (X.2 4 k.toNatClampNeg) 0 0 (X.1 (so + 1) + X.2 4 k.toNatClampNeg - 0) (rH g) 0 0
  rw [Int32.zero_add] at e
  rw [← e, Int32.sub_zero]
  by_cases q1 : X.1 so < 1
  · rw [if_pos q1, if_neg (fun q => q.1 q1)]
  rw [if_neg q1]
  by_cases q2 : 3 < X.1 so
  · rw [if_pos q2, if_neg (fun q => q.2.1 q2)]
  rw [if_neg q2]
  by_cases q3 : X.2 4 k.toNatClampNeg < X.1 (so + 2)
  · rw [if_pos q3, if_neg (fun q => q.2.2 q3)]
  rw [if_neg q3, if_pos ⟨q1, q2, q3⟩]
  ac_rfl
theorem exp_eq (h : RS so ao X z) (hL : PL X g G) (k : Int32) : firingF so X k = expF g G z k := by
  have n0 : z 0 = X.1 so := h.1.1
  have n2 : z 2 = X.1 (so + 2) := h.1.2.2.1
  have n12 : z 12 = X.1 (so + 13) := h.1.2.2.2.2.2.2.2.2.2.2.2.1
  have r0 : X.2 0 = G 64 := hL.2.2.2.2.2.1
  have q4 : ∀ p : Int32, p < 4 ↔ ¬ 3 < p := by
    intro p
    have e4 : (4 : Int32).toInt = 4 := rfl
    have e3 : (3 : Int32).toInt = 3 := rfl
    rw [lt_toInt, lt_toInt]
    omega
  unfold firingF expF
  rw [← r0, n0, n2, n12, secOf_eq h hL]
  by_cases q1 : 3 < X.1 so
  · rw [if_pos q1, if_neg (fun q => (q4 _).mp q.1 q1)]
  rw [if_neg q1]
  by_cases q2 : X.1 (so + 2) < X.2 0 k.toNatClampNeg
  · rw [if_pos q2, if_neg (fun q => q.2.2 q2)]
  rw [if_neg q2]
  by_cases q3 : (X.1 (so + 13) >>> (k &&& 31)) &&& 1 = 0
  · rw [if_pos q3, if_pos ⟨(q4 _).mpr q1, q3, q2⟩]
  · rw [if_neg q3, if_neg (fun q => q3 q.2.1)]
theorem lift_eq (h : RS so ao X z) (hL : PL X g G) : liftoffF so X = rliftF g G z := by
  have n0 : z 0 = X.1 so := h.1.1
  have n11 : z 11 = X.1 (so + 4) := h.1.2.2.2.2.2.2.2.2.2.2.1
  unfold liftoffF rliftF
  rw [n0, n11, secOf_eq h hL]
theorem part_eq (h : RS 20 10 X z) {j w : Nat} (hj : nI j < z 16) (hj2 : j < 2 ^ 31) (hw : w < 3) : partF X (nI j) (nI w) = entF z j w := by
  obtain ⟨K, n, hK, hn, e1, e2, e3, e4⟩ := h.2.2.2.2.2.2
  have hjK : j < K := by
    rw [e1] at hj
    exact (nI_ltI hj2 (by omega)).mp hj
  have e3' : X.1 37 = nI n := e3
  have hix := ring_ix n hn j (by omega)
  unfold partF entF
  rw [e3', hix, nI_clamp (by omega), clamp_of' e1 (by omega)]
  obtain ⟨a0, a1, a2⟩ := e4 j hjK
  match w, hw with
  | 0, _ => exact a0.symm
  | 1, _ =>
    rw [show 70 + 3 * (K - 1 - j) + 1 = 71 + 3 * (K - 1 - j) by omega]
    exact a1.symm
  | 2, _ =>
    rw [show 70 + 3 * (K - 1 - j) + 2 = 72 + 3 * (K - 1 - j) by omega]
    exact a2.symm
end
/-! the first and the last open second -/
theorem rop_iff {z : Nat → Int32} {s : Int32} : ropB z s = true ↔ (∃ k, k < (z 14).toNatClampNeg ∧ (z (50 + 2 * k)).toInt ≤ s.toInt ∧ s.toInt ≤ (z (51 + 2 * k)).toInt) ∧ ¬ ∃ k, k < (z 15).toNatClampNeg ∧ (z (58 + 2 * k)).toInt ≤ s.toInt ∧ s.toInt ≤ (z (59 + 2 * k)).toInt := by
  rw [← opW_all]
  unfold opW cutB
  rw [Bool.and_eq_true, Bool.not_eq_true', fa_iff]
  constructor
  · rintro ⟨⟨k, -, k2, k3⟩, h2⟩
    refine ⟨⟨k, by omega, inW_iff.mp k3⟩, ?_⟩
    rintro ⟨i, i1, i2⟩
    have := (fa_false _ _ _).mp h2 i (by omega) (by omega)
    rw [inC_iff.mpr i2] at this
    exact absurd this (by decide)
  · rintro ⟨⟨k, k1, k2⟩, h2⟩
    refine ⟨⟨k, by omega, by omega, inW_iff.mpr k2⟩, ?_⟩
    rw [fa_false]
    intro i _ i2
    cases hi : inC z s i
    · rfl
    · exact absurd ⟨i, by omega, inC_iff.mp hi⟩ h2
theorem rop_rng {z : Nat → Int32} (hs : Sp z) {s : Int32} (h : ropB z s = true) : 0 ≤ s.toInt ∧ s.toInt ≤ 99999 := by
  obtain ⟨⟨k, k1, k2, k3⟩, -⟩ := rop_iff.mp h
  have := hs.1 k k1
  omega
/-- what a search has seen -/
def Cv (P : Int32 → Bool) (last : Bool) (fr : Int32) (C : Int32 → Prop) (b : Int32) : Prop := (b = -1 ∧ ∀ x, C x → fr.toInt ≤ x.toInt → P x = false) ∨ (0 ≤ b.toInt ∧ fr.toInt ≤ b.toInt ∧ P b = true ∧ ∀ x, C x → fr.toInt ≤ x.toInt → (if last = true then b.toInt < x.toInt else x.toInt < b.toInt) → P x = false)
section
variable {so ao : Nat} {X : yS} {z : Nat → Int32}
theorem cv_soon (h : RS so ao X z) {fr b x : Int32} {C : Int32 → Prop} (hb : Cv (ropB z) false fr C b) : Cv (ropB z) false fr (fun y => C y ∨ y = x) (soonF so ao X b x fr) := by
  have m1 : (-1 : Int32).toInt = -1 := rfl
  unfold soonF
  rw [op_eq h]
  by_cases q1 : x < fr
  · rw [if_pos q1]
    rw [lt_toInt] at q1
    rcases hb with ⟨b1, b2⟩ | ⟨b1, b2, b3, b4⟩
    · exact Or.inl ⟨b1, fun y hy hf => by rcases hy with hy | hy; exact b2 y hy hf; subst hy; omega⟩
    · exact Or.inr ⟨b1, b2, b3, fun y hy hf hl => by rcases hy with hy | hy; exact b4 y hy hf hl; subst hy; omega⟩
  rw [if_neg q1]
  rw [lt_toInt] at q1
  cases hx : ropB z x
  · have : (if b = -1 then (if false = true then x else b) else if x < b then (if false = true then x else b) else b) = b := by
      split
      · rfl
      · split <;> rfl
    rw [this]
    rcases hb with ⟨b1, b2⟩ | ⟨b1, b2, b3, b4⟩
    · exact Or.inl ⟨b1, fun y hy hf => by rcases hy with hy | hy; exact b2 y hy hf; subst hy; exact hx⟩
    · exact Or.inr ⟨b1, b2, b3, fun y hy hf hl => by rcases hy with hy | hy; exact b4 y hy hf hl; subst hy; exact hx⟩
  · have hr := rop_rng h.2.2.1 hx
    rcases hb with ⟨b1, b2⟩ | ⟨b1, b2, b3, b4⟩
    · rw [if_pos b1, if_pos rfl]
      refine Or.inr ⟨hr.1, by omega, hx, fun y hy hf hl => ?_⟩
      rcases hy with hy | hy
      · exact b2 y hy hf
      · subst hy; simp only [Bool.false_eq_true, if_false] at hl; omega
    · have hb1 : ¬ b = -1 := fun q => by rw [q, m1] at b1; omega
      rw [if_neg hb1]
      by_cases q2 : x < b
      · rw [if_pos q2, if_pos rfl]
        rw [lt_toInt] at q2
        refine Or.inr ⟨hr.1, by omega, hx, fun y hy hf hl => ?_⟩
        simp only [Bool.false_eq_true, if_false] at hl
        rcases hy with hy | hy
        · exact b4 y hy hf (by simp only [Bool.false_eq_true, if_false]; omega)
        · subst hy; omega
      · rw [if_neg q2]
        rw [lt_toInt] at q2
        refine Or.inr ⟨b1, b2, b3, fun y hy hf hl => ?_⟩
        rcases hy with hy | hy
        · exact b4 y hy hf hl
        · subst hy; simp only [Bool.false_eq_true, if_false] at hl; omega
theorem cv_late (h : RS so ao X z) {fr b x : Int32} {C : Int32 → Prop} (hb : Cv (ropB z) true fr C b) : Cv (ropB z) true fr (fun y => C y ∨ y = x) (lateF so ao X b x fr) := by
  have m1 : (-1 : Int32).toInt = -1 := rfl
  unfold lateF
  rw [op_eq h]
  by_cases q1 : x < fr
  · rw [if_pos q1]
    rw [lt_toInt] at q1
    rcases hb with ⟨b1, b2⟩ | ⟨b1, b2, b3, b4⟩
    · exact Or.inl ⟨b1, fun y hy hf => by rcases hy with hy | hy; exact b2 y hy hf; subst hy; omega⟩
    · exact Or.inr ⟨b1, b2, b3, fun y hy hf hl => by rcases hy with hy | hy; exact b4 y hy hf hl; subst hy; omega⟩
  rw [if_neg q1]
  rw [lt_toInt] at q1
  cases hx : ropB z x
  · have : (if b < x then (if false = true then x else b) else b) = b := by
      split <;> rfl
    rw [this]
    rcases hb with ⟨b1, b2⟩ | ⟨b1, b2, b3, b4⟩
    · exact Or.inl ⟨b1, fun y hy hf => by rcases hy with hy | hy; exact b2 y hy hf; subst hy; exact hx⟩
    · exact Or.inr ⟨b1, b2, b3, fun y hy hf hl => by rcases hy with hy | hy; exact b4 y hy hf hl; subst hy; exact hx⟩
  · have hr := rop_rng h.2.2.1 hx
    by_cases q2 : b < x
    · rw [if_pos q2, if_pos rfl]
      rw [lt_toInt] at q2
      refine Or.inr ⟨hr.1, by omega, hx, fun y hy hf hl => ?_⟩
      simp only [if_true] at hl
      rcases hy with hy | hy
      · rcases hb with ⟨b1, b2⟩ | ⟨b1, b2, b3, b4⟩
        · exact b2 y hy hf
        · exact b4 y hy hf (by simp only [if_true]; omega)
      · subst hy; omega
    · rw [if_neg q2]
      rw [lt_toInt] at q2
      rcases hb with ⟨b1, b2⟩ | ⟨b1, b2, b3, b4⟩
      · rw [b1, m1] at q2; omega
      · refine Or.inr ⟨b1, b2, b3, fun y hy hf hl => ?_⟩
        rcases hy with hy | hy
        · exact b4 y hy hf hl
        · subst hy; simp only [if_true] at hl; omega
theorem cv_mono {P : Int32 → Bool} {last : Bool} {fr b : Int32} {C D : Int32 → Prop} (h : Cv P last fr C b) (hd : ∀ y, D y → C y) : Cv P last fr D b := by
  rcases h with ⟨b1, b2⟩ | ⟨b1, b2, b3, b4⟩
  · exact Or.inl ⟨b1, fun y hy => b2 y (hd y hy)⟩
  · exact Or.inr ⟨b1, b2, b3, fun y hy => b4 y (hd y hy)⟩
theorem cv_fold {P : Int32 → Bool} {last : Bool} {fr : Int32} {f : Int32 → Int32 → Int32} (hf : ∀ (b x : Int32) (C : Int32 → Prop), Cv P last fr C b → Cv P last fr (fun y => C y ∨ y = x) (f b x)) (v : Nat → Int32) : ∀ (n j : Nat) (b : Int32) (C : Int32 → Prop), Cv P last fr C b → Cv P last fr (fun y => C y ∨ ∃ k, j ≤ k ∧ k < j + n ∧ y = v k) (foldB f v j n b) := by
  intro n
  induction n with
  | zero => intro j b C h; exact cv_mono h (fun y hy => by rcases hy with hy | ⟨k, k1, k2, -⟩; exact hy; omega)
  | succ n ih =>
    intro j b C h
    refine cv_mono (ih (j + 1) (f b (v j)) _ (hf b (v j) C h)) (fun y hy => ?_)
    rcases hy with hy | ⟨k, k1, k2, k3⟩
    · exact Or.inl (Or.inl hy)
    · by_cases q : k = j
      · subst q; exact Or.inl (Or.inr k3)
      · exact Or.inr ⟨k, by omega, by omega, k3⟩
theorem first_fst (h : RS so ao X z) (fr : Int32) : Fst (ropB z) false fr (firstF so ao X fr) := by
  obtain ⟨p1, p2, p3, p4⟩ := h.2.2.2.2.1
  have hSp := h.2.2.1
  have c0 : Cv (ropB z) false fr (fun _ => False) (-1) := Or.inl ⟨rfl, fun _ q => absurd q id⟩
  have c1 := cv_soon h (x := fr) c0
  have c2 := cv_fold (f := fun b x => soonF so ao X b x fr) (fun b x C hb => cv_soon h hb) (fun k => X.2 (ao + 2) k) (wN so X) 0 _ _ c1
  have c3 := cv_fold (f := fun b x => soonF so ao X b x fr) (fun b x C hb => cv_soon h hb) (fun k => X.2 (ao + 5) k + 1) (cN so X) 0 _ _ c2
  have hw : wN so X = (z 14).toNatClampNeg := by unfold wN; rw [← p1]
  have hc : cN so X = (z 15).toNatClampNeg := by unfold cN; rw [← p2]
  have c4 : Cv (ropB z) false fr (fun y => y = fr ∨ (∃ k, k < (z 14).toNatClampNeg ∧ y = z (50 + 2 * k)) ∨ ∃ k, k < (z 15).toNatClampNeg ∧ y = z (59 + 2 * k) + 1) (firstF so ao X fr) := by
    refine cv_mono c3 (fun y hy => ?_)
    rcases hy with hy | ⟨k, k1, k2⟩ | ⟨k, k1, k2⟩
    · exact Or.inl (Or.inl (Or.inr hy))
    · exact Or.inl (Or.inr ⟨k, by omega, by omega, by rw [k2]; exact (p3 k k1).1⟩)
    · exact Or.inr ⟨k, by omega, by omega, by rw [k2]; exact congrArg (· + 1) (p4 k k1).2⟩
  have key : ∀ (n : Nat) (s : Int32), (s.toInt - fr.toInt).toNat = n → fr.toInt ≤ s.toInt → ropB z s = true → ∃ y, (y = fr ∨ (∃ k, k < (z 14).toNatClampNeg ∧ y = z (50 + 2 * k)) ∨ ∃ k, k < (z 15).toNatClampNeg ∧ y = z (59 + 2 * k) + 1) ∧ fr.toInt ≤ y.toInt ∧ y.toInt ≤ s.toInt ∧ ropB z y = true := by
    intro n
    induction n using Nat.strongRecOn with
    | _ n ih =>
      intro s hn hs hP
      obtain ⟨s0, s1⟩ := rop_rng hSp hP
      by_cases hsf : s = fr
      · exact ⟨s, Or.inl hsf, hs, Int.le_refl _, hP⟩
      have hne : s.toInt ≠ fr.toInt := fun q => hsf (eq_toInt.mpr q)
      have hm := sub1_toInt (x := s) s0 (by omega)
      cases hq : ropB z (s - 1)
      · refine ⟨s, Or.inr ?_, hs, Int.le_refl _, hP⟩
        obtain ⟨⟨k, k1, k2, k3⟩, hcut⟩ := rop_iff.mp hP
        by_cases q : (z (50 + 2 * k)).toInt = s.toInt
        · exact Or.inl ⟨k, k1, (eq_toInt.mpr q).symm⟩
        · right
          have hin : ∃ i, i < (z 15).toNatClampNeg ∧ (z (58 + 2 * i)).toInt ≤ (s - 1).toInt ∧ (s - 1).toInt ≤ (z (59 + 2 * i)).toInt := by
            by_cases hh : ∃ i, i < (z 15).toNatClampNeg ∧ (z (58 + 2 * i)).toInt ≤ (s - 1).toInt ∧ (s - 1).toInt ≤ (z (59 + 2 * i)).toInt
            · exact hh
            · have := rop_iff.mpr ⟨⟨k, k1, by omega, by omega⟩, hh⟩
              rw [hq] at this
              exact absurd this (by decide)
          obtain ⟨i, i1, i2, i3⟩ := hin
          have hi := hSp.2 i i1
          have hlt : (z (59 + 2 * i)).toInt < s.toInt := by
            by_cases hh : (z (59 + 2 * i)).toInt < s.toInt
            · exact hh
            · exact absurd ⟨i, i1, by omega, by omega⟩ hcut
          refine ⟨i, i1, eq_toInt.mpr ?_⟩
          rw [add1_toInt (by omega) (by omega)]
          omega
      · have hf : fr.toInt ≤ (s - 1).toInt := by omega
        obtain ⟨y, y1, y2, y3, y4⟩ := ih ((s - 1).toInt - fr.toInt).toNat (by omega) (s - 1) rfl hf hq
        exact ⟨y, y1, y2, by omega, y4⟩
  rcases c4 with ⟨b1, b2⟩ | ⟨b1, b2, b3, b4⟩
  · refine Or.inl ⟨b1, fun s hs => ?_⟩
    cases hP : ropB z s
    · rfl
    · obtain ⟨y, y1, y2, y3, y4⟩ := key _ s rfl hs hP
      rw [b2 y y1 y2] at y4
      exact y4.symm
  · refine Or.inr ⟨b1, b2, b3, fun s hs hl => ?_⟩
    simp only [Bool.false_eq_true, if_false] at hl
    cases hP : ropB z s
    · rfl
    · obtain ⟨y, y1, y2, y3, y4⟩ := key _ s rfl hs hP
      rw [b4 y y1 y2 (by simp only [Bool.false_eq_true, if_false]; omega)] at y4
      exact y4.symm
theorem last_fst (h : RS so ao X z) (fr : Int32) : Fst (ropB z) true fr (lastF so ao X fr) := by
  obtain ⟨p1, p2, p3, p4⟩ := h.2.2.2.2.1
  have hSp := h.2.2.1
  have c1 : Cv (ropB z) true fr (fun _ => False) (-1) := Or.inl ⟨rfl, fun _ q => absurd q id⟩
  have c2 := cv_fold (f := fun b x => lateF so ao X b x fr) (fun b x C hb => cv_late h hb) (fun k => X.2 (ao + 3) k) (wN so X) 0 _ _ c1
  have c3 := cv_fold (f := fun b x => lateF so ao X b x fr) (fun b x C hb => cv_late h hb) (fun k => X.2 (ao + 4) k - 1) (cN so X) 0 _ _ c2
  have hw : wN so X = (z 14).toNatClampNeg := by unfold wN; rw [← p1]
  have hc : cN so X = (z 15).toNatClampNeg := by unfold cN; rw [← p2]
  have c4 : Cv (ropB z) true fr (fun y => (∃ k, k < (z 14).toNatClampNeg ∧ y = z (51 + 2 * k)) ∨ ∃ k, k < (z 15).toNatClampNeg ∧ y = z (58 + 2 * k) - 1) (lastF so ao X fr) := by
    refine cv_mono c3 (fun y hy => ?_)
    rcases hy with ⟨k, k1, k2⟩ | ⟨k, k1, k2⟩
    · exact Or.inl (Or.inr ⟨k, by omega, by omega, by rw [k2]; exact (p3 k k1).2⟩)
    · exact Or.inr ⟨k, by omega, by omega, by rw [k2]; exact congrArg (· - 1) (p4 k k1).1⟩
  have key : ∀ (n : Nat) (s : Int32), (100000 - s.toInt).toNat = n → fr.toInt ≤ s.toInt → ropB z s = true → ∃ y, ((∃ k, k < (z 14).toNatClampNeg ∧ y = z (51 + 2 * k)) ∨ ∃ k, k < (z 15).toNatClampNeg ∧ y = z (58 + 2 * k) - 1) ∧ s.toInt ≤ y.toInt ∧ ropB z y = true := by
    intro n
    induction n using Nat.strongRecOn with
    | _ n ih =>
      intro s hn hs hP
      obtain ⟨s0, s1⟩ := rop_rng hSp hP
      have hm := add1_toInt (x := s) s0 (by omega)
      cases hq : ropB z (s + 1)
      · refine ⟨s, ?_, Int.le_refl _, hP⟩
        obtain ⟨⟨k, k1, k2, k3⟩, hcut⟩ := rop_iff.mp hP
        by_cases q : (z (51 + 2 * k)).toInt = s.toInt
        · exact Or.inl ⟨k, k1, (eq_toInt.mpr q).symm⟩
        · right
          have hin : ∃ i, i < (z 15).toNatClampNeg ∧ (z (58 + 2 * i)).toInt ≤ (s + 1).toInt ∧ (s + 1).toInt ≤ (z (59 + 2 * i)).toInt := by
            by_cases hh : ∃ i, i < (z 15).toNatClampNeg ∧ (z (58 + 2 * i)).toInt ≤ (s + 1).toInt ∧ (s + 1).toInt ≤ (z (59 + 2 * i)).toInt
            · exact hh
            · have := rop_iff.mpr ⟨⟨k, k1, by omega, by omega⟩, hh⟩
              rw [hq] at this
              exact absurd this (by decide)
          obtain ⟨i, i1, i2, i3⟩ := hin
          have hi := hSp.2 i i1
          have hlt : s.toInt < (z (58 + 2 * i)).toInt := by
            by_cases hh : s.toInt < (z (58 + 2 * i)).toInt
            · exact hh
            · exact absurd ⟨i, i1, by omega, by omega⟩ hcut
          refine ⟨i, i1, eq_toInt.mpr ?_⟩
          rw [sub1_toInt (by omega) (by omega)]
          omega
      · obtain ⟨y, y1, y2, y3⟩ := ih (100000 - (s + 1).toInt).toNat (by omega) (s + 1) rfl (by omega) hq
        exact ⟨y, y1, by omega, y3⟩
  rcases c4 with ⟨b1, b2⟩ | ⟨b1, b2, b3, b4⟩
  · refine Or.inl ⟨b1, fun s hs => ?_⟩
    cases hP : ropB z s
    · rfl
    · obtain ⟨y, y1, y2, y4⟩ := key _ s rfl hs hP
      rw [b2 y y1 (by omega)] at y4
      exact y4.symm
  · refine Or.inr ⟨b1, b2, b3, fun s hs hl => ?_⟩
    simp only [if_true] at hl
    cases hP : ropB z s
    · rfl
    · obtain ⟨y, y1, y2, y4⟩ := key _ s rfl hs hP
      rw [b4 y y1 (by omega) (by simp only [if_true]; omega)] at y4
      exact y4.symm
end
