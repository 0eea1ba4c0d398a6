/-! commands of class and reference -/
theorem lt4 (p : Int32) : decide (p < 4) = !(decide (3 < p)) := by
  have e4 : (4 : Int32).toInt = 4 := rfl
  have e3 : (3 : Int32).toInt = 3 := rfl
  by_cases h : p < 4
  · have : ¬ 3 < p := by rw [lt_toInt] at h ⊢; omega
    simp only [h, this, decide_true, decide_false, Bool.not_false]
  · have : 3 < p := by rw [lt_toInt] at h ⊢; omega
    simp only [h, this, decide_true, decide_false, Bool.not_true]
section
variable {so ao : Nat} {X : yS} {z g : Nat → Int32} {G : Nat → Nat → Int32}
theorem may_eq (h : RS so ao X z) (hL : PL X g G) (hP : Pp g G) {k : Int32} (hk : k = 0 ∨ k = 1 ∨ k = 2 ∨ k = 3) : allowF so ao X k = mayB g G z k := by
  have n0 : z 0 = X.1 so := h.1.1
  unfold allowF mayB
  rw [block_eq h hL hP, n0, lt4]
  rcases hk with e | e | e | e <;> subst e <;> rfl
theorem rs_I (h : RS so ao X z) (hp : z 0 = 0) : RS so ao (obeyF so ao X 0) (coutF z 0) := by
  obtain ⟨n0, n1, n2, n3, n4, n5, n6, n7, n8, n9, n11, n12, n13, n17, n10⟩ := h.1
  have e1 : obeyF so ao X 0 = (va_up (va_up (va_up (va_up (va_up X.1 so 1) (so + 3) (X.1 (so + 1))) (so + 12) (X.1 (so + 12) + 1)) (so + 13) 0) (so + 14) 0, X.2) := rfl
  have e2 : coutF z 0 = upd (upd (upd (upd (upd z 0 1) 10 (z 1)) 3 (z 3 + 1)) 12 0) 13 0 := rfl
  rw [e1, e2]
  refine rs_sc h ?_ ?_ (fun k h1 h2 => (up_n _ _ _ _ (by omega)).trans ((up_n _ _ _ _ (by omega)).trans ((up_n _ _ _ _ (by omega)).trans ((up_n _ _ _ _ (by omega)).trans (up_n _ _ _ _ (by omega)))))) (fun k _ => rfl) (fun i h1 h2 => (ud_n _ _ _ _ (by omega)).trans ((ud_n _ _ _ _ (by omega)).trans ((ud_n _ _ _ _ (by omega)).trans ((ud_n _ _ _ _ (by omega)).trans (ud_n _ _ _ _ (by omega))))))
  · simp +decide only [RN, u_ab, u_0b, u_a0, up_e, ud_at, Nat.reduceEqDiff, if_true, if_false, true_and, and_true, true_or, or_true, eq_self, n0, n1, n2, n3, n4, n5, n6, n7, n8, n9, n11, n12, n13, n17]
  · have := iq_start h.2.1 hp
    unfold IZ
    simp +decide only [u_ab, u_0b, u_a0, up_e, ud_at, Nat.reduceEqDiff, if_true, if_false, true_and, and_true, true_or, or_true, eq_self]
    exact this
theorem rs_obey (h : RS so ao X z) {k : Int32} (hk : k = 0 ∨ k = 1 ∨ k = 2 ∨ k = 3) (ha : allowF so ao X k = true) : RS so ao (obeyF so ao X k) (coutF z k) := by
  have n0 : z 0 = X.1 so := h.1.1
  have n4 : z 4 = X.1 (so + 8) := h.1.2.2.2.2.1
  rcases hk with e | e | e | e <;> subst e
  · have : decide (X.1 so = 0) = true := ha
    exact rs_I h (n0.trans (of_decide_eq_true this))
  · have : decide (X.1 so = 1) = true := ha
    exact rs_unpl h (n0.trans (of_decide_eq_true this)) 10
  · have h3 : (decide (X.1 so = 3) && decide (blockF so ao X = -1)) = true := ha
    rw [Bool.and_eq_true] at h3
    have hp : z 0 = 3 := n0.trans (of_decide_eq_true h3.1)
    have h1 := rs_p h (p' := 1) (Or.inr (Or.inr (Or.inl hp))) (by decide) (by decide)
    have hs : X.1 (so + 1) = va_up X.1 so 1 (so + 1) := by simp +decide only [u_ab, u_0b, u_a0, up_e, ud_at, Nat.reduceEqDiff, if_true, if_false, true_and, and_true, true_or, or_true, eq_self]
    have h2 := rs_nt h1 hs 4 (X.1 (so + 8))
    show RS so ao (logPut so ao (va_up X.1 so 1, X.2) (X.1 (so + 1)) 4 (X.1 (so + 8))) (noteF (upd z 0 1) 4 (z 4))
    rw [n4]
    exact h2
  · have h1 := rs_p h (p' := 4) (Or.inr (Or.inr (Or.inr rfl))) (by decide) (by decide)
    have hs : X.1 (so + 1) = va_up X.1 so 4 (so + 1) := by simp +decide only [u_ab, u_0b, u_a0, up_e, ud_at, Nat.reduceEqDiff, if_true, if_false, true_and, and_true, true_or, or_true, eq_self]
    exact rs_nt h1 hs 6 0
theorem mayR_eq (h : RS so ao X z) (hL : PL X g G) (k : Int32) : allowR so X k = rmayR G z k := by
  obtain ⟨n0, n1, n2, n3, n4, n5, n6, n7, n8, n9, n11, n12, n13, n17, n10⟩ := h.1
  obtain ⟨l1, l2, l3, l4, l5, r0, r1, r2, r3, r4, r5, r6, r7⟩ := hL
  unfold allowR rmayR
  rw [n0, n2, n5, n7, r4]
theorem rs_back (h : RS so ao X z) (hL : PL X g G) (k : Int32) (ha : allowR so X k = true) : RS so ao (backF so ao X k) (rbackF G z k) := by
  obtain ⟨n0, n1, n2, n3, n4, n5, n6, n7, n8, n9, n11, n12, n13, n17, n10⟩ := h.1
  have r4 : X.2 4 = G 68 := hL.2.2.2.2.2.2.2.2.2.1
  unfold allowR at ha
  simp only [Bool.and_eq_true, decide_eq_true_eq] at ha
  have hp : z 0 = 3 := n0.trans ha.1.1
  have e2 : rbackF G z k = noteF (upd (upd (upd (upd (upd z 2 (G 68 k.toNatClampNeg)) 5 (z 5 + 1)) 3 (z 3 + 1)) 12 0) 13 0) 5 k := rfl
  rw [e2, ← r4]
  have h1 : RS so ao (va_up (va_up (va_up (va_up (va_up X.1 (so + 2) (X.2 4 k.toNatClampNeg)) (so + 9) (X.1 (so + 9) + 1)) (so + 12) (X.1 (so + 12) + 1)) (so + 13) 0) (so + 14) 0, X.2) (upd (upd (upd (upd (upd z 2 (X.2 4 k.toNatClampNeg)) 5 (z 5 + 1)) 3 (z 3 + 1)) 12 0) 13 0) := by
    refine rs_sc h ?_ ?_ (fun k h1 h2 => (up_n _ _ _ _ (by omega)).trans ((up_n _ _ _ _ (by omega)).trans ((up_n _ _ _ _ (by omega)).trans ((up_n _ _ _ _ (by omega)).trans (up_n _ _ _ _ (by omega)))))) (fun k _ => rfl) (fun i h1 h2 => (ud_n _ _ _ _ (by omega)).trans ((ud_n _ _ _ _ (by omega)).trans ((ud_n _ _ _ _ (by omega)).trans ((ud_n _ _ _ _ (by omega)).trans (ud_n _ _ _ _ (by omega))))))
    · simp +decide only [RN, u_ab, u_0b, u_a0, up_e, ud_at, Nat.reduceEqDiff, if_true, if_false, true_and, and_true, true_or, or_true, eq_self, n0, n1, n2, n3, n4, n5, n6, n7, n8, n9, n11, n12, n13, n17]
      exact n10
    · have h0 : IQ 3 (z 1) (z 3 + 1) (z 5 + 1) (z 7) (z 8) (z 10) 0 0 := iq_back h.2.1 hp (by rw [n5, n7]; exact ha.2)
      unfold IZ
      simp +decide only [u_ab, u_0b, u_a0, up_e, ud_at, Nat.reduceEqDiff, if_true, if_false, true_and, and_true, true_or, or_true, eq_self]
      rw [hp]
      exact h0
  exact rs_nt h1 (by simp +decide only [u_ab, u_0b, u_a0, up_e, ud_at, Nat.reduceEqDiff, if_true, if_false, true_and, and_true, true_or, or_true, eq_self]) 5 k
theorem rs_lim (h : RS so ao X z) (x k : Int32) (hk : ∃ m, m ≤ 9 ∧ k = nI m) : RS so ao (va_up (va_up X.1 (so + 10) x) (so + 11) k, X.2) (upd (upd z 6 x) 7 k) := by
  obtain ⟨n0, n1, n2, n3, n4, n5, n6, n7, n8, n9, n11, n12, n13, n17, n10⟩ := h.1
  refine rs_sc h ?_ ?_ (fun k h1 h2 => (up_n _ _ _ _ (by omega)).trans (up_n _ _ _ _ (by omega))) (fun k _ => rfl) (fun i h1 h2 => (ud_n _ _ _ _ (by omega)).trans (ud_n _ _ _ _ (by omega)))
  · simp +decide only [RN, u_ab, u_0b, u_a0, up_e, ud_at, Nat.reduceEqDiff, if_true, if_false, true_and, and_true, true_or, or_true, eq_self, n0, n1, n2, n3, n4, n5, n6, n7, n8, n9, n11, n12, n13, n17]
    exact n10
  · have h0 := h.2.1
    unfold IZ at h0 ⊢
    simp +decide only [u_ab, u_0b, u_a0, up_e, ud_at, Nat.reduceEqDiff, if_true, if_false, true_and, and_true, true_or, or_true, eq_self]
    exact ⟨h0.1, hk, h0.2.2⟩
end
/-! votes -/
theorem vq_set : ∀ a, a < 32 → ∀ v, v < 5 → (nI a ||| 1 <<< (nI v &&& 31) = nI (a ||| 2 ^ v)) ∧ (a ||| 2 ^ v) < 32 ∧ ∀ w, w < 5 → (a ||| 2 ^ v) / 2 ^ w % 2 = if w = v then 1 else a / 2 ^ w % 2 := by decide +kernel
theorem vq_clr : ∀ a, a < 32 → ∀ v, v < 5 → (nI a &&& (1 <<< (nI v &&& 31) ^^^ (-1)) = nI (a - 2 ^ v * (a / 2 ^ v % 2))) ∧ (a - 2 ^ v * (a / 2 ^ v % 2)) < 32 ∧ ∀ w, w < 5 → (a - 2 ^ v * (a / 2 ^ v % 2)) / 2 ^ w % 2 = if w = v then 0 else a / 2 ^ w % 2 := by decide +kernel
theorem vq_get : ∀ a, a < 32 → ∀ v, v < 5 → ((nI a >>> (nI v &&& 31)) &&& 1 = 0 ↔ a / 2 ^ v % 2 = 0) := by decide +kernel
theorem vote_get {ao : Nat} {X : yS} {z : Nat → Int32} (h : RV ao X z) {C V : Nat} (hC : C < 6) (hV : V < 5) : (if (X.2 ao C >>> (nI V &&& 31)) &&& 1 = 0 then (if (X.2 (ao + 1) C >>> (nI V &&& 31)) &&& 1 = 0 then (0 : Int32) else 2) else 1) = z (20 + 5 * C + V) := by
  obtain ⟨a, b, ha, hb, e1, e2, e3⟩ := h C hC
  rw [e1, e2]
  rcases e3 V hV with ⟨q1, q2, q3⟩ | ⟨q1, q2, q3⟩ | ⟨q1, q2, q3⟩
  · rw [if_pos ((vq_get a ha V hV).mpr q2), if_pos ((vq_get b hb V hV).mpr q3), q1]
  · rw [if_neg (fun q => by have := (vq_get a ha V hV).mp q; omega), q1]
  · rw [if_pos ((vq_get a ha V hV).mpr q2), if_neg (fun q => by have := (vq_get b hb V hV).mp q; omega), q1]
theorem rv_put {X : yS} {z : Nat → Int32} (h : RV 10 X z) {C V : Nat} {x : Int32} (hC : C < 6) (hV : V < 5) (hx : x = 0 ∨ x = 1 ∨ x = 2) : RV 10 (vputF X (nI C) (nI V) x) (upd z (20 + 5 * C + V) x) := by
  have hc := nI_clamp (n := C) (by omega)
  intro k hk
  obtain ⟨a, b, ha, hb, e1, e2, e3⟩ := h k hk
  have r0 : (vputF X (nI C) (nI V) x).2 10 = upd (X.2 10) C (if x = 1 then X.2 10 C ||| 1 <<< (nI V &&& 31) else X.2 10 C &&& (1 <<< (nI V &&& 31) ^^^ (-1))) := by
    unfold vputF
    simp only [hc]
    rw [up_n _ _ _ _ (by decide), up_e]
  have r1 : (vputF X (nI C) (nI V) x).2 (10 + 1) = upd (X.2 11) C (if x = 2 then X.2 11 C ||| 1 <<< (nI V &&& 31) else X.2 11 C &&& (1 <<< (nI V &&& 31) ^^^ (-1))) := by
    unfold vputF
    simp only [hc]
    rw [up_e]
  rw [r0, r1]
  by_cases hkC : k = C
  · subst hkC
    rw [ud_e, ud_e]
    have e2' : X.2 11 k = nI b := e2
    rw [e1, e2']
    obtain ⟨s1, s2, s3⟩ := vq_set a ha V hV
    obtain ⟨s4, s5, s6⟩ := vq_clr a ha V hV
    obtain ⟨t1, t2, t3⟩ := vq_set b hb V hV
    obtain ⟨t4, t5, t6⟩ := vq_clr b hb V hV
    rcases hx with e | e | e <;> subst e
    · refine ⟨_, _, s5, t5, by rw [if_neg (by decide)]; exact s4, by rw [if_neg (by decide)]; exact t4, fun w hw => ?_⟩
      unfold vtB
      rw [s6 w hw, t6 w hw]
      by_cases hwV : w = V
      · subst hwV; rw [ud_e, if_pos rfl, if_pos rfl]; exact Or.inl ⟨rfl, rfl, rfl⟩
      · rw [ud_n _ _ _ _ (by omega), if_neg hwV, if_neg hwV]; exact e3 w hw
    · refine ⟨_, _, s2, t5, by rw [if_pos rfl]; exact s1, by rw [if_neg (by decide)]; exact t4, fun w hw => ?_⟩
      unfold vtB
      rw [s3 w hw, t6 w hw]
      by_cases hwV : w = V
      · subst hwV; rw [ud_e, if_pos rfl, if_pos rfl]; exact Or.inr (Or.inl ⟨rfl, rfl, rfl⟩)
      · rw [ud_n _ _ _ _ (by omega), if_neg hwV, if_neg hwV]; exact e3 w hw
    · refine ⟨_, _, s5, t2, by rw [if_neg (by decide)]; exact s4, by rw [if_pos rfl]; exact t1, fun w hw => ?_⟩
      unfold vtB
      rw [s6 w hw, t3 w hw]
      by_cases hwV : w = V
      · subst hwV; rw [ud_e, if_pos rfl, if_pos rfl]; exact Or.inr (Or.inr ⟨rfl, rfl, rfl⟩)
      · rw [ud_n _ _ _ _ (by omega), if_neg hwV, if_neg hwV]; exact e3 w hw
  · rw [ud_n _ _ _ _ hkC, ud_n _ _ _ _ hkC]
    refine ⟨a, b, ha, hb, e1, e2, fun w hw => ?_⟩
    rw [ud_n _ _ _ _ (by omega)]
    exact e3 w hw
theorem rs_vput {X : yS} {z : Nat → Int32} (h : RS 20 10 X z) {C V : Nat} {x : Int32} (hC : C < 6) (hV : V < 5) (hx : x = 0 ∨ x = 1 ∨ x = 2) : RS 20 10 (vputF X (nI C) (nI V) x) (upd z (20 + 5 * C + V) x) := by
  have zn : ∀ i, i < 20 ∨ 50 ≤ i → upd z (20 + 5 * C + V) x i = z i := fun i hi => ud_n _ _ _ _ (by omega)
  have rn : ∀ k, 12 ≤ k → (vputF X (nI C) (nI V) x).2 k = X.2 k := by
    intro k hk
    unfold vputF
    simp only
    rw [up_n _ _ _ _ (by omega), up_n _ _ _ _ (by omega)]
  have g1 : (vputF X (nI C) (nI V) x).1 = X.1 := rfl
  obtain ⟨hN, hI, hS, hz, hP, hW, hL⟩ := h
  refine ⟨?_, ?_, ?_, ?_, ?_, rv_put hW hC hV hx, ?_⟩
  · unfold RN at hN ⊢
    simp only [zn 0 (by decide), zn 1 (by decide), zn 2 (by decide), zn 3 (by decide), zn 4 (by decide), zn 5 (by decide), zn 6 (by decide), zn 7 (by decide), zn 8 (by decide), zn 9 (by decide), zn 10 (by decide), zn 11 (by decide), zn 12 (by decide), zn 13 (by decide), zn 17 (by decide), g1]
    exact hN
  · unfold IZ at hI ⊢
    simp only [zn 0 (by decide), zn 1 (by decide), zn 3 (by decide), zn 5 (by decide), zn 7 (by decide), zn 8 (by decide), zn 10 (by decide), zn 12 (by decide), zn 13 (by decide)]
    exact hI
  · unfold Sp at hS ⊢
    rw [zn 14 (by decide), zn 15 (by decide)]
    refine ⟨fun k hk => ?_, fun k hk => ?_⟩
    · rw [zn (50 + 2 * k) (by omega), zn (51 + 2 * k) (by omega)]
      exact hS.1 k hk
    · rw [zn (58 + 2 * k) (by omega), zn (59 + 2 * k) (by omega)]
      exact hS.2 k hk
  · unfold Pz at hz ⊢
    rw [zn 14 (by decide), zn 15 (by decide), zn 16 (by decide)]
    exact hz
  · unfold RP at hP ⊢
    rw [zn 14 (by decide), zn 15 (by decide), g1, rn (10 + 2) (by decide), rn (10 + 3) (by decide), rn (10 + 4) (by decide), rn (10 + 5) (by decide)]
    refine ⟨hP.1, hP.2.1, fun k hk => ?_, fun k hk => ?_⟩
    · rw [zn (50 + 2 * k) (by omega), zn (51 + 2 * k) (by omega)]
      exact hP.2.2.1 k hk
    · rw [zn (58 + 2 * k) (by omega), zn (59 + 2 * k) (by omega)]
      exact hP.2.2.2 k hk
  · obtain ⟨K, n, hK, hn, e1, e2, e3, e4⟩ := hL
    refine ⟨K, n, hK, hn, (zn 16 (by decide)).trans e1, e2, e3, fun j hj => ?_⟩
    rw [zn (70 + 3 * (K - 1 - j)) (by omega), zn (71 + 3 * (K - 1 - j)) (by omega), zn (72 + 3 * (K - 1 - j)) (by omega), rn (10 + 6) (by decide), rn (10 + 7) (by decide), rn (10 + 8) (by decide)]
    exact e4 j hj
/-! windows and cutouts -/
theorem rs_win {X : yS} {z : Nat → Int32} (h : RS 20 10 X z) {n : Nat} (hn : n < 4) (hw : z 14 = nI n) {x t : Int32} (h0 : 0 ≤ x.toInt) (h1 : x.toInt ≤ t.toInt) (h2 : t.toInt ≤ 99999) : RS 20 10 (va_up X.1 35 (X.1 35 + 1), va_up (va_up X.2 12 (upd (X.2 12) n x)) 13 (upd (X.2 13) n t)) (upd (upd (upd z (50 + 2 * n) x) (51 + 2 * n) t) 14 (z 14 + 1)) := by
  have zn : ∀ i, i ≠ 14 → i ≠ 50 + 2 * n → i ≠ 51 + 2 * n → upd (upd (upd z (50 + 2 * n) x) (51 + 2 * n) t) 14 (z 14 + 1) i = z i := fun i a b c => by rw [ud_n _ _ _ _ a, ud_n _ _ _ _ c, ud_n _ _ _ _ b]
  have z0 : upd (upd (upd z (50 + 2 * n) x) (51 + 2 * n) t) 14 (z 14 + 1) (50 + 2 * n) = x := by rw [ud_n _ _ _ _ (by omega), ud_n _ _ _ _ (by omega), ud_e]
  have z1 : upd (upd (upd z (50 + 2 * n) x) (51 + 2 * n) t) 14 (z 14 + 1) (51 + 2 * n) = t := by rw [ud_n _ _ _ _ (by omega), ud_e]
  have z14 : upd (upd (upd z (50 + 2 * n) x) (51 + 2 * n) t) 14 (z 14 + 1) 14 = nI (n + 1) := by rw [ud_e, hw, nI_1]
  generalize hZ : upd (upd (upd z (50 + 2 * n) x) (51 + 2 * n) t) 14 (z 14 + 1) = Z at *
  have k14 : (Z 14).toNatClampNeg = n + 1 := clamp_of' z14 (by omega)
  have k0 : (z 14).toNatClampNeg = n := clamp_of' hw (by omega)
  have gn : ∀ k, k ≠ 35 → va_up X.1 35 (X.1 35 + 1) k = X.1 k := fun k hk => up_n _ _ _ _ hk
  have rn : ∀ k, k ≠ 12 → k ≠ 13 → va_up (va_up X.2 12 (upd (X.2 12) n x)) 13 (upd (X.2 13) n t) k = X.2 k := fun k a b => by rw [up_n _ _ _ _ b, up_n _ _ _ _ a]
  have r12 : va_up (va_up X.2 12 (upd (X.2 12) n x)) 13 (upd (X.2 13) n t) 12 = upd (X.2 12) n x := by rw [up_n _ _ _ _ (by decide), up_e]
  have r13 : va_up (va_up X.2 12 (upd (X.2 12) n x)) 13 (upd (X.2 13) n t) 13 = upd (X.2 13) n t := up_e _ _ _
  obtain ⟨hN, hI, hS, hz, hP, hW, hL⟩ := h
  obtain ⟨nc, c1, c2⟩ := hz.2.1
  have kc : (z 15).toNatClampNeg = nc := clamp_of' c2 (by omega)
  have z15 : Z 15 = z 15 := zn 15 (by omega) (by omega) (by omega)
  refine ⟨?_, ?_, ?_, ?_, ?_, ?_, ?_⟩
  · unfold RN at hN ⊢
    simp only [zn 0 (by omega) (by omega) (by omega), zn 1 (by omega) (by omega) (by omega), zn 2 (by omega) (by omega) (by omega), zn 3 (by omega) (by omega) (by omega), zn 4 (by omega) (by omega) (by omega), zn 5 (by omega) (by omega) (by omega), zn 6 (by omega) (by omega) (by omega), zn 7 (by omega) (by omega) (by omega), zn 8 (by omega) (by omega) (by omega), zn 9 (by omega) (by omega) (by omega), zn 10 (by omega) (by omega) (by omega), zn 11 (by omega) (by omega) (by omega), zn 12 (by omega) (by omega) (by omega), zn 13 (by omega) (by omega) (by omega), zn 17 (by omega) (by omega) (by omega)]
    exact hN
  · unfold IZ at hI ⊢
    simp only [zn 0 (by omega) (by omega) (by omega), zn 1 (by omega) (by omega) (by omega), zn 3 (by omega) (by omega) (by omega), zn 5 (by omega) (by omega) (by omega), zn 7 (by omega) (by omega) (by omega), zn 8 (by omega) (by omega) (by omega), zn 10 (by omega) (by omega) (by omega), zn 12 (by omega) (by omega) (by omega), zn 13 (by omega) (by omega) (by omega)]
    exact hI
  · unfold Sp at hS ⊢
    rw [k14, z15]
    refine ⟨fun k hk => ?_, fun k hk => ?_⟩
    · by_cases q : k = n
      · subst q; rw [z0, z1]; exact ⟨h0, h1, h2⟩
      · rw [zn (50 + 2 * k) (by omega) (by omega) (by omega), zn (51 + 2 * k) (by omega) (by omega) (by omega)]
        exact hS.1 k (by omega)
    · rw [zn (58 + 2 * k) (by omega) (by omega) (by omega), zn (59 + 2 * k) (by omega) (by omega) (by omega)]
      exact hS.2 k hk
  · refine ⟨⟨n + 1, by omega, z14⟩, ⟨nc, c1, z15.trans c2⟩, ?_⟩
    rw [zn 16 (by omega) (by omega) (by omega)]
    exact hz.2.2
  · unfold RP at hP ⊢
    rw [k14, z15]
    refine ⟨?_, hP.2.1, fun k hk => ?_, fun k hk => ?_⟩
    · rw [z14]
      show nI (n + 1) = X.1 35 + 1
      have p1 : z 14 = X.1 35 := hP.1
      rw [← p1, hw, nI_1]
    · show Z (50 + 2 * k) = va_up (va_up X.2 12 (upd (X.2 12) n x)) 13 (upd (X.2 13) n t) 12 k ∧ Z (51 + 2 * k) = va_up (va_up X.2 12 (upd (X.2 12) n x)) 13 (upd (X.2 13) n t) 13 k
      rw [r12, r13]
      by_cases q : k = n
      · subst q; rw [z0, z1, ud_e, ud_e]; exact ⟨rfl, rfl⟩
      · rw [zn (50 + 2 * k) (by omega) (by omega) (by omega), zn (51 + 2 * k) (by omega) (by omega) (by omega), ud_n _ _ _ _ q, ud_n _ _ _ _ q]
        exact hP.2.2.1 k (by omega)
    · rw [zn (58 + 2 * k) (by omega) (by omega) (by omega), zn (59 + 2 * k) (by omega) (by omega) (by omega)]
      exact hP.2.2.2 k hk
  · intro k hk
    obtain ⟨a, c, ha, hb, e1, e2, e3⟩ := hW k hk
    refine ⟨a, c, ha, hb, e1, e2, fun w hw => ?_⟩
    rw [zn (20 + 5 * k + w) (by omega) (by omega) (by omega)]
    exact e3 w hw
  · obtain ⟨K, m, hK, hm, e1, e2, e3, e4⟩ := hL
    refine ⟨K, m, hK, hm, (zn 16 (by omega) (by omega) (by omega)).trans e1, e2, e3, fun j hj => ?_⟩
    rw [zn (70 + 3 * (K - 1 - j)) (by omega) (by omega) (by omega), zn (71 + 3 * (K - 1 - j)) (by omega) (by omega) (by omega), zn (72 + 3 * (K - 1 - j)) (by omega) (by omega) (by omega)]
    exact e4 j hj
theorem rs_cut {X : yS} {z : Nat → Int32} (h : RS 20 10 X z) {n : Nat} (hn : n < 6) (hw : z 15 = nI n) {x t : Int32} (h0 : 0 ≤ x.toInt) (h1 : x.toInt ≤ t.toInt) (h2 : t.toInt ≤ 99999) : RS 20 10 (va_up X.1 36 (X.1 36 + 1), va_up (va_up X.2 14 (upd (X.2 14) n x)) 15 (upd (X.2 15) n t)) (upd (upd (upd z (58 + 2 * n) x) (59 + 2 * n) t) 15 (z 15 + 1)) := by
  have zn : ∀ i, i ≠ 15 → i ≠ 58 + 2 * n → i ≠ 59 + 2 * n → upd (upd (upd z (58 + 2 * n) x) (59 + 2 * n) t) 15 (z 15 + 1) i = z i := fun i a b c => by rw [ud_n _ _ _ _ a, ud_n _ _ _ _ c, ud_n _ _ _ _ b]
  have z0 : upd (upd (upd z (58 + 2 * n) x) (59 + 2 * n) t) 15 (z 15 + 1) (58 + 2 * n) = x := by rw [ud_n _ _ _ _ (by omega), ud_n _ _ _ _ (by omega), ud_e]
  have z1 : upd (upd (upd z (58 + 2 * n) x) (59 + 2 * n) t) 15 (z 15 + 1) (59 + 2 * n) = t := by rw [ud_n _ _ _ _ (by omega), ud_e]
  have z15 : upd (upd (upd z (58 + 2 * n) x) (59 + 2 * n) t) 15 (z 15 + 1) 15 = nI (n + 1) := by rw [ud_e, hw, nI_1]
  generalize hZ : upd (upd (upd z (58 + 2 * n) x) (59 + 2 * n) t) 15 (z 15 + 1) = Z at *
  have k15 : (Z 15).toNatClampNeg = n + 1 := clamp_of' z15 (by omega)
  have k0 : (z 15).toNatClampNeg = n := clamp_of' hw (by omega)
  have r12 : va_up (va_up X.2 14 (upd (X.2 14) n x)) 15 (upd (X.2 15) n t) 14 = upd (X.2 14) n x := by rw [up_n _ _ _ _ (by decide), up_e]
  have r13 : va_up (va_up X.2 14 (upd (X.2 14) n x)) 15 (upd (X.2 15) n t) 15 = upd (X.2 15) n t := up_e _ _ _
  obtain ⟨hN, hI, hS, hz, hP, hW, hL⟩ := h
  obtain ⟨nc, c1, c2⟩ := hz.1
  have kc : (z 14).toNatClampNeg = nc := clamp_of' c2 (by omega)
  have z14 : Z 14 = z 14 := zn 14 (by omega) (by omega) (by omega)
  refine ⟨?_, ?_, ?_, ?_, ?_, ?_, ?_⟩
  · unfold RN at hN ⊢
    simp only [zn 0 (by omega) (by omega) (by omega), zn 1 (by omega) (by omega) (by omega), zn 2 (by omega) (by omega) (by omega), zn 3 (by omega) (by omega) (by omega), zn 4 (by omega) (by omega) (by omega), zn 5 (by omega) (by omega) (by omega), zn 6 (by omega) (by omega) (by omega), zn 7 (by omega) (by omega) (by omega), zn 8 (by omega) (by omega) (by omega), zn 9 (by omega) (by omega) (by omega), zn 10 (by omega) (by omega) (by omega), zn 11 (by omega) (by omega) (by omega), zn 12 (by omega) (by omega) (by omega), zn 13 (by omega) (by omega) (by omega), zn 17 (by omega) (by omega) (by omega)]
    exact hN
  · unfold IZ at hI ⊢
    simp only [zn 0 (by omega) (by omega) (by omega), zn 1 (by omega) (by omega) (by omega), zn 3 (by omega) (by omega) (by omega), zn 5 (by omega) (by omega) (by omega), zn 7 (by omega) (by omega) (by omega), zn 8 (by omega) (by omega) (by omega), zn 10 (by omega) (by omega) (by omega), zn 12 (by omega) (by omega) (by omega), zn 13 (by omega) (by omega) (by omega)]
    exact hI
  · unfold Sp at hS ⊢
    rw [k15, z14]
    refine ⟨fun k hk => ?_, fun k hk => ?_⟩
    · rw [zn (50 + 2 * k) (by omega) (by omega) (by omega), zn (51 + 2 * k) (by omega) (by omega) (by omega)]
      exact hS.1 k hk
    · by_cases q : k = n
      · subst q; rw [z0, z1]; exact ⟨h0, h1, h2⟩
      · rw [zn (58 + 2 * k) (by omega) (by omega) (by omega), zn (59 + 2 * k) (by omega) (by omega) (by omega)]
        exact hS.2 k (by omega)
  · refine ⟨⟨nc, c1, z14.trans c2⟩, ⟨n + 1, by omega, z15⟩, ?_⟩
    rw [zn 16 (by omega) (by omega) (by omega)]
    exact hz.2.2
  · unfold RP at hP ⊢
    rw [k15, z14]
    refine ⟨hP.1, ?_, fun k hk => ?_, fun k hk => ?_⟩
    · rw [z15]
      show nI (n + 1) = X.1 36 + 1
      have p1 : z 15 = X.1 36 := hP.2.1
      rw [← p1, hw, nI_1]
    · rw [zn (50 + 2 * k) (by omega) (by omega) (by omega), zn (51 + 2 * k) (by omega) (by omega) (by omega)]
      exact hP.2.2.1 k hk
    · show Z (58 + 2 * k) = va_up (va_up X.2 14 (upd (X.2 14) n x)) 15 (upd (X.2 15) n t) 14 k ∧ Z (59 + 2 * k) = va_up (va_up X.2 14 (upd (X.2 14) n x)) 15 (upd (X.2 15) n t) 15 k
      rw [r12, r13]
      by_cases q : k = n
      · subst q; rw [z0, z1, ud_e, ud_e]; exact ⟨rfl, rfl⟩
      · rw [zn (58 + 2 * k) (by omega) (by omega) (by omega), zn (59 + 2 * k) (by omega) (by omega) (by omega), ud_n _ _ _ _ q, ud_n _ _ _ _ q]
        exact hP.2.2.2 k (by omega)
  · intro k hk
    obtain ⟨a, c, ha, hb, e1, e2, e3⟩ := hW k hk
    refine ⟨a, c, ha, hb, e1, e2, fun w hw => ?_⟩
    rw [zn (20 + 5 * k + w) (by omega) (by omega) (by omega)]
    exact e3 w hw
  · obtain ⟨K, m, hK, hm, e1, e2, e3, e4⟩ := hL
    refine ⟨K, m, hK, hm, (zn 16 (by omega) (by omega) (by omega)).trans e1, e2, e3, fun j hj => ?_⟩
    rw [zn (70 + 3 * (K - 1 - j)) (by omega) (by omega) (by omega), zn (71 + 3 * (K - 1 - j)) (by omega) (by omega) (by omega), zn (72 + 3 * (K - 1 - j)) (by omega) (by omega) (by omega)]
    exact e4 j hj
