/-! slack, best point, share and digest of class and reference -/
theorem mix_congr {u v : Nat → Int32} : ∀ (n j : Nat) (q : Int64), (∀ k, j ≤ k → k < j + n → u k = v k) → mixF u j n q = mixF v j n q := by
  intro n
  induction n with
  | zero => intro j q _; rfl
  | succ n ih =>
    intro j q h
    simp only [mixF]
    rw [h j (Nat.le_refl _) (by omega)]
    exact ih _ _ (fun k h1 h2 => h k (by omega) (by omega))
section
variable {X : yS} {z g : Nat → Int32} {G : Nat → Nat → Int32}
theorem slack_eq0 (h : RS 20 10 X z) (hL : PL X g G) : slackF X 0 = (if 3 < z 0 then -1 else if firstF 20 10 X (rliftF g G z) = -1 then -1 else firstF 20 10 X (rliftF g G z) - rliftF g G z) := by
  have n0 : z 0 = X.1 20 := h.1.1
  unfold slackF
  rw [if_pos rfl, lift_eq h hL, n0]
theorem slack_eq1 (h : RS 20 10 X z) (hL : PL X g G) {k : Int32} (hk : ¬ k = 0) : slackF X k = (if 3 < z 0 then -1 else if lastF 20 10 X (rliftF g G z) = -1 then -1 else lastF 20 10 X (rliftF g G z) - rliftF g G z) := by
  have n0 : z 0 = X.1 20 := h.1.1
  unfold slackF
  rw [if_neg hk, lift_eq h hL, n0]
/-- the first open second of a point -/
def ptF (X : yS) (k : Nat) : Int32 := firstF 20 10 X (recF 20 X (nI k))
theorem pt_fst (h : RS 20 10 X z) (hL : PL X g G) (k : Nat) : Fst (ropB z) false (rrecF g G z (nI k)) (ptF X k) := by
  rw [← rec_eq h hL]
  exact first_fst h _
theorem best_eq (h : RS 20 10 X (G 60)) (hL : PL X g G) : ∀ (n j : Nat) (B C : Int32 × Int32), j + n ≤ 4 → ((B.1 = -1 ∧ C = (-1, 100000)) ∨ (∃ k, k < 4 ∧ B.1 = nI k ∧ C = B ∧ 0 ≤ B.2.toInt ∧ B.2.toInt ≤ 99999)) → bestF X j n B = rbestF g G (ptF X) j n C := by
  intro n
  induction n with
  | zero =>
    intro j B C _ hB
    simp only [bestF, rbestF]
    rcases hB with ⟨b1, b2⟩ | ⟨k, -, b1, b2, -⟩
    · rw [b1, b2]
    · rw [b2]
  | succ n ih =>
    intro j B C hj hB
    simp only [bestF, rbestF]
    refine ih (j + 1) _ _ (by omega) ?_
    have r4 : X.2 4 = G 68 := hL.2.2.2.2.2.2.2.2.2.1
    have hF : firstF 20 10 X (recF 20 X (nI j)) = ptF X j := rfl
    have hfst := pt_fst h hL j
    unfold bestS rbestS
    rw [hF, ← rec_eq h hL]
    by_cases q1 : recF 20 X (nI j) = -1
    · rw [if_pos q1, if_pos q1]; exact hB
    rw [if_neg q1, if_neg q1]
    by_cases q2 : ptF X j = -1
    · rw [if_pos q2, if_pos q2]; exact hB
    rw [if_neg q2, if_neg q2]
    have hr : 0 ≤ (ptF X j).toInt ∧ (ptF X j).toInt ≤ 99999 := by
      rcases hfst with ⟨f1, -⟩ | ⟨-, -, f3, -⟩
      · exact absurd f1 q2
      · exact rop_rng h.2.2.1 f3
    rcases hB with ⟨b1, b2⟩ | ⟨k, k4, b1, b2, b3, b4⟩
    · subst b2
      have e5 : (100000 : Int32).toInt = 100000 := rfl
      have hlt : ptF X j < (-1, (100000 : Int32)).2 := by
        rw [lt_toInt]
        show _ < (100000 : Int32).toInt
        omega
      rw [if_pos b1, if_pos hlt]
      exact Or.inr ⟨j, by omega, rfl, rfl, hr.1, hr.2⟩
    · subst b2
      have b0 : ¬ C.1 = -1 := by rw [b1]; exact nm1 (by omega)
      have hc : (nI j).toNatClampNeg = j := nI_clamp (by omega)
      rw [if_neg b0]
      unfold bestB
      rw [r4, hc]
      by_cases q3 : ptF X j = C.2
      · rw [if_pos q3, if_neg (show ¬ ptF X j < C.2 by rw [q3, lt_toInt]; omega)]
        by_cases q4 : G 68 j < G 68 C.1.toNatClampNeg
        · rw [if_pos (decide_eq_true q4), if_pos ⟨q3, b0, q4⟩]
          exact Or.inr ⟨j, by omega, rfl, rfl, hr.1, hr.2⟩
        · rw [if_neg (fun w => q4 (of_decide_eq_true w)), if_neg (fun w => q4 w.2.2)]
          exact Or.inr ⟨k, k4, b1, rfl, b3, b4⟩
      · rw [if_neg q3]
        by_cases q4 : ptF X j < C.2
        · rw [if_pos (decide_eq_true q4), if_pos q4]
          exact Or.inr ⟨j, by omega, rfl, rfl, hr.1, hr.2⟩
        · rw [if_neg (fun w => q4 (of_decide_eq_true w)), if_neg q4, if_neg (fun w => q3 w.1)]
          exact Or.inr ⟨k, k4, b1, rfl, b3, b4⟩
theorem best_all (h : RS 20 10 X (G 60)) (hL : PL X g G) (hP : Pp g G) : bestF X 0 (nP X) (-1, -1) = rbestF g G (ptF X) 0 (rP g) (-1, 100000) := by
  obtain ⟨n, n1, n2⟩ := hP.2.2.1
  have l4 : X.1 4 = g 124 := hL.2.2.2.1
  have e : nP X = rP g := by unfold nP rP; rw [l4]
  have e2 : rP g = n := clamp_of' n2 (by omega)
  rw [e]
  exact best_eq h hL _ _ _ _ (by omega) (Or.inl ⟨rfl, rfl⟩)
/-- the seconds since the start -/
theorem since_eq (h : RS 20 10 X z) : sinF X = rshF z ∧ ∃ m, m ≤ 99999 ∧ rshF z = nI m := by
  obtain ⟨n0, n1, n2, n3, n4, n5, n6, n7, n8, n9, n11, n12, n13, n17, n10⟩ := h.1
  obtain ⟨C, hC, hC2, hh⟩ := h.2.1.1
  have e1 : z 1 = X.1 21 := n1
  have e3 : z 3 = X.1 32 := n3
  unfold sinF rshF
  rw [← e1, ← e3, hC2]
  rcases hh with ⟨s1, s2, -, -⟩ | ⟨s, r, s1, s2, s3, s4, -, -⟩
  · rw [s1, s2, if_pos rfl, if_pos rfl]
    exact ⟨rfl, 0, by decide, rfl⟩
  · have hn : ¬ z 10 = -1 := by rw [s3]; exact nm1 (by omega)
    have e10 : z 10 = X.1 23 := by
      rcases n10 with w | w
      · exact absurd w hn
      · exact w
    have hz3 : ¬ z 3 = 0 := by rw [s4]; exact nI_ne0 (by omega) (by omega)
    rw [if_neg hz3, if_neg hn, ← e10, s3, sub_nI s1]
    exact ⟨rfl, C - s, by omega, rfl⟩
/-- the share, class and reference -/
def shareF (z : Nat → Int32) : UInt64 := if rshF z = 0 then FP.dconst0 else FP.ddiv (FP.i2d (z 4)) (FP.i2d (rshF z))
theorem share_eq (h : RS 20 10 X z) : (if 0 < sinF X then FP.ddiv (FP.i2d (X.1 28)) (FP.i2d (sinF X)) else FP.dconst0) = shareF z := by
  have n4 : z 4 = X.1 28 := h.1.2.2.2.2.1
  obtain ⟨e, m, m1, m2⟩ := since_eq h
  unfold shareF
  rw [e, ← n4]
  rcases Nat.eq_zero_or_pos m with q | q
  · subst q
    have q1 : rshF z = 0 := m2
    rw [q1, if_neg (by decide), if_pos rfl]
  · have q1 : ¬ rshF z = 0 := by rw [m2]; exact nI_ne0 q (by omega)
    have q2 : 0 < rshF z := by rw [m2]; exact nI_lt (a := 0) q (by omega)
    rw [if_pos q2, if_neg q1]
theorem lmix_eq (h : RS 20 10 X z) {K : Nat} (hK : K ≤ 24) (hz : z 16 = nI K) : ∀ (n j : Nat) (q : Int64), j + n = K → lmixF X j n q = rlmF z j n q := by
  intro n
  induction n with
  | zero => intro j q _; rfl
  | succ n ih =>
    intro j q hj
    have hlt : nI j < z 16 := by rw [hz]; exact nI_lt (by omega) (by omega)
    have p0 : partF X (nI j) 0 = entF z j 0 := part_eq (w := 0) h hlt (by omega) (by decide)
    have p1 : partF X (nI j) 1 = entF z j 1 := part_eq (w := 1) h hlt (by omega) (by decide)
    have p2 : partF X (nI j) 2 = entF z j 2 := part_eq (w := 2) h hlt (by omega) (by decide)
    simp only [lmixF, rlmF]
    rw [p0, p1, p2]
    exact ih _ _ (by omega)
theorem pmix_eq (h : RS 20 10 X z) (hL : PL X g G) {N : Nat} (hN : N ≤ 6) : ∀ (n j : Nat) (q : Int64), j + n = N → pmixF X j n q = mixF (fun k => rpropF G z (k / 4) (nI (k % 4))) (4 * j) (4 * n) q := by
  intro n
  induction n with
  | zero => intro j q _; rfl
  | succ n ih =>
    intro j q hj
    have p0 : propF X (nI j) 0 = rpropF G z j 0 := prop_eq h hL (by omega) (by decide)
    have p1 : propF X (nI j) 1 = rpropF G z j 1 := prop_eq h hL (by omega) (by decide)
    have p2 : propF X (nI j) 2 = rpropF G z j 2 := prop_eq h hL (by omega) (by decide)
    have p3 : propF X (nI j) 3 = rpropF G z j 3 := prop_eq h hL (by omega) (by decide)
    rw [show 4 * (n + 1) = 4 * n + 1 + 1 + 1 + 1 by omega]
    simp only [pmixF, mixF]
    rw [show 4 * j / 4 = j by omega, show (4 * j + 1) / 4 = j by omega, show (4 * j + 1 + 1) / 4 = j by omega, show (4 * j + 1 + 1 + 1) / 4 = j by omega, show 4 * j % 4 = 0 by omega, show (4 * j + 1) % 4 = 1 by omega, show (4 * j + 1 + 1) % 4 = 2 by omega, show (4 * j + 1 + 1 + 1) % 4 = 3 by omega, p0, p1, p2, p3, ih (j + 1) _ (by omega), show 4 * (j + 1) = 4 * j + 1 + 1 + 1 + 1 by omega]
    rfl
theorem dig_eq (h : RS 20 10 X (G 60)) (hL : PL X g G) (hP : Pp g G) (hB : RB X g G) : digF X = rdigF g G (slackF X 0) (slackF X 1) (bestF X 0 (nP X) (-1, -1)) := by
  obtain ⟨N, b1, b2, b3, b4, -⟩ := hB
  have l2 : X.1 2 = g 122 := hL.2.1
  have l4 : X.1 4 = g 124 := hL.2.2.2.1
  have l5 : X.1 5 = g 125 := hL.2.2.2.2.1
  have eE : nE X = rE g := by unfold nE rE; rw [l2]
  have eP : nP X = rP g := by unfold nP rP; rw [l4]
  have eC : nC X = rC g := by unfold nC rC; rw [l5]
  obtain ⟨K, n, k1, -, k2, k3, -⟩ := h.2.2.2.2.2.2
  have k3' : X.1 38 = nI K := k3
  obtain ⟨nc, c1, c2⟩ := hP.2.2.2.1
  have hrc : rC g = nc := clamp_of' c2 (by omega)
  have eB : bN X = N := clamp_of' b2 (by omega)
  have eB2 : (g 126).toNatClampNeg = N := clamp_of' b3 (by omega)
  have eK : kN X = K := clamp_of' k3' (by omega)
  have eK2 : (G 60 16).toNatClampNeg = K := clamp_of' k2 (by omega)
  unfold digF rdigF outF
  rw [eB, eB2, eK, eK2, eE, eP, eC, b2, b3, hrc]
  rw [mix_congr (u := X.2 8) (v := G 72) N 0 _ (fun k _ hk => b4 k (by omega)), lmix_eq h k1 k2 K 0 _ (by omega), pmix_eq h hL c1 nc 0 _ (by omega), lift_eq h hL]
  rw [mix_congr (u := fun j => recF 20 X (nI j)) (v := fun j => rrecF g G (G 60) (nI j)) _ _ _ (fun k _ _ => rec_eq h hL _), mix_congr (u := fun j => firingF 20 X (nI j)) (v := fun j => expF g G (G 60) (nI j)) _ _ _ (fun k _ _ => exp_eq h hL _), mix_congr (u := fun j => itF X (nI j)) (v := fun j => ritF g (G 60) (nI j)) _ _ _ (fun k _ _ => it_eq h hL _), mix_congr (u := fun j => numF 20 X (nI j)) (v := fun j => toldF g (G 60) (nI j)) _ _ _ (fun k _ _ => num_eq h hL _)]
end
