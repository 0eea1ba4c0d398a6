/-! carrying out a script, class and reference -/
theorem cS_7 {t : Nat → Int32} {a : Nat} (h : (cS t a).1 = 7) : ∀ n, (cS t (a + n)).1 = 7 := by
  intro n
  induction n with
  | zero => exact h
  | succ n ih =>
    show nbF (cS t (a + n)).1 (cS t (a + n)).2.1 (t (a + n)) = 7
    rw [ih]
    rfl
/-- a complete script: at each place the reader stands well -/
theorem cS_in {t : Nat → Int32} {N : Nat} (hN : N < 2 ^ 31) (hs : (cS t N).1 = 1 ∨ (cS t N).1 = 6) {a : Nat} (ha : a ≤ N) : ∃ g : Nat → Int32, MG (cS t a).1 (cS t a).2.1 g := by
  rcases rd_all t (fun _ => 0) a (by omega) with ⟨-, -, h3⟩ | ⟨e, -, -, h3, -⟩
  · exact ⟨_, h3⟩
  · have := cS_7 h3 (N - a)
    rw [show a + (N - a) = N by omega] at this
    rw [this] at hs
    exact absurd hs (by decide)
theorem cS_n7 {t : Nat → Int32} {N : Nat} (hN : N < 2 ^ 31) (hs : (cS t N).1 = 1 ∨ (cS t N).1 = 6) {a : Nat} (ha : a < N) : ¬ nbF (cS t a).1 (cS t a).2.1 (t a) = 7 := by
  intro h
  have h3 : (cS t (a + 1)).1 = 7 := h
  have := cS_7 h3 (N - (a + 1))
  rw [show a + 1 + (N - (a + 1)) = N by omega] at this
  rw [this] at hs
  exact absurd hs (by decide)
theorem cS_lt {t : Nat → Int32} {N : Nat} (hs : (cS t N).1 = 1 ∨ (cS t N).1 = 6) {a : Nat} {q : Int32} (ha : a ≤ N) (h : (cS t a).1 = q) (h1 : ¬ q = 1) (h6 : ¬ q = 6) : a < N := by
  rcases Nat.lt_or_ge a N with h2 | h2
  · exact h2
  · have : a = N := by omega
    subst this
    rw [h] at hs
    rcases hs with e | e
    · exact absurd e h1
    · exact absurd e h6
theorem cS_dig {t : Nat → Int32} {N : Nat} (hN : N < 2 ^ 31) (hs : (cS t N).1 = 1 ∨ (cS t N).1 = 6) {a : Nat} {q r : Int32} (ha : a ≤ N) (h : (cS t a).1 = q) (h1 : ¬ q = 1) (h6 : ¬ q = 6) (hq : ∀ num x, nbF q num x = if digB x = true then r else 7) : a < N ∧ digB (t a) = true ∧ (cS t (a + 1)).1 = r := by
  have hlt := cS_lt hs ha h h1 h6
  have h7 := cS_n7 hN hs hlt
  rw [h, hq] at h7
  cases hd : digB (t a)
  · rw [hd] at h7; exact absurd rfl h7
  · refine ⟨hlt, rfl, ?_⟩
    show nbF (cS t a).1 (cS t a).2.1 (t a) = r
    rw [h, hq, hd]; rfl
theorem nic_of {x : Int32} (h : ¬ nicF x = 7) : x = 43 ∨ x = 99 ∨ x = 104 ∨ x = 114 ∨ x = 115 ∨ x = 118 ∨ x = 120 := by
  unfold nicF at h
  by_cases c1 : x = 43
  · exact Or.inl c1
  by_cases c2 : x = 99
  · exact Or.inr (Or.inl c2)
  by_cases c3 : x = 104
  · exact Or.inr (Or.inr (Or.inl c3))
  by_cases c4 : x = 114
  · exact Or.inr (Or.inr (Or.inr (Or.inl c4)))
  by_cases c5 : x = 115
  · exact Or.inr (Or.inr (Or.inr (Or.inr (Or.inl c5))))
  by_cases c6 : x = 118
  · exact Or.inr (Or.inr (Or.inr (Or.inr (Or.inr (Or.inl c6)))))
  by_cases c7 : x = 120
  · exact Or.inr (Or.inr (Or.inr (Or.inr (Or.inr (Or.inr c7)))))
  simp only [c1, c2, c3, c4, c5, c6, c7, if_false, not_true_eq_false] at h
theorem nb_59 (nx num : Int32) : nbF nx num 59 = 0 ∨ nbF nx num 59 = 7 := by
  have e1 : nicF 59 = 7 := rfl
  have e2 : digB 59 = false := rfl
  have e3 : ninF num 59 = 0 := rfl
  unfold nbF
  rw [e1, e2, e3]
  split
  · exact Or.inr rfl
  split
  · exact Or.inl rfl
  split
  · exact Or.inr rfl
  split
  · exact Or.inr rfl
  split
  · exact Or.inr rfl
  split
  · exact Or.inr rfl
  split
  · exact Or.inl rfl
  · exact Or.inr rfl
/-- the number behind a plus -/
theorem num_eqR {t v : Nat → Int32} {N : Nat} (hN : N < 2 ^ 31) (hs : (cS t N).1 = 1 ∨ (cS t N).1 = 6) (hv : ∀ k, k < N → v k = t k) : ∀ n j, j + n = N → (cS t j).1 = 6 → ∃ m, 1 ≤ m ∧ m ≤ 600 ∧ numAtF v j n (cS t j).2.1 = nI m ∧ rnumF t j n (cS t j).2.1 = nI m := by
  intro n
  induction n with
  | zero =>
    intro j hj h6
    obtain ⟨g, hg⟩ := cS_in hN hs (a := j) (by omega)
    unfold MG Mt at hg
    rw [h6] at hg
    rcases hg with ⟨e, -⟩ | ⟨e, -⟩ | ⟨e, -⟩ | ⟨e, -⟩ | ⟨e, -⟩ | ⟨e, -⟩ | ⟨-, -, -, -, -, m, m1, m2, m3⟩
    · exact absurd e (by decide)
    · exact absurd e (by decide)
    · exact absurd e (by decide)
    · exact absurd e (by decide)
    · exact absurd e (by decide)
    · exact absurd e (by decide)
    · exact ⟨m, m1, m2, m3, m3⟩
  | succ n ih =>
    intro j hj h6
    simp only [numAtF, rnumF]
    rw [hv j (by omega)]
    by_cases c : t j = 59
    · obtain ⟨g, hg⟩ := cS_in hN hs (a := j) (by omega)
      unfold MG Mt at hg
      rw [h6] at hg
      rw [c, if_neg (by decide), if_pos rfl]
      rcases hg with ⟨e, -⟩ | ⟨e, -⟩ | ⟨e, -⟩ | ⟨e, -⟩ | ⟨e, -⟩ | ⟨e, -⟩ | ⟨-, -, -, -, -, m, m1, m2, m3⟩
      · exact absurd e (by decide)
      · exact absurd e (by decide)
      · exact absurd e (by decide)
      · exact absurd e (by decide)
      · exact absurd e (by decide)
      · exact absurd e (by decide)
      · exact ⟨m, m1, m2, m3, m3⟩
    · have h7 := cS_n7 hN hs (a := j) (by omega)
      have hnb : nbF (cS t j).1 (cS t j).2.1 (t j) = if t j = 59 then 0 else if digB (t j) = true then (if 600 < (cS t j).2.1 * 10 + t j - 48 then 7 else 6) else 7 := by
        rw [h6]; rfl
      rw [hnb, if_neg c] at h7
      cases hd : digB (t j)
      · rw [hd] at h7; exact absurd rfl h7
      · have h8 : (cS t (j + 1)).1 = 6 := by
          show nbF (cS t j).1 (cS t j).2.1 (t j) = 6
          rw [hnb, if_neg c, hd, if_pos rfl]
          rw [hd, if_pos rfl] at h7
          by_cases q : 600 < (cS t j).2.1 * 10 + t j - 48
          · rw [if_pos q] at h7; exact absurd rfl h7
          · rw [if_neg q]
        have h9 : (cS t (j + 1)).2.1 = (cS t j).2.1 * 10 + t j - 48 := by
          have h8' : nbF (cS t j).1 (cS t j).2.1 (t j) = 6 := h8
          show (if nbF (cS t j).1 (cS t j).2.1 (t j) = 6 then (cS t j).2.1 * 10 + t j - 48 else 0) = _
          rw [if_pos h8']
        have ha : (cS t j).2.1 * 10 + (t j - 48) = (cS t (j + 1)).2.1 := by
          rw [h9, Int32.sub_eq_add_neg, Int32.sub_eq_add_neg, Int32.add_assoc]
        have hb : 10 * (cS t j).2.1 + (t j - 48) = (cS t (j + 1)).2.1 := by
          rw [Int32.mul_comm, ha]
        rw [if_pos rfl, if_neg c, ha, hb]
        exact ih (j + 1) (by omega) h8
theorem num_plus {t v : Nat → Int32} {N : Nat} (hN : N < 2 ^ 31) (hs : (cS t N).1 = 1 ∨ (cS t N).1 = 6) (hv : ∀ k, k < N → v k = t k) {a : Nat} (ha : a ≤ N) (h5 : (cS t a).1 = 5) : ∃ m, 1 ≤ m ∧ m ≤ 600 ∧ numAtF v a (N - a) 0 = nI m ∧ rnumF t a (N - a) 0 = nI m := by
  have hlt := cS_lt hs ha h5 (by decide) (by decide)
  have h7 := cS_n7 hN hs hlt
  obtain ⟨g, hg⟩ := cS_in hN hs (a := a) (by omega)
  have h0 : (cS t a).2.1 = 0 := by
    unfold MG Mt at hg
    rw [h5] at hg
    rcases hg with ⟨e, -⟩ | ⟨e, -⟩ | ⟨e, -⟩ | ⟨e, -⟩ | ⟨e, -⟩ | ⟨-, e, -⟩ | ⟨e, -⟩
    · exact absurd e (by decide)
    · exact absurd e (by decide)
    · exact absurd e (by decide)
    · exact absurd e (by decide)
    · exact absurd e (by decide)
    · exact e
    · exact absurd e (by decide)
  have hnb : nbF (cS t a).1 (cS t a).2.1 (t a) = if digB (t a) = true then (if t a = 48 then 7 else 6) else 7 := by
    rw [h5]; rfl
  rw [hnb] at h7
  obtain ⟨n, hn⟩ : ∃ n, N - a = n + 1 := ⟨N - a - 1, by omega⟩
  rw [hn]
  simp only [numAtF, rnumF]
  rw [hv a hlt]
  cases hd : digB (t a)
  · rw [hd] at h7; exact absurd rfl h7
  · rw [hd, if_pos rfl] at h7
    have c8 : ¬ t a = 48 := fun q => h7 (if_pos q)
    have c59 : ¬ t a = 59 := fun q => by rw [q] at hd; exact absurd hd (by decide)
    have h8 : (cS t (a + 1)).1 = 6 := by
      show nbF (cS t a).1 (cS t a).2.1 (t a) = 6
      rw [hnb, hd, if_pos rfl, if_neg c8]
    have h9 : (cS t (a + 1)).2.1 = (cS t a).2.1 * 10 + t a - 48 := by
      have h8' : nbF (cS t a).1 (cS t a).2.1 (t a) = 6 := h8
      show (if nbF (cS t a).1 (cS t a).2.1 (t a) = 6 then (cS t a).2.1 * 10 + t a - 48 else 0) = _
      rw [if_pos h8']
    have hx : 0 * 10 + (t a - 48) = (cS t (a + 1)).2.1 := by
      rw [h9, h0, Int32.sub_eq_add_neg, Int32.sub_eq_add_neg, Int32.add_assoc]
    have hy : 10 * 0 + (t a - 48) = (cS t (a + 1)).2.1 := by
      rw [Int32.mul_comm, hx]
    rw [if_pos rfl, if_neg c59, hx, hy]
    exact num_eqR hN hs hv n (a + 1) (by omega) h8
/-- a command begins here, or the script is over -/
def okS (t : Nat → Int32) (N a : Nat) : Prop := a = N + 1 ∨ (a ≤ N ∧ (cS t a).1 = 0)
theorem fe_spec (P : Nat → Bool) : ∀ n j, fe P j n = j + n ∨ (j ≤ fe P j n ∧ fe P j n < j + n ∧ P (fe P j n) = true) := by
  intro n
  induction n with
  | zero => intro j; exact Or.inl rfl
  | succ n ih =>
    intro j
    simp only [fe]
    cases hp : P j
    · rw [if_neg (by decide)]
      rcases ih (j + 1) with h | ⟨h1, h2, h3⟩
      · left; omega
      · right; exact ⟨by omega, by omega, h3⟩
    · rw [if_pos rfl]
      right
      exact ⟨Nat.le_refl _, by omega, hp⟩
theorem fe_congr {P Q : Nat → Bool} : ∀ n j, (∀ k, j ≤ k → k < j + n → P k = Q k) → fe P j n = fe Q j n := by
  intro n
  induction n with
  | zero => intro j _; rfl
  | succ n ih =>
    intro j h
    simp only [fe]
    rw [h j (Nat.le_refl _) (by omega), ih (j + 1) (fun k h1 h2 => h k (by omega) (by omega))]
section
variable {t : Nat → Int32} {N : Nat}
theorem okS_next (hN : N < 2 ^ 31) (hs : (cS t N).1 = 1 ∨ (cS t N).1 = 6) {a : Nat} (ha : a < N) : okS t N (fe (fun k => decide (t k = 59)) a (N - a) + 1) := by
  rcases fe_spec (fun k => decide (t k = 59)) (N - a) a with h | ⟨h1, h2, h3⟩
  · left; omega
  · right
    refine ⟨by omega, ?_⟩
    generalize fe (fun k => decide (t k = 59)) a (N - a) = e at *
    have h4 : t e = 59 := of_decide_eq_true h3
    have h7 := cS_n7 hN hs (a := e) (by omega)
    show nbF (cS t e).1 (cS t e).2.1 (t e) = 0
    rw [h4] at h7 ⊢
    rcases nb_59 (cS t e).1 (cS t e).2.1 with q | q
    · exact q
    · exact absurd q h7
theorem okS_first (hN : N < 2 ^ 31) (hs : (cS t N).1 = 1 ∨ (cS t N).1 = 6) {a : Nat} (ho : okS t N a) (ha : a < N) : (cS t (a + 1)).1 = nicF (t a) ∧ (t a = 43 ∨ t a = 99 ∨ t a = 104 ∨ t a = 114 ∨ t a = 115 ∨ t a = 118 ∨ t a = 120) := by
  rcases ho with ho | ⟨-, h0⟩
  · omega
  · have h7 := cS_n7 hN hs ha
    have hnb : nbF (cS t a).1 (cS t a).2.1 (t a) = nicF (t a) := by rw [h0]; rfl
    rw [hnb] at h7
    exact ⟨hnb, nic_of h7⟩
theorem okS_c (hN : N < 2 ^ 31) (hs : (cS t N).1 = 1 ∨ (cS t N).1 = 6) {a : Nat} (ho : okS t N a) (ha : a < N) (hc : t a = 99) : a + 1 < N ∧ digB (t (a + 1)) = true := by
  have h1 := (okS_first hN hs ho ha).1
  rw [hc] at h1
  have := cS_dig (r := 1) hN hs (a := a + 1) (by omega) h1 (by decide) (by decide) (fun _ _ => rfl)
  exact ⟨this.1, this.2.1⟩
theorem okS_v (hN : N < 2 ^ 31) (hs : (cS t N).1 = 1 ∨ (cS t N).1 = 6) {a : Nat} (ho : okS t N a) (ha : a < N) (hc : t a = 118) : a + 3 < N ∧ digB (t (a + 1)) = true ∧ digB (t (a + 2)) = true ∧ digB (t (a + 3)) = true := by
  have h1 := (okS_first hN hs ho ha).1
  rw [hc] at h1
  have h2 := cS_dig (r := 3) hN hs (a := a + 1) (by omega) h1 (by decide) (by decide) (fun _ _ => rfl)
  have h3 := cS_dig (r := 2) hN hs (a := a + 2) (by omega) h2.2.2 (by decide) (by decide) (fun _ _ => rfl)
  have h4 := cS_dig (r := 1) hN hs (a := a + 3) (by omega) h3.2.2 (by decide) (by decide) (fun _ _ => rfl)
  exact ⟨h4.1, h2.2.1, h3.2.1, h4.2.1⟩
theorem okS_okA (hN : N < 2 ^ 31) (hs : (cS t N).1 = 1 ∨ (cS t N).1 = 6) {a : Nat} (ho : okS t N a) (ha : a < N) : okA t N a := by
  refine ⟨ha, fun _ => by omega, fun q => (okS_c hN hs ho ha q).1, fun q1 q2 q3 q4 q5 q6 => ?_⟩
  rcases (okS_first hN hs ho ha).2 with e | e | e | e | e | e | e
  · exact absurd e q1
  · exact absurd e q2
  · exact absurd e q3
  · exact absurd e q4
  · exact absurd e q5
  · exact (okS_v hN hs ho ha e).1
  · exact absurd e q6
end
theorem sub_nI {a b : Nat} (h : b ≤ a) : nI a - nI b = nI (a - b) := by
  have e : nI a = nI (a - b) + nI b := by rw [nI_add, Nat.sub_add_cancel h]
  rw [e, Int32.add_sub_cancel]
theorem adv_a {C m : Nat} (hC : C ≤ 99999) (hm : m ≤ 1000000) : 99999 - nI C < nI m ↔ 99999 < C + m := by
  have e : (99999 : Int32) - nI C = nI (99999 - C) := sub_nI (a := 99999) hC
  rw [e, nI_ltI (by omega) (by omega)]
  omega
theorem adv_b {C m : Nat} (hC : C ≤ 99999) (hm : m ≤ 1000000) : 99999 < nI C + nI m ↔ 99999 < C + m := by
  rw [nI_add]
  exact nI_ltI (a := 99999) (by decide) (by omega)
theorem lt5_4 (v : Int32) : ¬ v < 5 ↔ 4 < v := by
  rw [lt_toInt, lt_toInt]
  have a1 : (5 : Int32).toInt = 5 := rfl
  have a2 : (4 : Int32).toInt = 4 := rfl
  omega
/-- three ways to write the range of a vote -/
theorem vote_rng {x : Int32} (h : ¬ (x < 0 ∨ 2 < x)) : x = 0 ∨ x = 1 ∨ x = 2 := by
  refine lt3 (fun q => h (Or.inl q)) ?_
  have h2 : ¬ 2 < x := fun q => h (Or.inr q)
  rw [lt_toInt] at h2 ⊢
  have a1 : (3 : Int32).toInt = 3 := rfl
  have a2 : (2 : Int32).toInt = 2 := rfl
  omega
theorem le4_lt5 {v : Int32} (h0 : ¬ v < 0) (h4 : ¬ 4 < v) : ∃ V, V < 5 ∧ v = nI V := by
  obtain ⟨j, hj, rfl⟩ := nI_of h0
  refine ⟨j, ?_, rfl⟩
  have h5 : ¬ 4 < j := fun q => h4 ((nI_ltI (a := 4) (by decide) hj).mpr q)
  omega
theorem n10 : ¬ (1 : Int32) = 0 := by decide
theorem n20 : ¬ (2 : Int32) = 0 := by decide
/-- a command of the script on both sides -/
theorem car_eq {X : yS} {z g : Nat → Int32} {G : Nat → Nat → Int32} (h : RS 20 10 X z) (hL : PL X g G) (hI : PI g G) {N a : Nat} (hN : N ≤ 60) (h6 : X.1 6 = nI N) (h8 : ∀ k, k < N → X.2 8 k = G 72 k) (hs : (cS (G 72) N).1 = 1 ∨ (cS (G 72) N).1 = 6) (ho : okS (G 72) N a) (ha : a < N) : (carF X a = none ∧ ¬ (rcarF g G N a z).1 = 0 ∧ (rcarF g G N a z).2 = z) ∨ (∃ Y, carF X a = some Y ∧ (rcarF g G N a z).1 = 0 ∧ RS 20 10 Y (rcarF g G N a z).2) := by
  have hP := hI.1
  have hcode : ∀ k, k < N → codeF X (nI k) = G 72 k := by
    intro k hk
    unfold codeF
    rw [if_neg (nI_nneg (by omega)), h6, if_pos (nI_lt hk (by omega)), nI_clamp (by omega)]
    exact h8 k hk
  have hdg : ∀ k, k < N → digB (G 72 k) = true → dgtF X (nI k) = G 72 k - 48 := by
    intro k hk hd
    unfold dgtF
    rw [hcode k hk, if_pos hd]
  have hbn : bN X = N := clamp_of' h6 (by omega)
  have hN' : N < 2 ^ 31 := by omega
  have n1 : z 1 = X.1 21 := h.1.2.1
  obtain ⟨C, hC, hC2, -⟩ := h.2.1.1
  have l4 : X.1 4 = g 124 := hL.2.2.2.1
  have l5 : X.1 5 = g 125 := hL.2.2.2.2.1
  have hcmd : ∀ k : Int32, (k = 0 ∨ k = 1 ∨ k = 2 ∨ k = 3) → ((if allowF 20 10 X k = true then some (obeyF 20 10 X k) else none) = none ∧ ¬ (rcmdF g G z k).1 = 0 ∧ (rcmdF g G z k).2 = z) ∨ (∃ Y, (if allowF 20 10 X k = true then some (obeyF 20 10 X k) else none) = some Y ∧ (rcmdF g G z k).1 = 0 ∧ RS 20 10 Y (rcmdF g G z k).2) := by
    intro k hk
    unfold rcmdF
    rw [← may_eq h hL hP hk]
    cases hal : allowF 20 10 X k
    · left
      rw [if_neg (by decide), if_neg (by decide)]
      exact ⟨rfl, n20, rfl⟩
    · right
      rw [if_pos rfl, if_pos rfl]
      exact ⟨_, rfl, rfl, rs_obey h hk hal⟩
  unfold carF rcarF
  rw [hcode a ha]
  rcases (okS_first hN' hs ho ha).2 with e | e | e | e | e | e | e
  · rw [if_pos e, if_pos e]
    have h5 : (cS (G 72) (a + 1)).1 = 5 := by rw [(okS_first hN' hs ho ha).1, e]; rfl
    obtain ⟨m, m1, m2, m3, m4⟩ := num_plus hN' hs h8 (a := a + 1) (by omega) h5
    have hneg : ¬ (nI m < 1 ∨ 600 < nI m) := fun q => q.elim (fun w => absurd w (nI_nlt (b := 1) m1 (by omega))) (fun w => absurd ((m_600 (by omega)).mp w) (by omega))
    rw [hbn, m3, m4, nI_clamp (by omega), if_neg hneg, ← n1, hC2]
    by_cases q : 99999 < C + m
    · left
      rw [if_pos ((adv_a hC (by omega)).mpr q), if_pos ((adv_b hC (by omega)).mpr q)]
      exact ⟨rfl, n20, rfl⟩
    · right
      rw [if_neg (fun w => q ((adv_a hC (by omega)).mp w)), if_neg (fun w => q ((adv_b hC (by omega)).mp w))]
      exact ⟨_, rfl, rfl, rs_secs (by decide) (by decide) hI m X z C h hL hC2 (by omega)⟩
  · have e1 : ¬ G 72 a = 43 := by rw [e]; decide
    rw [if_neg e1, if_pos e, if_neg e1, if_pos e]
    obtain ⟨c1, c2⟩ := okS_c hN' hs ho ha e
    rw [hdg (a + 1) c1 c2, l4, mayR_eq h hL]
    generalize G 72 (a + 1) - 48 = k
    by_cases q1 : k < 0 ∨ ¬ k < g 124
    · left
      rw [if_pos q1, if_pos (q1.elim Or.inl (fun w => Or.inr (Or.inl w)))]
      exact ⟨rfl, n10, rfl⟩
    · rw [if_neg q1]
      cases q2 : rmayR G z k
      · left
        rw [if_pos (Or.inr (Or.inr rfl)), if_pos rfl]
        exact ⟨rfl, n20, rfl⟩
      · right
        rw [if_neg (fun w => w.elim (fun v => q1 (Or.inl v)) (fun v => v.elim (fun u => q1 (Or.inr u)) (fun u => absurd u (by decide)))), if_neg (by decide)]
        exact ⟨_, rfl, rfl, rs_back h hL k (by rw [mayR_eq h hL, q2])⟩
  · have e1 : ¬ G 72 a = 43 := by rw [e]; decide
    have e2 : ¬ G 72 a = 99 := by rw [e]; decide
    rw [if_neg e1, if_neg e2, if_pos e, if_neg e1, if_neg e2, if_pos e]
    exact hcmd 1 (by decide)
  · have e1 : ¬ G 72 a = 43 := by rw [e]; decide
    have e2 : ¬ G 72 a = 99 := by rw [e]; decide
    have e3 : ¬ G 72 a = 104 := by rw [e]; decide
    rw [if_neg e1, if_neg e2, if_neg e3, if_pos e, if_neg e1, if_neg e2, if_neg e3, if_pos e]
    exact hcmd 2 (by decide)
  · have e1 : ¬ G 72 a = 43 := by rw [e]; decide
    have e2 : ¬ G 72 a = 99 := by rw [e]; decide
    have e3 : ¬ G 72 a = 104 := by rw [e]; decide
    have e4 : ¬ G 72 a = 114 := by rw [e]; decide
    rw [if_neg e1, if_neg e2, if_neg e3, if_neg e4, if_pos e, if_neg e1, if_neg e2, if_neg e3, if_neg e4, if_pos e]
    exact hcmd 0 (by decide)
  · have e1 : ¬ G 72 a = 43 := by rw [e]; decide
    have e2 : ¬ G 72 a = 99 := by rw [e]; decide
    have e3 : ¬ G 72 a = 104 := by rw [e]; decide
    have e4 : ¬ G 72 a = 114 := by rw [e]; decide
    have e5 : ¬ G 72 a = 115 := by rw [e]; decide
    have e6 : ¬ G 72 a = 120 := by rw [e]; decide
    rw [if_neg e1, if_neg e2, if_neg e3, if_neg e4, if_neg e5, if_pos e, if_neg e1, if_neg e2, if_neg e3, if_neg e4, if_neg e5, if_neg e6]
    obtain ⟨v0, v1, v2, v3⟩ := okS_v hN' hs ho ha e
    rw [hdg (a + 1) (by omega) v1, hdg (a + 2) (by omega) v2, hdg (a + 3) (by omega) v3, l5]
    generalize G 72 (a + 1) - 48 = k
    generalize G 72 (a + 2) - 48 = v
    generalize G 72 (a + 3) - 48 = x
    by_cases q1 : (k < 0 ∨ ¬ k < g 125) ∨ (v < 0 ∨ 4 < v)
    · left
      rw [if_pos q1, if_pos (q1.elim Or.inl (fun w => Or.inr (Or.inl (w.elim Or.inl (fun u => Or.inr ((lt5_4 v).mpr u))))))]
      exact ⟨rfl, n10, rfl⟩
    · rw [if_neg q1]
      by_cases q2 : x < 0 ∨ 2 < x
      · left
        rw [if_pos q2, if_pos (Or.inr (Or.inr q2))]
        exact ⟨rfl, n20, rfl⟩
      · right
        rw [if_neg q2, if_neg (fun w => w.elim (fun u => q1 (Or.inl u)) (fun u => u.elim (fun s => q1 (Or.inr (s.elim Or.inl (fun r => Or.inr ((lt5_4 v).mp r))))) q2))]
        obtain ⟨nc, c1, c2⟩ := hP.2.2.2.1
        have k0 : ¬ k < 0 := fun w => q1 (Or.inl (Or.inl w))
        have k1 : k < g 125 := Decidable.byContradiction (fun w => q1 (Or.inl (Or.inr w)))
        obtain ⟨K, hK, rfl⟩ := nI_of k0
        have hK6 : K < 6 := by
          rw [c2] at k1
          have := (nI_ltI hK (by omega)).mp k1
          omega
        obtain ⟨V, hV, rfl⟩ := le4_lt5 (v := v) (fun w => q1 (Or.inr (Or.inl w))) (fun w => q1 (Or.inr (Or.inr w)))
        rw [nI_clamp hK, nI_clamp (by omega)]
        exact ⟨_, rfl, rfl, rs_vput h hK6 hV (vote_rng q2)⟩
  · have e1 : ¬ G 72 a = 43 := by rw [e]; decide
    have e2 : ¬ G 72 a = 99 := by rw [e]; decide
    have e3 : ¬ G 72 a = 104 := by rw [e]; decide
    have e4 : ¬ G 72 a = 114 := by rw [e]; decide
    have e5 : ¬ G 72 a = 115 := by rw [e]; decide
    have e6 : ¬ G 72 a = 118 := by rw [e]; decide
    rw [if_neg e1, if_neg e2, if_neg e3, if_neg e4, if_neg e5, if_neg e6, if_pos e, if_neg e1, if_neg e2, if_neg e3, if_neg e4, if_neg e5, if_pos e]
    exact hcmd 3 (by decide)
theorem scr_eq {g : Nat → Int32} {G : Nat → Nat → Int32} (hI : PI g G) {N : Nat} (hN : N ≤ 60) (hs : (cS (G 72) N).1 = 1 ∨ (cS (G 72) N).1 = 6) : ∀ (n k a : Nat) (X : yS) (z : Nat → Int32), RS 20 10 X z → PL X g G → X.1 6 = nI N → (∀ k, k < N → X.2 8 k = G 72 k) → okS (G 72) N a → N ≤ a + n → N ≤ a + k → (scrF n a X).1 = (ralF g G N k a z).1 ∧ RS 20 10 (scrF n a X).2 (ralF g G N k a z).2 ∧ Fr 20 10 X (scrF n a X).2 := by
  intro n
  induction n with
  | zero =>
    intro k a X z h hL h6 h8 ho hn hk
    cases k with
    | zero => exact ⟨rfl, h, fr_refl⟩
    | succ k =>
      simp only [ralF, scrF]
      rw [if_neg (by omega)]
      exact ⟨rfl, h, fr_refl⟩
  | succ n ih =>
    intro k a X z h hL h6 h8 ho hn hk
    rcases Nat.lt_or_ge a N with hlt | hge
    · obtain ⟨k', rfl⟩ : ∃ k', k = k' + 1 := ⟨k - 1, by omega⟩
      have hbn : bN X = N := clamp_of' h6 (by omega)
      have hfe : fe (fun k => decide (X.2 8 k = 59)) a (bN X - a) = fe (fun k => decide (G 72 k = 59)) a (N - a) := by
        rw [hbn]
        exact fe_congr _ _ (fun k h1 h2 => by rw [h8 k (by omega)])
      simp only [scrF, ralF]
      rw [if_pos hlt, hfe]
      rcases car_eq h hL hI hN h6 h8 hs ho hlt with ⟨c1, c2, c3⟩ | ⟨Y, c1, c2, c3⟩
      · rw [c1, if_neg c2]
        simp only
        rw [c3]
        exact ⟨trivial, h, fr_refl⟩
      · rw [c1, if_pos c2]
        simp only
        have hf := car_fr c1
        have hge : a ≤ fe (fun k => decide (G 72 k = 59)) a (N - a) := fe_ge _ _ _
        obtain ⟨i1, i2, i3⟩ := ih k' (fe (fun k => decide (G 72 k = 59)) a (N - a) + 1) Y _ c3 (pl_fr hf (by decide) (by decide) hL) (by rw [hf.1 6 (by decide)]; exact h6) (fun k hk => by rw [hf.2 8 (by decide)]; exact h8 k hk) (okS_next (by omega) hs hlt) (by omega) (by omega)
        exact ⟨by rw [i1], i2, fr_trans hf i3⟩
    · have hc : carF X a = none := by
        have ha : a ≤ N + 1 := by rcases ho with q | q <;> omega
        have hcode : codeF X (nI a) = -1 := by
          unfold codeF
          rw [if_neg (nI_nneg (by omega)), h6, if_neg (nI_nlt hge (by omega))]
        unfold carF
        rw [hcode]
        rfl
      have hr : ralF g G N k a z = (0, z) := by
        cases k with
        | zero => rfl
        | succ k => simp only [ralF]; rw [if_neg (by omega)]
      simp only [scrF]
      rw [hc, hr]
      exact ⟨rfl, h, fr_refl⟩
