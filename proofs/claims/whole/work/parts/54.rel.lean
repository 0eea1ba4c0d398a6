/-! class and reference side by side: the relation of one state (so, ao) of the class and the reference's row z -/
/-- a vote, and its two bits -/
def vtB (x : Int32) (a b v : Nat) : Prop := (x = 0 ∧ a / 2 ^ v % 2 = 0 ∧ b / 2 ^ v % 2 = 0) ∨ (x = 1 ∧ a / 2 ^ v % 2 = 1 ∧ b / 2 ^ v % 2 = 0) ∨ (x = 2 ∧ a / 2 ^ v % 2 = 0 ∧ b / 2 ^ v % 2 = 1)
def RV (ao : Nat) (X : yS) (z : Nat → Int32) : Prop := ∀ k, k < 6 → ∃ a b, a < 32 ∧ b < 32 ∧ X.2 ao k = nI a ∧ X.2 (ao + 1) k = nI b ∧ ∀ v, v < 5 → vtB (z (20 + 5 * k + v)) a b v
def RP (so ao : Nat) (X : yS) (z : Nat → Int32) : Prop := z 14 = X.1 (so + 15) ∧ z 15 = X.1 (so + 16) ∧ (∀ k, k < (z 14).toNatClampNeg → z (50 + 2 * k) = X.2 (ao + 2) k ∧ z (51 + 2 * k) = X.2 (ao + 3) k) ∧ (∀ k, k < (z 15).toNatClampNeg → z (58 + 2 * k) = X.2 (ao + 4) k ∧ z (59 + 2 * k) = X.2 (ao + 5) k)
def RL (so ao : Nat) (X : yS) (z : Nat → Int32) : Prop := ∃ K n, K ≤ 24 ∧ n < 24 ∧ z 16 = nI K ∧ X.1 (so + 18) = nI K ∧ X.1 (so + 17) = nI n ∧ ∀ j, j < K → z (70 + 3 * (K - 1 - j)) = X.2 (ao + 6) ((n + 23 - j) % 24) ∧ z (71 + 3 * (K - 1 - j)) = X.2 (ao + 7) ((n + 23 - j) % 24) ∧ z (72 + 3 * (K - 1 - j)) = X.2 (ao + 8) ((n + 23 - j) % 24)
def RN (so : Nat) (X : yS) (z : Nat → Int32) : Prop := z 0 = X.1 so ∧ z 1 = X.1 (so + 1) ∧ z 2 = X.1 (so + 2) ∧ z 3 = X.1 (so + 12) ∧ z 4 = X.1 (so + 8) ∧ z 5 = X.1 (so + 9) ∧ z 6 = X.1 (so + 10) ∧ z 7 = X.1 (so + 11) ∧ z 8 = X.1 (so + 6) ∧ z 9 = X.1 (so + 7) ∧ z 11 = X.1 (so + 4) ∧ z 12 = X.1 (so + 13) ∧ z 13 = X.1 (so + 14) ∧ z 17 = X.1 (so + 5) ∧ (z 10 = -1 ∨ z 10 = X.1 (so + 3))
/-- phase, clock, passes, recycles, greatest, left, start, fired, taken -/
def IQ (p c ps rc gr lf st fi tk : Int32) : Prop := (∃ C, C ≤ 99999 ∧ c = nI C ∧ ((st = -1 ∧ ps = 0 ∧ rc = 0 ∧ (p = 0 ∨ p = 4)) ∨ (∃ s r, s ≤ C ∧ r ≤ 9 ∧ st = nI s ∧ ps = nI (r + 1) ∧ rc = nI r ∧ ¬ p = 0))) ∧ (∃ m, m ≤ 9 ∧ gr = nI m) ∧ (∃ f, f < 4096 ∧ fi = nI f) ∧ (∃ t, t < 4096 ∧ tk = nI t) ∧ (p = 2 → ∃ l, 1 ≤ l ∧ l ≤ 999 ∧ lf = nI l)
def IZ (z : Nat → Int32) : Prop := IQ (z 0) (z 1) (z 3) (z 5) (z 7) (z 8) (z 10) (z 12) (z 13)
def RS (so ao : Nat) (X : yS) (z : Nat → Int32) : Prop := RN so X z ∧ IZ z ∧ Sp z ∧ Pz z ∧ RP so ao X z ∧ RV ao X z ∧ RL so ao X z
/-- the plans -/
def PL (X : yS) (g : Nat → Int32) (G : Nat → Nat → Int32) : Prop := X.1 1 = g 121 ∧ X.1 2 = g 122 ∧ X.1 3 = g 123 ∧ X.1 4 = g 124 ∧ X.1 5 = g 125 ∧ X.2 0 = G 64 ∧ X.2 1 = G 65 ∧ X.2 2 = G 66 ∧ X.2 3 = G 67 ∧ X.2 4 = G 68 ∧ X.2 5 = G 69 ∧ X.2 6 = G 70 ∧ X.2 7 = G 71
def PI (g : Nat → Int32) (G : Nat → Nat → Int32) : Prop := Pp g G ∧ (∀ k, k < rH g → ∃ l, 1 ≤ l ∧ l ≤ 999 ∧ G 67 k = nI l) ∧ (∀ i j, i < j → j < rH g → ¬ G 66 i = G 66 j)
theorem u_ab {α : Type} (f : Nat → α) (so a b : Nat) (v : α) : va_up f (so + a) v (so + b) = if b = a then v else f (so + b) := by
  by_cases h : b = a
  · subst h; rw [up_e, if_pos rfl]
  · rw [up_n _ _ _ _ (by omega), if_neg h]
theorem u_0b {α : Type} (f : Nat → α) (so b : Nat) (v : α) : va_up f so v (so + b) = if b = 0 then v else f (so + b) := u_ab f so 0 b v
theorem u_a0 {α : Type} (f : Nat → α) (so a : Nat) (v : α) : va_up f (so + a) v so = if 0 = a then v else f so := u_ab f so a 0 v
theorem ud_at (f : Nat → Int32) (k j : Nat) (v : Int32) : upd f k v j = if j = k then v else f j := by
  by_cases h : j = k
  · subst h; rw [ud_e, if_pos rfl]
  · rw [ud_n _ _ _ _ h, if_neg h]
def rwl (k : Nat) : Nat := if k < 2 then 6 else if k < 4 then 4 else if k < 6 then 6 else 24
theorem rs_move {so ao so2 ao2 : Nat} {X Y : yS} {z z' : Nat → Int32} (h : RS so2 ao2 X z) (h1 : ∀ k, k < 19 → Y.1 (so + k) = X.1 (so2 + k)) (h2 : ∀ k, k < 9 → ∀ j, j < rwl k → Y.2 (ao + k) j = X.2 (ao2 + k) j) (h3 : ∀ i, i < 142 → z' i = z i) : RS so ao Y z' := by
  obtain ⟨hN, hI, hS, hz, hP, hV, hL⟩ := h
  obtain ⟨nw, w1, w2⟩ := hz.1
  obtain ⟨nc, c1, c2⟩ := hz.2.1
  have kw : (z 14).toNatClampNeg = nw := clamp_of' w2 (by omega)
  have kc : (z 15).toNatClampNeg = nc := clamp_of' c2 (by omega)
  have e0 : Y.1 so = X.1 so2 := h1 0 (by decide)
  refine ⟨?_, ?_, ?_, ?_, ?_, ?_, ?_⟩
  · unfold RN at hN ⊢
    simp only [h3 0 (by decide), h3 1 (by decide), h3 2 (by decide), h3 3 (by decide), h3 4 (by decide), h3 5 (by decide), h3 6 (by decide), h3 7 (by decide), h3 8 (by decide), h3 9 (by decide), h3 10 (by decide), h3 11 (by decide), h3 12 (by decide), h3 13 (by decide), h3 17 (by decide), e0, h1 1 (by decide), h1 2 (by decide), h1 3 (by decide), h1 4 (by decide), h1 5 (by decide), h1 6 (by decide), h1 7 (by decide), h1 8 (by decide), h1 9 (by decide), h1 10 (by decide), h1 11 (by decide), h1 12 (by decide), h1 13 (by decide), h1 14 (by decide)]
    exact hN
  · unfold IZ at hI ⊢
    simp only [h3 0 (by decide), h3 1 (by decide), h3 3 (by decide), h3 5 (by decide), h3 7 (by decide), h3 8 (by decide), h3 10 (by decide), h3 12 (by decide), h3 13 (by decide)]
    exact hI
  · unfold Sp at hS ⊢
    rw [h3 14 (by decide), h3 15 (by decide)]
    refine ⟨fun k hk => ?_, fun k hk => ?_⟩
    · rw [h3 (50 + 2 * k) (by omega), h3 (51 + 2 * k) (by omega)]
      exact hS.1 k hk
    · rw [h3 (58 + 2 * k) (by omega), h3 (59 + 2 * k) (by omega)]
      exact hS.2 k hk
  · unfold Pz at hz ⊢
    rw [h3 14 (by decide), h3 15 (by decide), h3 16 (by decide)]
    exact hz
  · unfold RP at hP ⊢
    rw [h3 14 (by decide), h3 15 (by decide), h1 15 (by decide), h1 16 (by decide)]
    refine ⟨hP.1, hP.2.1, fun k hk => ?_, fun k hk => ?_⟩
    · rw [h3 (50 + 2 * k) (by omega), h3 (51 + 2 * k) (by omega), h2 2 (by decide) k (show k < 4 by omega), h2 3 (by decide) k (show k < 4 by omega)]
      exact hP.2.2.1 k hk
    · rw [h3 (58 + 2 * k) (by omega), h3 (59 + 2 * k) (by omega), h2 4 (by decide) k (show k < 6 by omega), h2 5 (by decide) k (show k < 6 by omega)]
      exact hP.2.2.2 k hk
  · intro k hk
    obtain ⟨a, b, ha, hb, e1, e2, e3⟩ := hV k hk
    refine ⟨a, b, ha, hb, (h2 0 (by decide) k (show k < 6 by omega)).trans e1, (h2 1 (by decide) k (show k < 6 by omega)).trans e2, fun v hv => ?_⟩
    rw [h3 (20 + 5 * k + v) (by omega)]
    exact e3 v hv
  · obtain ⟨K, n, hK, hn, e1, e2, e3, e4⟩ := hL
    refine ⟨K, n, hK, hn, (h3 16 (by decide)).trans e1, (h1 18 (by decide)).trans e2, (h1 17 (by decide)).trans e3, fun j hj => ?_⟩
    rw [h3 (70 + 3 * (K - 1 - j)) (by omega), h3 (71 + 3 * (K - 1 - j)) (by omega), h3 (72 + 3 * (K - 1 - j)) (by omega), h2 6 (by decide) ((n + 23 - j) % 24) (show _ < 24 by omega), h2 7 (by decide) ((n + 23 - j) % 24) (show _ < 24 by omega), h2 8 (by decide) ((n + 23 - j) % 24) (show _ < 24 by omega)]
    exact e4 j hj
theorem rs_congr {so ao : Nat} {X Y : yS} {z z' : Nat → Int32} (h : RS so ao X z) (h1 : ∀ k, k < 19 → Y.1 (so + k) = X.1 (so + k)) (h2 : ∀ k, k < 9 → Y.2 (ao + k) = X.2 (ao + k)) (h3 : ∀ i, i < 142 → z' i = z i) : RS so ao Y z' := rs_move h h1 (fun k hk j _ => by rw [h2 k hk]) h3
/-- numbers change, the log's not, nor rows -/
theorem rs_sc {so ao : Nat} {X Y : yS} {z z' : Nat → Int32} (h : RS so ao X z) (hN : RN so Y z') (hI : IZ z') (hg : ∀ k, 15 ≤ k → k < 19 → Y.1 (so + k) = X.1 (so + k)) (hr : ∀ k, k < 9 → Y.2 (ao + k) = X.2 (ao + k)) (hz : ∀ i, 14 ≤ i → i ≠ 17 → z' i = z i) : RS so ao Y z' := by
  obtain ⟨-, -, hS, hP, hQ, hV, hL⟩ := h
  refine ⟨hN, hI, ?_, ?_, ?_, ?_, ?_⟩
  · unfold Sp at hS ⊢
    rw [hz 14 (by decide) (by decide), hz 15 (by decide) (by decide)]
    refine ⟨fun k hk => ?_, fun k hk => ?_⟩
    · rw [hz (50 + 2 * k) (by omega) (by omega), hz (51 + 2 * k) (by omega) (by omega)]
      exact hS.1 k hk
    · rw [hz (58 + 2 * k) (by omega) (by omega), hz (59 + 2 * k) (by omega) (by omega)]
      exact hS.2 k hk
  · unfold Pz at hP ⊢
    rw [hz 14 (by decide) (by decide), hz 15 (by decide) (by decide), hz 16 (by decide) (by decide)]
    exact hP
  · unfold RP at hQ ⊢
    rw [hz 14 (by decide) (by decide), hz 15 (by decide) (by decide), hg 15 (by decide) (by decide), hg 16 (by decide) (by decide), hr 2 (by decide), hr 3 (by decide), hr 4 (by decide), hr 5 (by decide)]
    refine ⟨hQ.1, hQ.2.1, fun k hk => ?_, fun k hk => ?_⟩
    · rw [hz (50 + 2 * k) (by omega) (by omega), hz (51 + 2 * k) (by omega) (by omega)]
      exact hQ.2.2.1 k hk
    · rw [hz (58 + 2 * k) (by omega) (by omega), hz (59 + 2 * k) (by omega) (by omega)]
      exact hQ.2.2.2 k hk
  · intro k hk
    obtain ⟨a, b, ha, hb, e1, e2, e3⟩ := hV k hk
    refine ⟨a, b, ha, hb, (congrFun (hr 0 (by decide)) k).trans e1, (congrFun (hr 1 (by decide)) k).trans e2, fun v hv => ?_⟩
    rw [hz (20 + 5 * k + v) (by omega) (by omega)]
    exact e3 v hv
  · obtain ⟨K, n, hK, hn, e1, e2, e3, e4⟩ := hL
    refine ⟨K, n, hK, hn, (hz 16 (by decide) (by decide)).trans e1, (hg 18 (by decide) (by decide)).trans e2, (hg 17 (by decide) (by decide)).trans e3, fun j hj => ?_⟩
    rw [hz (70 + 3 * (K - 1 - j)) (by omega) (by omega), hz (71 + 3 * (K - 1 - j)) (by omega) (by omega), hz (72 + 3 * (K - 1 - j)) (by omega) (by omega), hr 6 (by decide), hr 7 (by decide), hr 8 (by decide)]
    exact e4 j hj
/-! the log -/
section
variable {so ao : Nat} {X : yS} {a b v : Int32}
theorem lp_17 : (logPut so ao X a b v).1 (so + 17) = if X.1 (so + 17) + 1 < 24 then X.1 (so + 17) + 1 else 0 := by
  unfold logPut
  simp only
  split
  · rw [up_n _ _ _ _ (by omega), up_e]
  · rw [up_e]
theorem lp_18 : (logPut so ao X a b v).1 (so + 18) = if X.1 (so + 18) < 24 then X.1 (so + 18) + 1 else X.1 (so + 18) := by
  unfold logPut
  simp only
  by_cases h : X.1 (so + 18) < 24
  · rw [if_pos h, if_pos h, up_e]
  · rw [if_neg h, if_neg h, up_n _ _ _ _ (by omega)]
theorem lp_n (k : Nat) (h1 : k ≠ so + 17) (h2 : k ≠ so + 18) : (logPut so ao X a b v).1 k = X.1 k := by
  unfold logPut
  simp only
  split
  · rw [up_n _ _ _ _ h2, up_n _ _ _ _ h1]
  · rw [up_n _ _ _ _ h1]
theorem lp_r6 : (logPut so ao X a b v).2 (ao + 6) = upd (X.2 (ao + 6)) (X.1 (so + 17)).toNatClampNeg a := by
  unfold logPut
  simp only
  rw [up_n _ _ _ _ (by omega), up_n _ _ _ _ (by omega), up_e]
theorem lp_r7 : (logPut so ao X a b v).2 (ao + 7) = upd (X.2 (ao + 7)) (X.1 (so + 17)).toNatClampNeg b := by
  unfold logPut
  simp only
  rw [up_n _ _ _ _ (by omega), up_e]
theorem lp_r8 : (logPut so ao X a b v).2 (ao + 8) = upd (X.2 (ao + 8)) (X.1 (so + 17)).toNatClampNeg v := by
  unfold logPut
  simp only
  rw [up_e]
theorem lp_rn (k : Nat) (h6 : k ≠ ao + 6) (h7 : k ≠ ao + 7) (h8 : k ≠ ao + 8) : (logPut so ao X a b v).2 k = X.2 k := by
  unfold logPut
  simp only
  rw [up_n _ _ _ _ h8, up_n _ _ _ _ h7, up_n _ _ _ _ h6]
end
theorem note_lt {z : Nat → Int32} {a b : Int32} {K : Nat} (hK : K < 24) (hz : z 16 = nI K) (i : Nat) (hi : 70 ≤ i) : noteF z a b i = if i = 70 + 3 * K then z 1 else if i = 71 + 3 * K then a else if i = 72 + 3 * K then b else z i := by
  have h24 : ¬ z 16 = 24 := by
    rw [hz]
    intro q
    have := nI_inj (b := 24) (by omega) (by decide) q
    omega
  have hn : nt1 z = z := by unfold nt1; rw [if_neg h24]
  have hcl : (z 16).toNatClampNeg = K := clamp_of' hz (by omega)
  unfold noteF
  rw [hn, hcl, ud_n _ 16 i _ (by omega)]
  by_cases q2 : i = 72 + 3 * K
  · rw [q2, ud_e, if_neg (by omega), if_neg (by omega), if_pos rfl]
  rw [ud_n _ _ _ _ q2]
  by_cases q1 : i = 71 + 3 * K
  · rw [q1, ud_e, if_neg (by omega), if_pos rfl]
  rw [ud_n _ _ _ _ q1]
  by_cases q0 : i = 70 + 3 * K
  · rw [q0, ud_e, if_pos rfl]
  rw [ud_n _ _ _ _ q0, if_neg q0, if_neg q1, if_neg q2]
theorem note_24 {z : Nat → Int32} {a b : Int32} (hz : z 16 = nI 24) (i : Nat) (hi : 70 ≤ i) : noteF z a b i = if i = 139 then z 1 else if i = 140 then a else if i = 141 then b else if i < 139 then z (i + 3) else z i := by
  have h16 : nt1 z 16 = nI 23 := nt1_16 (K := 24) (by decide) hz
  have hcl : (nt1 z 16).toNatClampNeg = 23 := clamp_of' h16 (by decide)
  have e0 : 70 + 3 * 23 = 139 := rfl
  have e1 : 71 + 3 * 23 = 140 := rfl
  have e2 : 72 + 3 * 23 = 141 := rfl
  unfold noteF
  rw [hcl, e0, e1, e2, nt1_n (k := 1) (by decide) (by decide), ud_n _ 16 i _ (by omega)]
  by_cases q2 : i = 141
  · rw [q2, ud_e, if_neg (by decide), if_neg (by decide), if_pos rfl]
  rw [ud_n _ _ _ _ q2]
  by_cases q1 : i = 140
  · rw [q1, ud_e, if_neg (by decide), if_pos rfl]
  rw [ud_n _ _ _ _ q1]
  by_cases q0 : i = 139
  · rw [q0, ud_e, if_pos rfl]
  rw [ud_n _ _ _ _ q0, if_neg q0, if_neg q1, if_neg q2]
  have h24 : z 16 = 24 := hz
  unfold nt1
  rw [if_pos h24, ud_n _ 16 i _ (by omega)]
  unfold shiftF
  by_cases h9 : i < 139
  · rw [if_pos ⟨hi, h9⟩, if_pos h9]
  · rw [if_neg (fun q => h9 q.2), if_neg h9]
theorem rl_put {so ao : Nat} {X : yS} {z : Nat → Int32} (b v : Int32) (h : RL so ao X z) (hc : z 1 = X.1 (so + 1)) : RL so ao (logPut so ao X (X.1 (so + 1)) b v) (noteF z b v) := by
  obtain ⟨K, n, hK, hn, e1, e2, e3, e4⟩ := h
  have hcl : (X.1 (so + 17)).toNatClampNeg = n := clamp_of' e3 (by omega)
  obtain ⟨n', m1, m2, m3⟩ : ∃ n', n' < 24 ∧ (logPut so ao X (X.1 (so + 1)) b v).1 (so + 17) = nI n' ∧ (n' = n + 1 ∨ (n' = 0 ∧ n = 23)) := by
    rw [lp_17, e3, nI_1]
    by_cases hk : n + 1 < 24
    · exact ⟨n + 1, hk, if_pos (nI_lt (b := 24) hk (by decide)), Or.inl rfl⟩
    · exact ⟨0, by decide, if_neg (nI_nlt (b := 24) (by omega) (by omega)), Or.inr ⟨rfl, by omega⟩⟩
  rcases Nat.lt_or_ge K 24 with hk | hk
  · have hat := note_lt (a := b) (b := v) hk e1
    refine ⟨K + 1, n', by omega, m1, ?_, ?_, m2, fun j hj => ?_⟩
    · rw [note_16 hK e1, if_neg (by omega)]
    · rw [lp_18, e2, if_pos (show nI K < 24 from nI_lt (b := 24) hk (by decide)), nI_1]
    · rw [lp_r6, lp_r7, lp_r8, hcl]
      rcases Nat.eq_zero_or_pos j with hj0 | hj0
      · subst hj0
        have i1 : (n' + 23 - 0) % 24 = n := by omega
        rw [i1, ud_e, ud_e, ud_e, hat (70 + 3 * (K + 1 - 1 - 0)) (by omega), if_pos (by omega), hat (71 + 3 * (K + 1 - 1 - 0)) (by omega), if_neg (by omega), if_pos (by omega), hat (72 + 3 * (K + 1 - 1 - 0)) (by omega), if_neg (by omega), if_neg (by omega), if_pos (by omega)]
        exact ⟨hc, rfl, rfl⟩
      · obtain ⟨i, rfl⟩ : ∃ i, j = i + 1 := ⟨j - 1, by omega⟩
        have i1 : (n' + 23 - (i + 1)) % 24 = (n + 23 - i) % 24 := by omega
        have i2 : K + 1 - 1 - (i + 1) = K - 1 - i := by omega
        rw [i1, i2, ud_n _ _ _ _ (by omega), ud_n _ _ _ _ (by omega), ud_n _ _ _ _ (by omega), hat (70 + 3 * (K - 1 - i)) (by omega), if_neg (by omega), if_neg (by omega), if_neg (by omega), hat (71 + 3 * (K - 1 - i)) (by omega), if_neg (by omega), if_neg (by omega), if_neg (by omega), hat (72 + 3 * (K - 1 - i)) (by omega), if_neg (by omega), if_neg (by omega), if_neg (by omega)]
        exact e4 i (by omega)
  · have hK24 : K = 24 := by omega
    subst hK24
    have hat := note_24 (a := b) (b := v) e1
    refine ⟨24, n', by omega, m1, ?_, ?_, m2, fun j hj => ?_⟩
    · rw [note_16 hK e1, if_pos rfl]
    · rw [lp_18, e2]; rfl
    · rw [lp_r6, lp_r7, lp_r8, hcl]
      rcases Nat.eq_zero_or_pos j with hj0 | hj0
      · subst hj0
        have i1 : (n' + 23 - 0) % 24 = n := by omega
        rw [i1, ud_e, ud_e, ud_e, hat (70 + 3 * (24 - 1 - 0)) (by omega), if_pos (by omega), hat (71 + 3 * (24 - 1 - 0)) (by omega), if_neg (by omega), if_pos (by omega), hat (72 + 3 * (24 - 1 - 0)) (by omega), if_neg (by omega), if_neg (by omega), if_pos (by omega)]
        exact ⟨hc, rfl, rfl⟩
      · obtain ⟨i, rfl⟩ : ∃ i, j = i + 1 := ⟨j - 1, by omega⟩
        have i1 : (n' + 23 - (i + 1)) % 24 = (n + 23 - i) % 24 := by omega
        have i3 : 70 + 3 * (24 - 1 - (i + 1)) + 3 = 70 + 3 * (24 - 1 - i) := by omega
        have i4 : 71 + 3 * (24 - 1 - (i + 1)) + 3 = 71 + 3 * (24 - 1 - i) := by omega
        have i5 : 72 + 3 * (24 - 1 - (i + 1)) + 3 = 72 + 3 * (24 - 1 - i) := by omega
        rw [i1, ud_n _ _ _ _ (by omega), ud_n _ _ _ _ (by omega), ud_n _ _ _ _ (by omega), hat (70 + 3 * (24 - 1 - (i + 1))) (by omega), if_neg (by omega), if_neg (by omega), if_neg (by omega), if_pos (by omega), hat (71 + 3 * (24 - 1 - (i + 1))) (by omega), if_neg (by omega), if_neg (by omega), if_neg (by omega), if_pos (by omega), hat (72 + 3 * (24 - 1 - (i + 1))) (by omega), if_neg (by omega), if_neg (by omega), if_neg (by omega), if_pos (by omega), i3, i4, i5]
        exact e4 i (by omega)
/-- an entry in both logs -/
theorem rs_note {so ao : Nat} {X : yS} {z : Nat → Int32} (h : RS so ao X z) (b v : Int32) : RS so ao (logPut so ao X (X.1 (so + 1)) b v) (noteF z b v) := by
  have hc : z 1 = X.1 (so + 1) := h.1.2.1
  obtain ⟨hN, hI, hS, hz, hP, hV, hL⟩ := h
  have zn : ∀ k, k < 70 → k ≠ 16 → noteF z b v k = z k := fun k h1 h2 => note_n h1 h2
  have gn : ∀ k, k < 17 → (logPut so ao X (X.1 (so + 1)) b v).1 (so + k) = X.1 (so + k) := fun k hk => lp_n _ (by omega) (by omega)
  have g0 : (logPut so ao X (X.1 (so + 1)) b v).1 so = X.1 so := lp_n _ (by omega) (by omega)
  have rn : ∀ k, k < 6 → (logPut so ao X (X.1 (so + 1)) b v).2 (ao + k) = X.2 (ao + k) := fun k hk => lp_rn _ (by omega) (by omega) (by omega)
  obtain ⟨nw, w1, w2⟩ := hz.1
  obtain ⟨nc, c1, c2⟩ := hz.2.1
  have kw : (z 14).toNatClampNeg = nw := clamp_of' w2 (by omega)
  have kc : (z 15).toNatClampNeg = nc := clamp_of' c2 (by omega)
  refine ⟨?_, ?_, ?_, pz_note hz, ?_, ?_, rl_put b v hL hc⟩
  · unfold RN at hN ⊢
    simp only [zn 0 (by decide) (by decide), zn 1 (by decide) (by decide), zn 2 (by decide) (by decide), zn 3 (by decide) (by decide), zn 4 (by decide) (by decide), zn 5 (by decide) (by decide), zn 6 (by decide) (by decide), zn 7 (by decide) (by decide), zn 8 (by decide) (by decide), zn 9 (by decide) (by decide), zn 10 (by decide) (by decide), zn 11 (by decide) (by decide), zn 12 (by decide) (by decide), zn 13 (by decide) (by decide), zn 17 (by decide) (by decide), g0, gn 1 (by decide), gn 2 (by decide), gn 3 (by decide), gn 4 (by decide), gn 5 (by decide), gn 6 (by decide), gn 7 (by decide), gn 8 (by decide), gn 9 (by decide), gn 10 (by decide), gn 11 (by decide), gn 12 (by decide), gn 13 (by decide), gn 14 (by decide)]
    exact hN
  · unfold IZ at hI ⊢
    simp only [zn 0 (by decide) (by decide), zn 1 (by decide) (by decide), zn 3 (by decide) (by decide), zn 5 (by decide) (by decide), zn 7 (by decide) (by decide), zn 8 (by decide) (by decide), zn 10 (by decide) (by decide), zn 12 (by decide) (by decide), zn 13 (by decide) (by decide)]
    exact hI
  · unfold Sp at hS ⊢
    rw [zn 14 (by decide) (by decide), zn 15 (by decide) (by decide)]
    refine ⟨fun k hk => ?_, fun k hk => ?_⟩
    · rw [zn (50 + 2 * k) (by omega) (by omega), zn (51 + 2 * k) (by omega) (by omega)]
      exact hS.1 k hk
    · rw [zn (58 + 2 * k) (by omega) (by omega), zn (59 + 2 * k) (by omega) (by omega)]
      exact hS.2 k hk
  · unfold RP at hP ⊢
    rw [zn 14 (by decide) (by decide), zn 15 (by decide) (by decide), gn 15 (by decide), gn 16 (by decide), rn 2 (by decide), rn 3 (by decide), rn 4 (by decide), rn 5 (by decide)]
    refine ⟨hP.1, hP.2.1, fun k hk => ?_, fun k hk => ?_⟩
    · rw [zn (50 + 2 * k) (by omega) (by omega), zn (51 + 2 * k) (by omega) (by omega)]
      exact hP.2.2.1 k hk
    · rw [zn (58 + 2 * k) (by omega) (by omega), zn (59 + 2 * k) (by omega) (by omega)]
      exact hP.2.2.2 k hk
  · intro k hk
    obtain ⟨a, c, ha, hb, e1, e2, e3⟩ := hV k hk
    refine ⟨a, c, ha, hb, (congrFun (rn 0 (by decide)) k).trans e1, (congrFun (rn 1 (by decide)) k).trans e2, fun w hw => ?_⟩
    rw [zn (20 + 5 * k + w) (by omega) (by omega)]
    exact e3 w hw
/-- what the class's methods need -/
theorem inv_of {so ao : Nat} {X : yS} {z g : Nat → Int32} {G : Nat → Nat → Int32} (h : RS so ao X z) (hL : PL X g G) (hP : Pp g G) : Inv so X := by
  obtain ⟨-, -, -, hz, hQ, -, K, n, hK, hn, e1, e2, e3, -⟩ := h
  obtain ⟨-, l2, l3, -, l5, -, r1, -⟩ := hL
  refine ⟨by rw [l2]; exact hP.1, by rw [l3]; exact hP.2.1, by rw [l5]; exact hP.2.2.2.1, fun j => by rw [r1]; exact hP.2.2.2.2 j, by rw [← hQ.1]; exact hz.1, by rw [← hQ.2.1]; exact hz.2.1, by rw [e3]; exact ixb_nI hn (by decide)⟩
theorem pl_fr {so ao : Nat} {X Y : yS} {g : Nat → Int32} {G : Nat → Nat → Int32} (hf : Fr so ao X Y) (hso : 20 ≤ so) (hao : 10 ≤ ao) (h : PL X g G) : PL Y g G := by
  unfold PL at h ⊢
  rw [hf.1 1 (by omega), hf.1 2 (by omega), hf.1 3 (by omega), hf.1 4 (by omega), hf.1 5 (by omega), hf.2 0 (by omega), hf.2 1 (by omega), hf.2 2 (by omega), hf.2 3 (by omega), hf.2 4 (by omega), hf.2 5 (by omega), hf.2 6 (by omega), hf.2 7 (by omega)]
  exact h
/-! steps of the numbers' invariant -/
theorem nI_or (a b : Nat) : nI a ||| nI b = nI (a ||| b) := by
  apply Int32.toBitVec_inj.mp
  exact (BitVec.ofNat_or (w := 32) (x := a) (y := b)).symm
theorem or_bit {f j : Nat} (hf : f < 4096) (hj : j < 12) : ∃ f', f' < 4096 ∧ nI f ||| 1 <<< (nI j &&& 31) = nI f' := by
  have h1 : ∀ j, j < 12 → (1 : Int32) <<< (nI j &&& 31) = nI (2 ^ j) ∧ 2 ^ j < 4096 := by decide +kernel
  rw [(h1 j hj).1, nI_or]
  exact ⟨f ||| 2 ^ j, Nat.or_lt_two_pow (n := 12) hf (h1 j hj).2, rfl⟩
section
variable {p c ps rc gr lf st fi tk : Int32}
theorem iq_p (h : IQ p c ps rc gr lf st fi tk) {p' : Int32} (hp : p = 1 ∨ p = 2 ∨ p = 3 ∨ p' = 4) (h0 : ¬ p' = 0) (h2 : ¬ p' = 2) : IQ p' c ps rc gr lf st fi tk := by
  obtain ⟨⟨C, c1, c2, c3⟩, h3, h4, h5, -⟩ := h
  refine ⟨⟨C, c1, c2, ?_⟩, h3, h4, h5, fun q => absurd q h2⟩
  rcases c3 with ⟨q1, q2, q3, q4⟩ | ⟨s, r, s1, s2, s3, s4, s5, -⟩
  · left
    refine ⟨q1, q2, q3, Or.inr ?_⟩
    rcases hp with e | e | e | e
    · rw [e] at q4; exact absurd q4 (by decide)
    · rw [e] at q4; exact absurd q4 (by decide)
    · rw [e] at q4; exact absurd q4 (by decide)
    · exact e
  · exact Or.inr ⟨s, r, s1, s2, s3, s4, s5, h0⟩
theorem iq_lf (h : IQ p c ps rc gr lf st fi tk) {lf' : Int32} (hl : p = 2 → ∃ l, 1 ≤ l ∧ l ≤ 999 ∧ lf' = nI l) : IQ p c ps rc gr lf' st fi tk := ⟨h.1, h.2.1, h.2.2.1, h.2.2.2.1, hl⟩
theorem iq_fi (h : IQ p c ps rc gr lf st fi tk) {j : Nat} (hj : j < 12) : IQ p c ps rc gr lf st (fi ||| 1 <<< (nI j &&& 31)) tk := by
  obtain ⟨h1, h2, ⟨f, f1, f2⟩, h4, h5⟩ := h
  obtain ⟨f', g1, g2⟩ := or_bit f1 hj
  exact ⟨h1, h2, ⟨f', g1, by rw [f2, g2]⟩, h4, h5⟩
theorem iq_ho (h : IQ p c ps rc gr lf st fi tk) (hp : p = 1) {j : Nat} (hj : j < 12) {lf' : Int32} (hl : ∃ l, 1 ≤ l ∧ l ≤ 999 ∧ lf' = nI l) : IQ 2 c ps rc gr lf' st fi (tk ||| 1 <<< (nI j &&& 31)) := by
  obtain ⟨⟨C, c1, c2, c3⟩, h3, h4, ⟨f, f1, f2⟩, -⟩ := h
  obtain ⟨f', g1, g2⟩ := or_bit f1 hj
  refine ⟨⟨C, c1, c2, ?_⟩, h3, h4, ⟨f', g1, by rw [f2, g2]⟩, fun _ => hl⟩
  rcases c3 with ⟨q1, q2, q3, q4⟩ | ⟨s, r, s1, s2, s3, s4, s5, -⟩
  · rw [hp] at q4; exact absurd q4 (by decide)
  · exact Or.inr ⟨s, r, s1, s2, s3, s4, s5, by decide⟩
theorem iq_cl (h : IQ p c ps rc gr lf st fi tk) (hc : c < 99999) : IQ p (c + 1) ps rc gr lf st fi tk := by
  obtain ⟨⟨C, c1, c2, c3⟩, h3⟩ := h
  have hC : C < 99999 := by
    rw [c2] at hc
    exact (nI_ltI (b := 99999) (by omega) (by decide)).mp hc
  refine ⟨⟨C + 1, by omega, by rw [c2, nI_1], ?_⟩, h3⟩
  rcases c3 with q | ⟨s, r, s1, s2⟩
  · exact Or.inl q
  · exact Or.inr ⟨s, r, by omega, s2⟩
theorem iq_start (h : IQ p c ps rc gr lf st fi tk) (hp : p = 0) : IQ 1 c (ps + 1) rc gr lf c 0 0 := by
  obtain ⟨⟨C, c1, c2, c3⟩, h3, -, -, -⟩ := h
  rcases c3 with ⟨q1, q2, q3, q4⟩ | ⟨s, r, s1, s2, s3, s4, s5, s6⟩
  · refine ⟨⟨C, c1, c2, Or.inr ⟨C, 0, Nat.le_refl _, by decide, c2, by rw [q2]; rfl, q3, by decide⟩⟩, h3, ⟨0, by decide, rfl⟩, ⟨0, by decide, rfl⟩, fun q => absurd q (by decide)⟩
  · exact absurd hp s6
theorem iq_back (h : IQ p c ps rc gr lf st fi tk) (hp : p = 3) (hr : rc < gr) : IQ 3 c (ps + 1) (rc + 1) gr lf st 0 0 := by
  obtain ⟨⟨C, c1, c2, c3⟩, ⟨m, m1, m2⟩, -, -, -⟩ := h
  rcases c3 with ⟨q1, q2, q3, q4⟩ | ⟨s, r, s1, s2, s3, s4, s5, s6⟩
  · rw [hp] at q4; exact absurd q4 (by decide)
  · have hlt : r < m := by
      rw [s5, m2] at hr
      exact (nI_ltI (by omega) (by omega)).mp hr
    refine ⟨⟨C, c1, c2, Or.inr ⟨s, r + 1, s1, by omega, s3, by rw [s4, nI_1], by rw [s5, nI_1], by decide⟩⟩, ⟨m, m1, m2⟩, ⟨0, by decide, rfl⟩, ⟨0, by decide, rfl⟩, fun q => absurd q (by decide)⟩
end
