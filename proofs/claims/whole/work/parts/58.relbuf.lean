/-! the buffer of class and reference: the class reads each sign as it comes, the reference reads them all at once -/
def cS (t : Nat → Int32) : Nat → Int32 × Int32 × Int32
  | 0 => (0, 0, -1)
  | n + 1 => (nbF (cS t n).1 (cS t n).2.1 (t n), if nbF (cS t n).1 (cS t n).2.1 (t n) = 6 then (cS t n).2.1 * 10 + t n - 48 else 0, if nbF (cS t n).1 (cS t n).2.1 (t n) = 7 ∧ (cS t n).2.2 = -1 then nI n else (cS t n).2.2)
theorem cS_congr {t t' : Nat → Int32} : ∀ n, (∀ k, k < n → t' k = t k) → cS t' n = cS t n := by
  intro n
  induction n with
  | zero => intro _; rfl
  | succ n ih =>
    intro h
    simp only [cS]
    rw [ih (fun k hk => h k (by omega)), h n (by omega)]
def Mt (nx num d u o f : Int32) : Prop := (nx = 0 ∧ num = 0 ∧ f = 1 ∧ o = 0 ∧ d = 0 ∧ u = -1) ∨ (nx = 1 ∧ num = 0 ∧ f = 0 ∧ o = 1 ∧ d = 0 ∧ u = -1) ∨ (nx = 2 ∧ num = 0 ∧ f = 0 ∧ o = 0 ∧ d = 1 ∧ u = -1) ∨ (nx = 3 ∧ num = 0 ∧ f = 0 ∧ o = 0 ∧ d = 2 ∧ u = -1) ∨ (nx = 4 ∧ num = 0 ∧ f = 0 ∧ o = 0 ∧ d = 3 ∧ u = -1) ∨ (nx = 5 ∧ num = 0 ∧ f = 0 ∧ o = 0 ∧ d = 0 ∧ u = 0) ∨ (nx = 6 ∧ f = 0 ∧ o = 1 ∧ d = 0 ∧ u = num ∧ ∃ m, 1 ≤ m ∧ m ≤ 600 ∧ num = nI m)
def MG (nx num : Int32) (g : Nat → Int32) : Prop := Mt nx num (g 127) (g 128) (g 129) (g 130)
theorem dig_of {x : Int32} (h : digB x = true) : ∃ k, k < 10 ∧ x = nI (48 + k) := by
  unfold digB at h
  rw [Bool.and_eq_true, Bool.not_eq_true', Bool.not_eq_true', decide_eq_false_iff_not, decide_eq_false_iff_not, lt_toInt, lt_toInt] at h
  obtain ⟨h1, h2⟩ := h
  have e48 : (48 : Int32).toInt = 48 := rfl
  have e57 : (57 : Int32).toInt = 57 := rfl
  rw [e48] at h1
  rw [e57] at h2
  refine ⟨(x.toInt - 48).toNat, by omega, eq_toInt.mpr ?_⟩
  rw [nI_toInt (by omega)]
  omega
theorem dig_nI {k : Nat} (hk : k < 10) : digB (nI (48 + k)) = true := by
  have h : ∀ k, k < 10 → digB (nI (48 + k)) = true := by decide +kernel
  exact h k hk
theorem m_sub {m k : Nat} : nI m * 10 + nI (48 + k) - 48 = nI (m * 10 + k) := by
  have e : nI (48 + k) = 48 + nI k := (nI_add 48 k).symm
  have e2 : nI (m * 10 + k) = nI m * 10 + nI k := by rw [← nI_add, ← nI_mul]; rfl
  rw [e, e2, Int32.sub_eq_add_neg, Int32.add_assoc, Int32.add_comm 48 (nI k), Int32.add_assoc (nI k), Int32.add_right_neg, Int32.add_zero]
theorem m_sub' {m k : Nat} : 10 * nI m + nI (48 + k) - 48 = nI (m * 10 + k) := by rw [Int32.mul_comm, m_sub]
theorem m_600 {n : Nat} (h : n < 2 ^ 31) : 600 < nI n ↔ 600 < n := nI_ltI (a := 600) (by decide) h
section
variable {g : Nat → Int32} {x : Int32}
theorem tf_vals : (tfG (va_up g 130 0) x) 127 = (if x = 99 then 1 else if x = 118 then 3 else 0) ∧ (tfG (va_up g 130 0) x) 128 = (if x = 43 then 0 else -1) ∧ (tfG (va_up g 130 0) x) 129 = (if x = 115 then 1 else if x = 104 then 1 else if x = 114 then 1 else if x = 120 then 1 else 0) ∧ (tfG (va_up g 130 0) x) 130 = 0 := by
  unfold tfG
  refine ⟨?_, ?_, ?_, ?_⟩
  · rw [up_n _ _ _ _ (by decide), up_n _ _ _ _ (by decide), up_e]
  · rw [up_n _ _ _ _ (by decide), up_e]
  · rw [up_e]
  · rw [up_n _ _ _ _ (by decide), up_n _ _ _ _ (by decide), up_n _ _ _ _ (by decide), up_e]
theorem td_vals (h : digB x = true) : tdG g x 127 = g 127 - 1 ∧ tdG g x 128 = g 128 ∧ tdG g x 129 = (if g 127 - 1 = 0 then 1 else 0) ∧ tdG g x 130 = g 130 := by
  unfold tdG
  rw [if_pos h]
  refine ⟨?_, ?_, ?_, ?_⟩
  · rw [up_n _ _ _ _ (by decide), up_e]
  · rw [up_n _ _ _ _ (by decide), up_n _ _ _ _ (by decide)]
  · rw [up_e]
  · rw [up_n _ _ _ _ (by decide), up_n _ _ _ _ (by decide)]
theorem tn_vals (h : tnB g x = true) : tnG g x 127 = g 127 ∧ tnG g x 128 = 10 * g 128 + x - 48 ∧ tnG g x 129 = 1 ∧ tnG g x 130 = g 130 := by
  unfold tnG
  rw [if_pos h]
  refine ⟨?_, ?_, ?_, ?_⟩
  · rw [up_n _ _ _ _ (by decide), up_n _ _ _ _ (by decide)]
  · rw [up_n _ _ _ _ (by decide), up_e]
  · rw [up_e]
  · rw [up_n _ _ _ _ (by decide), up_n _ _ _ _ (by decide)]
/-- a digit behind c or v -/
theorem mt_dig {nx nx' dg : Int32} (h1 : g 130 = 0) (h2 : g 129 = 0) (h3 : g 127 = dg) (h4 : g 128 = -1) (h5 : 0 < dg) (hnb : nbF nx 0 x = if digB x = true then nx' else 7) (h6 : ¬ nx' = 7) (h7 : ¬ nx' = 6) (hm : Mt nx' 0 (dg - 1) (-1) (if dg - 1 = 0 then 1 else 0) 0) : (tkB g x = true ∧ ¬ nbF nx 0 x = 7 ∧ MG (nbF nx 0 x) (if nbF nx 0 x = 6 then 0 * 10 + x - 48 else 0) (tkG g x)) ∨ (tkB g x = false ∧ nbF nx 0 x = 7) := by
  have q1 : ¬ (¬ g 129 = 0 ∧ x = 59) := fun q => q.1 h2
  have q2 : ¬ ¬ g 130 = 0 := fun q => q h1
  have q3 : 0 < g 127 := by rw [h3]; exact h5
  unfold tkB tkG
  rw [if_neg q1, if_neg q2, if_pos q3, if_neg q1, if_neg q2, if_pos q3]
  cases hd : digB x
  · right
    rw [hnb, hd]
    exact ⟨rfl, rfl⟩
  · left
    have hn : nbF nx 0 x = nx' := by rw [hnb, hd]; rfl
    rw [hn, if_neg h7]
    obtain ⟨v1, v2, v3, v4⟩ := td_vals (g := g) hd
    refine ⟨rfl, h6, ?_⟩
    unfold MG
    rw [v1, v2, v3, v4, h3, h4, h1]
    exact hm
theorem mt_step {nx num : Int32} (h : MG nx num g) : (tkB g x = true ∧ ¬ nbF nx num x = 7 ∧ MG (nbF nx num x) (if nbF nx num x = 6 then num * 10 + x - 48 else 0) (tkG g x)) ∨ (tkB g x = false ∧ nbF nx num x = 7) := by
  rcases h with ⟨e1, e2, e3, e4, e5, e6⟩ | ⟨e1, e2, e3, e4, e5, e6⟩ | ⟨e1, e2, e3, e4, e5, e6⟩ | ⟨e1, e2, e3, e4, e5, e6⟩ | ⟨e1, e2, e3, e4, e5, e6⟩ | ⟨e1, e2, e3, e4, e5, e6⟩ | ⟨e1, e3, e4, e5, e6, m, m1, m2, m3⟩
  · subst e1 e2
    have q1 : ¬ (¬ g 129 = 0 ∧ x = 59) := fun q => q.1 e4
    have q2 : ¬ g 130 = 0 := by rw [e3]; decide
    have hn : nbF 0 0 x = nicF x := rfl
    unfold tkB tkG
    rw [if_neg q1, if_pos q2, if_neg q1, if_pos q2, hn]
    unfold MG
    obtain ⟨v1, v2, v3, v4⟩ := tf_vals (g := g) (x := x)
    rw [v1, v2, v3, v4]
    by_cases c1 : x = 43
    · subst c1; left; exact ⟨rfl, by decide, Or.inr (Or.inr (Or.inr (Or.inr (Or.inr (Or.inl ⟨rfl, rfl, rfl, rfl, rfl, rfl⟩)))))⟩
    by_cases c2 : x = 99
    · subst c2; left; exact ⟨rfl, by decide, Or.inr (Or.inr (Or.inl ⟨rfl, rfl, rfl, rfl, rfl, rfl⟩))⟩
    by_cases c3 : x = 104
    · subst c3; left; exact ⟨rfl, by decide, Or.inr (Or.inl ⟨rfl, rfl, rfl, rfl, rfl, rfl⟩)⟩
    by_cases c4 : x = 114
    · subst c4; left; exact ⟨rfl, by decide, Or.inr (Or.inl ⟨rfl, rfl, rfl, rfl, rfl, rfl⟩)⟩
    by_cases c5 : x = 115
    · subst c5; left; exact ⟨rfl, by decide, Or.inr (Or.inl ⟨rfl, rfl, rfl, rfl, rfl, rfl⟩)⟩
    by_cases c6 : x = 118
    · subst c6; left; exact ⟨rfl, by decide, Or.inr (Or.inr (Or.inr (Or.inr (Or.inl ⟨rfl, rfl, rfl, rfl, rfl, rfl⟩))))⟩
    by_cases c7 : x = 120
    · subst c7; left; exact ⟨rfl, by decide, Or.inr (Or.inl ⟨rfl, rfl, rfl, rfl, rfl, rfl⟩)⟩
    right
    unfold nicF tfB
    simp only [c1, c2, c3, c4, c5, c6, c7, if_false, decide_false, Bool.or_false, and_self]
  · subst e1 e2
    have q2 : ¬ ¬ g 130 = 0 := fun q => q e3
    have q3 : ¬ 0 < g 127 := by rw [e5]; decide
    have hn : nbF 1 0 x = if x = 59 then 0 else 7 := rfl
    unfold tkB tkG
    by_cases c1 : x = 59
    · have q1 : ¬ g 129 = 0 ∧ x = 59 := ⟨by rw [e4]; decide, c1⟩
      rw [if_pos q1, if_pos q1, hn, if_pos c1]
      left
      refine ⟨rfl, by decide, Or.inl ⟨rfl, rfl, ?_, ?_, ?_, ?_⟩⟩
      · rw [up_e]
      · rw [up_n _ _ _ _ (by decide), up_n _ _ _ _ (by decide), up_n _ _ _ _ (by decide), up_e]
      · rw [up_n _ _ _ _ (by decide), up_n _ _ _ _ (by decide), up_e]
      · rw [up_n _ _ _ _ (by decide), up_e]
    · have q1 : ¬ (¬ g 129 = 0 ∧ x = 59) := fun q => c1 q.2
      rw [if_neg q1, if_neg q2, if_neg q3, if_pos e6, hn, if_neg c1]
      right
      exact ⟨rfl, rfl⟩
  · subst e1 e2
    exact mt_dig (nx' := 1) e3 e4 e5 e6 (by decide) rfl (by decide) (by decide) (Or.inr (Or.inl ⟨rfl, rfl, rfl, rfl, rfl, rfl⟩))
  · subst e1 e2
    exact mt_dig (nx' := 2) e3 e4 e5 e6 (by decide) rfl (by decide) (by decide) (Or.inr (Or.inr (Or.inl ⟨rfl, rfl, rfl, rfl, rfl, rfl⟩)))
  · subst e1 e2
    exact mt_dig (nx' := 3) e3 e4 e5 e6 (by decide) rfl (by decide) (by decide) (Or.inr (Or.inr (Or.inr (Or.inl ⟨rfl, rfl, rfl, rfl, rfl, rfl⟩))))
  · subst e1 e2
    have q1 : ¬ (¬ g 129 = 0 ∧ x = 59) := fun q => q.1 e4
    have q2 : ¬ ¬ g 130 = 0 := fun q => q e3
    have q3 : ¬ 0 < g 127 := by rw [e5]; decide
    have q4 : ¬ g 128 = -1 := by rw [e6]; decide
    have hn : nbF 5 0 x = if digB x = true then (if x = 48 then 7 else 6) else 7 := rfl
    unfold tkB tkG
    rw [if_neg q1, if_neg q2, if_neg q3, if_neg q4, if_neg q1, if_neg q2, if_neg q3, if_neg q4, hn]
    have htn : tnB g x = (!(decide (x < 49)) && !(decide (57 < x)) && !(decide (600 < 10 * 0 + x - 48))) := by
      unfold tnB
      rw [e6]
      rfl
    cases hd : digB x
    · right
      refine ⟨?_, rfl⟩
      rw [htn]
      unfold digB at hd
      rw [Bool.and_eq_false_iff, Bool.not_eq_false', Bool.not_eq_false', decide_eq_true_eq, decide_eq_true_eq] at hd
      rcases hd with hd | hd
      · have : x < 49 := by
          rw [lt_toInt] at hd ⊢
          have a1 : (48 : Int32).toInt = 48 := rfl
          have a2 : (49 : Int32).toInt = 49 := rfl
          omega
        rw [decide_eq_true this]; rfl
      · rw [decide_eq_true hd, Bool.not_true, Bool.and_false, Bool.false_and]
    · obtain ⟨k, hk, rfl⟩ := dig_of hd
      by_cases k0 : k = 0
      · subst k0
        right
        rw [htn]
        exact ⟨rfl, rfl⟩
      · left
        have hx : ¬ nI (48 + k) = 48 := fun q => k0 (by have := nI_inj (b := 48) (by omega) (by decide) q; omega)
        have ht : tnB g (nI (48 + k)) = true := by
          rw [htn]
          have hh : ∀ k, k < 10 → ¬ k = 0 → (!(decide (nI (48 + k) < 49)) && !(decide (57 < nI (48 + k))) && !(decide (600 < 10 * 0 + nI (48 + k) - 48))) = true := by decide +kernel
          exact hh k hk k0
        rw [if_pos rfl, if_neg hx, if_pos rfl]
        obtain ⟨v1, v2, v3, v4⟩ := tn_vals ht
        refine ⟨ht, by decide, ?_⟩
        unfold MG
        rw [v1, v2, v3, v4, e3, e5, e6]
        refine Or.inr (Or.inr (Or.inr (Or.inr (Or.inr (Or.inr ⟨rfl, rfl, rfl, rfl, ?_, k, by omega, by omega, ?_⟩)))))
        · exact (m_sub' (m := 0) (k := k)).trans (m_sub (m := 0) (k := k)).symm
        · have e := m_sub (m := 0) (k := k)
          rw [Nat.zero_mul, Nat.zero_add] at e
          exact e
  · subst e1
    have q2 : ¬ ¬ g 130 = 0 := fun q => q e3
    have q3 : ¬ 0 < g 127 := by rw [e5]; decide
    have q4 : ¬ g 128 = -1 := by rw [e6, m3]; exact nm1 (by omega)
    have hn : nbF 6 num x = if x = 59 then 0 else if digB x = true then (if 600 < num * 10 + x - 48 then 7 else 6) else 7 := rfl
    rw [hn]
    unfold tkB tkG
    by_cases c1 : x = 59
    · have q1 : ¬ g 129 = 0 ∧ x = 59 := ⟨by rw [e4]; decide, c1⟩
      rw [if_pos q1, if_pos q1, if_pos c1]
      left
      refine ⟨rfl, by decide, Or.inl ⟨rfl, rfl, ?_, ?_, ?_, ?_⟩⟩
      · rw [up_e]
      · rw [up_n _ _ _ _ (by decide), up_n _ _ _ _ (by decide), up_n _ _ _ _ (by decide), up_e]
      · rw [up_n _ _ _ _ (by decide), up_n _ _ _ _ (by decide), up_e]
      · rw [up_n _ _ _ _ (by decide), up_e]
    · have q1 : ¬ (¬ g 129 = 0 ∧ x = 59) := fun q => c1 q.2
      rw [if_neg q1, if_neg q2, if_neg q3, if_neg q4, if_neg q1, if_neg q2, if_neg q3, if_neg q4, if_neg c1]
      have z0 : ¬ g 128 = 0 := by rw [e6, m3]; exact nI_ne0 (by omega) (by omega)
      have htn : tnB g x = (digB x && !(decide (600 < 10 * num + x - 48))) := by
        unfold tnB digB
        rw [if_neg z0, e6]
      rw [htn]
      cases hd : digB x
      · right
        exact ⟨rfl, rfl⟩
      · obtain ⟨k, hk, rfl⟩ := dig_of hd
        rw [m3, m_sub, m_sub', if_pos rfl]
        by_cases c6 : 600 < m * 10 + k
        · right
          rw [if_pos ((m_600 (by omega)).mpr c6), decide_eq_true ((m_600 (by omega)).mpr c6)]
          exact ⟨rfl, rfl⟩
        · left
          have c6' : ¬ 600 < nI (m * 10 + k) := fun q => c6 ((m_600 (by omega)).mp q)
          rw [if_neg c6', decide_eq_false c6', if_pos rfl]
          have ht : tnB g (nI (48 + k)) = true := by
            rw [htn, hd, m3, m_sub', decide_eq_false c6']; rfl
          obtain ⟨v1, v2, v3, v4⟩ := tn_vals ht
          refine ⟨rfl, by decide, ?_⟩
          unfold MG
          rw [v1, v2, v3, v4, e3, e5, e6, m3, m_sub']
          exact Or.inr (Or.inr (Or.inr (Or.inr (Or.inr (Or.inr ⟨rfl, rfl, rfl, rfl, rfl, m * 10 + k, by omega, by omega, rfl⟩)))))
end
theorem nb_7 (num x : Int32) : nbF 7 num x = 7 := rfl
theorem rdR_snoc (t : Nat → Int32) : ∀ (n j : Nat) (g : Nat → Int32), rdR t j (n + 1) g = if (rdR t j n g).1 = j + n then (if tkB (rdR t j n g).2 (t (j + n)) = true then (j + n + 1, tkG (rdR t j n g).2 (t (j + n))) else (j + n, tkG (rdR t j n g).2 (t (j + n)))) else rdR t j n g := by
  intro n
  induction n with
  | zero =>
    intro j g
    by_cases h : tkB g (t j) = true
    · simp only [rdR, Nat.add_zero, if_true, h]
    · simp only [rdR, Nat.add_zero, if_true, h, if_false, Bool.false_eq_true]
  | succ n ih =>
    intro j g
    rw [rdR]
    by_cases h : tkB g (t j) = true
    · rw [if_pos h, ih]
      have e : rdR t j (n + 1) g = rdR t (j + 1) n (tkG g (t j)) := by rw [rdR, if_pos h]
      rw [e, show j + 1 + n = j + (n + 1) by omega]
    · rw [if_neg h]
      have e : rdR t j (n + 1) g = (j, tkG g (t j)) := by rw [rdR, if_neg h]
      rw [e, if_neg (by show ¬ j = j + (n + 1); omega)]
/-- the two readers after n signs -/
theorem rd_all (t : Nat → Int32) (g : Nat → Int32) : ∀ n, n < 2 ^ 31 → ((cS t n).2.2 = -1 ∧ (rdR t 0 n (rd0 g)).1 = n ∧ MG (cS t n).1 (cS t n).2.1 (rdR t 0 n (rd0 g)).2) ∨ (∃ e, e < n ∧ (cS t n).2.2 = nI e ∧ (cS t n).1 = 7 ∧ (rdR t 0 n (rd0 g)).1 = e) := by
  intro n
  induction n with
  | zero =>
    intro _
    left
    refine ⟨rfl, rfl, Or.inl ⟨rfl, rfl, ?_, ?_, ?_, ?_⟩⟩
    · show rd0 g 130 = 1
      unfold rd0
      rw [up_n _ _ _ _ (by decide), up_n _ _ _ _ (by decide), up_n _ _ _ _ (by decide), up_e]
    · show rd0 g 129 = 0
      unfold rd0
      rw [up_n _ _ _ _ (by decide), up_n _ _ _ _ (by decide), up_e]
    · show rd0 g 127 = 0
      unfold rd0
      rw [up_n _ _ _ _ (by decide), up_e]
    · show rd0 g 128 = -1
      unfold rd0
      rw [up_e]
  | succ n ih =>
    intro hn
    have hs := rdR_snoc t n 0 (rd0 g)
    rw [Nat.zero_add] at hs
    rcases ih (by omega) with ⟨h1, h2, h3⟩ | ⟨e, h1, h2, h3, h4⟩
    · rw [if_pos h2] at hs
      rcases mt_step (x := t n) h3 with ⟨k1, k2, k3⟩ | ⟨k1, k2⟩
      · rw [if_pos k1] at hs
        left
        rw [hs]
        simp only [cS]
        rw [if_neg (fun q => k2 q.1)]
        exact ⟨h1, trivial, k3⟩
      · rw [if_neg (by rw [k1]; decide)] at hs
        right
        rw [hs]
        simp only [cS]
        rw [if_pos ⟨k2, h1⟩]
        exact ⟨n, by omega, rfl, k2, rfl⟩
    · rw [if_neg (by omega)] at hs
      right
      rw [hs]
      simp only [cS]
      rw [h3, nb_7, if_neg (fun q => nm1 (by omega) (h2.symm.trans q.2))]
      exact ⟨e, by omega, h2, rfl, h4⟩
/-- the two buffers -/
def RB (X : yS) (g : Nat → Int32) (G : Nat → Nat → Int32) : Prop := ∃ N, N ≤ 60 ∧ X.1 6 = nI N ∧ g 126 = nI N ∧ (∀ k, k < N → X.2 8 k = G 72 k) ∧ X.1 7 = (cS (G 72) N).1 ∧ X.1 8 = (cS (G 72) N).2.1 ∧ X.1 9 = (cS (G 72) N).2.2
section
variable {X : yS} {g : Nat → Int32} {G : Nat → Nat → Int32}
theorem rb_err (h : RB X g G) (g' : Nat → Int32) {N : Nat} (hN : N ≤ 60) (hg : g 126 = nI N) : (if X.1 9 = -1 then X.1 6 else X.1 9) = nI (rdR (G 72) 0 N (rd0 g')).1 := by
  obtain ⟨N', n1, n2, n3, n4, n5, n6, n7⟩ := h
  have hNN : N' = N := nI_inj (by omega) (by omega) (n3.symm.trans hg)
  subst hNN
  rcases rd_all (G 72) g' N' (by omega) with ⟨h1, h2, h3⟩ | ⟨e, h1, h2, h3, h4⟩
  · rw [n7, h1, if_pos rfl, n2, h2]
  · rw [n7, h2, if_neg (nm1 (by omega)), h4]
theorem rb_scr (h : RB X g G) (g' : Nat → Int32) {N : Nat} (hN : N ≤ 60) (hg : g 126 = nI N) : (X.1 7 = 1 ∨ X.1 7 = 6) ↔ ((rdR (G 72) 0 N (rd0 g')).1 = N ∧ ¬ (rdR (G 72) 0 N (rd0 g')).2 129 = 0) := by
  obtain ⟨N', n1, n2, n3, n4, n5, n6, n7⟩ := h
  have hNN : N' = N := nI_inj (by omega) (by omega) (n3.symm.trans hg)
  subst hNN
  rw [n5]
  rcases rd_all (G 72) g' N' (by omega) with ⟨h1, h2, h3⟩ | ⟨e, h1, h2, h3, h4⟩
  · rcases h3 with ⟨e1, e2, e3, e4, e5, e6⟩ | ⟨e1, e2, e3, e4, e5, e6⟩ | ⟨e1, e2, e3, e4, e5, e6⟩ | ⟨e1, e2, e3, e4, e5, e6⟩ | ⟨e1, e2, e3, e4, e5, e6⟩ | ⟨e1, e2, e3, e4, e5, e6⟩ | ⟨e1, e3, e4, e5, e6, m, m1, m2, m3⟩
    · rw [e1, e4]; exact ⟨fun q => absurd q (by decide), fun q => absurd rfl q.2⟩
    · rw [e1, e4]; exact ⟨fun _ => ⟨h2, by decide⟩, fun _ => Or.inl rfl⟩
    · rw [e1, e4]; exact ⟨fun q => absurd q (by decide), fun q => absurd rfl q.2⟩
    · rw [e1, e4]; exact ⟨fun q => absurd q (by decide), fun q => absurd rfl q.2⟩
    · rw [e1, e4]; exact ⟨fun q => absurd q (by decide), fun q => absurd rfl q.2⟩
    · rw [e1, e4]; exact ⟨fun q => absurd q (by decide), fun q => absurd rfl q.2⟩
    · rw [e1, e4]; exact ⟨fun _ => ⟨h2, by decide⟩, fun _ => Or.inr rfl⟩
  · rw [h3]
    exact ⟨fun q => absurd q (by decide), fun q => by omega⟩
theorem rb_clr (g' : Nat → Int32) (G' : Nat → Nat → Int32) (h0 : g' 126 = 0) : RB (bclrF X.1, X.2) g' G' := by
  refine ⟨0, by decide, ?_, h0, fun k hk => absurd hk (by omega), ?_, ?_, ?_⟩
  · show bclrF X.1 6 = 0
    unfold bclrF
    rw [up_n _ _ _ _ (by decide), up_n _ _ _ _ (by decide), up_n _ _ _ _ (by decide), up_e]
  · show bclrF X.1 7 = 0
    unfold bclrF
    rw [up_n _ _ _ _ (by decide), up_n _ _ _ _ (by decide), up_e]
  · show bclrF X.1 8 = 0
    unfold bclrF
    rw [up_n _ _ _ _ (by decide), up_e]
  · show bclrF X.1 9 = -1
    unfold bclrF
    rw [up_e]
theorem rb_put (h : RB X g G) {x : Int32} (hl : X.1 6 < 60) (g' : Nat → Int32) (G' : Nat → Nat → Int32) (hg : g' 126 = g 126 + 1) (hG : G' 72 = upd (G 72) (g 126).toNatClampNeg x) : RB (bputF X x) g' G' := by
  obtain ⟨N, n1, n2, n3, n4, n5, n6, n7⟩ := h
  have hN : N < 60 := by
    rw [n2] at hl
    exact (nI_ltI (b := 60) (by omega) (by decide)).mp hl
  have c1 : (g 126).toNatClampNeg = N := clamp_of' n3 (by omega)
  have c2 : (X.1 6).toNatClampNeg = N := clamp_of' n2 (by omega)
  rw [c1] at hG
  have hc : cS (G' 72) N = cS (G 72) N := cS_congr N (fun k hk => by rw [hG, ud_n _ _ _ _ (by omega)])
  have hx : G' 72 N = x := by rw [hG, ud_e]
  have hcs : cS (G' 72) (N + 1) = (nbF (X.1 7) (X.1 8) x, if nbF (X.1 7) (X.1 8) x = 6 then X.1 8 * 10 + x - 48 else 0, if nbF (X.1 7) (X.1 8) x = 7 ∧ X.1 9 = -1 then nI N else X.1 9) := by
    simp only [cS]
    rw [hc, hx, ← n5, ← n6, ← n7]
  refine ⟨N + 1, by omega, ?_, by rw [hg, n3, nI_1], fun k hk => ?_, ?_, ?_, ?_⟩
  · show va_up (rdF X.1 x) 6 (X.1 6 + 1) 6 = _
    rw [up_e, n2, nI_1]
  · show va_up X.2 8 (upd (X.2 8) (X.1 6).toNatClampNeg x) 8 k = _
    rw [up_e, c2, hG]
    by_cases q : k = N
    · subst q; rw [ud_e, ud_e]
    · rw [ud_n _ _ _ _ q, ud_n _ _ _ _ q]
      exact n4 k (by omega)
  · rw [hcs]
    show va_up (rdF X.1 x) 6 (X.1 6 + 1) 7 = _
    rw [up_n _ _ _ _ (by decide)]
    unfold rdF
    split
    · rw [up_n _ _ _ _ (by decide), up_n _ _ _ _ (by decide), up_e]
    · rw [up_n _ _ _ _ (by decide), up_e]
  · rw [hcs]
    show va_up (rdF X.1 x) 6 (X.1 6 + 1) 8 = _
    rw [up_n _ _ _ _ (by decide)]
    unfold rdF
    split
    · rw [up_n _ _ _ _ (by decide), up_e]
    · rw [up_e]
  · rw [hcs]
    show va_up (rdF X.1 x) 6 (X.1 6 + 1) 9 = _
    rw [up_n _ _ _ _ (by decide)]
    unfold rdF
    by_cases q : nbF (X.1 7) (X.1 8) x = 7 ∧ X.1 9 = -1
    · rw [if_pos q, up_e]
      simp only
      rw [if_pos q]
      exact n2
    · rw [if_neg q, up_n _ _ _ _ (by decide), up_n _ _ _ _ (by decide)]
      simp only
      rw [if_neg q]
theorem rb_congr (h : RB X g G) {Y : yS} {g' : Nat → Int32} {G' : Nat → Nat → Int32} (h1 : ∀ k, 6 ≤ k → k ≤ 9 → Y.1 k = X.1 k) (h2 : Y.2 8 = X.2 8) (h3 : g' 126 = g 126) (h4 : G' 72 = G 72) : RB Y g' G' := by
  obtain ⟨N, n1, n2, n3, n4, n5, n6, n7⟩ := h
  exact ⟨N, n1, (h1 6 (by decide) (by decide)).trans n2, h3.trans n3, fun k hk => by rw [h2, h4]; exact n4 k hk, by rw [h4]; exact (h1 7 (by decide) (by decide)).trans n5, by rw [h4]; exact (h1 8 (by decide) (by decide)).trans n6, by rw [h4]; exact (h1 9 (by decide) (by decide)).trans n7⟩
end
