/-! what a state's methods leave alone; the rest of the component -/
/-- Y is X but for the state at so, ao -/
def Fr (so ao : Nat) (X Y : yS) : Prop := (∀ k, k < so ∨ so + 19 ≤ k → Y.1 k = X.1 k) ∧ (∀ k, k < ao ∨ ao + 9 ≤ k → Y.2 k = X.2 k)
section
variable {so ao : Nat} {X Y Z : yS}
theorem fr_refl : Fr so ao X X := ⟨fun _ _ => rfl, fun _ _ => rfl⟩
theorem fr_trans (h1 : Fr so ao X Y) (h2 : Fr so ao Y Z) : Fr so ao X Z := ⟨fun k hk => (h2.1 k hk).trans (h1.1 k hk), fun k hk => (h2.2 k hk).trans (h1.2 k hk)⟩
theorem fr_up (hf : Fr so ao X Y) (j : Nat) (hj : j < 19) (v : Int32) : Fr so ao X (va_up Y.1 (so + j) v, Y.2) := ⟨fun k hk => by rw [← hf.1 k hk]; exact up_n _ _ _ _ (by omega), hf.2⟩
theorem fr_up0 (hf : Fr so ao X Y) (v : Int32) : Fr so ao X (va_up Y.1 so v, Y.2) := fr_up hf 0 (by decide) v
theorem fr_row (hf : Fr so ao X Y) (j : Nat) (hj : j < 9) (v : Nat → Int32) : Fr so ao X (Y.1, va_up Y.2 (ao + j) v) := ⟨hf.1, fun k hk => by rw [← hf.2 k hk]; exact up_n _ _ _ _ (by omega)⟩
theorem fr_log (hf : Fr so ao X Y) (a b v : Int32) : Fr so ao X (logPut so ao Y a b v) := by
  have h1 : Fr so ao X (Y.1, va_up (va_up (va_up Y.2 (ao + 6) (upd (Y.2 (ao + 6)) (Y.1 (so + 17)).toNatClampNeg a)) (ao + 7) (upd (Y.2 (ao + 7)) (Y.1 (so + 17)).toNatClampNeg b)) (ao + 8) (upd (Y.2 (ao + 8)) (Y.1 (so + 17)).toNatClampNeg v)) := fr_row (fr_row (fr_row hf 6 (by decide) _) 7 (by decide) _) 8 (by decide) _
  unfold logPut
  split
  · exact fr_up (fr_up h1 17 (by decide) _) 18 (by decide) _
  · exact fr_up h1 17 (by decide) _
theorem fr_unpl (hf : Fr so ao X Y) (v : Int32) : Fr so ao X (unpl so ao Y v) := fr_log (fr_up (fr_up0 hf _) 7 (by decide) _) _ _ _
theorem fr_bhold (hf : Fr so ao X Y) (v : Int32) : Fr so ao X (bhold so ao Y v) := fr_log (fr_up (fr_up (fr_up (fr_up0 hf _) 5 (by decide) _) 6 (by decide) _) 14 (by decide) _) _ _ _
theorem fr_shold (hf : Fr so ao X Y) : Fr so ao X (shold so ao Y) := by
  unfold shold
  split
  · exact fr_up hf 6 (by decide) _
  · exact fr_log (fr_up0 (fr_up hf 6 (by decide) _) _) _ _ _
theorem fr_scrub (hf : Fr so ao X Y) (v : Int32) : Fr so ao X (scrubF so ao Y v) := fr_log (fr_up0 hf _) _ _ _
theorem fr_sbudget (hf : Fr so ao X Y) : Fr so ao X (sbudget so ao Y) := by
  unfold sbudget
  split
  · exact fr_scrub (fr_up hf 8 (by decide) _) _
  · exact fr_up hf 8 (by decide) _
theorem fr_lift (hf : Fr so ao X Y) : Fr so ao X (liftF so ao Y) := fr_log (fr_up (fr_up0 hf _) 4 (by decide) _) _ _ _
end
theorem fr_fire {so ao : Nat} {X : yS} : ∀ (n j : Nat) (Y : yS), Fr so ao X Y → Fr so ao X (fireF so ao j n Y).2 := by
  intro n
  induction n with
  | zero => intro j Y hf; exact hf
  | succ n ih =>
    intro j Y hf
    simp only [fireF]
    split
    · split
      · exact hf
      · exact ih _ _ (fr_log (fr_up hf 13 (by decide) _) _ _ _)
    · exact ih _ _ hf
section
variable {so ao : Nat} {X Y Z : yS}
theorem fr_down (hf : Fr so ao X Y) (b : Int32) : Fr so ao X (downF so ao b Y) := by
  unfold downF
  split
  · split
    · exact fr_up hf 2 (by decide) _
    · split
      · exact fr_lift hf
      · exact fr_unpl hf _
  · exact fr_unpl hf _
theorem fr_cdown (hf : Fr so ao X Y) : Fr so ao X (cdown so ao Y) := by
  unfold cdown
  split
  · exact fr_bhold hf _
  · split
    · exact fr_down (fr_fire _ _ _ hf) _
    · exact fr_down hf _
theorem fr_sec1 (hf : Fr so ao X Y) : Fr so ao X (sec1 so ao Y) := by
  unfold sec1
  split
  · exact fr_cdown hf
  · split
    · exact fr_sbudget hf
    · exact hf
theorem fr_sec2 (hf : Fr so ao X Y) : Fr so ao X (sec2 so ao Y) := by
  unfold sec2
  split
  · exact fr_shold hf
  · exact hf
theorem fr_sec (hf : Fr so ao X Y) : Fr so ao X (secF so ao Y) := fr_up (fr_sec2 (fr_sec1 hf)) 1 (by decide) _
end
theorem fr_secs {so ao : Nat} {X : yS} : ∀ (n : Nat) (Y : yS), Fr so ao X Y → Fr so ao X (secs so ao n Y) := by
  intro n
  induction n with
  | zero => intro Y hf; exact hf
  | succ n ih => intro Y hf; exact ih _ (fr_sec hf)
section
variable {so ao : Nat} {X Y Z : yS}
theorem fr_obey (hf : Fr so ao X Y) (k : Int32) : Fr so ao X (obeyF so ao Y k) := by
  unfold obeyF
  split
  · exact fr_up (fr_up (fr_up (fr_up (fr_up0 hf _) 3 (by decide) _) 12 (by decide) _) 13 (by decide) _) 14 (by decide) _
  · split
    · exact fr_unpl hf _
    · split
      · exact fr_log (fr_up0 hf _) _ _ _
      · exact fr_scrub hf _
theorem fr_back (hf : Fr so ao X Y) (k : Int32) : Fr so ao X (backF so ao Y k) := fr_log (fr_up (fr_up (fr_up (fr_up (fr_up hf 2 (by decide) _) 9 (by decide) _) 12 (by decide) _) 13 (by decide) _) 14 (by decide) _) _ _ _
theorem fr_vput (hf : Fr 20 10 X Y) (k v x : Int32) : Fr 20 10 X (vputF Y k v x) := fr_row (fr_row hf 0 (by decide) _) 1 (by decide) _
theorem inv_obey (hso : 20 ≤ so) (hao : 10 ≤ ao) (k : Int32) (hi : Inv so X) : Inv so (obeyF so ao X k) := by
  unfold obeyF
  split
  · exact inv_up (inv_up (inv_up (inv_up (inv_up hi (by omega) (by omega) (by omega) (by omega) (by omega) (by omega)) (by omega) (by omega) (by omega) (by omega) (by omega) (by omega)) (by omega) (by omega) (by omega) (by omega) (by omega) (by omega)) (by omega) (by omega) (by omega) (by omega) (by omega) (by omega)) (by omega) (by omega) (by omega) (by omega) (by omega) (by omega)
  · split
    · exact inv_unpl hso hao _ hi
    · split
      · exact inv_log (inv_up hi (by omega) (by omega) (by omega) (by omega) (by omega) (by omega)) hso hao
      · exact inv_scrub hso hao _ hi
theorem inv_back (hso : 20 ≤ so) (hao : 10 ≤ ao) (k : Int32) (hi : Inv so X) : Inv so (backF so ao X k) := inv_log (inv_up (inv_up (inv_up (inv_up (inv_up hi (by omega) (by omega) (by omega) (by omega) (by omega) (by omega)) (by omega) (by omega) (by omega) (by omega) (by omega) (by omega)) (by omega) (by omega) (by omega) (by omega) (by omega) (by omega)) (by omega) (by omega) (by omega) (by omega) (by omega) (by omega)) (by omega) (by omega) (by omega) (by omega) (by omega) (by omega)) hso hao
theorem inv_vput (k v x : Int32) (hi : Inv 20 X) : Inv 20 (vputF X k v x) := hi
theorem inv2_of (hf : Fr 20 10 X Y) (hi : Inv2 X) (hY : Inv 20 Y) : Inv2 Y := ⟨hY, by rw [hf.1 4 (by decide)]; exact hi.2.1, by rw [hf.1 6 (by decide)]; exact hi.2.2⟩
end
/-- the buffer's length -/
def bN (X : yS) : Nat := (X.1 6).toNatClampNeg
/-- a script's command at a place, if it is possible -/
def carF (X : yS) (a : Nat) : Option yS :=
  if codeF X (nI a) = 43 then (if 99999 - X.1 21 < numAtF (X.2 8) (a + 1) (bN X - (a + 1)) 0 then none else some (secs 20 10 (numAtF (X.2 8) (a + 1) (bN X - (a + 1)) 0).toNatClampNeg X))
  else if codeF X (nI a) = 99 then (if dgtF X (nI (a + 1)) < 0 ∨ ¬ dgtF X (nI (a + 1)) < X.1 4 ∨ allowR 20 X (dgtF X (nI (a + 1))) = false then none else some (backF 20 10 X (dgtF X (nI (a + 1)))))
  else if codeF X (nI a) = 104 then (if allowF 20 10 X 1 = true then some (obeyF 20 10 X 1) else none)
  else if codeF X (nI a) = 114 then (if allowF 20 10 X 2 = true then some (obeyF 20 10 X 2) else none)
  else if codeF X (nI a) = 115 then (if allowF 20 10 X 0 = true then some (obeyF 20 10 X 0) else none)
  else if codeF X (nI a) = 118 then (if (dgtF X (nI (a + 1)) < 0 ∨ ¬ dgtF X (nI (a + 1)) < X.1 5) ∨ (dgtF X (nI (a + 2)) < 0 ∨ ¬ dgtF X (nI (a + 2)) < 5) ∨ (dgtF X (nI (a + 3)) < 0 ∨ 2 < dgtF X (nI (a + 3))) then none else some (vputF X (dgtF X (nI (a + 1))) (dgtF X (nI (a + 2))) (dgtF X (nI (a + 3)))))
  else if codeF X (nI a) = 120 then (if allowF 20 10 X 3 = true then some (obeyF 20 10 X 3) else none)
  else none
def RO (r : Option yS) (X : yS) (o : Nat → Int64) (h : Int64) (c : Nat × Nat) : Option (xR × xW) := match r with
  | none => RI 0 X o h c
  | some Y => RI 1 Y o h c
theorem RO_n (X : yS) (o : Nat → Int64) (h : Int64) (c : Nat × Nat) : RO none X o h c = some (.inl (some (.int 0)), (hp X.1 X.2 o h, c)) := rfl
theorem RO_s (X Y : yS) (o : Nat → Int64) (h : Int64) (c : Nat × Nat) : RO (some Y) X o h c = some (.inl (some (.int 1)), (hp Y.1 Y.2 o h, c)) := rfl
theorem car_all {P : yS → Prop} {X Y : yS} {a : Nat} (h : carF X a = some Y) (h1 : ∀ n, P (secs 20 10 n X)) (h2 : ∀ k, P (backF 20 10 X k)) (h3 : ∀ k, P (obeyF 20 10 X k)) (h4 : ∀ k v x, P (vputF X k v x)) : P Y := by
  unfold carF at h
  split at h
  · split at h
    · cases h
    · injection h with h; subst h; exact h1 _
  split at h
  · split at h
    · cases h
    · injection h with h; subst h; exact h2 _
  split at h
  · split at h
    · injection h with h; subst h; exact h3 _
    · cases h
  split at h
  · split at h
    · injection h with h; subst h; exact h3 _
    · cases h
  split at h
  · split at h
    · injection h with h; subst h; exact h3 _
    · cases h
  split at h
  · split at h
    · cases h
    · injection h with h; subst h; exact h4 _ _ _
  split at h
  · split at h
    · injection h with h; subst h; exact h3 _
    · cases h
  cases h
theorem car_fr {X Y : yS} {a : Nat} (h : carF X a = some Y) : Fr 20 10 X Y := car_all h (fun _ => fr_secs _ _ fr_refl) (fun _ => fr_back fr_refl _) (fun _ => fr_obey fr_refl _) (fun _ _ _ => fr_vput fr_refl _ _ _)
theorem car_inv {X Y : yS} {a : Nat} (h : carF X a = some Y) (hi : Inv 20 X) : Inv 20 Y := car_all h (fun _ => inv_secs (by decide) (by decide) _ _ hi) (fun _ => inv_back (by decide) (by decide) _ hi) (fun _ => inv_obey (by decide) (by decide) _ hi) (fun _ _ _ => inv_vput _ _ _ hi)
/-- the script from a place on, n commands at most -/
def scrF : Nat → Nat → yS → Nat × yS
  | 0, _, X => (0, X)
  | n + 1, a, X => match carF X a with
    | none => (0, X)
    | some Y => ((scrF n (fe (fun k => decide (X.2 8 k = 59)) a (bN X - a) + 1) Y).1 + 1, (scrF n (fe (fun k => decide (X.2 8 k = 59)) a (bN X - a) + 1) Y).2)
/-- run -/
def runF (fp : Int32) : Nat → Int32 → yS → Nat × yS
  | 0, _, X => (0, X)
  | n + 1, b, X => if X.1 20 = fp ∧ b = 0 then ((runF fp n (if (secF 20 10 X).1 33 = X.1 33 then 0 else 1) (secF 20 10 X)).1 + 1, (runF fp n (if (secF 20 10 X).1 33 = X.1 33 then 0 else 1) (secF 20 10 X)).2) else (0, X)
theorem fe_le (P : Nat → Bool) : ∀ n j, fe P j n ≤ j + n := by
  intro n
  induction n with
  | zero => intro j; exact Nat.le_refl _
  | succ n ih =>
    intro j
    simp only [fe]
    split
    · omega
    · have := ih (j + 1); omega
section
variable {o : Nat → Int64} {h : Int64} {c : Nat × Nat}
theorem e_advX (d : Nat) (x : Int32) (X : yS) (hi : Inv 20 X) : ev (d + 6) iX5_advanced [.ref 10, .int x] (hp X.1 X.2 o h, c) = RO (if 99999 - X.1 21 < x then none else some (secs 20 10 x.toNatClampNeg X)) X o h c := by
  by_cases q0 : x < 0
  · have h1 : ¬ (0 : Int32) < x := fun z => Int32.lt_irrefl (Int32.lt_trans q0 z)
    have h2 : x.toNatClampNeg = 0 := by
      rw [Int32.toNatClampNeg, Int.toNat_eq_zero]
      have := Int32.lt_iff_toInt_lt.mp q0
      have e0 : (0 : Int32).toInt = 0 := rfl
      omega
    rw [h2, n_X5_advanced]
    by_cases q1 : 99999 - X.1 21 < x
    · simp +decide only [s_X5_advanced_0, s_X5_advanced_1, s_X5_advanced_2, s_X5_advanced_5, s_X5_advanced_8, s_X5_advanced_9, s_X5_advanced_9b, s_X5_advanced_9c, s_X5_advanced_10, s_X5_advanced_11, s_X5_advanced_13, s_X5_advanced_14, s_X5_advanced_17, s_X5_advanced_18, s_X5_advanced_21, s_X5_advanced_22, s_X5_advanced_25, s_X5_advanced_28, s_X5_advanced_29, s_X5_advanced_29b, s_X5_advanced_29c, hx_10, hg_10_0, hg_10_1, hs_10_1, hg_10_2, hs_10_2, hg_10_3, hs_10_3, hg_10_4, hs_10_4, hg_10_5, hs_10_5, hg_10_6, hs_10_6, hg_10_7, hs_10_7, hg_10_8, hs_10_8, hg_10_9, hs_10_9, hg_10_10, hs_10_10, hg_10_11, hs_10_11, hg_10_12, hs_10_12, hg_10_13, hg_10_14, hg_10_15, hg_10_16, hg_10_17, xk_s, ts_s, ts_n, Option.bind_some, xc_n, xc_i, xc_r, xc_l, xc_d, xcats_n, xcats_i, xcats_r, xcats_l, xcats_d, and_true, true_and, and_self, if_true, if_false, Nat.reduceAdd, Nat.reduceLeDiff, Nat.zero_le, decide_true, decide_false, Bool.not_true, Bool.not_false, Bool.and_true, Bool.true_and, Bool.and_false, Bool.false_and, Bool.true_or, Bool.false_or, Bool.or_true, Bool.or_false, Bool.false_eq_true, q1, e_room0, RO_n]
    · simp +decide only [s_X5_advanced_0, s_X5_advanced_1, s_X5_advanced_2, s_X5_advanced_5, s_X5_advanced_8, s_X5_advanced_9, s_X5_advanced_9b, s_X5_advanced_9c, s_X5_advanced_10, s_X5_advanced_11, s_X5_advanced_12, s_X5_advanced_13, s_X5_advanced_14, s_X5_advanced_17, s_X5_advanced_18, s_X5_advanced_21, s_X5_advanced_22, s_X5_advanced_25, s_X5_advanced_28, s_X5_advanced_29, s_X5_advanced_29b, s_X5_advanced_29c, hx_10, hg_10_0, hg_10_1, hs_10_1, hg_10_2, hs_10_2, hg_10_3, hs_10_3, hg_10_4, hs_10_4, hg_10_5, hs_10_5, hg_10_6, hs_10_6, hg_10_7, hs_10_7, hg_10_8, hs_10_8, hg_10_9, hs_10_9, hg_10_10, hs_10_10, hg_10_11, hs_10_11, hg_10_12, hs_10_12, hg_10_13, hg_10_14, hg_10_15, hg_10_16, hg_10_17, xk_s, ts_s, ts_n, Option.bind_some, xc_n, xc_i, xc_r, xc_l, xc_d, xcats_n, xcats_i, xcats_r, xcats_l, xcats_d, and_true, true_and, and_self, if_true, if_false, Nat.reduceAdd, Nat.reduceLeDiff, Nat.zero_le, decide_true, decide_false, Bool.not_true, Bool.not_false, Bool.and_true, Bool.true_and, Bool.and_false, Bool.false_and, Bool.true_or, Bool.false_or, Bool.or_true, Bool.or_false, Bool.false_eq_true, q1, h1, e_room0, RO_s, secs]
  · obtain ⟨N, hN, rfl⟩ := nI_of q0
    rw [e_adv0 _ N hN _ hi, nI_clamp hN]
    by_cases q1 : 99999 - X.1 21 < nI N
    · rw [if_pos q1, if_pos q1]; rfl
    · rw [if_neg q1, if_neg q1]; rfl
theorem e_car (d : Nat) (a : Nat) (ha : a ≤ 61) (X : yS) (hi : Inv2 X) : ev (d + 8) iX7_carriedOut [.ref 0, .int (nI a)] (hp X.1 X.2 o h, c) = RO (carF X a) X o h c := by
  obtain ⟨N, n1, n2⟩ := hi.2.2
  have hb : bN X = N := clamp_of' n2 (by omega)
  have e1 := fun d k => e_codeAt (o := o) (h := h) (c := c) (G := X.2) d k N n1 n2
  have e2 := fun d k => e_dgt (o := o) (h := h) (c := c) (G := X.2) d k N n1 n2
  have e3 := fun d => e_numAt (o := o) (h := h) (c := c) (G := X.2) d (a + 1) N n1 n2 (by omega)
  have a1 : nI a + 1 = nI (a + 1) := nI_1 a
  have a2 : nI a + 2 = nI (a + 2) := nI_add a 2
  have a3 : nI a + 3 = nI (a + 3) := nI_add a 3
  rw [← hb] at e3
  rw [n_X7_carriedOut]
  simp only [pr_eta] at e1 e2
  unfold carF
  generalize hk : codeF X (nI a) = k at *
  by_cases q1 : k = 43
  · generalize hv : numAtF (X.2 8) (a + 1) (bN X - (a + 1)) 0 = v at *
    by_cases r : 99999 - X.1 21 < v <;> simp +decide only [s_X7_carriedOut_0, s_X7_carriedOut_1, s_X7_carriedOut_4, s_X7_carriedOut_5, s_X7_carriedOut_76, s_X7_carriedOut_77, s_X7_carriedOut_78, s_X7_carriedOut_81, s_X7_carriedOut_81b, s_X7_carriedOut_81c, s_X7_carriedOut_82, s_X7_carriedOut_83, s_X7_carriedOut_84, s_X7_carriedOut_87, s_X7_carriedOut_87b, s_X7_carriedOut_87c, s_X7_carriedOut_88, s_X7_carriedOut_89, s_X7_carriedOut_90, s_X7_carriedOut_93, s_X7_carriedOut_93b, s_X7_carriedOut_93c, s_X7_carriedOut_94, s_X7_carriedOut_95, s_X7_carriedOut_96, s_X7_carriedOut_99, s_X7_carriedOut_99b, s_X7_carriedOut_99c, s_X7_carriedOut_100, s_X7_carriedOut_101, s_X7_carriedOut_102, s_X7_carriedOut_105, s_X7_carriedOut_106, s_X7_carriedOut_107, s_X7_carriedOut_108, s_X7_carriedOut_111, s_X7_carriedOut_114, s_X7_carriedOut_114b, s_X7_carriedOut_114c, s_X7_carriedOut_115, s_X7_carriedOut_116, s_X7_carriedOut_119, s_X7_carriedOut_120, s_X7_carriedOut_123, s_X7_carriedOut_124, s_X7_carriedOut_125, s_X7_carriedOut_126, s_X7_carriedOut_129, s_X7_carriedOut_132, s_X7_carriedOut_132b, s_X7_carriedOut_132c, s_X7_carriedOut_133, s_X7_carriedOut_134, s_X7_carriedOut_135, s_X7_carriedOut_138, s_X7_carriedOut_139, s_X7_carriedOut_140, s_X7_carriedOut_141, s_X7_carriedOut_144, s_X7_carriedOut_145, s_X7_carriedOut_148, s_X7_carriedOut_149, s_X7_carriedOut_150, s_X7_carriedOut_151, s_X7_carriedOut_154, s_X7_carriedOut_155, s_X7_carriedOut_158, s_X7_carriedOut_159, s_X7_carriedOut_160, s_X7_carriedOut_161, s_X7_carriedOut_164, s_X7_carriedOut_167, s_X7_carriedOut_167b, s_X7_carriedOut_167c, s_X7_carriedOut_168, s_X7_carriedOut_169, s_X7_carriedOut_169b, s_X7_carriedOut_169c, s_X7_carriedOut_8, hx_0, hg_0_0, hg_0_1, hg_0_2, hg_0_3, hg_0_4, hs_0_4, hg_0_5, hx_10, hg_10_0, hg_10_1, hs_10_1, hg_10_2, hs_10_2, hg_10_3, hs_10_3, hg_10_4, hs_10_4, hg_10_5, hs_10_5, hg_10_6, hs_10_6, hg_10_7, hs_10_7, hg_10_8, hs_10_8, hg_10_9, hs_10_9, hg_10_10, hs_10_10, hg_10_11, hs_10_11, hg_10_12, hs_10_12, hg_10_13, hg_10_14, hg_10_15, hg_10_16, hg_10_17, hx_86, hg_86_0, hg_86_1, hs_86_1, hg_86_2, hs_86_2, hg_86_3, hs_86_3, hg_86_4, hs_86_4, xk_s, ts_s, ts_n, Option.bind_some, xc_n, xc_i, xc_r, xc_l, xc_d, xcats_n, xcats_i, xcats_r, xcats_l, xcats_d, and_true, true_and, and_self, if_true, if_false, Nat.reduceAdd, Nat.reduceLeDiff, Nat.zero_le, decide_true, decide_false, Bool.not_true, Bool.not_false, Bool.and_true, Bool.true_and, Bool.and_false, Bool.false_and, Bool.true_or, Bool.false_or, Bool.or_true, Bool.or_false, Bool.false_eq_true, true_or, or_true, false_or, or_false, not_true_eq_false, not_false_eq_true, false_and, and_false, ne_eq, or_self, pr_eta, hk, q1, r, a1, e1, e3, e_advX _ _ _ hi.1, RO_n, RO_s]
  by_cases q2 : k = 99
  · generalize hp1 : dgtF X (nI (a + 1)) = p1 at *
    by_cases r : p1 < 0 ∨ ¬ p1 < X.1 4 ∨ allowR 20 X p1 = false <;> simp +decide only [s_X7_carriedOut_0, s_X7_carriedOut_1, s_X7_carriedOut_4, s_X7_carriedOut_5, s_X7_carriedOut_76, s_X7_carriedOut_77, s_X7_carriedOut_78, s_X7_carriedOut_81, s_X7_carriedOut_81b, s_X7_carriedOut_81c, s_X7_carriedOut_82, s_X7_carriedOut_83, s_X7_carriedOut_84, s_X7_carriedOut_87, s_X7_carriedOut_87b, s_X7_carriedOut_87c, s_X7_carriedOut_88, s_X7_carriedOut_89, s_X7_carriedOut_90, s_X7_carriedOut_93, s_X7_carriedOut_93b, s_X7_carriedOut_93c, s_X7_carriedOut_94, s_X7_carriedOut_95, s_X7_carriedOut_96, s_X7_carriedOut_99, s_X7_carriedOut_99b, s_X7_carriedOut_99c, s_X7_carriedOut_100, s_X7_carriedOut_101, s_X7_carriedOut_102, s_X7_carriedOut_105, s_X7_carriedOut_106, s_X7_carriedOut_107, s_X7_carriedOut_108, s_X7_carriedOut_111, s_X7_carriedOut_114, s_X7_carriedOut_114b, s_X7_carriedOut_114c, s_X7_carriedOut_115, s_X7_carriedOut_116, s_X7_carriedOut_119, s_X7_carriedOut_120, s_X7_carriedOut_123, s_X7_carriedOut_124, s_X7_carriedOut_125, s_X7_carriedOut_126, s_X7_carriedOut_129, s_X7_carriedOut_132, s_X7_carriedOut_132b, s_X7_carriedOut_132c, s_X7_carriedOut_133, s_X7_carriedOut_134, s_X7_carriedOut_135, s_X7_carriedOut_138, s_X7_carriedOut_139, s_X7_carriedOut_140, s_X7_carriedOut_141, s_X7_carriedOut_144, s_X7_carriedOut_145, s_X7_carriedOut_148, s_X7_carriedOut_149, s_X7_carriedOut_150, s_X7_carriedOut_151, s_X7_carriedOut_154, s_X7_carriedOut_155, s_X7_carriedOut_158, s_X7_carriedOut_159, s_X7_carriedOut_160, s_X7_carriedOut_161, s_X7_carriedOut_164, s_X7_carriedOut_167, s_X7_carriedOut_167b, s_X7_carriedOut_167c, s_X7_carriedOut_168, s_X7_carriedOut_169, s_X7_carriedOut_169b, s_X7_carriedOut_169c, s_X7_carriedOut_8, hx_0, hg_0_0, hg_0_1, hg_0_2, hg_0_3, hg_0_4, hs_0_4, hg_0_5, hx_10, hg_10_0, hg_10_1, hs_10_1, hg_10_2, hs_10_2, hg_10_3, hs_10_3, hg_10_4, hs_10_4, hg_10_5, hs_10_5, hg_10_6, hs_10_6, hg_10_7, hs_10_7, hg_10_8, hs_10_8, hg_10_9, hs_10_9, hg_10_10, hs_10_10, hg_10_11, hs_10_11, hg_10_12, hs_10_12, hg_10_13, hg_10_14, hg_10_15, hg_10_16, hg_10_17, hx_86, hg_86_0, hg_86_1, hs_86_1, hg_86_2, hs_86_2, hg_86_3, hs_86_3, hg_86_4, hs_86_4, xk_s, ts_s, ts_n, Option.bind_some, xc_n, xc_i, xc_r, xc_l, xc_d, xcats_n, xcats_i, xcats_r, xcats_l, xcats_d, and_true, true_and, and_self, if_true, if_false, Nat.reduceAdd, Nat.reduceLeDiff, Nat.zero_le, decide_true, decide_false, Bool.not_true, Bool.not_false, Bool.and_true, Bool.true_and, Bool.and_false, Bool.false_and, Bool.true_or, Bool.false_or, Bool.or_true, Bool.or_false, Bool.false_eq_true, hk, q2, r, a1, hp1, e1, e2, e_recycled _ _ _ hi, RO_n, RO_s]
  by_cases q3 : k = 104
  · cases r : allowF 20 10 X 1 <;> simp +decide only [s_X7_carriedOut_0, s_X7_carriedOut_1, s_X7_carriedOut_4, s_X7_carriedOut_5, s_X7_carriedOut_76, s_X7_carriedOut_77, s_X7_carriedOut_78, s_X7_carriedOut_81, s_X7_carriedOut_81b, s_X7_carriedOut_81c, s_X7_carriedOut_82, s_X7_carriedOut_83, s_X7_carriedOut_84, s_X7_carriedOut_87, s_X7_carriedOut_87b, s_X7_carriedOut_87c, s_X7_carriedOut_88, s_X7_carriedOut_89, s_X7_carriedOut_90, s_X7_carriedOut_93, s_X7_carriedOut_93b, s_X7_carriedOut_93c, s_X7_carriedOut_94, s_X7_carriedOut_95, s_X7_carriedOut_96, s_X7_carriedOut_99, s_X7_carriedOut_99b, s_X7_carriedOut_99c, s_X7_carriedOut_100, s_X7_carriedOut_101, s_X7_carriedOut_102, s_X7_carriedOut_105, s_X7_carriedOut_106, s_X7_carriedOut_107, s_X7_carriedOut_108, s_X7_carriedOut_111, s_X7_carriedOut_114, s_X7_carriedOut_114b, s_X7_carriedOut_114c, s_X7_carriedOut_115, s_X7_carriedOut_116, s_X7_carriedOut_119, s_X7_carriedOut_120, s_X7_carriedOut_123, s_X7_carriedOut_124, s_X7_carriedOut_125, s_X7_carriedOut_126, s_X7_carriedOut_129, s_X7_carriedOut_132, s_X7_carriedOut_132b, s_X7_carriedOut_132c, s_X7_carriedOut_133, s_X7_carriedOut_134, s_X7_carriedOut_135, s_X7_carriedOut_138, s_X7_carriedOut_139, s_X7_carriedOut_140, s_X7_carriedOut_141, s_X7_carriedOut_144, s_X7_carriedOut_145, s_X7_carriedOut_148, s_X7_carriedOut_149, s_X7_carriedOut_150, s_X7_carriedOut_151, s_X7_carriedOut_154, s_X7_carriedOut_155, s_X7_carriedOut_158, s_X7_carriedOut_159, s_X7_carriedOut_160, s_X7_carriedOut_161, s_X7_carriedOut_164, s_X7_carriedOut_167, s_X7_carriedOut_167b, s_X7_carriedOut_167c, s_X7_carriedOut_168, s_X7_carriedOut_169, s_X7_carriedOut_169b, s_X7_carriedOut_169c, s_X7_carriedOut_8, hx_0, hg_0_0, hg_0_1, hg_0_2, hg_0_3, hg_0_4, hs_0_4, hg_0_5, hx_10, hg_10_0, hg_10_1, hs_10_1, hg_10_2, hs_10_2, hg_10_3, hs_10_3, hg_10_4, hs_10_4, hg_10_5, hs_10_5, hg_10_6, hs_10_6, hg_10_7, hs_10_7, hg_10_8, hs_10_8, hg_10_9, hs_10_9, hg_10_10, hs_10_10, hg_10_11, hs_10_11, hg_10_12, hs_10_12, hg_10_13, hg_10_14, hg_10_15, hg_10_16, hg_10_17, hx_86, hg_86_0, hg_86_1, hs_86_1, hg_86_2, hs_86_2, hg_86_3, hs_86_3, hg_86_4, hs_86_4, xk_s, ts_s, ts_n, Option.bind_some, xc_n, xc_i, xc_r, xc_l, xc_d, xcats_n, xcats_i, xcats_r, xcats_l, xcats_d, and_true, true_and, and_self, if_true, if_false, Nat.reduceAdd, Nat.reduceLeDiff, Nat.zero_le, decide_true, decide_false, Bool.not_true, Bool.not_false, Bool.and_true, Bool.true_and, Bool.and_false, Bool.false_and, Bool.true_or, Bool.false_or, Bool.or_true, Bool.or_false, Bool.false_eq_true, hk, q3, r, e1, e_obeyed _ _ _ hi, RO_n, RO_s]
  by_cases q4 : k = 114
  · cases r : allowF 20 10 X 2 <;> simp +decide only [s_X7_carriedOut_0, s_X7_carriedOut_1, s_X7_carriedOut_4, s_X7_carriedOut_5, s_X7_carriedOut_76, s_X7_carriedOut_77, s_X7_carriedOut_78, s_X7_carriedOut_81, s_X7_carriedOut_81b, s_X7_carriedOut_81c, s_X7_carriedOut_82, s_X7_carriedOut_83, s_X7_carriedOut_84, s_X7_carriedOut_87, s_X7_carriedOut_87b, s_X7_carriedOut_87c, s_X7_carriedOut_88, s_X7_carriedOut_89, s_X7_carriedOut_90, s_X7_carriedOut_93, s_X7_carriedOut_93b, s_X7_carriedOut_93c, s_X7_carriedOut_94, s_X7_carriedOut_95, s_X7_carriedOut_96, s_X7_carriedOut_99, s_X7_carriedOut_99b, s_X7_carriedOut_99c, s_X7_carriedOut_100, s_X7_carriedOut_101, s_X7_carriedOut_102, s_X7_carriedOut_105, s_X7_carriedOut_106, s_X7_carriedOut_107, s_X7_carriedOut_108, s_X7_carriedOut_111, s_X7_carriedOut_114, s_X7_carriedOut_114b, s_X7_carriedOut_114c, s_X7_carriedOut_115, s_X7_carriedOut_116, s_X7_carriedOut_119, s_X7_carriedOut_120, s_X7_carriedOut_123, s_X7_carriedOut_124, s_X7_carriedOut_125, s_X7_carriedOut_126, s_X7_carriedOut_129, s_X7_carriedOut_132, s_X7_carriedOut_132b, s_X7_carriedOut_132c, s_X7_carriedOut_133, s_X7_carriedOut_134, s_X7_carriedOut_135, s_X7_carriedOut_138, s_X7_carriedOut_139, s_X7_carriedOut_140, s_X7_carriedOut_141, s_X7_carriedOut_144, s_X7_carriedOut_145, s_X7_carriedOut_148, s_X7_carriedOut_149, s_X7_carriedOut_150, s_X7_carriedOut_151, s_X7_carriedOut_154, s_X7_carriedOut_155, s_X7_carriedOut_158, s_X7_carriedOut_159, s_X7_carriedOut_160, s_X7_carriedOut_161, s_X7_carriedOut_164, s_X7_carriedOut_167, s_X7_carriedOut_167b, s_X7_carriedOut_167c, s_X7_carriedOut_168, s_X7_carriedOut_169, s_X7_carriedOut_169b, s_X7_carriedOut_169c, s_X7_carriedOut_8, hx_0, hg_0_0, hg_0_1, hg_0_2, hg_0_3, hg_0_4, hs_0_4, hg_0_5, hx_10, hg_10_0, hg_10_1, hs_10_1, hg_10_2, hs_10_2, hg_10_3, hs_10_3, hg_10_4, hs_10_4, hg_10_5, hs_10_5, hg_10_6, hs_10_6, hg_10_7, hs_10_7, hg_10_8, hs_10_8, hg_10_9, hs_10_9, hg_10_10, hs_10_10, hg_10_11, hs_10_11, hg_10_12, hs_10_12, hg_10_13, hg_10_14, hg_10_15, hg_10_16, hg_10_17, hx_86, hg_86_0, hg_86_1, hs_86_1, hg_86_2, hs_86_2, hg_86_3, hs_86_3, hg_86_4, hs_86_4, xk_s, ts_s, ts_n, Option.bind_some, xc_n, xc_i, xc_r, xc_l, xc_d, xcats_n, xcats_i, xcats_r, xcats_l, xcats_d, and_true, true_and, and_self, if_true, if_false, Nat.reduceAdd, Nat.reduceLeDiff, Nat.zero_le, decide_true, decide_false, Bool.not_true, Bool.not_false, Bool.and_true, Bool.true_and, Bool.and_false, Bool.false_and, Bool.true_or, Bool.false_or, Bool.or_true, Bool.or_false, Bool.false_eq_true, hk, q4, r, e1, e_obeyed _ _ _ hi, RO_n, RO_s]
  by_cases q5 : k = 115
  · cases r : allowF 20 10 X 0 <;> simp +decide only [s_X7_carriedOut_0, s_X7_carriedOut_1, s_X7_carriedOut_4, s_X7_carriedOut_5, s_X7_carriedOut_76, s_X7_carriedOut_77, s_X7_carriedOut_78, s_X7_carriedOut_81, s_X7_carriedOut_81b, s_X7_carriedOut_81c, s_X7_carriedOut_82, s_X7_carriedOut_83, s_X7_carriedOut_84, s_X7_carriedOut_87, s_X7_carriedOut_87b, s_X7_carriedOut_87c, s_X7_carriedOut_88, s_X7_carriedOut_89, s_X7_carriedOut_90, s_X7_carriedOut_93, s_X7_carriedOut_93b, s_X7_carriedOut_93c, s_X7_carriedOut_94, s_X7_carriedOut_95, s_X7_carriedOut_96, s_X7_carriedOut_99, s_X7_carriedOut_99b, s_X7_carriedOut_99c, s_X7_carriedOut_100, s_X7_carriedOut_101, s_X7_carriedOut_102, s_X7_carriedOut_105, s_X7_carriedOut_106, s_X7_carriedOut_107, s_X7_carriedOut_108, s_X7_carriedOut_111, s_X7_carriedOut_114, s_X7_carriedOut_114b, s_X7_carriedOut_114c, s_X7_carriedOut_115, s_X7_carriedOut_116, s_X7_carriedOut_119, s_X7_carriedOut_120, s_X7_carriedOut_123, s_X7_carriedOut_124, s_X7_carriedOut_125, s_X7_carriedOut_126, s_X7_carriedOut_129, s_X7_carriedOut_132, s_X7_carriedOut_132b, s_X7_carriedOut_132c, s_X7_carriedOut_133, s_X7_carriedOut_134, s_X7_carriedOut_135, s_X7_carriedOut_138, s_X7_carriedOut_139, s_X7_carriedOut_140, s_X7_carriedOut_141, s_X7_carriedOut_144, s_X7_carriedOut_145, s_X7_carriedOut_148, s_X7_carriedOut_149, s_X7_carriedOut_150, s_X7_carriedOut_151, s_X7_carriedOut_154, s_X7_carriedOut_155, s_X7_carriedOut_158, s_X7_carriedOut_159, s_X7_carriedOut_160, s_X7_carriedOut_161, s_X7_carriedOut_164, s_X7_carriedOut_167, s_X7_carriedOut_167b, s_X7_carriedOut_167c, s_X7_carriedOut_168, s_X7_carriedOut_169, s_X7_carriedOut_169b, s_X7_carriedOut_169c, s_X7_carriedOut_8, hx_0, hg_0_0, hg_0_1, hg_0_2, hg_0_3, hg_0_4, hs_0_4, hg_0_5, hx_10, hg_10_0, hg_10_1, hs_10_1, hg_10_2, hs_10_2, hg_10_3, hs_10_3, hg_10_4, hs_10_4, hg_10_5, hs_10_5, hg_10_6, hs_10_6, hg_10_7, hs_10_7, hg_10_8, hs_10_8, hg_10_9, hs_10_9, hg_10_10, hs_10_10, hg_10_11, hs_10_11, hg_10_12, hs_10_12, hg_10_13, hg_10_14, hg_10_15, hg_10_16, hg_10_17, hx_86, hg_86_0, hg_86_1, hs_86_1, hg_86_2, hs_86_2, hg_86_3, hs_86_3, hg_86_4, hs_86_4, xk_s, ts_s, ts_n, Option.bind_some, xc_n, xc_i, xc_r, xc_l, xc_d, xcats_n, xcats_i, xcats_r, xcats_l, xcats_d, and_true, true_and, and_self, if_true, if_false, Nat.reduceAdd, Nat.reduceLeDiff, Nat.zero_le, decide_true, decide_false, Bool.not_true, Bool.not_false, Bool.and_true, Bool.true_and, Bool.and_false, Bool.false_and, Bool.true_or, Bool.false_or, Bool.or_true, Bool.or_false, Bool.false_eq_true, hk, q5, r, e1, e_obeyed _ _ _ hi, RO_n, RO_s]
  by_cases q6 : k = 118
  · generalize hp1 : dgtF X (nI (a + 1)) = p1 at *
    generalize hp2 : dgtF X (nI (a + 2)) = p2 at *
    generalize hp3 : dgtF X (nI (a + 3)) = p3 at *
    by_cases r : (p1 < 0 ∨ ¬ p1 < X.1 5) ∨ (p2 < 0 ∨ ¬ p2 < 5) ∨ (p3 < 0 ∨ 2 < p3) <;> simp +decide only [s_X7_carriedOut_0, s_X7_carriedOut_1, s_X7_carriedOut_4, s_X7_carriedOut_5, s_X7_carriedOut_76, s_X7_carriedOut_77, s_X7_carriedOut_78, s_X7_carriedOut_81, s_X7_carriedOut_81b, s_X7_carriedOut_81c, s_X7_carriedOut_82, s_X7_carriedOut_83, s_X7_carriedOut_84, s_X7_carriedOut_87, s_X7_carriedOut_87b, s_X7_carriedOut_87c, s_X7_carriedOut_88, s_X7_carriedOut_89, s_X7_carriedOut_90, s_X7_carriedOut_93, s_X7_carriedOut_93b, s_X7_carriedOut_93c, s_X7_carriedOut_94, s_X7_carriedOut_95, s_X7_carriedOut_96, s_X7_carriedOut_99, s_X7_carriedOut_99b, s_X7_carriedOut_99c, s_X7_carriedOut_100, s_X7_carriedOut_101, s_X7_carriedOut_102, s_X7_carriedOut_105, s_X7_carriedOut_106, s_X7_carriedOut_107, s_X7_carriedOut_108, s_X7_carriedOut_111, s_X7_carriedOut_114, s_X7_carriedOut_114b, s_X7_carriedOut_114c, s_X7_carriedOut_115, s_X7_carriedOut_116, s_X7_carriedOut_119, s_X7_carriedOut_120, s_X7_carriedOut_123, s_X7_carriedOut_124, s_X7_carriedOut_125, s_X7_carriedOut_126, s_X7_carriedOut_129, s_X7_carriedOut_132, s_X7_carriedOut_132b, s_X7_carriedOut_132c, s_X7_carriedOut_133, s_X7_carriedOut_134, s_X7_carriedOut_135, s_X7_carriedOut_138, s_X7_carriedOut_139, s_X7_carriedOut_140, s_X7_carriedOut_141, s_X7_carriedOut_144, s_X7_carriedOut_145, s_X7_carriedOut_148, s_X7_carriedOut_149, s_X7_carriedOut_150, s_X7_carriedOut_151, s_X7_carriedOut_154, s_X7_carriedOut_155, s_X7_carriedOut_158, s_X7_carriedOut_159, s_X7_carriedOut_160, s_X7_carriedOut_161, s_X7_carriedOut_164, s_X7_carriedOut_167, s_X7_carriedOut_167b, s_X7_carriedOut_167c, s_X7_carriedOut_168, s_X7_carriedOut_169, s_X7_carriedOut_169b, s_X7_carriedOut_169c, s_X7_carriedOut_8, hx_0, hg_0_0, hg_0_1, hg_0_2, hg_0_3, hg_0_4, hs_0_4, hg_0_5, hx_10, hg_10_0, hg_10_1, hs_10_1, hg_10_2, hs_10_2, hg_10_3, hs_10_3, hg_10_4, hs_10_4, hg_10_5, hs_10_5, hg_10_6, hs_10_6, hg_10_7, hs_10_7, hg_10_8, hs_10_8, hg_10_9, hs_10_9, hg_10_10, hs_10_10, hg_10_11, hs_10_11, hg_10_12, hs_10_12, hg_10_13, hg_10_14, hg_10_15, hg_10_16, hg_10_17, hx_86, hg_86_0, hg_86_1, hs_86_1, hg_86_2, hs_86_2, hg_86_3, hs_86_3, hg_86_4, hs_86_4, xk_s, ts_s, ts_n, Option.bind_some, xc_n, xc_i, xc_r, xc_l, xc_d, xcats_n, xcats_i, xcats_r, xcats_l, xcats_d, and_true, true_and, and_self, if_true, if_false, Nat.reduceAdd, Nat.reduceLeDiff, Nat.zero_le, decide_true, decide_false, Bool.not_true, Bool.not_false, Bool.and_true, Bool.true_and, Bool.and_false, Bool.false_and, Bool.true_or, Bool.false_or, Bool.or_true, Bool.or_false, Bool.false_eq_true, hk, q6, r, a1, a2, a3, hp1, hp2, hp3, e1, e2, e_voted _ _ _ _ _ hi, RO_n, RO_s]
  by_cases q7 : k = 120
  · cases r : allowF 20 10 X 3 <;> simp +decide only [s_X7_carriedOut_0, s_X7_carriedOut_1, s_X7_carriedOut_4, s_X7_carriedOut_5, s_X7_carriedOut_76, s_X7_carriedOut_77, s_X7_carriedOut_78, s_X7_carriedOut_81, s_X7_carriedOut_81b, s_X7_carriedOut_81c, s_X7_carriedOut_82, s_X7_carriedOut_83, s_X7_carriedOut_84, s_X7_carriedOut_87, s_X7_carriedOut_87b, s_X7_carriedOut_87c, s_X7_carriedOut_88, s_X7_carriedOut_89, s_X7_carriedOut_90, s_X7_carriedOut_93, s_X7_carriedOut_93b, s_X7_carriedOut_93c, s_X7_carriedOut_94, s_X7_carriedOut_95, s_X7_carriedOut_96, s_X7_carriedOut_99, s_X7_carriedOut_99b, s_X7_carriedOut_99c, s_X7_carriedOut_100, s_X7_carriedOut_101, s_X7_carriedOut_102, s_X7_carriedOut_105, s_X7_carriedOut_106, s_X7_carriedOut_107, s_X7_carriedOut_108, s_X7_carriedOut_111, s_X7_carriedOut_114, s_X7_carriedOut_114b, s_X7_carriedOut_114c, s_X7_carriedOut_115, s_X7_carriedOut_116, s_X7_carriedOut_119, s_X7_carriedOut_120, s_X7_carriedOut_123, s_X7_carriedOut_124, s_X7_carriedOut_125, s_X7_carriedOut_126, s_X7_carriedOut_129, s_X7_carriedOut_132, s_X7_carriedOut_132b, s_X7_carriedOut_132c, s_X7_carriedOut_133, s_X7_carriedOut_134, s_X7_carriedOut_135, s_X7_carriedOut_138, s_X7_carriedOut_139, s_X7_carriedOut_140, s_X7_carriedOut_141, s_X7_carriedOut_144, s_X7_carriedOut_145, s_X7_carriedOut_148, s_X7_carriedOut_149, s_X7_carriedOut_150, s_X7_carriedOut_151, s_X7_carriedOut_154, s_X7_carriedOut_155, s_X7_carriedOut_158, s_X7_carriedOut_159, s_X7_carriedOut_160, s_X7_carriedOut_161, s_X7_carriedOut_164, s_X7_carriedOut_167, s_X7_carriedOut_167b, s_X7_carriedOut_167c, s_X7_carriedOut_168, s_X7_carriedOut_169, s_X7_carriedOut_169b, s_X7_carriedOut_169c, s_X7_carriedOut_8, hx_0, hg_0_0, hg_0_1, hg_0_2, hg_0_3, hg_0_4, hs_0_4, hg_0_5, hx_10, hg_10_0, hg_10_1, hs_10_1, hg_10_2, hs_10_2, hg_10_3, hs_10_3, hg_10_4, hs_10_4, hg_10_5, hs_10_5, hg_10_6, hs_10_6, hg_10_7, hs_10_7, hg_10_8, hs_10_8, hg_10_9, hs_10_9, hg_10_10, hs_10_10, hg_10_11, hs_10_11, hg_10_12, hs_10_12, hg_10_13, hg_10_14, hg_10_15, hg_10_16, hg_10_17, hx_86, hg_86_0, hg_86_1, hs_86_1, hg_86_2, hs_86_2, hg_86_3, hs_86_3, hg_86_4, hs_86_4, xk_s, ts_s, ts_n, Option.bind_some, xc_n, xc_i, xc_r, xc_l, xc_d, xcats_n, xcats_i, xcats_r, xcats_l, xcats_d, and_true, true_and, and_self, if_true, if_false, Nat.reduceAdd, Nat.reduceLeDiff, Nat.zero_le, decide_true, decide_false, Bool.not_true, Bool.not_false, Bool.and_true, Bool.true_and, Bool.and_false, Bool.false_and, Bool.true_or, Bool.false_or, Bool.or_true, Bool.or_false, Bool.false_eq_true, hk, q7, r, e1, e_obeyed _ _ _ hi, RO_n, RO_s]
  simp +decide only [s_X7_carriedOut_0, s_X7_carriedOut_1, s_X7_carriedOut_4, s_X7_carriedOut_5, s_X7_carriedOut_76, s_X7_carriedOut_77, s_X7_carriedOut_78, s_X7_carriedOut_81, s_X7_carriedOut_81b, s_X7_carriedOut_81c, s_X7_carriedOut_82, s_X7_carriedOut_83, s_X7_carriedOut_84, s_X7_carriedOut_87, s_X7_carriedOut_87b, s_X7_carriedOut_87c, s_X7_carriedOut_88, s_X7_carriedOut_89, s_X7_carriedOut_90, s_X7_carriedOut_93, s_X7_carriedOut_93b, s_X7_carriedOut_93c, s_X7_carriedOut_94, s_X7_carriedOut_95, s_X7_carriedOut_96, s_X7_carriedOut_99, s_X7_carriedOut_99b, s_X7_carriedOut_99c, s_X7_carriedOut_100, s_X7_carriedOut_101, s_X7_carriedOut_102, s_X7_carriedOut_105, s_X7_carriedOut_106, s_X7_carriedOut_107, s_X7_carriedOut_108, s_X7_carriedOut_111, s_X7_carriedOut_114, s_X7_carriedOut_114b, s_X7_carriedOut_114c, s_X7_carriedOut_115, s_X7_carriedOut_116, s_X7_carriedOut_119, s_X7_carriedOut_120, s_X7_carriedOut_123, s_X7_carriedOut_124, s_X7_carriedOut_125, s_X7_carriedOut_126, s_X7_carriedOut_129, s_X7_carriedOut_132, s_X7_carriedOut_132b, s_X7_carriedOut_132c, s_X7_carriedOut_133, s_X7_carriedOut_134, s_X7_carriedOut_135, s_X7_carriedOut_138, s_X7_carriedOut_139, s_X7_carriedOut_140, s_X7_carriedOut_141, s_X7_carriedOut_144, s_X7_carriedOut_145, s_X7_carriedOut_148, s_X7_carriedOut_149, s_X7_carriedOut_150, s_X7_carriedOut_151, s_X7_carriedOut_154, s_X7_carriedOut_155, s_X7_carriedOut_158, s_X7_carriedOut_159, s_X7_carriedOut_160, s_X7_carriedOut_161, s_X7_carriedOut_164, s_X7_carriedOut_167, s_X7_carriedOut_167b, s_X7_carriedOut_167c, s_X7_carriedOut_168, s_X7_carriedOut_169, s_X7_carriedOut_169b, s_X7_carriedOut_169c, s_X7_carriedOut_8, hx_0, hg_0_0, hg_0_1, hg_0_2, hg_0_3, hg_0_4, hs_0_4, hg_0_5, hx_10, hg_10_0, hg_10_1, hs_10_1, hg_10_2, hs_10_2, hg_10_3, hs_10_3, hg_10_4, hs_10_4, hg_10_5, hs_10_5, hg_10_6, hs_10_6, hg_10_7, hs_10_7, hg_10_8, hs_10_8, hg_10_9, hs_10_9, hg_10_10, hs_10_10, hg_10_11, hs_10_11, hg_10_12, hs_10_12, hg_10_13, hg_10_14, hg_10_15, hg_10_16, hg_10_17, hx_86, hg_86_0, hg_86_1, hs_86_1, hg_86_2, hs_86_2, hg_86_3, hs_86_3, hg_86_4, hs_86_4, xk_s, ts_s, ts_n, Option.bind_some, xc_n, xc_i, xc_r, xc_l, xc_d, xcats_n, xcats_i, xcats_r, xcats_l, xcats_d, and_true, true_and, and_self, if_true, if_false, Nat.reduceAdd, Nat.reduceLeDiff, Nat.zero_le, decide_true, decide_false, Bool.not_true, Bool.not_false, Bool.and_true, Bool.true_and, Bool.and_false, Bool.false_and, Bool.true_or, Bool.false_or, Bool.or_true, Bool.or_false, Bool.false_eq_true, hk, q1, q2, q3, q4, q5, q6, q7, e1, RO_n]
theorem l_scr (d : Nat) : ∀ (n j a : Nat) (X : yS), j + n = 60 → a ≤ 61 → Inv2 X → rx x0 (d + 8) iX7_script 24 [some (.ref 0), some (.int (nI a)), some (.int (nI j))] [] (hp X.1 X.2 o h, c) = RI (nI (j + (scrF n a X).1)) (bclrF (scrF n a X).2.1, (scrF n a X).2.2) o h c := by
  intro n
  induction n with
  | zero =>
    intro j a X hj ha hi
    have h1 : ¬ nI j < 60 := nI_nlt (b := 60) (by omega) (by omega)
    rw [s_X7_script_24]
    simp +decide only [s_X7_script_0, s_X7_script_1, s_X7_script_4, s_X7_script_7, s_X7_script_10, s_X7_script_20, s_X7_script_21, s_X7_script_22, s_X7_script_23, s_X7_script_25, s_X7_script_27, s_X7_script_30, s_X7_script_31, s_X7_script_32, s_X7_script_35, s_X7_script_38, s_X7_script_39, s_X7_script_42, s_X7_script_43, s_X7_script_46, s_X7_script_47, s_X7_script_50, s_X7_script_53, s_X7_script_54, s_X7_script_57, s_X7_script_60, s_X7_script_61, hx_0, hg_0_0, hg_0_1, hg_0_2, hg_0_3, hg_0_4, hs_0_4, hg_0_5, hx_86, hg_86_0, hg_86_1, hs_86_1, hg_86_2, hs_86_2, hg_86_3, hs_86_3, hg_86_4, hs_86_4, xk_s, ts_s, ts_n, Option.bind_some, xc_n, xc_i, xc_r, xc_l, xc_d, xcats_n, xcats_i, xcats_r, xcats_l, xcats_d, and_true, true_and, and_self, if_true, if_false, Nat.reduceAdd, Nat.reduceLeDiff, Nat.zero_le, decide_true, decide_false, Bool.not_true, Bool.not_false, Bool.and_true, Bool.true_and, Bool.and_false, Bool.false_and, Bool.true_or, Bool.false_or, Bool.or_true, Bool.or_false, Bool.false_eq_true, true_or, or_true, false_or, or_false, not_true_eq_false, not_false_eq_true, false_and, and_false, ne_eq, or_self, pr_eta, h1, scrF, e_bclr, Nat.add_zero, RI]
  | succ n ih =>
    intro j a X hj ha hi
    obtain ⟨N, n1, n2⟩ := hi.2.2
    have hb : bN X = N := clamp_of' n2 (by omega)
    have h1 : nI j < 60 := nI_lt (b := 60) (by omega) (by omega)
    have e1 := fun d => e_car (o := o) (h := h) (c := c) d a ha X hi
    rw [s_X7_script_24]
    simp only [scrF]
    cases hc : carF X a with
    | none =>
      rw [hc] at e1
      simp +decide only [s_X7_script_0, s_X7_script_1, s_X7_script_4, s_X7_script_7, s_X7_script_10, s_X7_script_20, s_X7_script_21, s_X7_script_22, s_X7_script_23, s_X7_script_25, s_X7_script_27, s_X7_script_30, s_X7_script_31, s_X7_script_32, s_X7_script_35, s_X7_script_38, s_X7_script_39, s_X7_script_42, s_X7_script_43, s_X7_script_46, s_X7_script_47, s_X7_script_50, s_X7_script_53, s_X7_script_54, s_X7_script_57, s_X7_script_60, s_X7_script_61, hx_0, hg_0_0, hg_0_1, hg_0_2, hg_0_3, hg_0_4, hs_0_4, hg_0_5, hx_86, hg_86_0, hg_86_1, hs_86_1, hg_86_2, hs_86_2, hg_86_3, hs_86_3, hg_86_4, hs_86_4, xk_s, ts_s, ts_n, Option.bind_some, xc_n, xc_i, xc_r, xc_l, xc_d, xcats_n, xcats_i, xcats_r, xcats_l, xcats_d, and_true, true_and, and_self, if_true, if_false, Nat.reduceAdd, Nat.reduceLeDiff, Nat.zero_le, decide_true, decide_false, Bool.not_true, Bool.not_false, Bool.and_true, Bool.true_and, Bool.and_false, Bool.false_and, Bool.true_or, Bool.false_or, Bool.or_true, Bool.or_false, Bool.false_eq_true, true_or, or_true, false_or, or_false, not_true_eq_false, not_false_eq_true, false_and, and_false, ne_eq, or_self, pr_eta, h1, e1, RO_n, e_bclr, Nat.add_zero, RI]
    | some Y =>
      rw [hc] at e1
      have hf := car_fr hc
      have hY : Inv2 Y := inv2_of hf hi (car_inv hc hi.1)
      have n2' : Y.1 6 = nI N := by rw [hf.1 6 (by decide)]; exact n2
      have e2 := fun d => e_nextC (o := o) (h := h) (c := c) (G := Y.2) d a N n1 n2' (by omega)
      rw [hf.2 8 (by decide), ← hb] at e2
      have hle : fe (fun k => decide (X.2 8 k = 59)) a (bN X - a) + 1 ≤ 61 ∨ bN X < a := by
        have := fe_le (fun k => decide (X.2 8 k = 59)) (bN X - a) a
        omega
      have hle2 : fe (fun k => decide (X.2 8 k = 59)) a (bN X - a) + 1 ≤ 61 := by
        rcases hle with z | z
        · exact z
        · exfalso
          have : codeF X (nI a) = -1 := by
            unfold codeF
            rw [if_neg (nI_nneg (by omega)), n2, if_neg (nI_nlt (by omega) (by omega))]
          unfold carF at hc
          rw [this] at hc
          simp +decide only [if_false] at hc
          cases hc
      have ih := ih (j + 1) _ Y (by omega) hle2 hY
      simp +decide only [s_X7_script_0, s_X7_script_1, s_X7_script_4, s_X7_script_7, s_X7_script_10, s_X7_script_20, s_X7_script_21, s_X7_script_22, s_X7_script_23, s_X7_script_25, s_X7_script_27, s_X7_script_30, s_X7_script_31, s_X7_script_32, s_X7_script_35, s_X7_script_38, s_X7_script_39, s_X7_script_42, s_X7_script_43, s_X7_script_46, s_X7_script_47, s_X7_script_50, s_X7_script_53, s_X7_script_54, s_X7_script_57, s_X7_script_60, s_X7_script_61, hx_0, hg_0_0, hg_0_1, hg_0_2, hg_0_3, hg_0_4, hs_0_4, hg_0_5, hx_86, hg_86_0, hg_86_1, hs_86_1, hg_86_2, hs_86_2, hg_86_3, hs_86_3, hg_86_4, hs_86_4, xk_s, ts_s, ts_n, Option.bind_some, xc_n, xc_i, xc_r, xc_l, xc_d, xcats_n, xcats_i, xcats_r, xcats_l, xcats_d, and_true, true_and, and_self, if_true, if_false, Nat.reduceAdd, Nat.reduceLeDiff, Nat.zero_le, decide_true, decide_false, Bool.not_true, Bool.not_false, Bool.and_true, Bool.true_and, Bool.and_false, Bool.false_and, Bool.true_or, Bool.false_or, Bool.or_true, Bool.or_false, Bool.false_eq_true, true_or, or_true, false_or, or_false, not_true_eq_false, not_false_eq_true, false_and, and_false, ne_eq, or_self, pr_eta, h1, e1, RO_s, e2, nI_1]
      rw [ih, show j + 1 + (scrF n (fe (fun k => decide (X.2 8 k = 59)) a (bN X - a) + 1) Y).1 = j + ((scrF n (fe (fun k => decide (X.2 8 k = 59)) a (bN X - a) + 1) Y).1 + 1) by omega]
theorem e_script (d : Nat) (X : yS) (hi : Inv2 X) : ev (d + 9) iX7_script [.ref 0] (hp X.1 X.2 o h, c) = if X.1 7 = 1 ∨ X.1 7 = 6 then RI (nI (scrF 60 0 X).1) (bclrF (scrF 60 0 X).2.1, (scrF 60 0 X).2.2) o h c else TH eIS X o h c := by
  rw [n_X7_script]
  by_cases q : X.1 7 = 1 ∨ X.1 7 = 6
  · simp +decide only [s_X7_script_0, s_X7_script_1, s_X7_script_4, s_X7_script_7, s_X7_script_10, s_X7_script_20, s_X7_script_21, s_X7_script_22, s_X7_script_23, s_X7_script_25, s_X7_script_27, s_X7_script_30, s_X7_script_31, s_X7_script_32, s_X7_script_35, s_X7_script_38, s_X7_script_39, s_X7_script_42, s_X7_script_43, s_X7_script_46, s_X7_script_47, s_X7_script_50, s_X7_script_53, s_X7_script_54, s_X7_script_57, s_X7_script_60, s_X7_script_61, hx_0, hg_0_0, hg_0_1, hg_0_2, hg_0_3, hg_0_4, hs_0_4, hg_0_5, hx_86, hg_86_0, hg_86_1, hs_86_1, hg_86_2, hs_86_2, hg_86_3, hs_86_3, hg_86_4, hs_86_4, xk_s, ts_s, ts_n, Option.bind_some, xc_n, xc_i, xc_r, xc_l, xc_d, xcats_n, xcats_i, xcats_r, xcats_l, xcats_d, and_true, true_and, and_self, if_true, if_false, Nat.reduceAdd, Nat.reduceLeDiff, Nat.zero_le, decide_true, decide_false, Bool.not_true, Bool.not_false, Bool.and_true, Bool.true_and, Bool.and_false, Bool.false_and, Bool.true_or, Bool.false_or, Bool.or_true, Bool.or_false, Bool.false_eq_true, q, e_isScr]
    have e := l_scr (o := o) (h := h) (c := c) d 60 0 0 X (by omega) (by omega) hi
    rw [Nat.zero_add] at e
    exact e
  · simp +decide only [s_X7_script_0, s_X7_script_1, s_X7_script_4, s_X7_script_7, s_X7_script_10, s_X7_script_20, s_X7_script_21, s_X7_script_22, s_X7_script_23, s_X7_script_25, s_X7_script_27, s_X7_script_30, s_X7_script_31, s_X7_script_32, s_X7_script_35, s_X7_script_38, s_X7_script_39, s_X7_script_42, s_X7_script_43, s_X7_script_46, s_X7_script_47, s_X7_script_50, s_X7_script_53, s_X7_script_54, s_X7_script_57, s_X7_script_60, s_X7_script_61, hx_0, hg_0_0, hg_0_1, hg_0_2, hg_0_3, hg_0_4, hs_0_4, hg_0_5, hx_86, hg_86_0, hg_86_1, hs_86_1, hg_86_2, hs_86_2, hg_86_3, hs_86_3, hg_86_4, hs_86_4, xk_s, ts_s, ts_n, Option.bind_some, xc_n, xc_i, xc_r, xc_l, xc_d, xcats_n, xcats_i, xcats_r, xcats_l, xcats_d, and_true, true_and, and_self, if_true, if_false, Nat.reduceAdd, Nat.reduceLeDiff, Nat.zero_le, decide_true, decide_false, Bool.not_true, Bool.not_false, Bool.and_true, Bool.true_and, Bool.and_false, Bool.false_and, Bool.true_or, Bool.false_or, Bool.or_true, Bool.or_false, Bool.false_eq_true, q, e_isScr]
theorem l_run (d : Nat) (fp : Int32) : ∀ (n j : Nat) (b : Int32) (X : yS), j + n = 600 → (b = 0 ∨ b = 1) → Inv2 X → rx x0 (d + 8) iX7_run 57 [some (.ref 0), some (.int fp), some (.int b), some (.int (nI j))] [] (hp X.1 X.2 o h, c) = RI (nI (j + (runF fp n b X).1)) (runF fp n b X).2 o h c := by
  intro n
  induction n with
  | zero =>
    intro j b X hj hb hi
    have h1 : ¬ nI j < 600 := nI_nlt (b := 600) (by omega) (by omega)
    rw [s_X7_run_57]
    simp +decide only [s_X7_run_0, s_X7_run_1, s_X7_run_4, s_X7_run_7, s_X7_run_8, s_X7_run_11, s_X7_run_12, s_X7_run_15, s_X7_run_18, s_X7_run_19, s_X7_run_22, s_X7_run_23, s_X7_run_26, s_X7_run_29, s_X7_run_32, s_X7_run_35, s_X7_run_45, s_X7_run_46, s_X7_run_49, s_X7_run_52, s_X7_run_53, s_X7_run_54, s_X7_run_55, s_X7_run_56, s_X7_run_58, s_X7_run_61, s_X7_run_64, s_X7_run_65, s_X7_run_68, s_X7_run_71, s_X7_run_72, s_X7_run_75, s_X7_run_76, s_X7_run_79, s_X7_run_80, s_X7_run_83, s_X7_run_86, s_X7_run_87, s_X7_run_90, s_X7_run_93, s_X7_run_94, hx_0, hg_0_0, hg_0_1, hg_0_2, hg_0_3, hg_0_4, hs_0_4, hg_0_5, hx_10, hg_10_0, hg_10_1, hs_10_1, hg_10_2, hs_10_2, hg_10_3, hs_10_3, hg_10_4, hs_10_4, hg_10_5, hs_10_5, hg_10_6, hs_10_6, hg_10_7, hs_10_7, hg_10_8, hs_10_8, hg_10_9, hs_10_9, hg_10_10, hs_10_10, hg_10_11, hs_10_11, hg_10_12, hs_10_12, hg_10_13, hg_10_14, hg_10_15, hg_10_16, hg_10_17, xk_s, ts_s, ts_n, Option.bind_some, xc_n, xc_i, xc_r, xc_l, xc_d, xcats_n, xcats_i, xcats_r, xcats_l, xcats_d, and_true, true_and, and_self, if_true, if_false, Nat.reduceAdd, Nat.reduceLeDiff, Nat.zero_le, decide_true, decide_false, Bool.not_true, Bool.not_false, Bool.and_true, Bool.true_and, Bool.and_false, Bool.false_and, Bool.true_or, Bool.false_or, Bool.or_true, Bool.or_false, Bool.false_eq_true, true_or, or_true, false_or, or_false, not_true_eq_false, not_false_eq_true, false_and, and_false, ne_eq, or_self, pr_eta, h1, runF, Nat.add_zero]
  | succ n ih =>
    intro j b X hj hb hi
    have h1 : nI j < 600 := nI_lt (b := 600) (by omega) (by omega)
    rw [s_X7_run_57]
    simp only [runF]
    by_cases q1 : X.1 20 = fp
    · rcases hb with hb | hb
      · subst hb
        rw [if_pos ⟨q1, rfl⟩]
        have ih := ih (j + 1) (if (secF 20 10 X).1 33 = X.1 33 then 0 else 1) (secF 20 10 X) (by omega) (by split <;> simp) (inv2_of (fr_sec fr_refl) hi (inv_sec (by decide) (by decide) hi.1))
        simp +decide only [s_X7_run_0, s_X7_run_1, s_X7_run_4, s_X7_run_7, s_X7_run_8, s_X7_run_11, s_X7_run_12, s_X7_run_15, s_X7_run_18, s_X7_run_19, s_X7_run_22, s_X7_run_23, s_X7_run_26, s_X7_run_29, s_X7_run_32, s_X7_run_35, s_X7_run_45, s_X7_run_46, s_X7_run_49, s_X7_run_52, s_X7_run_53, s_X7_run_54, s_X7_run_55, s_X7_run_56, s_X7_run_58, s_X7_run_61, s_X7_run_64, s_X7_run_65, s_X7_run_68, s_X7_run_71, s_X7_run_72, s_X7_run_75, s_X7_run_76, s_X7_run_79, s_X7_run_80, s_X7_run_83, s_X7_run_86, s_X7_run_87, s_X7_run_90, s_X7_run_93, s_X7_run_94, hx_0, hg_0_0, hg_0_1, hg_0_2, hg_0_3, hg_0_4, hs_0_4, hg_0_5, hx_10, hg_10_0, hg_10_1, hs_10_1, hg_10_2, hs_10_2, hg_10_3, hs_10_3, hg_10_4, hs_10_4, hg_10_5, hs_10_5, hg_10_6, hs_10_6, hg_10_7, hs_10_7, hg_10_8, hs_10_8, hg_10_9, hs_10_9, hg_10_10, hs_10_10, hg_10_11, hs_10_11, hg_10_12, hs_10_12, hg_10_13, hg_10_14, hg_10_15, hg_10_16, hg_10_17, xk_s, ts_s, ts_n, Option.bind_some, xc_n, xc_i, xc_r, xc_l, xc_d, xcats_n, xcats_i, xcats_r, xcats_l, xcats_d, and_true, true_and, and_self, if_true, if_false, Nat.reduceAdd, Nat.reduceLeDiff, Nat.zero_le, decide_true, decide_false, Bool.not_true, Bool.not_false, Bool.and_true, Bool.true_and, Bool.and_false, Bool.false_and, Bool.true_or, Bool.false_or, Bool.or_true, Bool.or_false, Bool.false_eq_true, true_or, or_true, false_or, or_false, not_true_eq_false, not_false_eq_true, false_and, and_false, ne_eq, or_self, pr_eta, h1, q1, e_pass0 _ _ hi.1, nI_1]
        rw [ih, show j + 1 + (runF fp n (if (secF 20 10 X).1 33 = X.1 33 then 0 else 1) (secF 20 10 X)).1 = j + ((runF fp n (if (secF 20 10 X).1 33 = X.1 33 then 0 else 1) (secF 20 10 X)).1 + 1) by omega]
      · subst hb
        simp +decide only [s_X7_run_0, s_X7_run_1, s_X7_run_4, s_X7_run_7, s_X7_run_8, s_X7_run_11, s_X7_run_12, s_X7_run_15, s_X7_run_18, s_X7_run_19, s_X7_run_22, s_X7_run_23, s_X7_run_26, s_X7_run_29, s_X7_run_32, s_X7_run_35, s_X7_run_45, s_X7_run_46, s_X7_run_49, s_X7_run_52, s_X7_run_53, s_X7_run_54, s_X7_run_55, s_X7_run_56, s_X7_run_58, s_X7_run_61, s_X7_run_64, s_X7_run_65, s_X7_run_68, s_X7_run_71, s_X7_run_72, s_X7_run_75, s_X7_run_76, s_X7_run_79, s_X7_run_80, s_X7_run_83, s_X7_run_86, s_X7_run_87, s_X7_run_90, s_X7_run_93, s_X7_run_94, hx_0, hg_0_0, hg_0_1, hg_0_2, hg_0_3, hg_0_4, hs_0_4, hg_0_5, hx_10, hg_10_0, hg_10_1, hs_10_1, hg_10_2, hs_10_2, hg_10_3, hs_10_3, hg_10_4, hs_10_4, hg_10_5, hs_10_5, hg_10_6, hs_10_6, hg_10_7, hs_10_7, hg_10_8, hs_10_8, hg_10_9, hs_10_9, hg_10_10, hs_10_10, hg_10_11, hs_10_11, hg_10_12, hs_10_12, hg_10_13, hg_10_14, hg_10_15, hg_10_16, hg_10_17, xk_s, ts_s, ts_n, Option.bind_some, xc_n, xc_i, xc_r, xc_l, xc_d, xcats_n, xcats_i, xcats_r, xcats_l, xcats_d, and_true, true_and, and_self, if_true, if_false, Nat.reduceAdd, Nat.reduceLeDiff, Nat.zero_le, decide_true, decide_false, Bool.not_true, Bool.not_false, Bool.and_true, Bool.true_and, Bool.and_false, Bool.false_and, Bool.true_or, Bool.false_or, Bool.or_true, Bool.or_false, Bool.false_eq_true, true_or, or_true, false_or, or_false, not_true_eq_false, not_false_eq_true, false_and, and_false, ne_eq, or_self, pr_eta, h1, q1, Nat.add_zero]
    · simp +decide only [s_X7_run_0, s_X7_run_1, s_X7_run_4, s_X7_run_7, s_X7_run_8, s_X7_run_11, s_X7_run_12, s_X7_run_15, s_X7_run_18, s_X7_run_19, s_X7_run_22, s_X7_run_23, s_X7_run_26, s_X7_run_29, s_X7_run_32, s_X7_run_35, s_X7_run_45, s_X7_run_46, s_X7_run_49, s_X7_run_52, s_X7_run_53, s_X7_run_54, s_X7_run_55, s_X7_run_56, s_X7_run_58, s_X7_run_61, s_X7_run_64, s_X7_run_65, s_X7_run_68, s_X7_run_71, s_X7_run_72, s_X7_run_75, s_X7_run_76, s_X7_run_79, s_X7_run_80, s_X7_run_83, s_X7_run_86, s_X7_run_87, s_X7_run_90, s_X7_run_93, s_X7_run_94, hx_0, hg_0_0, hg_0_1, hg_0_2, hg_0_3, hg_0_4, hs_0_4, hg_0_5, hx_10, hg_10_0, hg_10_1, hs_10_1, hg_10_2, hs_10_2, hg_10_3, hs_10_3, hg_10_4, hs_10_4, hg_10_5, hs_10_5, hg_10_6, hs_10_6, hg_10_7, hs_10_7, hg_10_8, hs_10_8, hg_10_9, hs_10_9, hg_10_10, hs_10_10, hg_10_11, hs_10_11, hg_10_12, hs_10_12, hg_10_13, hg_10_14, hg_10_15, hg_10_16, hg_10_17, xk_s, ts_s, ts_n, Option.bind_some, xc_n, xc_i, xc_r, xc_l, xc_d, xcats_n, xcats_i, xcats_r, xcats_l, xcats_d, and_true, true_and, and_self, if_true, if_false, Nat.reduceAdd, Nat.reduceLeDiff, Nat.zero_le, decide_true, decide_false, Bool.not_true, Bool.not_false, Bool.and_true, Bool.true_and, Bool.and_false, Bool.false_and, Bool.true_or, Bool.false_or, Bool.or_true, Bool.or_false, Bool.false_eq_true, true_or, or_true, false_or, or_false, not_true_eq_false, not_false_eq_true, false_and, and_false, ne_eq, or_self, pr_eta, h1, q1, Nat.add_zero]
theorem e_run (d : Nat) (X : yS) (hi : Inv2 X) : ev (d + 9) iX7_run [.ref 0] (hp X.1 X.2 o h, c) = if X.1 20 < 1 ∨ 3 < X.1 20 ∨ 99999 - X.1 21 < 600 then TH eIS X o h c else RI (nI (runF (X.1 20) 600 0 X).1) (runF (X.1 20) 600 0 X).2 o h c := by
  rw [n_X7_run]
  by_cases q1 : X.1 20 < 1
  · simp +decide only [s_X7_run_0, s_X7_run_1, s_X7_run_4, s_X7_run_7, s_X7_run_8, s_X7_run_11, s_X7_run_12, s_X7_run_15, s_X7_run_18, s_X7_run_19, s_X7_run_22, s_X7_run_23, s_X7_run_26, s_X7_run_29, s_X7_run_32, s_X7_run_35, s_X7_run_45, s_X7_run_46, s_X7_run_49, s_X7_run_52, s_X7_run_53, s_X7_run_54, s_X7_run_55, s_X7_run_56, s_X7_run_58, s_X7_run_61, s_X7_run_64, s_X7_run_65, s_X7_run_68, s_X7_run_71, s_X7_run_72, s_X7_run_75, s_X7_run_76, s_X7_run_79, s_X7_run_80, s_X7_run_83, s_X7_run_86, s_X7_run_87, s_X7_run_90, s_X7_run_93, s_X7_run_94, hx_0, hg_0_0, hg_0_1, hg_0_2, hg_0_3, hg_0_4, hs_0_4, hg_0_5, hx_10, hg_10_0, hg_10_1, hs_10_1, hg_10_2, hs_10_2, hg_10_3, hs_10_3, hg_10_4, hs_10_4, hg_10_5, hs_10_5, hg_10_6, hs_10_6, hg_10_7, hs_10_7, hg_10_8, hs_10_8, hg_10_9, hs_10_9, hg_10_10, hs_10_10, hg_10_11, hs_10_11, hg_10_12, hs_10_12, hg_10_13, hg_10_14, hg_10_15, hg_10_16, hg_10_17, xk_s, ts_s, ts_n, Option.bind_some, xc_n, xc_i, xc_r, xc_l, xc_d, xcats_n, xcats_i, xcats_r, xcats_l, xcats_d, and_true, true_and, and_self, if_true, if_false, Nat.reduceAdd, Nat.reduceLeDiff, Nat.zero_le, decide_true, decide_false, Bool.not_true, Bool.not_false, Bool.and_true, Bool.true_and, Bool.and_false, Bool.false_and, Bool.true_or, Bool.false_or, Bool.or_true, Bool.or_false, Bool.false_eq_true, true_or, or_true, false_or, or_false, not_true_eq_false, not_false_eq_true, false_and, and_false, ne_eq, or_self, pr_eta, q1]
  by_cases q2 : 3 < X.1 20
  · simp +decide only [s_X7_run_0, s_X7_run_1, s_X7_run_4, s_X7_run_7, s_X7_run_8, s_X7_run_11, s_X7_run_12, s_X7_run_15, s_X7_run_18, s_X7_run_19, s_X7_run_22, s_X7_run_23, s_X7_run_26, s_X7_run_29, s_X7_run_32, s_X7_run_35, s_X7_run_45, s_X7_run_46, s_X7_run_49, s_X7_run_52, s_X7_run_53, s_X7_run_54, s_X7_run_55, s_X7_run_56, s_X7_run_58, s_X7_run_61, s_X7_run_64, s_X7_run_65, s_X7_run_68, s_X7_run_71, s_X7_run_72, s_X7_run_75, s_X7_run_76, s_X7_run_79, s_X7_run_80, s_X7_run_83, s_X7_run_86, s_X7_run_87, s_X7_run_90, s_X7_run_93, s_X7_run_94, hx_0, hg_0_0, hg_0_1, hg_0_2, hg_0_3, hg_0_4, hs_0_4, hg_0_5, hx_10, hg_10_0, hg_10_1, hs_10_1, hg_10_2, hs_10_2, hg_10_3, hs_10_3, hg_10_4, hs_10_4, hg_10_5, hs_10_5, hg_10_6, hs_10_6, hg_10_7, hs_10_7, hg_10_8, hs_10_8, hg_10_9, hs_10_9, hg_10_10, hs_10_10, hg_10_11, hs_10_11, hg_10_12, hs_10_12, hg_10_13, hg_10_14, hg_10_15, hg_10_16, hg_10_17, xk_s, ts_s, ts_n, Option.bind_some, xc_n, xc_i, xc_r, xc_l, xc_d, xcats_n, xcats_i, xcats_r, xcats_l, xcats_d, and_true, true_and, and_self, if_true, if_false, Nat.reduceAdd, Nat.reduceLeDiff, Nat.zero_le, decide_true, decide_false, Bool.not_true, Bool.not_false, Bool.and_true, Bool.true_and, Bool.and_false, Bool.false_and, Bool.true_or, Bool.false_or, Bool.or_true, Bool.or_false, Bool.false_eq_true, true_or, or_true, false_or, or_false, not_true_eq_false, not_false_eq_true, false_and, and_false, ne_eq, or_self, pr_eta, q1, q2]
  by_cases q3 : 99999 - X.1 21 < 600
  · simp +decide only [s_X7_run_0, s_X7_run_1, s_X7_run_4, s_X7_run_7, s_X7_run_8, s_X7_run_11, s_X7_run_12, s_X7_run_15, s_X7_run_18, s_X7_run_19, s_X7_run_22, s_X7_run_23, s_X7_run_26, s_X7_run_29, s_X7_run_32, s_X7_run_35, s_X7_run_45, s_X7_run_46, s_X7_run_49, s_X7_run_52, s_X7_run_53, s_X7_run_54, s_X7_run_55, s_X7_run_56, s_X7_run_58, s_X7_run_61, s_X7_run_64, s_X7_run_65, s_X7_run_68, s_X7_run_71, s_X7_run_72, s_X7_run_75, s_X7_run_76, s_X7_run_79, s_X7_run_80, s_X7_run_83, s_X7_run_86, s_X7_run_87, s_X7_run_90, s_X7_run_93, s_X7_run_94, hx_0, hg_0_0, hg_0_1, hg_0_2, hg_0_3, hg_0_4, hs_0_4, hg_0_5, hx_10, hg_10_0, hg_10_1, hs_10_1, hg_10_2, hs_10_2, hg_10_3, hs_10_3, hg_10_4, hs_10_4, hg_10_5, hs_10_5, hg_10_6, hs_10_6, hg_10_7, hs_10_7, hg_10_8, hs_10_8, hg_10_9, hs_10_9, hg_10_10, hs_10_10, hg_10_11, hs_10_11, hg_10_12, hs_10_12, hg_10_13, hg_10_14, hg_10_15, hg_10_16, hg_10_17, xk_s, ts_s, ts_n, Option.bind_some, xc_n, xc_i, xc_r, xc_l, xc_d, xcats_n, xcats_i, xcats_r, xcats_l, xcats_d, and_true, true_and, and_self, if_true, if_false, Nat.reduceAdd, Nat.reduceLeDiff, Nat.zero_le, decide_true, decide_false, Bool.not_true, Bool.not_false, Bool.and_true, Bool.true_and, Bool.and_false, Bool.false_and, Bool.true_or, Bool.false_or, Bool.or_true, Bool.or_false, Bool.false_eq_true, true_or, or_true, false_or, or_false, not_true_eq_false, not_false_eq_true, false_and, and_false, ne_eq, or_self, pr_eta, q1, q2, q3, e_room0]
  simp +decide only [s_X7_run_0, s_X7_run_1, s_X7_run_4, s_X7_run_7, s_X7_run_8, s_X7_run_11, s_X7_run_12, s_X7_run_15, s_X7_run_18, s_X7_run_19, s_X7_run_22, s_X7_run_23, s_X7_run_26, s_X7_run_29, s_X7_run_32, s_X7_run_35, s_X7_run_45, s_X7_run_46, s_X7_run_49, s_X7_run_52, s_X7_run_53, s_X7_run_54, s_X7_run_55, s_X7_run_56, s_X7_run_58, s_X7_run_61, s_X7_run_64, s_X7_run_65, s_X7_run_68, s_X7_run_71, s_X7_run_72, s_X7_run_75, s_X7_run_76, s_X7_run_79, s_X7_run_80, s_X7_run_83, s_X7_run_86, s_X7_run_87, s_X7_run_90, s_X7_run_93, s_X7_run_94, hx_0, hg_0_0, hg_0_1, hg_0_2, hg_0_3, hg_0_4, hs_0_4, hg_0_5, hx_10, hg_10_0, hg_10_1, hs_10_1, hg_10_2, hs_10_2, hg_10_3, hs_10_3, hg_10_4, hs_10_4, hg_10_5, hs_10_5, hg_10_6, hs_10_6, hg_10_7, hs_10_7, hg_10_8, hs_10_8, hg_10_9, hs_10_9, hg_10_10, hs_10_10, hg_10_11, hs_10_11, hg_10_12, hs_10_12, hg_10_13, hg_10_14, hg_10_15, hg_10_16, hg_10_17, xk_s, ts_s, ts_n, Option.bind_some, xc_n, xc_i, xc_r, xc_l, xc_d, xcats_n, xcats_i, xcats_r, xcats_l, xcats_d, and_true, true_and, and_self, if_true, if_false, Nat.reduceAdd, Nat.reduceLeDiff, Nat.zero_le, decide_true, decide_false, Bool.not_true, Bool.not_false, Bool.and_true, Bool.true_and, Bool.and_false, Bool.false_and, Bool.true_or, Bool.false_or, Bool.or_true, Bool.or_false, Bool.false_eq_true, true_or, or_true, false_or, or_false, not_true_eq_false, not_false_eq_true, false_and, and_false, ne_eq, or_self, pr_eta, q1, q2, q3, e_room0]
  have e := l_run (o := o) (h := h) (c := c) d (X.1 20) 600 0 0 X (by omega) (Or.inl rfl) hi
  rw [Nat.zero_add] at e
  exact e
end
