/-! the whole relation between class and reference, over one store -/
/-- saved states -/
def RQ (g : Nat → Int32) (G : Nat → Nat → Int32) : Prop := (∃ s, s < 32 ∧ g 0 = nI s ∧ ∀ j, j < 3 → (G 63 j = 0 ↔ s / 2 ^ j % 2 = 0)) ∧ ∀ j, j < 3 → ¬ G 63 j = 0 → RS (60 + 20 * j) (30 + 10 * j) (g, G) (fun k => G 62 (142 * j + k))
def Rel (g : Nat → Int32) (G : Nat → Nat → Int32) : Prop := RS 20 10 (g, G) (G 60) ∧ PL (g, G) g G ∧ PI g G ∧ RB (g, G) g G ∧ RQ g G
section
variable {g g' : Nat → Int32} {G G' : Nat → Nat → Int32}
theorem pi_cg (h : PI g G) (hg : ∀ k, 121 ≤ k → k ≤ 125 → g' k = g k) (hG : ∀ k, 64 ≤ k → k ≤ 71 → G' k = G k) : PI g' G' := by
  unfold PI Pp rH at h ⊢
  rw [hg 122 (by decide) (by decide), hg 123 (by decide) (by decide), hg 124 (by decide) (by decide), hg 125 (by decide) (by decide), hG 65 (by decide) (by decide), hG 66 (by decide) (by decide), hG 67 (by decide) (by decide)]
  exact h
theorem pl_cg {X X' : yS} (h : PL X g G) (hx : ∀ k, 1 ≤ k → k ≤ 5 → X'.1 k = X.1 k) (hX : ∀ k, k ≤ 7 → X'.2 k = X.2 k) (hg : ∀ k, 121 ≤ k → k ≤ 125 → g' k = g k) (hG : ∀ k, 64 ≤ k → k ≤ 71 → G' k = G k) : PL X' g' G' := by
  unfold PL at h ⊢
  rw [hx 1 (by decide) (by decide), hx 2 (by decide) (by decide), hx 3 (by decide) (by decide), hx 4 (by decide) (by decide), hx 5 (by decide) (by decide), hX 0 (by decide), hX 1 (by decide), hX 2 (by decide), hX 3 (by decide), hX 4 (by decide), hX 5 (by decide), hX 6 (by decide), hX 7 (by decide), hg 121 (by decide) (by decide), hg 122 (by decide) (by decide), hg 123 (by decide) (by decide), hg 124 (by decide) (by decide), hg 125 (by decide) (by decide), hG 64 (by decide) (by decide), hG 65 (by decide) (by decide), hG 66 (by decide) (by decide), hG 67 (by decide) (by decide), hG 68 (by decide) (by decide), hG 69 (by decide) (by decide), hG 70 (by decide) (by decide), hG 71 (by decide) (by decide)]
  exact h
theorem rq_cg (h : RQ g G) (h0 : g' 0 = g 0) (hg : ∀ k, 60 ≤ k → k < 120 → g' k = g k) (hG : ∀ k, 30 ≤ k → k < 60 → G' k = G k) (h2 : G' 62 = G 62) (h3 : G' 63 = G 63) : RQ g' G' := by
  obtain ⟨⟨s, s1, s2, s3⟩, h4⟩ := h
  refine ⟨⟨s, s1, h0.trans s2, fun j hj => by rw [h3]; exact s3 j hj⟩, fun j hj hs => ?_⟩
  rw [h3] at hs
  rw [h2]
  exact rs_congr (h4 j hj hs) (fun k hk => hg _ (by omega) (by omega)) (fun k hk => hG _ (by omega) (by omega)) (fun i _ => rfl)
/-- what is not the present state stays -/
theorem rel_of (hR : Rel g G) (h1 : RS 20 10 (g', G') (G' 60)) (hg : ∀ k, k ≤ 9 ∨ (60 ≤ k ∧ k < 120) ∨ (121 ≤ k ∧ k ≤ 126) → g' k = g k) (hG : ∀ k, k ≤ 8 ∨ (30 ≤ k ∧ k < 60) ∨ (62 ≤ k ∧ k ≤ 72) → G' k = G k) : Rel g' G' := by
  obtain ⟨-, r2, r3, r4, r5⟩ := hR
  refine ⟨h1, ?_, ?_, ?_, ?_⟩
  · exact pl_cg r2 (fun k _ _ => hg k (by omega)) (fun k _ => hG k (by omega)) (fun k _ _ => hg k (by omega)) (fun k _ _ => hG k (by omega))
  · exact pi_cg r3 (fun k _ _ => hg k (by omega)) (fun k _ _ => hG k (by omega))
  · exact rb_congr r4 (fun k _ _ => hg k (by omega)) (hG 8 (by omega)) (hg 126 (by omega)) (hG 72 (by omega))
  · exact rq_cg r5 (hg 0 (by omega)) (fun k _ _ => hg k (by omega)) (fun k _ _ => hG k (by omega)) (hG 62 (by omega)) (hG 63 (by omega))
theorem rel_t (hR : Rel g G) (t : Int32) : Rel (va_up g 120 t) G := by
  refine rel_of hR ?_ (fun k hk => up_n _ _ _ _ (by omega)) (fun k hk => rfl)
  exact rs_congr hR.1 (fun k hk => up_n _ _ _ _ (by omega)) (fun k hk => rfl) (fun i _ => rfl)
/-- the present state has changed on both sides -/
theorem rel_now (hR : Rel g G) {Y : yS} (hf : Fr 20 10 (g, G) Y) {z : Nat → Int32} (hz : RS 20 10 Y z) (t : Int32) : Rel (va_up Y.1 120 t) (va_up Y.2 60 z) := by
  refine rel_of hR ?_ (fun k hk => (up_n _ _ _ _ (by omega)).trans (hf.1 k (by omega))) (fun k hk => (up_n _ _ _ _ (by omega)).trans (hf.2 k (by omega)))
  rw [up_e]
  exact rs_congr hz (fun k hk => up_n _ _ _ _ (by omega)) (fun k hk => up_n _ _ _ _ (by omega)) (fun i _ => rfl)
theorem rel_inv (hR : Rel g G) : Inv2 (g, G) := by
  obtain ⟨r1, r2, r3, ⟨N, n1, n2, -⟩, -⟩ := hR
  have l4 : g 4 = g 124 := r2.2.2.2.1
  exact ⟨inv_of r1 r2 r3.1, by show ∃ n, n ≤ 4 ∧ g 4 = nI n; rw [l4]; exact r3.1.2.2.1, N, n1, n2⟩
/-- the reference's part of a store, where the class has changed its present state -/
theorem ref_fr (hR : Rel g G) {Y : yS} (hf : Fr 20 10 (g, G) Y) : PL (g, G) Y.1 Y.2 ∧ PI Y.1 Y.2 ∧ Y.2 60 = G 60 := by
  obtain ⟨-, r2, r3, -⟩ := hR
  refine ⟨pl_cg r2 (fun k _ _ => rfl) (fun k _ => rfl) (fun k _ _ => hf.1 k (by omega)) (fun k _ _ => hf.2 k (by omega)), pi_cg r3 (fun k _ _ => hf.1 k (by omega)) (fun k _ _ => hf.2 k (by omega)), hf.2 60 (by omega)⟩
end
/-- one call on both sides, with what it throws -/
def OpR (ya yb : Nat) (as bs : List Value) (g : Nat → Int32) (G : Nat → Nat → Int32) (o : Nat → Int64) (h : Int64) (c : Nat × Nat) : Prop := ∃ (k b : Int32) (g1 : Nat → Int32) (G1 : Nat → Nat → Int32) (o1 : Nat → Int64) (c1 : Nat × Nat) (g2 : Nat → Int32) (G2 : Nat → Nat → Int32), ev 10 ya as (hp g G o h, c) = some (.inl (some (.int k)), (hp g1 G1 o1 h, c1)) ∧ ev 10 yb bs (hp g1 G1 o1 h, c1) = some (.inl (some (.int b)), (hp g2 G2 o1 h, c1)) ∧ g2 120 = k ∧ (k = 0 → o1 0 = b.toInt64) ∧ Rel g2 G2 ∧ c1.1 ≤ c.1 + 1 ∧ c1.2 ≤ c.2 + 6
/-- one question on both sides -/
def OpQ (ya yb : Nat) (as bs : List Value) (g : Nat → Int32) (G : Nat → Nat → Int32) (o : Nat → Int64) (h : Int64) (c : Nat × Nat) : Prop := ∃ (b : Int32) (g1 : Nat → Int32) (G1 : Nat → Nat → Int32) (g2 : Nat → Int32) (G2 : Nat → Nat → Int32), ev 10 ya as (hp g G o h, c) = some (.inl (some (.int b)), (hp g1 G1 o h, c)) ∧ ev 10 yb bs (hp g1 G1 o h, c) = some (.inl (some (.int b)), (hp g2 G2 o h, c)) ∧ Rel g2 G2
section
variable {ya yb : Nat} {as bs : List Value} {g : Nat → Int32} {G : Nat → Nat → Int32} {o : Nat → Int64} {h : Int64} {c : Nat × Nat} {Y : yS}
theorem upL0 (o : Nat → Int64) (x : Int64) : vp_updL o 0 x 0 = x := by
  unfold vp_updL
  rw [if_pos rfl]
theorem opr_t {k b : Int32} {g2 : Nat → Int32} {G2 : Nat → Nat → Int32} (hA : ev 10 ya as (hp g G o h, c) = KE k Y o h c) (hB : ev 10 yb bs (hp Y.1 Y.2 o h, c.1 + 1, c.2 + 6) = some (.inl (some (.int b)), (hp g2 G2 o h, c.1 + 1, c.2 + 6))) (hk : ¬ k = 0) (h0 : g2 120 = k) (hR : Rel g2 G2) : OpR ya yb as bs g G o h c :=
  ⟨k, b, Y.1, Y.2, o, (c.1 + 1, c.2 + 6), g2, G2, hA, hB, h0, fun q => absurd q hk, hR, Nat.le_refl _, Nat.le_refl _⟩
theorem opr_v {v b : Int32} {g2 : Nat → Int32} {G2 : Nat → Nat → Int32} (hA : ev 10 ya as (hp g G o h, c) = KV v Y o h c) (hB : ev 10 yb bs (hp Y.1 Y.2 (vp_updL o 0 v.toInt64) h, c) = some (.inl (some (.int b)), (hp g2 G2 (vp_updL o 0 v.toInt64) h, c))) (h0 : g2 120 = 0) (hv : v = b) (hR : Rel g2 G2) : OpR ya yb as bs g G o h c :=
  ⟨0, b, Y.1, Y.2, _, c, g2, G2, hA, hB, h0, fun _ => by rw [upL0, hv], hR, by omega, by omega⟩
end
/-- full, in two ways of asking -/
theorem full_iff {n N : Nat} (h : n ≤ N) (hN : N < 2 ^ 31) : ¬ nI n < nI N ↔ nI n = nI N := by
  rw [nI_ltI (by omega) hN, nI_eq (by omega) hN]
  omega
theorem a11 (x : Int32) : x + 1 - 1 = x := Int32.add_sub_cancel x 1
