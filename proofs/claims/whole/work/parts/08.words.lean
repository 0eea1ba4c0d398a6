theorem xw_cl13 : Cond.classLink "LaunchCountdownLaw" 13 "java/lang/IllegalArgumentException" ∈ xgood := xword_in (i := 526) (by decide +kernel)
theorem xw_ca13 : Cond.castable "java/lang/IllegalArgumentException" "java/lang/IllegalArgumentException" ∈ lw_tbl := List.mem_of_getElem? (i := 533) (by decide +kernel)
theorem xw_cl19 : Cond.classLink "LaunchCountdownLaw" 19 "java/lang/IndexOutOfBoundsException" ∈ xgood := xword_in (i := 602) (by decide +kernel)
theorem xw_ca19 : Cond.castable "java/lang/IndexOutOfBoundsException" "java/lang/IndexOutOfBoundsException" ∈ lw_tbl := List.mem_of_getElem? (i := 619) (by decide +kernel)
theorem xw_cl21 : Cond.classLink "LaunchCountdownLaw" 21 "java/lang/IllegalStateException" ∈ xgood := xword_in (i := 603) (by decide +kernel)
theorem xw_ca21 : Cond.castable "java/lang/IllegalStateException" "java/lang/IllegalStateException" ∈ lw_tbl := List.mem_of_getElem? (i := 635) (by decide +kernel)
theorem xw_acn : Cond.native arraycopyName ∈ xgood := xword_in (i := 895) (by decide +kernel)
theorem xw_acs : Cond.static arraycopyName ∈ xgood := xword_in (i := 894) (by decide +kernel)
theorem xw_sys : Cond.initialized "java/lang/System" ∈ xgood := xword_in (i := 90) (by decide +kernel)
theorem xw_oi : Cond.instanceMethod objectInit ∈ xgood := xword_in (i := 97) (by decide +kernel)
theorem xw_oc : Cond.code objectInit ⟨#[0xb1]⟩ 1 none ∈ xgood := xword_in (i := 98) (by decide +kernel)
theorem xhh_own : xms.all (fun m => m.2.2.2.2.1 == [] || m.1.cls == "LaunchCountdownLaw") = true := by decide +kernel
theorem xm_mem (y : Nat) (h : xins y ≠ [] ∨ xhh y ≠ []) : xm y ∈ xms := by
  unfold xins xhh xm at h
  unfold xm
  cases hx : xms[y]? with
  | none => rw [hx] at h; simp at h
  | some q => exact List.mem_of_getElem? hx
theorem xhh_law {y : Nat} (h : xhh y ≠ []) : xown y = "LaunchCountdownLaw" := by
  have h1 := List.all_eq_true.mp xhh_own _ (xm_mem y (Or.inr h))
  simp only [Bool.or_eq_true, beq_iff_eq] at h1
  rcases h1 with h1 | h1
  · exact absurd h1 h
  · exact h1
theorem xat_mem {y pc : Nat} {q : Nat × Instr × Nat × List Nat} (h : xat y pc = some q) : q ∈ xins y ∧ q.1 = pc := by
  unfold xat at h
  exact ⟨List.mem_of_find?_eq_some h, by have := List.find?_some h; simpa using this⟩
theorem xat_len {y pc : Nat} {q : Nat × Instr × Nat × List Nat} (h : xat y pc = some q) : xokL q = true := by
  have hm := (xat_mem h).1
  have h1 := List.all_eq_true.mp xokL_all _ (xm_mem y (Or.inl (fun e => by rw [e] at hm; cases hm)))
  exact List.all_eq_true.mp h1 q hm
theorem xmi_chk : xms.all (fun m => (m.2.2.2.2.1 == [] && m.1.name != "<init>") || m.2.2.2.2.2.1.length == 6) = true := by decide +kernel
theorem xmi_hh {y : Nat} (h : xhh y ≠ []) : (xmi y).length = 6 := by
  have h1 := List.all_eq_true.mp xmi_chk _ (xm_mem y (Or.inr h))
  simp only [Bool.or_eq_true, Bool.and_eq_true, beq_iff_eq] at h1
  rcases h1 with h1 | h1
  · exact absurd h1.1 h
  · exact h1
theorem xmi_in {y : Nat} (hm : xins y ≠ []) (h : (xname y).name = "<init>") : (xmi y).length = 6 := by
  have h1 := List.all_eq_true.mp xmi_chk _ (xm_mem y (Or.inl hm))
  simp only [Bool.or_eq_true, Bool.and_eq_true, beq_iff_eq, bne_iff_ne] at h1
  rcases h1 with h1 | h1
  · exact absurd h h1.2
  · exact h1
