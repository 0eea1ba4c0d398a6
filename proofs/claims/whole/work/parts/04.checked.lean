theorem xok_c0 : ((List.range 14).map (· + 0)).all xokM = true := by decide +kernel
theorem xok_c1 : ((List.range 14).map (· + 14)).all xokM = true := by decide +kernel
theorem xok_c2 : ((List.range 14).map (· + 28)).all xokM = true := by decide +kernel
theorem xok_c3 : ((List.range 14).map (· + 42)).all xokM = true := by decide +kernel
theorem xok_c4 : ((List.range 14).map (· + 56)).all xokM = true := by decide +kernel
theorem xok_c5 : ((List.range 14).map (· + 70)).all xokM = true := by decide +kernel
theorem xok_c6 : ((List.range 14).map (· + 84)).all xokM = true := by decide +kernel
theorem xok_c7 : ((List.range 14).map (· + 98)).all xokM = true := by decide +kernel
theorem xok_c8 : ((List.range 14).map (· + 112)).all xokM = true := by decide +kernel
theorem xok_c9 : ((List.range 14).map (· + 126)).all xokM = true := by decide +kernel
theorem xok_c10 : ((List.range 14).map (· + 140)).all xokM = true := by decide +kernel
theorem xok_c11 : ((List.range 14).map (· + 154)).all xokM = true := by decide +kernel
theorem xok_c12 : ((List.range 14).map (· + 168)).all xokM = true := by decide +kernel
theorem xok_c13 : ((List.range 14).map (· + 182)).all xokM = true := by decide +kernel
theorem xok_c14 : ((List.range 14).map (· + 196)).all xokM = true := by decide +kernel
theorem xok_c15 : ((List.range 14).map (· + 210)).all xokM = true := by decide +kernel
theorem xok_c16 : ((List.range 14).map (· + 224)).all xokM = true := by decide +kernel
theorem xok_all (y : Nat) (h : y < 238) : xokM y = true := by
  have hc : ∀ (n a : Nat), ((List.range n).map (· + a)).all xokM = true → a ≤ y → y < a + n → xokM y = true := fun n a hh h1 h2 => List.all_eq_true.mp hh y (List.mem_map.mpr ⟨y - a, List.mem_range.mpr (by omega), by omega⟩)
  by_cases h0 : y < 14
  · exact hc 14 0 xok_c0 (by omega) (by omega)
  by_cases h1 : y < 28
  · exact hc 14 14 xok_c1 (by omega) (by omega)
  by_cases h2 : y < 42
  · exact hc 14 28 xok_c2 (by omega) (by omega)
  by_cases h3 : y < 56
  · exact hc 14 42 xok_c3 (by omega) (by omega)
  by_cases h4 : y < 70
  · exact hc 14 56 xok_c4 (by omega) (by omega)
  by_cases h5 : y < 84
  · exact hc 14 70 xok_c5 (by omega) (by omega)
  by_cases h6 : y < 98
  · exact hc 14 84 xok_c6 (by omega) (by omega)
  by_cases h7 : y < 112
  · exact hc 14 98 xok_c7 (by omega) (by omega)
  by_cases h8 : y < 126
  · exact hc 14 112 xok_c8 (by omega) (by omega)
  by_cases h9 : y < 140
  · exact hc 14 126 xok_c9 (by omega) (by omega)
  by_cases h10 : y < 154
  · exact hc 14 140 xok_c10 (by omega) (by omega)
  by_cases h11 : y < 168
  · exact hc 14 154 xok_c11 (by omega) (by omega)
  by_cases h12 : y < 182
  · exact hc 14 168 xok_c12 (by omega) (by omega)
  by_cases h13 : y < 196
  · exact hc 14 182 xok_c13 (by omega) (by omega)
  by_cases h14 : y < 210
  · exact hc 14 196 xok_c14 (by omega) (by omega)
  by_cases h15 : y < 224
  · exact hc 14 210 xok_c15 (by omega) (by omega)
  by_cases h16 : y < 238
  · exact hc 14 224 xok_c16 (by omega) (by omega)
  omega
theorem xokL_0 : mL_law_c0.all (xokI iL_law) = true := by decide +kernel
theorem xokL_1 : mL_law_c1.all (xokI iL_law) = true := by decide +kernel
theorem xokL_2 : mL_law_c2.all (xokI iL_law) = true := by decide +kernel
theorem xokL_3 : mL_law_c3.all (xokI iL_law) = true := by decide +kernel
theorem xokL_4 : mL_law_c4.all (xokI iL_law) = true := by decide +kernel
theorem xokL_5 : mL_law_c5.all (xokI iL_law) = true := by decide +kernel
theorem xokL_6 : mL_law_c6.all (xokI iL_law) = true := by decide +kernel
theorem xokL_7 : mL_law_c7.all (xokI iL_law) = true := by decide +kernel
theorem xokL_8 : mL_law_c8.all (xokI iL_law) = true := by decide +kernel
theorem xokL_9 : mL_law_c9.all (xokI iL_law) = true := by decide +kernel
theorem xokL_10 : mL_law_c10.all (xokI iL_law) = true := by decide +kernel
theorem xokL_11 : mL_law_c11.all (xokI iL_law) = true := by decide +kernel
theorem xokL_12 : mL_law_c12.all (xokI iL_law) = true := by decide +kernel
theorem xokL_13 : mL_law_c13.all (xokI iL_law) = true := by decide +kernel
theorem xokL_14 : mL_law_c14.all (xokI iL_law) = true := by decide +kernel
theorem xokL_15 : mL_law_c15.all (xokI iL_law) = true := by decide +kernel
theorem xokL_16 : mL_law_c16.all (xokI iL_law) = true := by decide +kernel
theorem xokL_17 : mL_law_c17.all (xokI iL_law) = true := by decide +kernel
theorem xok_law : (xins iL_law).all (xokI iL_law) = true := by
  show (mL_law_c0 ++ (mL_law_c1 ++ (mL_law_c2 ++ (mL_law_c3 ++ (mL_law_c4 ++ (mL_law_c5 ++ (mL_law_c6 ++ (mL_law_c7 ++ (mL_law_c8 ++ (mL_law_c9 ++ (mL_law_c10 ++ (mL_law_c11 ++ (mL_law_c12 ++ (mL_law_c13 ++ (mL_law_c14 ++ (mL_law_c15 ++ (mL_law_c16 ++ (mL_law_c17)))))))))))))))))).all (xokI iL_law) = true
  simp only [List.all_append, xokL_0, xokL_1, xokL_2, xokL_3, xokL_4, xokL_5, xokL_6, xokL_7, xokL_8, xokL_9, xokL_10, xokL_11, xokL_12, xokL_13, xokL_14, xokL_15, xokL_16, xokL_17, Bool.and_self]
theorem xlay_0 : ((List.range 5).zip [326, 328, 330, 332, 334]).all (fun q => xword q.2 (u_lay "LaunchCountdown$Buffer" (xT "LaunchCountdown$Buffer" fX0) q.1)) = true := by decide +kernel
theorem xlin_0 : ∀ w ∈ u_ws "LaunchCountdown$Buffer" (xT "LaunchCountdown$Buffer" fX0) 5, w ∈ xgood := by
  intro w hw
  obtain ⟨k, hk, rfl⟩ := List.mem_map.mp hw
  have hk2 := List.mem_range.mp hk
  have hz : ∃ j, (k, j) ∈ (List.range 5).zip [326, 328, 330, 332, 334] := ⟨[326, 328, 330, 332, 334].getD k 0, by
    match k, hk2 with
    | 0, _ => decide
    | 1, _ => decide
    | 2, _ => decide
    | 3, _ => decide
    | 4, _ => decide
    | k + 5, h => omega⟩
  obtain ⟨j, hj⟩ := hz
  exact xword_in (List.all_eq_true.mp xlay_0 (k, j) hj)
theorem xnm_0 : ∀ a, a < 5 → ∀ b, b < 5 → a ≠ b → (xT "LaunchCountdown$Buffer" fX0 a).2.1 ≠ (xT "LaunchCountdown$Buffer" fX0 b).2.1 := by decide +kernel
theorem xpd_0 : ∀ k, k < 5 → parseFieldDescriptor (xT "LaunchCountdown$Buffer" fX0 k).2.2.1 = some (xfty 0 k) := by decide +kernel
theorem xlay_1 : ((List.range 5).zip [233, 235, 237, 239, 241]).all (fun q => xword q.2 (u_lay "LaunchCountdown$Log" (xT "LaunchCountdown$Log" fX1) q.1)) = true := by decide +kernel
theorem xlin_1 : ∀ w ∈ u_ws "LaunchCountdown$Log" (xT "LaunchCountdown$Log" fX1) 5, w ∈ xgood := by
  intro w hw
  obtain ⟨k, hk, rfl⟩ := List.mem_map.mp hw
  have hk2 := List.mem_range.mp hk
  have hz : ∃ j, (k, j) ∈ (List.range 5).zip [233, 235, 237, 239, 241] := ⟨[233, 235, 237, 239, 241].getD k 0, by
    match k, hk2 with
    | 0, _ => decide
    | 1, _ => decide
    | 2, _ => decide
    | 3, _ => decide
    | 4, _ => decide
    | k + 5, h => omega⟩
  obtain ⟨j, hj⟩ := hz
  exact xword_in (List.all_eq_true.mp xlay_1 (k, j) hj)
theorem xnm_1 : ∀ a, a < 5 → ∀ b, b < 5 → a ≠ b → (xT "LaunchCountdown$Log" fX1 a).2.1 ≠ (xT "LaunchCountdown$Log" fX1 b).2.1 := by decide +kernel
theorem xpd_1 : ∀ k, k < 5 → parseFieldDescriptor (xT "LaunchCountdown$Log" fX1 k).2.2.1 = some (xfty 1 k) := by decide +kernel
theorem xlay_2 : ((List.range 3).zip [178, 180, 182]).all (fun q => xword q.2 (u_lay "LaunchCountdown$Pass" (xT "LaunchCountdown$Pass" fX2) q.1)) = true := by decide +kernel
theorem xlin_2 : ∀ w ∈ u_ws "LaunchCountdown$Pass" (xT "LaunchCountdown$Pass" fX2) 3, w ∈ xgood := by
  intro w hw
  obtain ⟨k, hk, rfl⟩ := List.mem_map.mp hw
  have hk2 := List.mem_range.mp hk
  have hz : ∃ j, (k, j) ∈ (List.range 3).zip [178, 180, 182] := ⟨[178, 180, 182].getD k 0, by
    match k, hk2 with
    | 0, _ => decide
    | 1, _ => decide
    | 2, _ => decide
    | k + 3, h => omega⟩
  obtain ⟨j, hj⟩ := hz
  exact xword_in (List.all_eq_true.mp xlay_2 (k, j) hj)
theorem xnm_2 : ∀ a, a < 3 → ∀ b, b < 3 → a ≠ b → (xT "LaunchCountdown$Pass" fX2 a).2.1 ≠ (xT "LaunchCountdown$Pass" fX2 b).2.1 := by decide +kernel
theorem xpd_2 : ∀ k, k < 3 → parseFieldDescriptor (xT "LaunchCountdown$Pass" fX2 k).2.2.1 = some (xfty 2 k) := by decide +kernel
theorem xlay_3 : ((List.range 13).zip [132, 134, 136, 138, 140, 142, 144, 146, 148, 150, 152, 154, 156]).all (fun q => xword q.2 (u_lay "LaunchCountdown$Plan" (xT "LaunchCountdown$Plan" fX3) q.1)) = true := by decide +kernel
theorem xlin_3 : ∀ w ∈ u_ws "LaunchCountdown$Plan" (xT "LaunchCountdown$Plan" fX3) 13, w ∈ xgood := by
  intro w hw
  obtain ⟨k, hk, rfl⟩ := List.mem_map.mp hw
  have hk2 := List.mem_range.mp hk
  have hz : ∃ j, (k, j) ∈ (List.range 13).zip [132, 134, 136, 138, 140, 142, 144, 146, 148, 150, 152, 154, 156] := ⟨[132, 134, 136, 138, 140, 142, 144, 146, 148, 150, 152, 154, 156].getD k 0, by
    match k, hk2 with
    | 0, _ => decide
    | 1, _ => decide
    | 2, _ => decide
    | 3, _ => decide
    | 4, _ => decide
    | 5, _ => decide
    | 6, _ => decide
    | 7, _ => decide
    | 8, _ => decide
    | 9, _ => decide
    | 10, _ => decide
    | 11, _ => decide
    | 12, _ => decide
    | k + 13, h => omega⟩
  obtain ⟨j, hj⟩ := hz
  exact xword_in (List.all_eq_true.mp xlay_3 (k, j) hj)
theorem xnm_3 : ∀ a, a < 13 → ∀ b, b < 13 → a ≠ b → (xT "LaunchCountdown$Plan" fX3 a).2.1 ≠ (xT "LaunchCountdown$Plan" fX3 b).2.1 := by decide +kernel
theorem xpd_3 : ∀ k, k < 13 → parseFieldDescriptor (xT "LaunchCountdown$Plan" fX3 k).2.2.1 = some (xfty 3 k) := by decide +kernel
theorem xlay_4 : ((List.range 3).zip [213, 215, 217]).all (fun q => xword q.2 (u_lay "LaunchCountdown$Spans" (xT "LaunchCountdown$Spans" fX4) q.1)) = true := by decide +kernel
theorem xlin_4 : ∀ w ∈ u_ws "LaunchCountdown$Spans" (xT "LaunchCountdown$Spans" fX4) 3, w ∈ xgood := by
  intro w hw
  obtain ⟨k, hk, rfl⟩ := List.mem_map.mp hw
  have hk2 := List.mem_range.mp hk
  have hz : ∃ j, (k, j) ∈ (List.range 3).zip [213, 215, 217] := ⟨[213, 215, 217].getD k 0, by
    match k, hk2 with
    | 0, _ => decide
    | 1, _ => decide
    | 2, _ => decide
    | k + 3, h => omega⟩
  obtain ⟨j, hj⟩ := hz
  exact xword_in (List.all_eq_true.mp xlay_4 (k, j) hj)
theorem xnm_4 : ∀ a, a < 3 → ∀ b, b < 3 → a ≠ b → (xT "LaunchCountdown$Spans" fX4 a).2.1 ≠ (xT "LaunchCountdown$Spans" fX4 b).2.1 := by decide +kernel
theorem xpd_4 : ∀ k, k < 3 → parseFieldDescriptor (xT "LaunchCountdown$Spans" fX4 k).2.2.1 = some (xfty 4 k) := by decide +kernel
theorem xlay_5 : ((List.range 18).zip [272, 274, 276, 278, 280, 282, 284, 286, 288, 290, 292, 294, 296, 298, 300, 302, 304, 306]).all (fun q => xword q.2 (u_lay "LaunchCountdown$State" (xT "LaunchCountdown$State" fX5) q.1)) = true := by decide +kernel
theorem xlin_5 : ∀ w ∈ u_ws "LaunchCountdown$State" (xT "LaunchCountdown$State" fX5) 18, w ∈ xgood := by
  intro w hw
  obtain ⟨k, hk, rfl⟩ := List.mem_map.mp hw
  have hk2 := List.mem_range.mp hk
  have hz : ∃ j, (k, j) ∈ (List.range 18).zip [272, 274, 276, 278, 280, 282, 284, 286, 288, 290, 292, 294, 296, 298, 300, 302, 304, 306] := ⟨[272, 274, 276, 278, 280, 282, 284, 286, 288, 290, 292, 294, 296, 298, 300, 302, 304, 306].getD k 0, by
    match k, hk2 with
    | 0, _ => decide
    | 1, _ => decide
    | 2, _ => decide
    | 3, _ => decide
    | 4, _ => decide
    | 5, _ => decide
    | 6, _ => decide
    | 7, _ => decide
    | 8, _ => decide
    | 9, _ => decide
    | 10, _ => decide
    | 11, _ => decide
    | 12, _ => decide
    | 13, _ => decide
    | 14, _ => decide
    | 15, _ => decide
    | 16, _ => decide
    | 17, _ => decide
    | k + 18, h => omega⟩
  obtain ⟨j, hj⟩ := hz
  exact xword_in (List.all_eq_true.mp xlay_5 (k, j) hj)
theorem xnm_5 : ∀ a, a < 18 → ∀ b, b < 18 → a ≠ b → (xT "LaunchCountdown$State" fX5 a).2.1 ≠ (xT "LaunchCountdown$State" fX5 b).2.1 := by decide +kernel
theorem xpd_5 : ∀ k, k < 18 → parseFieldDescriptor (xT "LaunchCountdown$State" fX5 k).2.2.1 = some (xfty 5 k) := by decide +kernel
theorem xlay_6 : ((List.range 2).zip [195, 197]).all (fun q => xword q.2 (u_lay "LaunchCountdown$Votes" (xT "LaunchCountdown$Votes" fX6) q.1)) = true := by decide +kernel
theorem xlin_6 : ∀ w ∈ u_ws "LaunchCountdown$Votes" (xT "LaunchCountdown$Votes" fX6) 2, w ∈ xgood := by
  intro w hw
  obtain ⟨k, hk, rfl⟩ := List.mem_map.mp hw
  have hk2 := List.mem_range.mp hk
  have hz : ∃ j, (k, j) ∈ (List.range 2).zip [195, 197] := ⟨[195, 197].getD k 0, by
    match k, hk2 with
    | 0, _ => decide
    | 1, _ => decide
    | k + 2, h => omega⟩
  obtain ⟨j, hj⟩ := hz
  exact xword_in (List.all_eq_true.mp xlay_6 (k, j) hj)
theorem xnm_6 : ∀ a, a < 2 → ∀ b, b < 2 → a ≠ b → (xT "LaunchCountdown$Votes" fX6 a).2.1 ≠ (xT "LaunchCountdown$Votes" fX6 b).2.1 := by decide +kernel
theorem xpd_6 : ∀ k, k < 2 → parseFieldDescriptor (xT "LaunchCountdown$Votes" fX6 k).2.2.1 = some (xfty 6 k) := by decide +kernel
theorem xlay_7 : ((List.range 6).zip [370, 372, 374, 376, 378, 380]).all (fun q => xword q.2 (u_lay "LaunchCountdown" (xT "LaunchCountdown" fX7) q.1)) = true := by decide +kernel
theorem xlin_7 : ∀ w ∈ u_ws "LaunchCountdown" (xT "LaunchCountdown" fX7) 6, w ∈ xgood := by
  intro w hw
  obtain ⟨k, hk, rfl⟩ := List.mem_map.mp hw
  have hk2 := List.mem_range.mp hk
  have hz : ∃ j, (k, j) ∈ (List.range 6).zip [370, 372, 374, 376, 378, 380] := ⟨[370, 372, 374, 376, 378, 380].getD k 0, by
    match k, hk2 with
    | 0, _ => decide
    | 1, _ => decide
    | 2, _ => decide
    | 3, _ => decide
    | 4, _ => decide
    | 5, _ => decide
    | k + 6, h => omega⟩
  obtain ⟨j, hj⟩ := hz
  exact xword_in (List.all_eq_true.mp xlay_7 (k, j) hj)
theorem xnm_7 : ∀ a, a < 6 → ∀ b, b < 6 → a ≠ b → (xT "LaunchCountdown" fX7 a).2.1 ≠ (xT "LaunchCountdown" fX7 b).2.1 := by decide +kernel
theorem xpd_7 : ∀ k, k < 6 → parseFieldDescriptor (xT "LaunchCountdown" fX7 k).2.2.1 = some (xfty 7 k) := by decide +kernel
theorem xlay_8 : ((List.range 25).zip [1090, 1092, 1094, 1096, 1098, 1100, 1102, 1104, 1106, 1108, 1110, 1112, 1114, 1116, 1118, 1120, 1122, 1124, 1126, 1128, 1130, 1132, 1134, 1136, 1138]).all (fun q => xword q.2 (u_lay "LaunchCountdownModel" (xT "LaunchCountdownModel" fX8) q.1)) = true := by decide +kernel
theorem xlin_8 : ∀ w ∈ u_ws "LaunchCountdownModel" (xT "LaunchCountdownModel" fX8) 25, w ∈ xgood := by
  intro w hw
  obtain ⟨k, hk, rfl⟩ := List.mem_map.mp hw
  have hk2 := List.mem_range.mp hk
  have hz : ∃ j, (k, j) ∈ (List.range 25).zip [1090, 1092, 1094, 1096, 1098, 1100, 1102, 1104, 1106, 1108, 1110, 1112, 1114, 1116, 1118, 1120, 1122, 1124, 1126, 1128, 1130, 1132, 1134, 1136, 1138] := ⟨[1090, 1092, 1094, 1096, 1098, 1100, 1102, 1104, 1106, 1108, 1110, 1112, 1114, 1116, 1118, 1120, 1122, 1124, 1126, 1128, 1130, 1132, 1134, 1136, 1138].getD k 0, by
    match k, hk2 with
    | 0, _ => decide
    | 1, _ => decide
    | 2, _ => decide
    | 3, _ => decide
    | 4, _ => decide
    | 5, _ => decide
    | 6, _ => decide
    | 7, _ => decide
    | 8, _ => decide
    | 9, _ => decide
    | 10, _ => decide
    | 11, _ => decide
    | 12, _ => decide
    | 13, _ => decide
    | 14, _ => decide
    | 15, _ => decide
    | 16, _ => decide
    | 17, _ => decide
    | 18, _ => decide
    | 19, _ => decide
    | 20, _ => decide
    | 21, _ => decide
    | 22, _ => decide
    | 23, _ => decide
    | 24, _ => decide
    | k + 25, h => omega⟩
  obtain ⟨j, hj⟩ := hz
  exact xword_in (List.all_eq_true.mp xlay_8 (k, j) hj)
theorem xnm_8 : ∀ a, a < 25 → ∀ b, b < 25 → a ≠ b → (xT "LaunchCountdownModel" fX8 a).2.1 ≠ (xT "LaunchCountdownModel" fX8 b).2.1 := by decide +kernel
theorem xpd_8 : ∀ k, k < 25 → parseFieldDescriptor (xT "LaunchCountdownModel" fX8 k).2.2.1 = some (xfty 8 k) := by decide +kernel
theorem xth_g0 : ∀ w ∈ (vx_atS "LaunchCountdown" 47 "java/lang/IllegalArgumentException" ["java/lang/RuntimeException", "java/lang/Exception"]).filter goodWord, w ∈ lw_tbl := by decide +kernel
theorem xth_o0 : (vx_atS "LaunchCountdown" 47 "java/lang/IllegalArgumentException" ["java/lang/RuntimeException", "java/lang/Exception"]).all vx_ot = true := by decide +kernel
theorem xth_f0 : Bundle.fit "java/lang/IllegalArgumentException" = true := by decide +kernel
theorem xth_g1 : ∀ w ∈ (vx_atS "LaunchCountdown" 67 "java/lang/IndexOutOfBoundsException" ["java/lang/RuntimeException", "java/lang/Exception"]).filter goodWord, w ∈ lw_tbl := by decide +kernel
theorem xth_o1 : (vx_atS "LaunchCountdown" 67 "java/lang/IndexOutOfBoundsException" ["java/lang/RuntimeException", "java/lang/Exception"]).all vx_ot = true := by decide +kernel
theorem xth_f1 : Bundle.fit "java/lang/IndexOutOfBoundsException" = true := by decide +kernel
theorem xth_g2 : ∀ w ∈ (vx_atS "LaunchCountdown" 78 "java/lang/IllegalStateException" ["java/lang/RuntimeException", "java/lang/Exception"]).filter goodWord, w ∈ lw_tbl := by decide +kernel
theorem xth_o2 : (vx_atS "LaunchCountdown" 78 "java/lang/IllegalStateException" ["java/lang/RuntimeException", "java/lang/Exception"]).all vx_ot = true := by decide +kernel
theorem xth_f2 : Bundle.fit "java/lang/IllegalStateException" = true := by decide +kernel
theorem xth_n : ∀ n ∈ (["java/lang/RuntimeException", "java/lang/Exception"] : List String), Bundle.fit n = true := by decide +kernel
theorem xth_b0 : ((vx_atS "LaunchCountdown" 47 "java/lang/IllegalArgumentException" ["java/lang/RuntimeException", "java/lang/Exception"]).filter (fun w => !goodWord w)).all (fun w => match w with | .declares _ => decide (w ∈ lw_tbl) | .castable _ _ => decide (w ∈ lw_tbl) | _ => false) = true := by decide +kernel
theorem xth_b1 : ((vx_atS "LaunchCountdown" 67 "java/lang/IndexOutOfBoundsException" ["java/lang/RuntimeException", "java/lang/Exception"]).filter (fun w => !goodWord w)).all (fun w => match w with | .declares _ => decide (w ∈ lw_tbl) | .castable _ _ => decide (w ∈ lw_tbl) | _ => false) = true := by decide +kernel
theorem xth_b2 : ((vx_atS "LaunchCountdown" 78 "java/lang/IllegalStateException" ["java/lang/RuntimeException", "java/lang/Exception"]).filter (fun w => !goodWord w)).all (fun w => match w with | .declares _ => decide (w ∈ lw_tbl) | .castable _ _ => decide (w ∈ lw_tbl) | _ => false) = true := by decide +kernel
theorem xokL_all : xms.all (fun m => m.2.2.2.2.2.2.all xokL) = true := by decide +kernel
theorem xlin_all (ci : Nat) (q : String × List (String × String × Bool × FieldType)) (h : xcls[ci]? = some q) : ∀ w ∈ u_ws q.1 (xT q.1 q.2) q.2.length, w ∈ xgood := by
  match ci, h with
  | 0, h => cases h; exact xlin_0
  | 1, h => cases h; exact xlin_1
  | 2, h => cases h; exact xlin_2
  | 3, h => cases h; exact xlin_3
  | 4, h => cases h; exact xlin_4
  | 5, h => cases h; exact xlin_5
  | 6, h => cases h; exact xlin_6
  | 7, h => cases h; exact xlin_7
  | 8, h => cases h; exact xlin_8
  | k + 9, h => simp [xcls] at h
theorem xnm_all (ci : Nat) (q : String × List (String × String × Bool × FieldType)) (h : xcls[ci]? = some q) : ∀ a, a < q.2.length → ∀ b, b < q.2.length → a ≠ b → (xT q.1 q.2 a).2.1 ≠ (xT q.1 q.2 b).2.1 := by
  match ci, h with
  | 0, h => cases h; exact xnm_0
  | 1, h => cases h; exact xnm_1
  | 2, h => cases h; exact xnm_2
  | 3, h => cases h; exact xnm_3
  | 4, h => cases h; exact xnm_4
  | 5, h => cases h; exact xnm_5
  | 6, h => cases h; exact xnm_6
  | 7, h => cases h; exact xnm_7
  | 8, h => cases h; exact xnm_8
  | k + 9, h => simp [xcls] at h
theorem xpd_all (ci : Nat) (q : String × List (String × String × Bool × FieldType)) (h : xcls[ci]? = some q) : ∀ k, k < q.2.length → parseFieldDescriptor (xT q.1 q.2 k).2.2.1 = some (xfty ci k) := by
  match ci, h with
  | 0, h => cases h; exact xpd_0
  | 1, h => cases h; exact xpd_1
  | 2, h => cases h; exact xpd_2
  | 3, h => cases h; exact xpd_3
  | 4, h => cases h; exact xpd_4
  | 5, h => cases h; exact xpd_5
  | 6, h => cases h; exact xpd_6
  | 7, h => cases h; exact xpd_7
  | 8, h => cases h; exact xpd_8
  | k + 9, h => simp [xcls] at h
