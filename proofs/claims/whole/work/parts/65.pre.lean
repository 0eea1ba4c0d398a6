/-! the first cells alone: rows, and the methods that run before all cells are there; written by wip/whole/gen_pre.py -/
section
variable {L L' : xL} {n a ci k t : Nat} {v : Value}
theorem xget_tk (h : a < n) : xget (L.take n) a ci k = xget L a ci k := by
  unfold xget
  rw [List.getElem?_take_of_lt h]
theorem xis_tk (h : a < n) : xis (L.take n) a ci = xis L a ci := by
  unfold xis
  rw [List.getElem?_take_of_lt h]
theorem xai_tk (h : a < n) : xai (L.take n) a t = xai L a t := by
  unfold xai
  rw [List.getElem?_take_of_lt h]
theorem xlen_tk (h : a < n) : xlen (L.take n) a = xlen L a := by
  unfold xlen
  rw [List.getElem?_take_of_lt h]
theorem xput_tk (h : a < n) (hp : xput L a ci k v = some L') : xput (L.take n) a ci k v = some (L'.take n) := by
  unfold xput at hp ⊢
  rw [List.getElem?_take_of_lt h]
  split at hp
  · rename_i c fs he
    split at hp
    · rename_i hc
      cases hp
      rw [he]
      simp only
      rw [if_pos hc, List.take_set]
    · cases hp
  · cases hp
theorem set_tk {x : xE} (hp : L.set a x = L') : (L.take n).set a x = L'.take n := by
  rw [← hp, List.take_set]
end
def hq8 (g : Nat → Int32) (G : Nat → Nat → Int32) (o : Nat → Int64) (h : Int64) : xL := (hp g G o h).take 88
def hq9 (g : Nat → Int32) (G : Nat → Nat → Int32) (o : Nat → Int64) (h : Int64) : xL := (hp g G o h).take 102
section
variable {g : Nat → Int32} {G : Nat → Nat → Int32} {o : Nat → Int64} {h : Int64}
theorem p8_hx_0 : xis (hq8 g G o h) 0 7 = true := (xis_tk (by decide)).trans hx_0
theorem p8_hg_0_0 : xget (hq8 g G o h) 0 7 0 = some (.ref 1) := (xget_tk (by decide)).trans hg_0_0
theorem p8_hg_0_1 : xget (hq8 g G o h) 0 7 1 = some (.ref 10) := (xget_tk (by decide)).trans hg_0_1
theorem p8_hg_0_2 : xget (hq8 g G o h) 0 7 2 = some (.ref 25) := (xget_tk (by decide)).trans hg_0_2
theorem p8_hg_0_3 : xget (hq8 g G o h) 0 7 3 = some (.ref 40) := (xget_tk (by decide)).trans hg_0_3
theorem p8_hg_0_4 : xget (hq8 g G o h) 0 7 4 = some (.int (g 0)) := (xget_tk (by decide)).trans hg_0_4
theorem p8_hs_0_4 {v : Int32} : xput (hq8 g G o h) 0 7 4 (.int v) = some (hq8 (va_up g 0 v) G o h) := xput_tk (by decide) hs_0_4
theorem p8_hg_0_5 : xget (hq8 g G o h) 0 7 5 = some (.ref 86) := (xget_tk (by decide)).trans hg_0_5
theorem p8_hx_1 : xis (hq8 g G o h) 1 3 = true := (xis_tk (by decide)).trans hx_1
theorem p8_hg_1_0 : xget (hq8 g G o h) 1 3 0 = some (.int (g 1)) := (xget_tk (by decide)).trans hg_1_0
theorem p8_hs_1_0 {v : Int32} : xput (hq8 g G o h) 1 3 0 (.int v) = some (hq8 (va_up g 1 v) G o h) := xput_tk (by decide) hs_1_0
theorem p8_hg_1_1 : xget (hq8 g G o h) 1 3 1 = some (.int (g 2)) := (xget_tk (by decide)).trans hg_1_1
theorem p8_hs_1_1 {v : Int32} : xput (hq8 g G o h) 1 3 1 (.int v) = some (hq8 (va_up g 2 v) G o h) := xput_tk (by decide) hs_1_1
theorem p8_hg_1_2 : xget (hq8 g G o h) 1 3 2 = some (.int (g 3)) := (xget_tk (by decide)).trans hg_1_2
theorem p8_hs_1_2 {v : Int32} : xput (hq8 g G o h) 1 3 2 (.int v) = some (hq8 (va_up g 3 v) G o h) := xput_tk (by decide) hs_1_2
theorem p8_hg_1_3 : xget (hq8 g G o h) 1 3 3 = some (.int (g 4)) := (xget_tk (by decide)).trans hg_1_3
theorem p8_hs_1_3 {v : Int32} : xput (hq8 g G o h) 1 3 3 (.int v) = some (hq8 (va_up g 4 v) G o h) := xput_tk (by decide) hs_1_3
theorem p8_hg_1_4 : xget (hq8 g G o h) 1 3 4 = some (.int (g 5)) := (xget_tk (by decide)).trans hg_1_4
theorem p8_hs_1_4 {v : Int32} : xput (hq8 g G o h) 1 3 4 (.int v) = some (hq8 (va_up g 5 v) G o h) := xput_tk (by decide) hs_1_4
theorem p8_hg_1_5 : xget (hq8 g G o h) 1 3 5 = some (.ref 2) := (xget_tk (by decide)).trans hg_1_5
theorem p8_hg_1_6 : xget (hq8 g G o h) 1 3 6 = some (.ref 3) := (xget_tk (by decide)).trans hg_1_6
theorem p8_hg_1_7 : xget (hq8 g G o h) 1 3 7 = some (.ref 4) := (xget_tk (by decide)).trans hg_1_7
theorem p8_hg_1_8 : xget (hq8 g G o h) 1 3 8 = some (.ref 5) := (xget_tk (by decide)).trans hg_1_8
theorem p8_hg_1_9 : xget (hq8 g G o h) 1 3 9 = some (.ref 6) := (xget_tk (by decide)).trans hg_1_9
theorem p8_hg_1_10 : xget (hq8 g G o h) 1 3 10 = some (.ref 7) := (xget_tk (by decide)).trans hg_1_10
theorem p8_hg_1_11 : xget (hq8 g G o h) 1 3 11 = some (.ref 8) := (xget_tk (by decide)).trans hg_1_11
theorem p8_hg_1_12 : xget (hq8 g G o h) 1 3 12 = some (.ref 9) := (xget_tk (by decide)).trans hg_1_12
theorem p8_hx_10 : xis (hq8 g G o h) 10 5 = true := (xis_tk (by decide)).trans hx_10
theorem p8_hg_10_0 : xget (hq8 g G o h) 10 5 0 = some (.ref 1) := (xget_tk (by decide)).trans hg_10_0
theorem p8_hg_10_1 : xget (hq8 g G o h) 10 5 1 = some (.int (g 20)) := (xget_tk (by decide)).trans hg_10_1
theorem p8_hs_10_1 {v : Int32} : xput (hq8 g G o h) 10 5 1 (.int v) = some (hq8 (va_up g 20 v) G o h) := xput_tk (by decide) hs_10_1
theorem p8_hg_10_2 : xget (hq8 g G o h) 10 5 2 = some (.int (g 21)) := (xget_tk (by decide)).trans hg_10_2
theorem p8_hs_10_2 {v : Int32} : xput (hq8 g G o h) 10 5 2 (.int v) = some (hq8 (va_up g 21 v) G o h) := xput_tk (by decide) hs_10_2
theorem p8_hg_10_3 : xget (hq8 g G o h) 10 5 3 = some (.int (g 22)) := (xget_tk (by decide)).trans hg_10_3
theorem p8_hs_10_3 {v : Int32} : xput (hq8 g G o h) 10 5 3 (.int v) = some (hq8 (va_up g 22 v) G o h) := xput_tk (by decide) hs_10_3
theorem p8_hg_10_4 : xget (hq8 g G o h) 10 5 4 = some (.int (g 23)) := (xget_tk (by decide)).trans hg_10_4
theorem p8_hs_10_4 {v : Int32} : xput (hq8 g G o h) 10 5 4 (.int v) = some (hq8 (va_up g 23 v) G o h) := xput_tk (by decide) hs_10_4
theorem p8_hg_10_5 : xget (hq8 g G o h) 10 5 5 = some (.int (g 24)) := (xget_tk (by decide)).trans hg_10_5
theorem p8_hs_10_5 {v : Int32} : xput (hq8 g G o h) 10 5 5 (.int v) = some (hq8 (va_up g 24 v) G o h) := xput_tk (by decide) hs_10_5
theorem p8_hg_10_6 : xget (hq8 g G o h) 10 5 6 = some (.int (g 25)) := (xget_tk (by decide)).trans hg_10_6
theorem p8_hs_10_6 {v : Int32} : xput (hq8 g G o h) 10 5 6 (.int v) = some (hq8 (va_up g 25 v) G o h) := xput_tk (by decide) hs_10_6
theorem p8_hg_10_7 : xget (hq8 g G o h) 10 5 7 = some (.int (g 26)) := (xget_tk (by decide)).trans hg_10_7
theorem p8_hs_10_7 {v : Int32} : xput (hq8 g G o h) 10 5 7 (.int v) = some (hq8 (va_up g 26 v) G o h) := xput_tk (by decide) hs_10_7
theorem p8_hg_10_8 : xget (hq8 g G o h) 10 5 8 = some (.int (g 27)) := (xget_tk (by decide)).trans hg_10_8
theorem p8_hs_10_8 {v : Int32} : xput (hq8 g G o h) 10 5 8 (.int v) = some (hq8 (va_up g 27 v) G o h) := xput_tk (by decide) hs_10_8
theorem p8_hg_10_9 : xget (hq8 g G o h) 10 5 9 = some (.int (g 28)) := (xget_tk (by decide)).trans hg_10_9
theorem p8_hs_10_9 {v : Int32} : xput (hq8 g G o h) 10 5 9 (.int v) = some (hq8 (va_up g 28 v) G o h) := xput_tk (by decide) hs_10_9
theorem p8_hg_10_10 : xget (hq8 g G o h) 10 5 10 = some (.int (g 29)) := (xget_tk (by decide)).trans hg_10_10
theorem p8_hs_10_10 {v : Int32} : xput (hq8 g G o h) 10 5 10 (.int v) = some (hq8 (va_up g 29 v) G o h) := xput_tk (by decide) hs_10_10
theorem p8_hg_10_11 : xget (hq8 g G o h) 10 5 11 = some (.int (g 30)) := (xget_tk (by decide)).trans hg_10_11
theorem p8_hs_10_11 {v : Int32} : xput (hq8 g G o h) 10 5 11 (.int v) = some (hq8 (va_up g 30 v) G o h) := xput_tk (by decide) hs_10_11
theorem p8_hg_10_12 : xget (hq8 g G o h) 10 5 12 = some (.int (g 31)) := (xget_tk (by decide)).trans hg_10_12
theorem p8_hs_10_12 {v : Int32} : xput (hq8 g G o h) 10 5 12 (.int v) = some (hq8 (va_up g 31 v) G o h) := xput_tk (by decide) hs_10_12
theorem p8_hg_10_13 : xget (hq8 g G o h) 10 5 13 = some (.ref 11) := (xget_tk (by decide)).trans hg_10_13
theorem p8_hg_10_14 : xget (hq8 g G o h) 10 5 14 = some (.ref 12) := (xget_tk (by decide)).trans hg_10_14
theorem p8_hg_10_15 : xget (hq8 g G o h) 10 5 15 = some (.ref 15) := (xget_tk (by decide)).trans hg_10_15
theorem p8_hg_10_16 : xget (hq8 g G o h) 10 5 16 = some (.ref 18) := (xget_tk (by decide)).trans hg_10_16
theorem p8_hg_10_17 : xget (hq8 g G o h) 10 5 17 = some (.ref 21) := (xget_tk (by decide)).trans hg_10_17
theorem p8_hx_11 : xis (hq8 g G o h) 11 2 = true := (xis_tk (by decide)).trans hx_11
theorem p8_hg_11_0 : xget (hq8 g G o h) 11 2 0 = some (.int (g 32)) := (xget_tk (by decide)).trans hg_11_0
theorem p8_hs_11_0 {v : Int32} : xput (hq8 g G o h) 11 2 0 (.int v) = some (hq8 (va_up g 32 v) G o h) := xput_tk (by decide) hs_11_0
theorem p8_hg_11_1 : xget (hq8 g G o h) 11 2 1 = some (.int (g 33)) := (xget_tk (by decide)).trans hg_11_1
theorem p8_hs_11_1 {v : Int32} : xput (hq8 g G o h) 11 2 1 (.int v) = some (hq8 (va_up g 33 v) G o h) := xput_tk (by decide) hs_11_1
theorem p8_hg_11_2 : xget (hq8 g G o h) 11 2 2 = some (.int (g 34)) := (xget_tk (by decide)).trans hg_11_2
theorem p8_hs_11_2 {v : Int32} : xput (hq8 g G o h) 11 2 2 (.int v) = some (hq8 (va_up g 34 v) G o h) := xput_tk (by decide) hs_11_2
theorem p8_hx_12 : xis (hq8 g G o h) 12 6 = true := (xis_tk (by decide)).trans hx_12
theorem p8_hg_12_0 : xget (hq8 g G o h) 12 6 0 = some (.ref 13) := (xget_tk (by decide)).trans hg_12_0
theorem p8_hg_12_1 : xget (hq8 g G o h) 12 6 1 = some (.ref 14) := (xget_tk (by decide)).trans hg_12_1
theorem p8_hn_13 : xlen (hq8 g G o h) 13 = some 6 := (xlen_tk (by decide)).trans hn_13
theorem p8_ha_13 : xai (hq8 g G o h) 13 0 = some (6, G 10) := (xai_tk (by decide)).trans ha_13
theorem p8_hA_13 {F : Nat → Int32} : (hq8 g G o h).set 13 (.inl (0, 6, .inl F)) = hq8 g (va_up G 10 F) o h := set_tk hA_13
theorem p8_hn_14 : xlen (hq8 g G o h) 14 = some 6 := (xlen_tk (by decide)).trans hn_14
theorem p8_ha_14 : xai (hq8 g G o h) 14 0 = some (6, G 11) := (xai_tk (by decide)).trans ha_14
theorem p8_hA_14 {F : Nat → Int32} : (hq8 g G o h).set 14 (.inl (0, 6, .inl F)) = hq8 g (va_up G 11 F) o h := set_tk hA_14
theorem p8_hx_15 : xis (hq8 g G o h) 15 4 = true := (xis_tk (by decide)).trans hx_15
theorem p8_hg_15_0 : xget (hq8 g G o h) 15 4 0 = some (.ref 16) := (xget_tk (by decide)).trans hg_15_0
theorem p8_hg_15_1 : xget (hq8 g G o h) 15 4 1 = some (.ref 17) := (xget_tk (by decide)).trans hg_15_1
theorem p8_hg_15_2 : xget (hq8 g G o h) 15 4 2 = some (.int (g 35)) := (xget_tk (by decide)).trans hg_15_2
theorem p8_hs_15_2 {v : Int32} : xput (hq8 g G o h) 15 4 2 (.int v) = some (hq8 (va_up g 35 v) G o h) := xput_tk (by decide) hs_15_2
theorem p8_hx_18 : xis (hq8 g G o h) 18 4 = true := (xis_tk (by decide)).trans hx_18
theorem p8_hg_18_0 : xget (hq8 g G o h) 18 4 0 = some (.ref 19) := (xget_tk (by decide)).trans hg_18_0
theorem p8_hg_18_1 : xget (hq8 g G o h) 18 4 1 = some (.ref 20) := (xget_tk (by decide)).trans hg_18_1
theorem p8_hg_18_2 : xget (hq8 g G o h) 18 4 2 = some (.int (g 36)) := (xget_tk (by decide)).trans hg_18_2
theorem p8_hs_18_2 {v : Int32} : xput (hq8 g G o h) 18 4 2 (.int v) = some (hq8 (va_up g 36 v) G o h) := xput_tk (by decide) hs_18_2
theorem p8_hx_21 : xis (hq8 g G o h) 21 1 = true := (xis_tk (by decide)).trans hx_21
theorem p8_hg_21_0 : xget (hq8 g G o h) 21 1 0 = some (.ref 22) := (xget_tk (by decide)).trans hg_21_0
theorem p8_hg_21_1 : xget (hq8 g G o h) 21 1 1 = some (.ref 23) := (xget_tk (by decide)).trans hg_21_1
theorem p8_hg_21_2 : xget (hq8 g G o h) 21 1 2 = some (.ref 24) := (xget_tk (by decide)).trans hg_21_2
theorem p8_hg_21_3 : xget (hq8 g G o h) 21 1 3 = some (.int (g 37)) := (xget_tk (by decide)).trans hg_21_3
theorem p8_hs_21_3 {v : Int32} : xput (hq8 g G o h) 21 1 3 (.int v) = some (hq8 (va_up g 37 v) G o h) := xput_tk (by decide) hs_21_3
theorem p8_hg_21_4 : xget (hq8 g G o h) 21 1 4 = some (.int (g 38)) := (xget_tk (by decide)).trans hg_21_4
theorem p8_hs_21_4 {v : Int32} : xput (hq8 g G o h) 21 1 4 (.int v) = some (hq8 (va_up g 38 v) G o h) := xput_tk (by decide) hs_21_4
theorem p8_hx_86 : xis (hq8 g G o h) 86 0 = true := (xis_tk (by decide)).trans hx_86
theorem p8_hg_86_0 : xget (hq8 g G o h) 86 0 0 = some (.ref 87) := (xget_tk (by decide)).trans hg_86_0
theorem p8_hg_86_1 : xget (hq8 g G o h) 86 0 1 = some (.int (g 6)) := (xget_tk (by decide)).trans hg_86_1
theorem p8_hs_86_1 {v : Int32} : xput (hq8 g G o h) 86 0 1 (.int v) = some (hq8 (va_up g 6 v) G o h) := xput_tk (by decide) hs_86_1
theorem p8_hg_86_2 : xget (hq8 g G o h) 86 0 2 = some (.int (g 7)) := (xget_tk (by decide)).trans hg_86_2
theorem p8_hs_86_2 {v : Int32} : xput (hq8 g G o h) 86 0 2 (.int v) = some (hq8 (va_up g 7 v) G o h) := xput_tk (by decide) hs_86_2
theorem p8_hg_86_3 : xget (hq8 g G o h) 86 0 3 = some (.int (g 8)) := (xget_tk (by decide)).trans hg_86_3
theorem p8_hs_86_3 {v : Int32} : xput (hq8 g G o h) 86 0 3 (.int v) = some (hq8 (va_up g 8 v) G o h) := xput_tk (by decide) hs_86_3
theorem p8_hg_86_4 : xget (hq8 g G o h) 86 0 4 = some (.int (g 9)) := (xget_tk (by decide)).trans hg_86_4
theorem p8_hs_86_4 {v : Int32} : xput (hq8 g G o h) 86 0 4 (.int v) = some (hq8 (va_up g 9 v) G o h) := xput_tk (by decide) hs_86_4
end
section
variable {g : Nat → Int32} {G : Nat → Nat → Int32} {o : Nat → Int64} {h : Int64}
theorem p9_hx_88 : xis (hq9 g G o h) 88 8 = true := (xis_tk (by decide)).trans hx_88
theorem p9_hg_88_0 : xget (hq9 g G o h) 88 8 0 = some (.int (g 120)) := (xget_tk (by decide)).trans hg_88_0
theorem p9_hs_88_0 {v : Int32} : xput (hq9 g G o h) 88 8 0 (.int v) = some (hq9 (va_up g 120 v) G o h) := xput_tk (by decide) hs_88_0
theorem p9_hg_88_1 : xget (hq9 g G o h) 88 8 1 = some (.int (g 121)) := (xget_tk (by decide)).trans hg_88_1
theorem p9_hs_88_1 {v : Int32} : xput (hq9 g G o h) 88 8 1 (.int v) = some (hq9 (va_up g 121 v) G o h) := xput_tk (by decide) hs_88_1
theorem p9_hg_88_2 : xget (hq9 g G o h) 88 8 2 = some (.ref 89) := (xget_tk (by decide)).trans hg_88_2
theorem p9_hg_88_3 : xget (hq9 g G o h) 88 8 3 = some (.ref 90) := (xget_tk (by decide)).trans hg_88_3
theorem p9_hg_88_4 : xget (hq9 g G o h) 88 8 4 = some (.ref 91) := (xget_tk (by decide)).trans hg_88_4
theorem p9_hg_88_5 : xget (hq9 g G o h) 88 8 5 = some (.ref 92) := (xget_tk (by decide)).trans hg_88_5
theorem p9_hg_88_6 : xget (hq9 g G o h) 88 8 6 = some (.int (g 122)) := (xget_tk (by decide)).trans hg_88_6
theorem p9_hs_88_6 {v : Int32} : xput (hq9 g G o h) 88 8 6 (.int v) = some (hq9 (va_up g 122 v) G o h) := xput_tk (by decide) hs_88_6
theorem p9_hg_88_7 : xget (hq9 g G o h) 88 8 7 = some (.ref 93) := (xget_tk (by decide)).trans hg_88_7
theorem p9_hg_88_8 : xget (hq9 g G o h) 88 8 8 = some (.ref 94) := (xget_tk (by decide)).trans hg_88_8
theorem p9_hg_88_9 : xget (hq9 g G o h) 88 8 9 = some (.int (g 123)) := (xget_tk (by decide)).trans hg_88_9
theorem p9_hs_88_9 {v : Int32} : xput (hq9 g G o h) 88 8 9 (.int v) = some (hq9 (va_up g 123 v) G o h) := xput_tk (by decide) hs_88_9
theorem p9_hg_88_10 : xget (hq9 g G o h) 88 8 10 = some (.ref 95) := (xget_tk (by decide)).trans hg_88_10
theorem p9_hg_88_11 : xget (hq9 g G o h) 88 8 11 = some (.ref 96) := (xget_tk (by decide)).trans hg_88_11
theorem p9_hg_88_12 : xget (hq9 g G o h) 88 8 12 = some (.int (g 124)) := (xget_tk (by decide)).trans hg_88_12
theorem p9_hs_88_12 {v : Int32} : xput (hq9 g G o h) 88 8 12 (.int v) = some (hq9 (va_up g 124 v) G o h) := xput_tk (by decide) hs_88_12
theorem p9_hg_88_13 : xget (hq9 g G o h) 88 8 13 = some (.ref 97) := (xget_tk (by decide)).trans hg_88_13
theorem p9_hg_88_14 : xget (hq9 g G o h) 88 8 14 = some (.int (g 125)) := (xget_tk (by decide)).trans hg_88_14
theorem p9_hs_88_14 {v : Int32} : xput (hq9 g G o h) 88 8 14 (.int v) = some (hq9 (va_up g 125 v) G o h) := xput_tk (by decide) hs_88_14
theorem p9_hg_88_15 : xget (hq9 g G o h) 88 8 15 = some (.ref 98) := (xget_tk (by decide)).trans hg_88_15
theorem p9_hg_88_16 : xget (hq9 g G o h) 88 8 16 = some (.ref 99) := (xget_tk (by decide)).trans hg_88_16
theorem p9_hg_88_17 : xget (hq9 g G o h) 88 8 17 = some (.ref 100) := (xget_tk (by decide)).trans hg_88_17
theorem p9_hg_88_18 : xget (hq9 g G o h) 88 8 18 = some (.int (g 126)) := (xget_tk (by decide)).trans hg_88_18
theorem p9_hs_88_18 {v : Int32} : xput (hq9 g G o h) 88 8 18 (.int v) = some (hq9 (va_up g 126 v) G o h) := xput_tk (by decide) hs_88_18
theorem p9_hg_88_19 : xget (hq9 g G o h) 88 8 19 = some (.ref 101) := (xget_tk (by decide)).trans hg_88_19
theorem p9_hg_88_20 : xget (hq9 g G o h) 88 8 20 = some (.int (g 127)) := (xget_tk (by decide)).trans hg_88_20
theorem p9_hs_88_20 {v : Int32} : xput (hq9 g G o h) 88 8 20 (.int v) = some (hq9 (va_up g 127 v) G o h) := xput_tk (by decide) hs_88_20
theorem p9_hg_88_21 : xget (hq9 g G o h) 88 8 21 = some (.int (g 128)) := (xget_tk (by decide)).trans hg_88_21
theorem p9_hs_88_21 {v : Int32} : xput (hq9 g G o h) 88 8 21 (.int v) = some (hq9 (va_up g 128 v) G o h) := xput_tk (by decide) hs_88_21
theorem p9_hg_88_22 : xget (hq9 g G o h) 88 8 22 = some (.int (g 129)) := (xget_tk (by decide)).trans hg_88_22
theorem p9_hs_88_22 {v : Int32} : xput (hq9 g G o h) 88 8 22 (.int v) = some (hq9 (va_up g 129 v) G o h) := xput_tk (by decide) hs_88_22
theorem p9_hg_88_23 : xget (hq9 g G o h) 88 8 23 = some (.int (g 130)) := (xget_tk (by decide)).trans hg_88_23
theorem p9_hs_88_23 {v : Int32} : xput (hq9 g G o h) 88 8 23 (.int v) = some (hq9 (va_up g 130 v) G o h) := xput_tk (by decide) hs_88_23
theorem p9_hg_88_24 : xget (hq9 g G o h) 88 8 24 = some (.long h) := (xget_tk (by decide)).trans hg_88_24
theorem p9_hs_88_24 {v : Int64} : xput (hq9 g G o h) 88 8 24 (.long v) = some (hq9 g G o v) := xput_tk (by decide) hs_88_24
theorem p9_hn_89 : xlen (hq9 g G o h) 89 = some 142 := (xlen_tk (by decide)).trans hn_89
theorem p9_ha_89 : xai (hq9 g G o h) 89 0 = some (142, G 60) := (xai_tk (by decide)).trans ha_89
theorem p9_hA_89 {F : Nat → Int32} : (hq9 g G o h).set 89 (.inl (0, 142, .inl F)) = hq9 g (va_up G 60 F) o h := set_tk hA_89
theorem p9_hn_92 : xlen (hq9 g G o h) 92 = some 3 := (xlen_tk (by decide)).trans hn_92
theorem p9_ha_92 : xai (hq9 g G o h) 92 2 = some (3, G 63) := (xai_tk (by decide)).trans ha_92
theorem p9_hA_92 {F : Nat → Int32} : (hq9 g G o h).set 92 (.inl (2, 3, .inl F)) = hq9 g (va_up G 63 F) o h := set_tk hA_92
end
section
variable {g : Nat → Int32} {G : Nat → Nat → Int32} {o : Nat → Int64} {h : Int64} {c : Nat × Nat}
theorem e_planClear_8 (d : Nat) (x : Int32) : ev (d + 1) iX3_clear [.ref 1, .int x] (hq8 g G o h, c) = some (.inl none, (hq8 (va_up (va_up (va_up (va_up (va_up g 1 x) 2 0) 3 0) 4 0) 5 0) G o h, c)) := by
  rw [n_X3_clear]
  simp only [s_X3_clear_0, s_X3_clear_1, s_X3_clear_2, s_X3_clear_5, s_X3_clear_6, s_X3_clear_7, s_X3_clear_10, s_X3_clear_11, s_X3_clear_12, s_X3_clear_15, s_X3_clear_16, s_X3_clear_17, s_X3_clear_20, s_X3_clear_21, s_X3_clear_22, s_X3_clear_25, p8_hx_1, p8_hg_1_0, p8_hs_1_0, p8_hg_1_1, p8_hs_1_1, p8_hg_1_2, p8_hs_1_2, p8_hg_1_3, p8_hs_1_3, p8_hg_1_4, p8_hs_1_4, p8_hg_1_5, p8_hg_1_6, p8_hg_1_7, p8_hg_1_8, p8_hg_1_9, p8_hg_1_10, p8_hg_1_11, p8_hg_1_12, xk_s, ts_s, ts_n, Option.bind_some, xc_n, xc_i, xc_r, xc_l, xc_d, xcats_n, xcats_i, xcats_r, xcats_l, xcats_d, and_true, true_and, and_self, if_true, if_false, Nat.reduceAdd, Nat.reduceLeDiff, Nat.zero_le, decide_true, decide_false, Bool.not_true, Bool.not_false, Bool.and_true, Bool.true_and, Bool.and_false, Bool.false_and, Bool.true_or, Bool.false_or, Bool.or_true, Bool.or_false, Bool.false_eq_true]
theorem e_passClear0_8 (d : Nat) : ev (d + 1) iX2_clear [.ref 11] (hq8 g G o h, c) = some (.inl none, (hq8 (va_up (va_up (va_up g 32 0) 33 0) 34 0) G o h, c)) := by
  rw [n_X2_clear]
  simp only [s_X2_clear_0, s_X2_clear_1, s_X2_clear_2, s_X2_clear_5, s_X2_clear_6, s_X2_clear_7, s_X2_clear_10, s_X2_clear_11, s_X2_clear_12, s_X2_clear_15, p8_hx_11, p8_hg_11_0, p8_hs_11_0, p8_hg_11_1, p8_hs_11_1, p8_hg_11_2, p8_hs_11_2, xk_s, ts_s, ts_n, Option.bind_some, xc_n, xc_i, xc_r, xc_l, xc_d, xcats_n, xcats_i, xcats_r, xcats_l, xcats_d, and_true, true_and, and_self, if_true, if_false, Nat.reduceAdd, Nat.reduceLeDiff, Nat.zero_le, decide_true, decide_false, Bool.not_true, Bool.not_false, Bool.and_true, Bool.true_and, Bool.and_false, Bool.false_and, Bool.true_or, Bool.false_or, Bool.or_true, Bool.or_false, Bool.false_eq_true]
theorem e_logClear0_8 (d : Nat) : ev (d + 1) iX1_clear [.ref 21] (hq8 g G o h, c) = some (.inl none, (hq8 (va_up (va_up g 37 0) 38 0) G o h, c)) := by
  rw [n_X1_clear]
  simp only [s_X1_clear_0, s_X1_clear_1, s_X1_clear_2, s_X1_clear_5, s_X1_clear_6, s_X1_clear_7, s_X1_clear_10, p8_hx_21, p8_hg_21_0, p8_hg_21_1, p8_hg_21_2, p8_hg_21_3, p8_hs_21_3, p8_hg_21_4, p8_hs_21_4, xk_s, ts_s, ts_n, Option.bind_some, xc_n, xc_i, xc_r, xc_l, xc_d, xcats_n, xcats_i, xcats_r, xcats_l, xcats_d, and_true, true_and, and_self, if_true, if_false, Nat.reduceAdd, Nat.reduceLeDiff, Nat.zero_le, decide_true, decide_false, Bool.not_true, Bool.not_false, Bool.and_true, Bool.true_and, Bool.and_false, Bool.false_and, Bool.true_or, Bool.false_or, Bool.or_true, Bool.or_false, Bool.false_eq_true]
theorem l_fill0_8 (d : Nat) : ∀ (n j : Nat) (G : Nat → Nat → Int32), j + n = 6 → rx x0 d iJ7_fill_53178 5 [some (.ref 13), some (.int 0), some (.int (nI j)), some (.int 6)] [] (hq8 g G o h, c) = some (.inl none, (hq8 g (va_up G 10 (fun k => if j ≤ k ∧ k < 6 then 0 else G 10 k)) o h, c)) := by
  intro n
  induction n with
  | zero =>
    intro j G hj
    have h1 : ¬ nI j < 6 := nI_nlt (b := 6) (by omega) (by omega)
    rw [s_J7_fill_53178_5]
    simp +decide only [s_J7_fill_53178_0, s_J7_fill_53178_1, s_J7_fill_53178_2, s_J7_fill_53178_3, s_J7_fill_53178_4, s_J7_fill_53178_6, s_J7_fill_53178_7, s_J7_fill_53178_10, s_J7_fill_53178_11, s_J7_fill_53178_12, s_J7_fill_53178_13, s_J7_fill_53178_14, s_J7_fill_53178_17, s_J7_fill_53178_20, p8_hn_13, p8_ha_13, p8_hA_13, xk_s, ts_s, ts_n, Option.bind_some, xc_n, xc_i, xc_r, xc_l, xc_d, xcats_n, xcats_i, xcats_r, xcats_l, xcats_d, and_true, true_and, and_self, if_true, if_false, Nat.reduceAdd, Nat.reduceLeDiff, Nat.zero_le, decide_true, decide_false, Bool.not_true, Bool.not_false, Bool.and_true, Bool.true_and, Bool.and_false, Bool.false_and, Bool.true_or, Bool.false_or, Bool.or_true, Bool.or_false, Bool.false_eq_true, h1]
    have : va_up G 10 (fun k => if j ≤ k ∧ k < 6 then 0 else G 10 k) = G := by
      funext q
      unfold va_up
      split
      · rename_i e; subst e
        funext k
        rw [if_neg (by omega)]
      · rfl
    rw [this]
  | succ n ih =>
    intro j G hj
    have h1 : nI j < 6 := nI_lt (b := 6) (by omega) (by omega)
    have h2 : ixb (nI j) 6 = true := ixb_nI (by omega) (by omega)
    have h3 := nI_clamp (n := j) (by omega)
    rw [s_J7_fill_53178_5]
    simp +decide only [s_J7_fill_53178_0, s_J7_fill_53178_1, s_J7_fill_53178_2, s_J7_fill_53178_3, s_J7_fill_53178_4, s_J7_fill_53178_6, s_J7_fill_53178_7, s_J7_fill_53178_10, s_J7_fill_53178_11, s_J7_fill_53178_12, s_J7_fill_53178_13, s_J7_fill_53178_14, s_J7_fill_53178_17, s_J7_fill_53178_20, p8_hn_13, p8_ha_13, p8_hA_13, xk_s, ts_s, ts_n, Option.bind_some, xc_n, xc_i, xc_r, xc_l, xc_d, xcats_n, xcats_i, xcats_r, xcats_l, xcats_d, and_true, true_and, and_self, if_true, if_false, Nat.reduceAdd, Nat.reduceLeDiff, Nat.zero_le, decide_true, decide_false, Bool.not_true, Bool.not_false, Bool.and_true, Bool.true_and, Bool.and_false, Bool.false_and, Bool.true_or, Bool.false_or, Bool.or_true, Bool.or_false, Bool.false_eq_true, h1, h2, h3, nI_1]
    rw [ih (j + 1) _ (by omega)]
    congr 4
    funext q
    unfold va_up
    split
    · rename_i e; subst e
      funext k
      simp only [if_true, upd]
      by_cases hk : k = j
      · subst hk; simp; omega
      · by_cases hk2 : j + 1 ≤ k ∧ k < 6
        · rw [if_pos hk2, if_pos (by omega)]
        · rw [if_neg hk2, if_neg hk, if_neg (by omega)]
    · rfl
theorem l_fill1_8 (d : Nat) : ∀ (n j : Nat) (G : Nat → Nat → Int32), j + n = 6 → rx x0 d iJ7_fill_53178 5 [some (.ref 14), some (.int 0), some (.int (nI j)), some (.int 6)] [] (hq8 g G o h, c) = some (.inl none, (hq8 g (va_up G 11 (fun k => if j ≤ k ∧ k < 6 then 0 else G 11 k)) o h, c)) := by
  intro n
  induction n with
  | zero =>
    intro j G hj
    have h1 : ¬ nI j < 6 := nI_nlt (b := 6) (by omega) (by omega)
    rw [s_J7_fill_53178_5]
    simp +decide only [s_J7_fill_53178_0, s_J7_fill_53178_1, s_J7_fill_53178_2, s_J7_fill_53178_3, s_J7_fill_53178_4, s_J7_fill_53178_6, s_J7_fill_53178_7, s_J7_fill_53178_10, s_J7_fill_53178_11, s_J7_fill_53178_12, s_J7_fill_53178_13, s_J7_fill_53178_14, s_J7_fill_53178_17, s_J7_fill_53178_20, p8_hn_14, p8_ha_14, p8_hA_14, xk_s, ts_s, ts_n, Option.bind_some, xc_n, xc_i, xc_r, xc_l, xc_d, xcats_n, xcats_i, xcats_r, xcats_l, xcats_d, and_true, true_and, and_self, if_true, if_false, Nat.reduceAdd, Nat.reduceLeDiff, Nat.zero_le, decide_true, decide_false, Bool.not_true, Bool.not_false, Bool.and_true, Bool.true_and, Bool.and_false, Bool.false_and, Bool.true_or, Bool.false_or, Bool.or_true, Bool.or_false, Bool.false_eq_true, h1]
    have : va_up G 11 (fun k => if j ≤ k ∧ k < 6 then 0 else G 11 k) = G := by
      funext q
      unfold va_up
      split
      · rename_i e; subst e
        funext k
        rw [if_neg (by omega)]
      · rfl
    rw [this]
  | succ n ih =>
    intro j G hj
    have h1 : nI j < 6 := nI_lt (b := 6) (by omega) (by omega)
    have h2 : ixb (nI j) 6 = true := ixb_nI (by omega) (by omega)
    have h3 := nI_clamp (n := j) (by omega)
    rw [s_J7_fill_53178_5]
    simp +decide only [s_J7_fill_53178_0, s_J7_fill_53178_1, s_J7_fill_53178_2, s_J7_fill_53178_3, s_J7_fill_53178_4, s_J7_fill_53178_6, s_J7_fill_53178_7, s_J7_fill_53178_10, s_J7_fill_53178_11, s_J7_fill_53178_12, s_J7_fill_53178_13, s_J7_fill_53178_14, s_J7_fill_53178_17, s_J7_fill_53178_20, p8_hn_14, p8_ha_14, p8_hA_14, xk_s, ts_s, ts_n, Option.bind_some, xc_n, xc_i, xc_r, xc_l, xc_d, xcats_n, xcats_i, xcats_r, xcats_l, xcats_d, and_true, true_and, and_self, if_true, if_false, Nat.reduceAdd, Nat.reduceLeDiff, Nat.zero_le, decide_true, decide_false, Bool.not_true, Bool.not_false, Bool.and_true, Bool.true_and, Bool.and_false, Bool.false_and, Bool.true_or, Bool.false_or, Bool.or_true, Bool.or_false, Bool.false_eq_true, h1, h2, h3, nI_1]
    rw [ih (j + 1) _ (by omega)]
    congr 4
    funext q
    unfold va_up
    split
    · rename_i e; subst e
      funext k
      simp only [if_true, upd]
      by_cases hk : k = j
      · subst hk; simp; omega
      · by_cases hk2 : j + 1 ≤ k ∧ k < 6
        · rw [if_pos hk2, if_pos (by omega)]
        · rw [if_neg hk2, if_neg hk, if_neg (by omega)]
    · rfl
theorem e_fill0_8 (d : Nat) : ev (d + 1) iJ7_fill_53178 [.ref 13, .int 0] (hq8 g G o h, c) = some (.inl none, (hq8 g (va_up G 10 (fillF (G 10) 6)) o h, c)) := by
  rw [n_J7_fill_53178]
  simp only [s_J7_fill_53178_0, s_J7_fill_53178_1, s_J7_fill_53178_2, s_J7_fill_53178_3, s_J7_fill_53178_4, p8_hn_13, p8_ha_13, p8_hA_13, xk_s, ts_s, ts_n, Option.bind_some, xc_n, xc_i, xc_r, xc_l, xc_d, xcats_n, xcats_i, xcats_r, xcats_l, xcats_d, and_true, true_and, and_self, if_true, if_false, Nat.reduceAdd, Nat.reduceLeDiff, Nat.zero_le, decide_true, decide_false, Bool.not_true, Bool.not_false, Bool.and_true, Bool.true_and, Bool.and_false, Bool.false_and, Bool.true_or, Bool.false_or, Bool.or_true, Bool.or_false, Bool.false_eq_true, on6]
  have e := l_fill0_8 (g := g) (o := o) (h := h) (c := c) d 6 0 G (by omega)
  rw [show nI 0 = (0 : Int32) from rfl] at e
  simp only [Nat.zero_le, true_and] at e
  exact e
theorem e_fill1_8 (d : Nat) : ev (d + 1) iJ7_fill_53178 [.ref 14, .int 0] (hq8 g G o h, c) = some (.inl none, (hq8 g (va_up G 11 (fillF (G 11) 6)) o h, c)) := by
  rw [n_J7_fill_53178]
  simp only [s_J7_fill_53178_0, s_J7_fill_53178_1, s_J7_fill_53178_2, s_J7_fill_53178_3, s_J7_fill_53178_4, p8_hn_14, p8_ha_14, p8_hA_14, xk_s, ts_s, ts_n, Option.bind_some, xc_n, xc_i, xc_r, xc_l, xc_d, xcats_n, xcats_i, xcats_r, xcats_l, xcats_d, and_true, true_and, and_self, if_true, if_false, Nat.reduceAdd, Nat.reduceLeDiff, Nat.zero_le, decide_true, decide_false, Bool.not_true, Bool.not_false, Bool.and_true, Bool.true_and, Bool.and_false, Bool.false_and, Bool.true_or, Bool.false_or, Bool.or_true, Bool.or_false, Bool.false_eq_true, on6]
  have e := l_fill1_8 (g := g) (o := o) (h := h) (c := c) d 6 0 G (by omega)
  rw [show nI 0 = (0 : Int32) from rfl] at e
  simp only [Nat.zero_le, true_and] at e
  exact e
theorem e_votesClear_8 (d : Nat) : ev (d + 2) iX6_clear [.ref 12] (hq8 g G o h, c) = some (.inl none, (hq8 g (va_up (va_up G 10 (fillF (G 10) 6)) 11 (fillF (G 11) 6)) o h, c)) := by
  rw [n_X6_clear]
  simp +decide only [s_X6_clear_0, s_X6_clear_1, s_X6_clear_4, s_X6_clear_5, s_X6_clear_8, s_X6_clear_9, s_X6_clear_12, s_X6_clear_13, s_X6_clear_16, p8_hx_12, p8_hg_12_0, p8_hg_12_1, xk_s, ts_s, ts_n, Option.bind_some, xc_n, xc_i, xc_r, xc_l, xc_d, xcats_n, xcats_i, xcats_r, xcats_l, xcats_d, and_true, true_and, and_self, if_true, if_false, Nat.reduceAdd, Nat.reduceLeDiff, Nat.zero_le, decide_true, decide_false, Bool.not_true, Bool.not_false, Bool.and_true, Bool.true_and, Bool.and_false, Bool.false_and, Bool.true_or, Bool.false_or, Bool.or_true, Bool.or_false, Bool.false_eq_true, up_e, up_n, ne_eq, Nat.reduceEqDiff, not_false_eq_true, reduceCtorEq, e_fill0_8, e_fill1_8]
theorem e_clear_8 (d : Nat) (X : yS) : ev (d + 3) iX5_clear [.ref 10] (hq8 X.1 X.2 o h, c) = some (.inl none, (hq8 (clrF X).1 (clrF X).2 o h, c)) := by
  rw [n_X5_clear]
  simp +decide only [s_X5_clear_0, s_X5_clear_1, s_X5_clear_2, s_X5_clear_5, s_X5_clear_6, s_X5_clear_7, s_X5_clear_10, s_X5_clear_11, s_X5_clear_12, s_X5_clear_15, s_X5_clear_18, s_X5_clear_21, s_X5_clear_22, s_X5_clear_23, s_X5_clear_26, s_X5_clear_27, s_X5_clear_28, s_X5_clear_31, s_X5_clear_32, s_X5_clear_33, s_X5_clear_36, s_X5_clear_37, s_X5_clear_38, s_X5_clear_41, s_X5_clear_42, s_X5_clear_43, s_X5_clear_46, s_X5_clear_47, s_X5_clear_48, s_X5_clear_51, s_X5_clear_52, s_X5_clear_53, s_X5_clear_56, s_X5_clear_57, s_X5_clear_60, s_X5_clear_63, s_X5_clear_64, s_X5_clear_65, s_X5_clear_68, s_X5_clear_69, s_X5_clear_72, s_X5_clear_75, s_X5_clear_76, s_X5_clear_79, s_X5_clear_82, s_X5_clear_83, s_X5_clear_86, s_X5_clear_87, s_X5_clear_90, s_X5_clear_91, s_X5_clear_94, s_X5_clear_95, s_X5_clear_98, s_X5_clear_99, s_X5_clear_102, s_X5_clear_105, p8_hx_10, p8_hg_10_0, p8_hg_10_1, p8_hs_10_1, p8_hg_10_2, p8_hs_10_2, p8_hg_10_3, p8_hs_10_3, p8_hg_10_4, p8_hs_10_4, p8_hg_10_5, p8_hs_10_5, p8_hg_10_6, p8_hs_10_6, p8_hg_10_7, p8_hs_10_7, p8_hg_10_8, p8_hs_10_8, p8_hg_10_9, p8_hs_10_9, p8_hg_10_10, p8_hs_10_10, p8_hg_10_11, p8_hs_10_11, p8_hg_10_12, p8_hs_10_12, p8_hg_10_13, p8_hg_10_14, p8_hg_10_15, p8_hg_10_16, p8_hg_10_17, p8_hx_1, p8_hg_1_0, p8_hs_1_0, p8_hg_1_1, p8_hs_1_1, p8_hg_1_2, p8_hs_1_2, p8_hg_1_3, p8_hs_1_3, p8_hg_1_4, p8_hs_1_4, p8_hg_1_5, p8_hg_1_6, p8_hg_1_7, p8_hg_1_8, p8_hg_1_9, p8_hg_1_10, p8_hg_1_11, p8_hg_1_12, p8_hx_11, p8_hg_11_0, p8_hs_11_0, p8_hg_11_1, p8_hs_11_1, p8_hg_11_2, p8_hs_11_2, p8_hx_12, p8_hg_12_0, p8_hg_12_1, p8_hx_15, p8_hg_15_0, p8_hg_15_1, p8_hg_15_2, p8_hs_15_2, p8_hx_18, p8_hg_18_0, p8_hg_18_1, p8_hg_18_2, p8_hs_18_2, p8_hx_21, p8_hg_21_0, p8_hg_21_1, p8_hg_21_2, p8_hg_21_3, p8_hs_21_3, p8_hg_21_4, p8_hs_21_4, xk_s, ts_s, ts_n, Option.bind_some, xc_n, xc_i, xc_r, xc_l, xc_d, xcats_n, xcats_i, xcats_r, xcats_l, xcats_d, and_true, true_and, and_self, if_true, if_false, Nat.reduceAdd, Nat.reduceLeDiff, Nat.zero_le, decide_true, decide_false, Bool.not_true, Bool.not_false, Bool.and_true, Bool.true_and, Bool.and_false, Bool.false_and, Bool.true_or, Bool.false_or, Bool.or_true, Bool.or_false, Bool.false_eq_true, up_e, up_n, ne_eq, Nat.reduceEqDiff, not_false_eq_true, reduceCtorEq, e_passClear0_8, e_votesClear_8, e_logClear0_8, clrF]
end
section
variable {o : Nat → Int64} {h : Int64} {c : Nat × Nat}
theorem e_anew_8 (d : Nat) (X : yS) (L : Int32) : ev (d + 4) iX7_beginAnew [.ref 0, .int L] (hq8 X.1 X.2 o h, c) = some (.inl none, (hq8 (anewF X L).1 (anewF X L).2 o h, c)) := by
  rw [n_X7_beginAnew]
  have e := fun d : Nat => e_clear_8 (o := o) (h := h) (c := c) d (va_up (va_up (va_up (va_up (va_up X.1 1 L) 2 0) 3 0) 4 0) 5 0, X.2)
  simp +decide only [s_X7_beginAnew_0, s_X7_beginAnew_1, s_X7_beginAnew_4, s_X7_beginAnew_5, s_X7_beginAnew_8, s_X7_beginAnew_9, s_X7_beginAnew_12, s_X7_beginAnew_15, s_X7_beginAnew_16, s_X7_beginAnew_17, s_X7_beginAnew_20, p8_hx_0, p8_hg_0_0, p8_hg_0_1, p8_hg_0_2, p8_hg_0_3, p8_hg_0_4, p8_hs_0_4, p8_hg_0_5, p8_hx_1, p8_hg_1_0, p8_hs_1_0, p8_hg_1_1, p8_hs_1_1, p8_hg_1_2, p8_hs_1_2, p8_hg_1_3, p8_hs_1_3, p8_hg_1_4, p8_hs_1_4, p8_hg_1_5, p8_hg_1_6, p8_hg_1_7, p8_hg_1_8, p8_hg_1_9, p8_hg_1_10, p8_hg_1_11, p8_hg_1_12, p8_hx_10, p8_hg_10_0, p8_hg_10_1, p8_hs_10_1, p8_hg_10_2, p8_hs_10_2, p8_hg_10_3, p8_hs_10_3, p8_hg_10_4, p8_hs_10_4, p8_hg_10_5, p8_hs_10_5, p8_hg_10_6, p8_hs_10_6, p8_hg_10_7, p8_hs_10_7, p8_hg_10_8, p8_hs_10_8, p8_hg_10_9, p8_hs_10_9, p8_hg_10_10, p8_hs_10_10, p8_hg_10_11, p8_hs_10_11, p8_hg_10_12, p8_hs_10_12, p8_hg_10_13, p8_hg_10_14, p8_hg_10_15, p8_hg_10_16, p8_hg_10_17, xk_s, ts_s, ts_n, Option.bind_some, xc_n, xc_i, xc_r, xc_l, xc_d, xcats_n, xcats_i, xcats_r, xcats_l, xcats_d, and_true, true_and, and_self, if_true, if_false, Nat.reduceAdd, Nat.reduceLeDiff, Nat.zero_le, decide_true, decide_false, Bool.not_true, Bool.not_false, Bool.and_true, Bool.true_and, Bool.and_false, Bool.false_and, Bool.true_or, Bool.false_or, Bool.or_true, Bool.or_false, Bool.false_eq_true, up_e, up_n, ne_eq, Nat.reduceEqDiff, not_false_eq_true, reduceCtorEq, e_planClear_8, e, anewF]
end
section
variable {g : Nat → Int32} {G : Nat → Nat → Int32} {o : Nat → Int64} {h : Int64} {c : Nat × Nat}
theorem l_start1_9 (d : Nat) (L : Int32) : ∀ (n j : Nat) (G : Nat → Nat → Int32), j + n = 142 → rx x0 d iX8_start 7 [some (.ref 88), some (.int L), some (.int (nI j))] [] (hq9 g G o h, c) = rx x0 d iX8_start 27 [some (.ref 88), some (.int L), some (.int (nI 142))] [] (hq9 g (va_up G 60 (fun i => if j ≤ i ∧ i < 142 then 0 else G 60 i)) o h, c) := by
  intro n
  induction n with
  | zero =>
    intro j G hj
    have h1 : ¬ nI j < 142 := nI_nlt (b := 142) (by omega) (by omega)
    have h2 : va_up G 60 (fun i => if j ≤ i ∧ i < 142 then 0 else G 60 i) = G := by
      rw [show (fun i => if j ≤ i ∧ i < 142 then 0 else G 60 i) = G 60 from by funext i; rw [if_neg (by omega)]]
      exact up_self G 60
    rw [h2, show j = 142 by omega] at *
    rw [s_X8_start_7]
    simp +decide only [s_X8_start_8, s_X8_start_11, xk_s, ts_s, ts_n, Option.bind_some, xc_n, xc_i, xc_r, xc_l, xc_d, xcats_n, xcats_i, xcats_r, xcats_l, xcats_d, and_true, true_and, and_self, if_true, if_false, Nat.reduceAdd, Nat.reduceLeDiff, Nat.zero_le, decide_true, decide_false, Bool.not_true, Bool.not_false, Bool.and_true, Bool.true_and, Bool.and_false, Bool.false_and, Bool.true_or, Bool.false_or, Bool.or_true, Bool.or_false, Bool.false_eq_true, h1]
  | succ n ih =>
    intro j G hj
    have h1 : nI j < 142 := nI_lt (b := 142) (by omega) (by omega)
    have h2 : ixb (nI j) 142 = true := ixb_nI (by omega) (by omega)
    have h3 := nI_clamp (n := j) (by omega)
    rw [s_X8_start_7]
    simp +decide only [s_X8_start_8, s_X8_start_11, s_X8_start_14, s_X8_start_15, s_X8_start_18, s_X8_start_19, s_X8_start_20, s_X8_start_21, s_X8_start_24, p9_hx_88, p9_hg_88_0, p9_hs_88_0, p9_hg_88_1, p9_hs_88_1, p9_hg_88_2, p9_hg_88_3, p9_hg_88_4, p9_hg_88_5, p9_hg_88_6, p9_hs_88_6, p9_hg_88_7, p9_hg_88_8, p9_hg_88_9, p9_hs_88_9, p9_hg_88_10, p9_hg_88_11, p9_hg_88_12, p9_hs_88_12, p9_hg_88_13, p9_hg_88_14, p9_hs_88_14, p9_hg_88_15, p9_hg_88_16, p9_hg_88_17, p9_hg_88_18, p9_hs_88_18, p9_hg_88_19, p9_hg_88_20, p9_hs_88_20, p9_hg_88_21, p9_hs_88_21, p9_hg_88_22, p9_hs_88_22, p9_hg_88_23, p9_hs_88_23, p9_hg_88_24, p9_hs_88_24, p9_hn_89, p9_ha_89, p9_hA_89, xk_s, ts_s, ts_n, Option.bind_some, xc_n, xc_i, xc_r, xc_l, xc_d, xcats_n, xcats_i, xcats_r, xcats_l, xcats_d, and_true, true_and, and_self, if_true, if_false, Nat.reduceAdd, Nat.reduceLeDiff, Nat.zero_le, decide_true, decide_false, Bool.not_true, Bool.not_false, Bool.and_true, Bool.true_and, Bool.and_false, Bool.false_and, Bool.true_or, Bool.false_or, Bool.or_true, Bool.or_false, Bool.false_eq_true, h1, h2, h3, nI_1]
    rw [ih (j + 1) _ (by omega), up_up, up_e]
    have hfn : (fun i => if j + 1 ≤ i ∧ i < 142 then 0 else upd (G 60) j 0 i) = (fun i => if j ≤ i ∧ i < 142 then 0 else G 60 i) := ?_
    · rw [hfn]
    funext i
    by_cases q : i = j
    · subst q; rw [if_neg (by omega), ud_e, if_pos (by omega)]
    · by_cases q2 : j + 1 ≤ i ∧ i < 142
      · rw [if_pos q2, if_pos (by omega)]
      · rw [if_neg q2, ud_n _ _ _ _ q, if_neg (by omega)]
theorem e_start_9 (d : Nat) (L : Int32) : ev (d + 1) iX8_start [.ref 88, .int L] (hq9 g G o h, c) = some (.inl none, (hq9 (startG g L) (va_up (va_up G 60 (startZ (G 60) L)) 63 (upd (upd (upd (G 63) 0 0) 1 0) 2 0)) o h, c)) := by
  rw [n_X8_start]
  have e := l_start1_9 (g := va_up g 121 L) (o := o) (h := h) (c := c) d L 142 0 G (by omega)
  simp only [Nat.zero_le, true_and] at e
  have hz : (fun i => if i < 142 then 0 else G 60 i) = zeroF (G 60) 142 := rfl
  rw [hz, show nI 0 = (0 : Int32) from rfl] at e
  simp +decide only [s_X8_start_0, s_X8_start_1, s_X8_start_2, s_X8_start_5, s_X8_start_6, p9_hx_88, p9_hg_88_0, p9_hs_88_0, p9_hg_88_1, p9_hs_88_1, p9_hg_88_2, p9_hg_88_3, p9_hg_88_4, p9_hg_88_5, p9_hg_88_6, p9_hs_88_6, p9_hg_88_7, p9_hg_88_8, p9_hg_88_9, p9_hs_88_9, p9_hg_88_10, p9_hg_88_11, p9_hg_88_12, p9_hs_88_12, p9_hg_88_13, p9_hg_88_14, p9_hs_88_14, p9_hg_88_15, p9_hg_88_16, p9_hg_88_17, p9_hg_88_18, p9_hs_88_18, p9_hg_88_19, p9_hg_88_20, p9_hs_88_20, p9_hg_88_21, p9_hs_88_21, p9_hg_88_22, p9_hs_88_22, p9_hg_88_23, p9_hs_88_23, p9_hg_88_24, p9_hs_88_24, xk_s, ts_s, ts_n, Option.bind_some, xc_n, xc_i, xc_r, xc_l, xc_d, xcats_n, xcats_i, xcats_r, xcats_l, xcats_d, and_true, true_and, and_self, if_true, if_false, Nat.reduceAdd, Nat.reduceLeDiff, Nat.zero_le, decide_true, decide_false, Bool.not_true, Bool.not_false, Bool.and_true, Bool.true_and, Bool.and_false, Bool.false_and, Bool.true_or, Bool.false_or, Bool.or_true, Bool.or_false, Bool.false_eq_true]
  rw [e]
  have i0 : ixb (0 : Int32) 3 = true := rfl
  have i1 : ixb (1 : Int32) 3 = true := rfl
  have i2 : ixb (2 : Int32) 3 = true := rfl
  have t0 : (0 : Int32) + 1 = 1 := rfl
  have t1 : (1 : Int32) + 1 = 2 := rfl
  have t2 : (2 : Int32) + 1 = 3 := rfl
  simp +decide only [s_X8_start_0, s_X8_start_1, s_X8_start_2, s_X8_start_5, s_X8_start_6, s_X8_start_8, s_X8_start_11, s_X8_start_14, s_X8_start_15, s_X8_start_18, s_X8_start_19, s_X8_start_20, s_X8_start_21, s_X8_start_24, s_X8_start_27, s_X8_start_28, s_X8_start_31, s_X8_start_32, s_X8_start_33, s_X8_start_36, s_X8_start_37, s_X8_start_38, s_X8_start_41, s_X8_start_43, s_X8_start_46, s_X8_start_47, s_X8_start_48, s_X8_start_51, s_X8_start_53, s_X8_start_54, s_X8_start_55, s_X8_start_56, s_X8_start_59, s_X8_start_61, s_X8_start_62, s_X8_start_63, s_X8_start_64, s_X8_start_65, s_X8_start_68, s_X8_start_69, s_X8_start_70, s_X8_start_73, s_X8_start_74, s_X8_start_75, s_X8_start_78, s_X8_start_79, s_X8_start_80, s_X8_start_83, s_X8_start_84, s_X8_start_85, s_X8_start_86, s_X8_start_87, s_X8_start_90, s_X8_start_91, s_X8_start_94, s_X8_start_95, s_X8_start_96, s_X8_start_97, s_X8_start_100, s_X8_start_103, p9_hx_88, p9_hg_88_0, p9_hs_88_0, p9_hg_88_1, p9_hs_88_1, p9_hg_88_2, p9_hg_88_3, p9_hg_88_4, p9_hg_88_5, p9_hg_88_6, p9_hs_88_6, p9_hg_88_7, p9_hg_88_8, p9_hg_88_9, p9_hs_88_9, p9_hg_88_10, p9_hg_88_11, p9_hg_88_12, p9_hs_88_12, p9_hg_88_13, p9_hg_88_14, p9_hs_88_14, p9_hg_88_15, p9_hg_88_16, p9_hg_88_17, p9_hg_88_18, p9_hs_88_18, p9_hg_88_19, p9_hg_88_20, p9_hs_88_20, p9_hg_88_21, p9_hs_88_21, p9_hg_88_22, p9_hs_88_22, p9_hg_88_23, p9_hs_88_23, p9_hg_88_24, p9_hs_88_24, p9_hn_89, p9_ha_89, p9_hA_89, p9_hn_92, p9_ha_92, p9_hA_92, xk_s, ts_s, ts_n, Option.bind_some, xc_n, xc_i, xc_r, xc_l, xc_d, xcats_n, xcats_i, xcats_r, xcats_l, xcats_d, and_true, true_and, and_self, if_true, if_false, Nat.reduceAdd, Nat.reduceLeDiff, Nat.zero_le, decide_true, decide_false, Bool.not_true, Bool.not_false, Bool.and_true, Bool.true_and, Bool.and_false, Bool.false_and, Bool.true_or, Bool.false_or, Bool.or_true, Bool.or_false, Bool.false_eq_true, up_e, up_n, up_up, ud_e, ud_n, ne_eq, Nat.reduceEqDiff, not_false_eq_true, reduceCtorEq, zi_0, zt_0, zi_1, zt_1, zi_2, zt_2, zi_3, zt_3, zi_4, zt_4, zi_5, zt_5, zi_6, zt_6, zi_7, zt_7, zi_8, zt_8, zi_9, zt_9, zi_10, zt_10, zi_11, zt_11, zi_12, zt_12, zi_13, zt_13, zi_14, zt_14, zi_15, zt_15, zi_16, zt_16, zi_17, zt_17, i0, i1, i2, t0, t1, t2, nar0, startZ, startG]
end
