theorem ly0_0 : u_lay RX0 TX0 0 ∈ lw_tbl := pT1 (List.mem_of_getElem? (i := 217) (by decide +kernel))
theorem ly0_1 : u_lay RX0 TX0 1 ∈ lw_tbl := pT1 (List.mem_of_getElem? (i := 219) (by decide +kernel))
theorem ly0_2 : u_lay RX0 TX0 2 ∈ lw_tbl := pT1 (List.mem_of_getElem? (i := 221) (by decide +kernel))
theorem ly0 : ∀ w ∈ wsX00, w ∈ lw_tbl := by
  intro w hw
  obtain ⟨k, hk, rfl⟩ := List.mem_map.mp hw
  rcases (show k = 0 ∨ k = 1 ∨ k = 2 by have := List.mem_range.mp hk; omega) with rfl | rfl | rfl
  · exact ly0_0
  · exact ly0_1
  · exact ly0_2
theorem ly1_0 : u_lay RX1 TX1 0 ∈ lw_tbl := pT1 (List.mem_of_getElem? (i := 112) (by decide +kernel))
theorem ly1_1 : u_lay RX1 TX1 1 ∈ lw_tbl := pT1 (List.mem_of_getElem? (i := 114) (by decide +kernel))
theorem ly1_2 : u_lay RX1 TX1 2 ∈ lw_tbl := pT1 (List.mem_of_getElem? (i := 116) (by decide +kernel))
theorem ly1_3 : u_lay RX1 TX1 3 ∈ lw_tbl := pT1 (List.mem_of_getElem? (i := 118) (by decide +kernel))
theorem ly1_4 : u_lay RX1 TX1 4 ∈ lw_tbl := pT1 (List.mem_of_getElem? (i := 120) (by decide +kernel))
theorem ly1_5 : u_lay RX1 TX1 5 ∈ lw_tbl := pT1 (List.mem_of_getElem? (i := 122) (by decide +kernel))
theorem ly1_6 : u_lay RX1 TX1 6 ∈ lw_tbl := pT1 (List.mem_of_getElem? (i := 124) (by decide +kernel))
theorem ly1_7 : u_lay RX1 TX1 7 ∈ lw_tbl := pT1 (List.mem_of_getElem? (i := 126) (by decide +kernel))
theorem ly1_8 : u_lay RX1 TX1 8 ∈ lw_tbl := pT1 (List.mem_of_getElem? (i := 128) (by decide +kernel))
theorem ly1_9 : u_lay RX1 TX1 9 ∈ lw_tbl := pT1 (List.mem_of_getElem? (i := 130) (by decide +kernel))
theorem ly1_10 : u_lay RX1 TX1 10 ∈ lw_tbl := pT1 (List.mem_of_getElem? (i := 132) (by decide +kernel))
theorem ly1 : ∀ w ∈ wsX10, w ∈ lw_tbl := by
  intro w hw
  obtain ⟨k, hk, rfl⟩ := List.mem_map.mp hw
  rcases (show k = 0 ∨ k = 1 ∨ k = 2 ∨ k = 3 ∨ k = 4 ∨ k = 5 ∨ k = 6 ∨ k = 7 ∨ k = 8 ∨ k = 9 ∨ k = 10 by have := List.mem_range.mp hk; omega) with rfl | rfl | rfl | rfl | rfl | rfl | rfl | rfl | rfl | rfl | rfl
  · exact ly1_0
  · exact ly1_1
  · exact ly1_2
  · exact ly1_3
  · exact ly1_4
  · exact ly1_5
  · exact ly1_6
  · exact ly1_7
  · exact ly1_8
  · exact ly1_9
  · exact ly1_10
theorem ly2_0 : u_lay RX2 TX2 0 ∈ lw_tbl := pT1 (List.mem_of_getElem? (i := 186) (by decide +kernel))
theorem ly2_1 : u_lay RX2 TX2 1 ∈ lw_tbl := pT1 (List.mem_of_getElem? (i := 188) (by decide +kernel))
theorem ly2_2 : u_lay RX2 TX2 2 ∈ lw_tbl := pT1 (List.mem_of_getElem? (i := 190) (by decide +kernel))
theorem ly2_3 : u_lay RX2 TX2 3 ∈ lw_tbl := pT1 (List.mem_of_getElem? (i := 192) (by decide +kernel))
theorem ly2_4 : u_lay RX2 TX2 4 ∈ lw_tbl := pT1 (List.mem_of_getElem? (i := 194) (by decide +kernel))
theorem ly2_5 : u_lay RX2 TX2 5 ∈ lw_tbl := pT1 (List.mem_of_getElem? (i := 196) (by decide +kernel))
theorem ly2_6 : u_lay RX2 TX2 6 ∈ lw_tbl := pT1 (List.mem_of_getElem? (i := 198) (by decide +kernel))
theorem ly2_7 : u_lay RX2 TX2 7 ∈ lw_tbl := pT1 (List.mem_of_getElem? (i := 200) (by decide +kernel))
theorem ly2 : ∀ w ∈ wsX20, w ∈ lw_tbl := by
  intro w hw
  obtain ⟨k, hk, rfl⟩ := List.mem_map.mp hw
  rcases (show k = 0 ∨ k = 1 ∨ k = 2 ∨ k = 3 ∨ k = 4 ∨ k = 5 ∨ k = 6 ∨ k = 7 by have := List.mem_range.mp hk; omega) with rfl | rfl | rfl | rfl | rfl | rfl | rfl | rfl
  · exact ly2_0
  · exact ly2_1
  · exact ly2_2
  · exact ly2_3
  · exact ly2_4
  · exact ly2_5
  · exact ly2_6
  · exact ly2_7
theorem ly3_0 : u_lay RX3 TX3 0 ∈ lw_tbl := pT1 (List.mem_of_getElem? (i := 63) (by decide +kernel))
theorem ly3_1 : u_lay RX3 TX3 1 ∈ lw_tbl := pT1 (List.mem_of_getElem? (i := 65) (by decide +kernel))
theorem ly3_2 : u_lay RX3 TX3 2 ∈ lw_tbl := pT1 (List.mem_of_getElem? (i := 67) (by decide +kernel))
theorem ly3_3 : u_lay RX3 TX3 3 ∈ lw_tbl := pT1 (List.mem_of_getElem? (i := 69) (by decide +kernel))
theorem ly3_4 : u_lay RX3 TX3 4 ∈ lw_tbl := pT1 (List.mem_of_getElem? (i := 71) (by decide +kernel))
theorem ly3_5 : u_lay RX3 TX3 5 ∈ lw_tbl := pT1 (List.mem_of_getElem? (i := 73) (by decide +kernel))
theorem ly3_6 : u_lay RX3 TX3 6 ∈ lw_tbl := pT1 (List.mem_of_getElem? (i := 75) (by decide +kernel))
theorem ly3_7 : u_lay RX3 TX3 7 ∈ lw_tbl := pT1 (List.mem_of_getElem? (i := 77) (by decide +kernel))
theorem ly3_8 : u_lay RX3 TX3 8 ∈ lw_tbl := pT1 (List.mem_of_getElem? (i := 79) (by decide +kernel))
theorem ly3_9 : u_lay RX3 TX3 9 ∈ lw_tbl := pT1 (List.mem_of_getElem? (i := 81) (by decide +kernel))
theorem ly3 : ∀ w ∈ wsX30, w ∈ lw_tbl := by
  intro w hw
  obtain ⟨k, hk, rfl⟩ := List.mem_map.mp hw
  rcases (show k = 0 ∨ k = 1 ∨ k = 2 ∨ k = 3 ∨ k = 4 ∨ k = 5 ∨ k = 6 ∨ k = 7 ∨ k = 8 ∨ k = 9 by have := List.mem_range.mp hk; omega) with rfl | rfl | rfl | rfl | rfl | rfl | rfl | rfl | rfl | rfl
  · exact ly3_0
  · exact ly3_1
  · exact ly3_2
  · exact ly3_3
  · exact ly3_4
  · exact ly3_5
  · exact ly3_6
  · exact ly3_7
  · exact ly3_8
  · exact ly3_9
theorem ly4_0 : u_lay RX4 TX4 0 ∈ lw_tbl := pT1 (List.mem_of_getElem? (i := 153) (by decide +kernel))
theorem ly4_1 : u_lay RX4 TX4 1 ∈ lw_tbl := pT1 (List.mem_of_getElem? (i := 155) (by decide +kernel))
theorem ly4_2 : u_lay RX4 TX4 2 ∈ lw_tbl := pT1 (List.mem_of_getElem? (i := 157) (by decide +kernel))
theorem ly4_3 : u_lay RX4 TX4 3 ∈ lw_tbl := pT1 (List.mem_of_getElem? (i := 159) (by decide +kernel))
theorem ly4_4 : u_lay RX4 TX4 4 ∈ lw_tbl := pT1 (List.mem_of_getElem? (i := 161) (by decide +kernel))
theorem ly4_5 : u_lay RX4 TX4 5 ∈ lw_tbl := pT1 (List.mem_of_getElem? (i := 163) (by decide +kernel))
theorem ly4_6 : u_lay RX4 TX4 6 ∈ lw_tbl := pT1 (List.mem_of_getElem? (i := 165) (by decide +kernel))
theorem ly4_7 : u_lay RX4 TX4 7 ∈ lw_tbl := pT1 (List.mem_of_getElem? (i := 167) (by decide +kernel))
theorem ly4 : ∀ w ∈ wsX40, w ∈ lw_tbl := by
  intro w hw
  obtain ⟨k, hk, rfl⟩ := List.mem_map.mp hw
  rcases (show k = 0 ∨ k = 1 ∨ k = 2 ∨ k = 3 ∨ k = 4 ∨ k = 5 ∨ k = 6 ∨ k = 7 by have := List.mem_range.mp hk; omega) with rfl | rfl | rfl | rfl | rfl | rfl | rfl | rfl
  · exact ly4_0
  · exact ly4_1
  · exact ly4_2
  · exact ly4_3
  · exact ly4_4
  · exact ly4_5
  · exact ly4_6
  · exact ly4_7
theorem ly5_0 : u_lay RX5 TX5 0 ∈ lw_tbl := pT1 (List.mem_of_getElem? (i := 235) (by decide +kernel))
theorem ly5_1 : u_lay RX5 TX5 1 ∈ lw_tbl := pT1 (List.mem_of_getElem? (i := 237) (by decide +kernel))
theorem ly5_2 : u_lay RX5 TX5 2 ∈ lw_tbl := pT1 (List.mem_of_getElem? (i := 239) (by decide +kernel))
theorem ly5_3 : u_lay RX5 TX5 3 ∈ lw_tbl := pT2 (List.mem_of_getElem? (i := 1) (by decide +kernel))
theorem ly5_4 : u_lay RX5 TX5 4 ∈ lw_tbl := pT2 (List.mem_of_getElem? (i := 3) (by decide +kernel))
theorem ly5_5 : u_lay RX5 TX5 5 ∈ lw_tbl := pT2 (List.mem_of_getElem? (i := 5) (by decide +kernel))
theorem ly5_6 : u_lay RX5 TX5 6 ∈ lw_tbl := pT2 (List.mem_of_getElem? (i := 7) (by decide +kernel))
theorem ly5_7 : u_lay RX5 TX5 7 ∈ lw_tbl := pT2 (List.mem_of_getElem? (i := 9) (by decide +kernel))
theorem ly5_8 : u_lay RX5 TX5 8 ∈ lw_tbl := pT2 (List.mem_of_getElem? (i := 11) (by decide +kernel))
theorem ly5_9 : u_lay RX5 TX5 9 ∈ lw_tbl := pT2 (List.mem_of_getElem? (i := 13) (by decide +kernel))
theorem ly5_10 : u_lay RX5 TX5 10 ∈ lw_tbl := pT2 (List.mem_of_getElem? (i := 15) (by decide +kernel))
theorem ly5 : ∀ w ∈ wsX50, w ∈ lw_tbl := by
  intro w hw
  obtain ⟨k, hk, rfl⟩ := List.mem_map.mp hw
  rcases (show k = 0 ∨ k = 1 ∨ k = 2 ∨ k = 3 ∨ k = 4 ∨ k = 5 ∨ k = 6 ∨ k = 7 ∨ k = 8 ∨ k = 9 ∨ k = 10 by have := List.mem_range.mp hk; omega) with rfl | rfl | rfl | rfl | rfl | rfl | rfl | rfl | rfl | rfl | rfl
  · exact ly5_0
  · exact ly5_1
  · exact ly5_2
  · exact ly5_3
  · exact ly5_4
  · exact ly5_5
  · exact ly5_6
  · exact ly5_7
  · exact ly5_8
  · exact ly5_9
  · exact ly5_10
theorem ly6_0 : u_lay RX6 TX6 0 ∈ lw_tbl := pT4 (List.mem_of_getElem? (i := 60) (by decide +kernel))
theorem ly6_1 : u_lay RX6 TX6 1 ∈ lw_tbl := pT4 (List.mem_of_getElem? (i := 62) (by decide +kernel))
theorem ly6_2 : u_lay RX6 TX6 2 ∈ lw_tbl := pT4 (List.mem_of_getElem? (i := 64) (by decide +kernel))
theorem ly6_3 : u_lay RX6 TX6 3 ∈ lw_tbl := pT4 (List.mem_of_getElem? (i := 66) (by decide +kernel))
theorem ly6_4 : u_lay RX6 TX6 4 ∈ lw_tbl := pT4 (List.mem_of_getElem? (i := 68) (by decide +kernel))
theorem ly6_5 : u_lay RX6 TX6 5 ∈ lw_tbl := pT4 (List.mem_of_getElem? (i := 70) (by decide +kernel))
theorem ly6_6 : u_lay RX6 TX6 6 ∈ lw_tbl := pT4 (List.mem_of_getElem? (i := 72) (by decide +kernel))
theorem ly6_7 : u_lay RX6 TX6 7 ∈ lw_tbl := pT4 (List.mem_of_getElem? (i := 74) (by decide +kernel))
theorem ly6_8 : u_lay RX6 TX6 8 ∈ lw_tbl := pT4 (List.mem_of_getElem? (i := 76) (by decide +kernel))
theorem ly6_9 : u_lay RX6 TX6 9 ∈ lw_tbl := pT4 (List.mem_of_getElem? (i := 78) (by decide +kernel))
theorem ly6_10 : u_lay RX6 TX6 10 ∈ lw_tbl := pT4 (List.mem_of_getElem? (i := 80) (by decide +kernel))
theorem ly6_11 : u_lay RX6 TX6 11 ∈ lw_tbl := pT4 (List.mem_of_getElem? (i := 82) (by decide +kernel))
theorem ly6_12 : u_lay RX6 TX6 12 ∈ lw_tbl := pT4 (List.mem_of_getElem? (i := 84) (by decide +kernel))
theorem ly6_13 : u_lay RX6 TX6 13 ∈ lw_tbl := pT4 (List.mem_of_getElem? (i := 86) (by decide +kernel))
theorem ly6_14 : u_lay RX6 TX6 14 ∈ lw_tbl := pT4 (List.mem_of_getElem? (i := 88) (by decide +kernel))
theorem ly6_15 : u_lay RX6 TX6 15 ∈ lw_tbl := pT4 (List.mem_of_getElem? (i := 90) (by decide +kernel))
theorem ly6_16 : u_lay RX6 TX6 16 ∈ lw_tbl := pT4 (List.mem_of_getElem? (i := 92) (by decide +kernel))
theorem ly6_17 : u_lay RX6 TX6 17 ∈ lw_tbl := pT4 (List.mem_of_getElem? (i := 94) (by decide +kernel))
theorem ly6_18 : u_lay RX6 TX6 18 ∈ lw_tbl := pT4 (List.mem_of_getElem? (i := 96) (by decide +kernel))
theorem ly6_19 : u_lay RX6 TX6 19 ∈ lw_tbl := pT4 (List.mem_of_getElem? (i := 98) (by decide +kernel))
theorem ly6_20 : u_lay RX6 TX6 20 ∈ lw_tbl := pT4 (List.mem_of_getElem? (i := 100) (by decide +kernel))
theorem ly6_21 : u_lay RX6 TX6 21 ∈ lw_tbl := pT4 (List.mem_of_getElem? (i := 102) (by decide +kernel))
theorem ly6 : ∀ w ∈ wsX60, w ∈ lw_tbl := by
  intro w hw
  obtain ⟨k, hk, rfl⟩ := List.mem_map.mp hw
  rcases (show k = 0 ∨ k = 1 ∨ k = 2 ∨ k = 3 ∨ k = 4 ∨ k = 5 ∨ k = 6 ∨ k = 7 ∨ k = 8 ∨ k = 9 ∨ k = 10 ∨ k = 11 ∨ k = 12 ∨ k = 13 ∨ k = 14 ∨ k = 15 ∨ k = 16 ∨ k = 17 ∨ k = 18 ∨ k = 19 ∨ k = 20 ∨ k = 21 by have := List.mem_range.mp hk; omega) with rfl | rfl | rfl | rfl | rfl | rfl | rfl | rfl | rfl | rfl | rfl | rfl | rfl | rfl | rfl | rfl | rfl | rfl | rfl | rfl | rfl | rfl
  · exact ly6_0
  · exact ly6_1
  · exact ly6_2
  · exact ly6_3
  · exact ly6_4
  · exact ly6_5
  · exact ly6_6
  · exact ly6_7
  · exact ly6_8
  · exact ly6_9
  · exact ly6_10
  · exact ly6_11
  · exact ly6_12
  · exact ly6_13
  · exact ly6_14
  · exact ly6_15
  · exact ly6_16
  · exact ly6_17
  · exact ly6_18
  · exact ly6_19
  · exact ly6_20
  · exact ly6_21
theorem wsL_law_in0 : ∀ w ∈ wsL_law0, w ∈ lw_tbl := fun w h => (List.mem_append.mp h).elim ((fun w h => (List.mem_append.mp h).elim ((fun w h => (List.mem_append.mp h).elim ((fun w h => (List.mem_append.mp h).elim ((fun w h => (List.mem_append.mp h).elim ((fun w h => (List.mem_append.mp h).elim ((fun w h => (List.mem_append.mp h).elim ((fun w h => (List.mem_append.mp h).elim ((fun w h => (List.mem_append.mp h).elim (ltr1 w) ((fun w h => (List.mem_append.mp h).elim (ltr2 w) ((fun w h => (List.mem_append.mp h).elim (ltr3 w) ((fun w h => (List.mem_append.mp h).elim (ltr4 w) ((fun w h => (List.mem_append.mp h).elim (ltr5 w) ((fun w h => (List.mem_append.mp h).elim (ltr6 w) ((fun w h => (List.mem_append.mp h).elim (ltr7 w) ((fun w h => (List.mem_append.mp h).elim (ltr8 w) ((fun w h => (List.mem_append.mp h).elim (ltr9 w) ((fun w h => (List.mem_append.mp h).elim (ltr10 w) ((fun w h => (List.mem_append.mp h).elim (ltr11 w) ((fun w h => (List.mem_append.mp h).elim (ltr12 w) ((fun w h => (List.mem_append.mp h).elim (ltr13 w) ((fun w h => (List.mem_append.mp h).elim (ltr14 w) ((fun w h => (List.mem_append.mp h).elim (ltr15 w) ((fun w h => (List.mem_append.mp h).elim (ltr16 w) ((fun w h => (List.mem_append.mp h).elim (ltr17 w) ((fun w h => (List.mem_append.mp h).elim (ltr18 w) ((fun w h => (List.mem_append.mp h).elim (ltr19 w) ((fun w h => (List.mem_append.mp h).elim (ltr20 w) ((fun w h => (List.mem_append.mp h).elim (ltr21 w) ((fun w h => (List.mem_append.mp h).elim (ltr22 w) ((fun w h => (List.mem_append.mp h).elim (ltr23 w) ((fun w h => (List.mem_append.mp h).elim (ltr24 w) ((fun w h => (List.mem_append.mp h).elim (ltr25 w) ((fun w h => (List.mem_append.mp h).elim (ltr26 w) ((fun w h => (List.mem_append.mp h).elim (ltr27 w) ((fun w h => (List.mem_append.mp h).elim (ltr28 w) ((fun w h => (List.mem_append.mp h).elim (ltr29 w) ((fun w h => (List.mem_append.mp h).elim (ltr30 w) ((fun w h => (List.mem_append.mp h).elim (ltr31 w) ((fun w h => (List.mem_append.mp h).elim (ltr32 w) ((fun w h => (List.mem_append.mp h).elim (ltr33 w) ((fun w h => (List.mem_append.mp h).elim (ltr34 w) (ltr35 w)) w)) w)) w)) w)) w)) w)) w)) w)) w)) w)) w)) w)) w)) w)) w)) w)) w)) w)) w)) w)) w)) w)) w)) w)) w)) w)) w)) w)) w)) w)) w)) w)) w)) w) (ly5 w)) w) (ly6 w)) w) (ly3 w)) w) (ly1 w)) w) (ly4 w)) w) (ly2 w)) w) (ly0 w)) w) (fun h => absurd h List.not_mem_nil)
