theorem hwX0 : ∀ w ∈ u_ws RX0 TX0 6, w ∈ tb_G := by
  intro w hw
  obtain ⟨k, hk, rfl⟩ := List.mem_map.mp hw
  have hk := List.mem_range.mp hk
  rcases (show k = 0 ∨ k = 1 ∨ k = 2 ∨ k = 3 ∨ k = 4 ∨ k = 5 by omega) with rfl | rfl | rfl | rfl | rfl | rfl
  · exact tb_in (tb_1 (List.mem_of_getElem? (i := 89) rfl)) rfl
  · exact tb_in (tb_1 (List.mem_of_getElem? (i := 91) rfl)) rfl
  · exact tb_in (tb_1 (List.mem_of_getElem? (i := 93) rfl)) rfl
  · exact tb_in (tb_1 (List.mem_of_getElem? (i := 95) rfl)) rfl
  · exact tb_in (tb_1 (List.mem_of_getElem? (i := 97) rfl)) rfl
  · exact tb_in (tb_1 (List.mem_of_getElem? (i := 99) rfl)) rfl
theorem cfX0 : cf_K 0 RX0 TX0 6 tyX0 := ⟨rfl, hwX0, tyX0_ok, nmX0, rfl, rfl, by decide +kernel⟩
theorem inX0 : Cond.instantiable RX0 6 ∈ tb_G := tb_in (tb_1 (List.mem_of_getElem? (i := 78) rfl)) rfl
theorem iiX0 : Cond.initialized RX0 ∈ tb_G := tb_in (tb_1 (List.mem_of_getElem? (i := 6) rfl)) rfl
theorem dvX0 : ∀ k, defaultValue (tyX0 k) = rp_v (tyX0 k) 0 none := by
  intro k
  unfold tyX0
  split <;> rfl
theorem hwX1 : ∀ w ∈ u_ws RX1 TX1 2, w ∈ tb_G := by
  intro w hw
  obtain ⟨k, hk, rfl⟩ := List.mem_map.mp hw
  have hk := List.mem_range.mp hk
  rcases (show k = 0 ∨ k = 1 by omega) with rfl | rfl
  · exact tb_in (tb_1 (List.mem_of_getElem? (i := 47) rfl)) rfl
  · exact tb_in (tb_1 (List.mem_of_getElem? (i := 49) rfl)) rfl
theorem cfX1 : cf_K 1 RX1 TX1 2 tyX1 := ⟨rfl, hwX1, tyX1_ok, nmX1, rfl, rfl, by decide +kernel⟩
theorem inX1 : Cond.instantiable RX1 2 ∈ tb_G := tb_in (tb_1 (List.mem_of_getElem? (i := 40) rfl)) rfl
theorem iiX1 : Cond.initialized RX1 ∈ tb_G := tb_in (tb_1 (List.mem_of_getElem? (i := 4) rfl)) rfl
theorem dvX1 : ∀ k, defaultValue (tyX1 k) = rp_v (tyX1 k) 0 none := by
  intro k
  unfold tyX1
  split <;> rfl
theorem hwX2 : ∀ w ∈ u_ws RX2 TX2 12, w ∈ tb_G := by
  intro w hw
  obtain ⟨k, hk, rfl⟩ := List.mem_map.mp hw
  have hk := List.mem_range.mp hk
  rcases (show k = 0 ∨ k = 1 ∨ k = 2 ∨ k = 3 ∨ k = 4 ∨ k = 5 ∨ k = 6 ∨ k = 7 ∨ k = 8 ∨ k = 9 ∨ k = 10 ∨ k = 11 by omega) with rfl | rfl | rfl | rfl | rfl | rfl | rfl | rfl | rfl | rfl | rfl | rfl
  · exact tb_in (tb_1 (List.mem_of_getElem? (i := 120) rfl)) rfl
  · exact tb_in (tb_1 (List.mem_of_getElem? (i := 122) rfl)) rfl
  · exact tb_in (tb_1 (List.mem_of_getElem? (i := 124) rfl)) rfl
  · exact tb_in (tb_1 (List.mem_of_getElem? (i := 126) rfl)) rfl
  · exact tb_in (tb_1 (List.mem_of_getElem? (i := 128) rfl)) rfl
  · exact tb_in (tb_1 (List.mem_of_getElem? (i := 130) rfl)) rfl
  · exact tb_in (tb_1 (List.mem_of_getElem? (i := 132) rfl)) rfl
  · exact tb_in (tb_1 (List.mem_of_getElem? (i := 134) rfl)) rfl
  · exact tb_in (tb_1 (List.mem_of_getElem? (i := 136) rfl)) rfl
  · exact tb_in (tb_1 (List.mem_of_getElem? (i := 138) rfl)) rfl
  · exact tb_in (tb_1 (List.mem_of_getElem? (i := 140) rfl)) rfl
  · exact tb_in (tb_1 (List.mem_of_getElem? (i := 142) rfl)) rfl
theorem cfX2 : cf_K 2 RX2 TX2 12 tyX2 := ⟨rfl, hwX2, tyX2_ok, nmX2, rfl, rfl, by decide +kernel⟩
theorem inX2 : Cond.instantiable RX2 12 ∈ tb_G := tb_in (tb_1 (List.mem_of_getElem? (i := 103) rfl)) rfl
theorem iiX2 : Cond.initialized RX2 ∈ tb_G := tb_in (tb_1 (List.mem_of_getElem? (i := 7) rfl)) rfl
theorem dvX2 : ∀ k, defaultValue (tyX2 k) = rp_v (tyX2 k) 0 none := by
  intro k
  unfold tyX2
  split <;> rfl
theorem hwX3 : ∀ w ∈ u_ws RX3 TX3 6, w ∈ tb_G := by
  intro w hw
  obtain ⟨k, hk, rfl⟩ := List.mem_map.mp hw
  have hk := List.mem_range.mp hk
  rcases (show k = 0 ∨ k = 1 ∨ k = 2 ∨ k = 3 ∨ k = 4 ∨ k = 5 by omega) with rfl | rfl | rfl | rfl | rfl | rfl
  · exact tb_in (tb_1 (List.mem_of_getElem? (i := 64) rfl)) rfl
  · exact tb_in (tb_1 (List.mem_of_getElem? (i := 66) rfl)) rfl
  · exact tb_in (tb_1 (List.mem_of_getElem? (i := 68) rfl)) rfl
  · exact tb_in (tb_1 (List.mem_of_getElem? (i := 70) rfl)) rfl
  · exact tb_in (tb_1 (List.mem_of_getElem? (i := 72) rfl)) rfl
  · exact tb_in (tb_1 (List.mem_of_getElem? (i := 74) rfl)) rfl
theorem cfX3 : cf_K 3 RX3 TX3 6 tyX3 := ⟨rfl, hwX3, tyX3_ok, nmX3, rfl, rfl, by decide +kernel⟩
theorem inX3 : Cond.instantiable RX3 6 ∈ tb_G := tb_in (tb_1 (List.mem_of_getElem? (i := 52) rfl)) rfl
theorem iiX3 : Cond.initialized RX3 ∈ tb_G := tb_in (tb_1 (List.mem_of_getElem? (i := 5) rfl)) rfl
theorem dvX3 : ∀ k, defaultValue (tyX3 k) = rp_v (tyX3 k) 0 none := by
  intro k
  unfold tyX3
  split <;> rfl
theorem hwX4 : ∀ w ∈ u_ws RX4 TX4 2, w ∈ tb_G := by
  intro w hw
  obtain ⟨k, hk, rfl⟩ := List.mem_map.mp hw
  have hk := List.mem_range.mp hk
  rcases (show k = 0 ∨ k = 1 by omega) with rfl | rfl
  · exact tb_in (tb_1 (List.mem_of_getElem? (i := 29) rfl)) rfl
  · exact tb_in (tb_1 (List.mem_of_getElem? (i := 31) rfl)) rfl
theorem cfX4 : cf_K 4 RX4 TX4 2 tyX4 := ⟨rfl, hwX4, tyX4_ok, nmX4, rfl, rfl, by decide +kernel⟩
theorem inX4 : Cond.instantiable RX4 2 ∈ tb_G := tb_in (tb_1 (List.mem_of_getElem? (i := 19) rfl)) rfl
theorem iiX4 : Cond.initialized RX4 ∈ tb_G := tb_in (tb_1 (List.mem_of_getElem? (i := 2) rfl)) rfl
theorem dvX4 : ∀ k, defaultValue (tyX4 k) = rp_v (tyX4 k) 0 none := by
  intro k
  unfold tyX4
  split <;> rfl
theorem hwX5 : ∀ w ∈ u_ws RX5 TX5 5, w ∈ tb_G := by
  intro w hw
  obtain ⟨k, hk, rfl⟩ := List.mem_map.mp hw
  have hk := List.mem_range.mp hk
  rcases (show k = 0 ∨ k = 1 ∨ k = 2 ∨ k = 3 ∨ k = 4 by omega) with rfl | rfl | rfl | rfl | rfl
  · exact tb_in (tb_2 (List.mem_of_getElem? (i := 31) rfl)) rfl
  · exact tb_in (tb_2 (List.mem_of_getElem? (i := 33) rfl)) rfl
  · exact tb_in (tb_2 (List.mem_of_getElem? (i := 35) rfl)) rfl
  · exact tb_in (tb_2 (List.mem_of_getElem? (i := 37) rfl)) rfl
  · exact tb_in (tb_2 (List.mem_of_getElem? (i := 39) rfl)) rfl
theorem cfX5 : cf_K 5 RX5 TX5 5 tyX5 := ⟨rfl, hwX5, tyX5_ok, nmX5, rfl, rfl, by decide +kernel⟩
theorem inX5 : Cond.instantiable RX5 5 ∈ tb_G := tb_in (tb_2 (List.mem_of_getElem? (i := 15) rfl)) rfl
theorem iiX5 : Cond.initialized RX5 ∈ tb_G := tb_in (tb_1 (List.mem_of_getElem? (i := 9) rfl)) rfl
theorem dvX5 : ∀ k, defaultValue (tyX5 k) = rp_v (tyX5 k) 0 none := by
  intro k
  unfold tyX5
  split <;> rfl
theorem hwX6 : ∀ w ∈ u_ws RX6 TX6 14, w ∈ tb_G := by
  intro w hw
  obtain ⟨k, hk, rfl⟩ := List.mem_map.mp hw
  have hk := List.mem_range.mp hk
  rcases (show k = 0 ∨ k = 1 ∨ k = 2 ∨ k = 3 ∨ k = 4 ∨ k = 5 ∨ k = 6 ∨ k = 7 ∨ k = 8 ∨ k = 9 ∨ k = 10 ∨ k = 11 ∨ k = 12 ∨ k = 13 by omega) with rfl | rfl | rfl | rfl | rfl | rfl | rfl | rfl | rfl | rfl | rfl | rfl | rfl | rfl
  · exact tb_in (tb_1 (List.mem_of_getElem? (i := 159) rfl)) rfl
  · exact tb_in (tb_1 (List.mem_of_getElem? (i := 161) rfl)) rfl
  · exact tb_in (tb_1 (List.mem_of_getElem? (i := 163) rfl)) rfl
  · exact tb_in (tb_1 (List.mem_of_getElem? (i := 165) rfl)) rfl
  · exact tb_in (tb_1 (List.mem_of_getElem? (i := 167) rfl)) rfl
  · exact tb_in (tb_1 (List.mem_of_getElem? (i := 169) rfl)) rfl
  · exact tb_in (tb_1 (List.mem_of_getElem? (i := 171) rfl)) rfl
  · exact tb_in (tb_1 (List.mem_of_getElem? (i := 173) rfl)) rfl
  · exact tb_in (tb_1 (List.mem_of_getElem? (i := 175) rfl)) rfl
  · exact tb_in (tb_1 (List.mem_of_getElem? (i := 177) rfl)) rfl
  · exact tb_in (tb_1 (List.mem_of_getElem? (i := 179) rfl)) rfl
  · exact tb_in (tb_1 (List.mem_of_getElem? (i := 181) rfl)) rfl
  · exact tb_in (tb_1 (List.mem_of_getElem? (i := 183) rfl)) rfl
  · exact tb_in (tb_1 (List.mem_of_getElem? (i := 185) rfl)) rfl
theorem cfX6 : cf_K 6 RX6 TX6 14 tyX6 := ⟨rfl, hwX6, tyX6_ok, nmX6, rfl, rfl, by decide +kernel⟩
theorem inX6 : Cond.instantiable RX6 14 ∈ tb_G := tb_in (tb_1 (List.mem_of_getElem? (i := 11) rfl)) rfl
theorem iiX6 : Cond.initialized RX6 ∈ tb_G := tb_in (tb_1 (List.mem_of_getElem? (i := 1) rfl)) rfl
theorem dvX6 : ∀ k, defaultValue (tyX6 k) = rp_v (tyX6 k) 0 none := by
  intro k
  unfold tyX6
  split <;> rfl
theorem hwX7 : ∀ w ∈ u_ws RX7 TX7 43, w ∈ tb_G := by
  intro w hw
  obtain ⟨k, hk, rfl⟩ := List.mem_map.mp hw
  have hk := List.mem_range.mp hk
  rcases (show k = 0 ∨ k = 1 ∨ k = 2 ∨ k = 3 ∨ k = 4 ∨ k = 5 ∨ k = 6 ∨ k = 7 ∨ k = 8 ∨ k = 9 ∨ k = 10 ∨ k = 11 ∨ k = 12 ∨ k = 13 ∨ k = 14 ∨ k = 15 ∨ k = 16 ∨ k = 17 ∨ k = 18 ∨ k = 19 ∨ k = 20 ∨ k = 21 ∨ k = 22 ∨ k = 23 ∨ k = 24 ∨ k = 25 ∨ k = 26 ∨ k = 27 ∨ k = 28 ∨ k = 29 ∨ k = 30 ∨ k = 31 ∨ k = 32 ∨ k = 33 ∨ k = 34 ∨ k = 35 ∨ k = 36 ∨ k = 37 ∨ k = 38 ∨ k = 39 ∨ k = 40 ∨ k = 41 ∨ k = 42 by omega) with rfl | rfl | rfl | rfl | rfl | rfl | rfl | rfl | rfl | rfl | rfl | rfl | rfl | rfl | rfl | rfl | rfl | rfl | rfl | rfl | rfl | rfl | rfl | rfl | rfl | rfl | rfl | rfl | rfl | rfl | rfl | rfl | rfl | rfl | rfl | rfl | rfl | rfl | rfl | rfl | rfl | rfl | rfl
  · exact tb_in (tb_4 (List.mem_of_getElem? (i := 193) rfl)) rfl
  · exact tb_in (tb_4 (List.mem_of_getElem? (i := 195) rfl)) rfl
  · exact tb_in (tb_4 (List.mem_of_getElem? (i := 197) rfl)) rfl
  · exact tb_in (tb_4 (List.mem_of_getElem? (i := 199) rfl)) rfl
  · exact tb_in (tb_4 (List.mem_of_getElem? (i := 201) rfl)) rfl
  · exact tb_in (tb_4 (List.mem_of_getElem? (i := 203) rfl)) rfl
  · exact tb_in (tb_4 (List.mem_of_getElem? (i := 205) rfl)) rfl
  · exact tb_in (tb_4 (List.mem_of_getElem? (i := 207) rfl)) rfl
  · exact tb_in (tb_4 (List.mem_of_getElem? (i := 209) rfl)) rfl
  · exact tb_in (tb_4 (List.mem_of_getElem? (i := 211) rfl)) rfl
  · exact tb_in (tb_4 (List.mem_of_getElem? (i := 213) rfl)) rfl
  · exact tb_in (tb_4 (List.mem_of_getElem? (i := 215) rfl)) rfl
  · exact tb_in (tb_4 (List.mem_of_getElem? (i := 217) rfl)) rfl
  · exact tb_in (tb_4 (List.mem_of_getElem? (i := 219) rfl)) rfl
  · exact tb_in (tb_4 (List.mem_of_getElem? (i := 221) rfl)) rfl
  · exact tb_in (tb_4 (List.mem_of_getElem? (i := 223) rfl)) rfl
  · exact tb_in (tb_4 (List.mem_of_getElem? (i := 225) rfl)) rfl
  · exact tb_in (tb_4 (List.mem_of_getElem? (i := 227) rfl)) rfl
  · exact tb_in (tb_4 (List.mem_of_getElem? (i := 229) rfl)) rfl
  · exact tb_in (tb_4 (List.mem_of_getElem? (i := 231) rfl)) rfl
  · exact tb_in (tb_4 (List.mem_of_getElem? (i := 233) rfl)) rfl
  · exact tb_in (tb_4 (List.mem_of_getElem? (i := 235) rfl)) rfl
  · exact tb_in (tb_4 (List.mem_of_getElem? (i := 237) rfl)) rfl
  · exact tb_in (tb_4 (List.mem_of_getElem? (i := 239) rfl)) rfl
  · exact tb_in (tb_5 (List.mem_of_getElem? (i := 1) rfl)) rfl
  · exact tb_in (tb_5 (List.mem_of_getElem? (i := 3) rfl)) rfl
  · exact tb_in (tb_5 (List.mem_of_getElem? (i := 5) rfl)) rfl
  · exact tb_in (tb_5 (List.mem_of_getElem? (i := 7) rfl)) rfl
  · exact tb_in (tb_5 (List.mem_of_getElem? (i := 9) rfl)) rfl
  · exact tb_in (tb_5 (List.mem_of_getElem? (i := 11) rfl)) rfl
  · exact tb_in (tb_5 (List.mem_of_getElem? (i := 13) rfl)) rfl
  · exact tb_in (tb_5 (List.mem_of_getElem? (i := 15) rfl)) rfl
  · exact tb_in (tb_5 (List.mem_of_getElem? (i := 17) rfl)) rfl
  · exact tb_in (tb_5 (List.mem_of_getElem? (i := 19) rfl)) rfl
  · exact tb_in (tb_5 (List.mem_of_getElem? (i := 21) rfl)) rfl
  · exact tb_in (tb_5 (List.mem_of_getElem? (i := 23) rfl)) rfl
  · exact tb_in (tb_5 (List.mem_of_getElem? (i := 25) rfl)) rfl
  · exact tb_in (tb_5 (List.mem_of_getElem? (i := 27) rfl)) rfl
  · exact tb_in (tb_5 (List.mem_of_getElem? (i := 29) rfl)) rfl
  · exact tb_in (tb_5 (List.mem_of_getElem? (i := 31) rfl)) rfl
  · exact tb_in (tb_5 (List.mem_of_getElem? (i := 33) rfl)) rfl
  · exact tb_in (tb_5 (List.mem_of_getElem? (i := 35) rfl)) rfl
  · exact tb_in (tb_5 (List.mem_of_getElem? (i := 37) rfl)) rfl
theorem cfX7 : cf_K 7 RX7 TX7 43 tyX7 := ⟨rfl, hwX7, tyX7_ok, nmX7, rfl, rfl, by decide +kernel⟩
theorem inX7 : Cond.instantiable RX7 43 ∈ tb_G := tb_in (tb_4 (List.mem_of_getElem? (i := 145) rfl)) rfl
theorem iiX7 : Cond.initialized RX7 ∈ tb_G := tb_in (tb_1 (List.mem_of_getElem? (i := 8) rfl)) rfl
theorem dvX7 : ∀ k, defaultValue (tyX7 k) = rp_v (tyX7 k) 0 none := by
  intro k
  unfold tyX7
  split <;> rfl
theorem iiJ9 : Cond.initialized RJ9 ∈ tb_G := tb_in (tb_1 (List.mem_of_getElem? (i := 3) rfl)) rfl
theorem ac_I : Cond.arrayClass .int ∈ tb_G := tb_in (tb_1 (List.mem_of_getElem? (i := 34) rfl)) rfl
theorem oi_i : Cond.instanceMethod Lib.objectInit ∈ tb_G := tb_in (tb_1 (List.mem_of_getElem? (i := 16) rfl)) rfl
theorem oi_c : Cond.code Lib.objectInit ⟨#[0xb1]⟩ 1 none ∈ tb_G := tb_in (tb_1 (List.mem_of_getElem? (i := 17) rfl)) rfl
theorem ms_abs : Cond.static Lib.Math.abs.name ∈ tb_G := tb_in (tb_3 (List.mem_of_getElem? (i := 66) rfl)) rfl
theorem mc_abs : Cond.code Lib.Math.abs.name Lib.Math.abs.code 1 (some .int) ∈ tb_G := tb_in (tb_3 (List.mem_of_getElem? (i := 67) rfl)) rfl
theorem ms_max : Cond.static Lib.Math.max.name ∈ tb_G := tb_in (tb_1 (List.mem_of_getElem? (i := 25) rfl)) rfl
theorem mc_max : Cond.code Lib.Math.max.name Lib.Math.max.code 2 (some .int) ∈ tb_G := tb_in (tb_1 (List.mem_of_getElem? (i := 26) rfl)) rfl
theorem ms_min : Cond.static Lib.Math.min.name ∈ tb_G := tb_in (tb_4 (List.mem_of_getElem? (i := 11) rfl)) rfl
theorem mc_min : Cond.code Lib.Math.min.name Lib.Math.min.code 2 (some .int) ∈ tb_G := tb_in (tb_4 (List.mem_of_getElem? (i := 12) rfl)) rfl
theorem clX6_290 : Cond.constantLong RX6 290 271 ∈ tb_G := tb_in (tb_4 (List.mem_of_getElem? (i := 125) rfl)) rfl
theorem clX6_316 : Cond.constantLong RX6 316 31 ∈ tb_G := tb_in (tb_4 (List.mem_of_getElem? (i := 133) rfl)) rfl
theorem clX7_307 : Cond.constantLong RX7 307 31 ∈ tb_G := tb_in (tb_6 (List.mem_of_getElem? (i := 128) rfl)) rfl
theorem clX7_316 : Cond.constantLong RX7 316 271 ∈ tb_G := tb_in (tb_6 (List.mem_of_getElem? (i := 123) rfl)) rfl
theorem ckX5_9 : Cond.classLink RX5 9 RX4 ∈ tb_G := tb_in (tb_2 (List.mem_of_getElem? (i := 20) rfl)) rfl
theorem ckX6_21 : Cond.classLink RX6 21 RX5 ∈ tb_G := tb_in (tb_1 (List.mem_of_getElem? (i := 35) rfl)) rfl
theorem ckX6_27 : Cond.classLink RX6 27 RX3 ∈ tb_G := tb_in (tb_1 (List.mem_of_getElem? (i := 37) rfl)) rfl
theorem ckX6_37 : Cond.classLink RX6 37 RX1 ∈ tb_G := tb_in (tb_1 (List.mem_of_getElem? (i := 39) rfl)) rfl
theorem ckX6_57 : Cond.classLink RX6 57 RX0 ∈ tb_G := tb_in (tb_1 (List.mem_of_getElem? (i := 77) rfl)) rfl
theorem ckX6_64 : Cond.classLink RX6 64 RX2 ∈ tb_G := tb_in (tb_1 (List.mem_of_getElem? (i := 102) rfl)) rfl
theorem ckX6_7 : Cond.classLink RX6 7 RX4 ∈ tb_G := tb_in (tb_1 (List.mem_of_getElem? (i := 18) rfl)) rfl
theorem flX0_39 : Cond.fieldLink RX0 39 RX0 (TX0 1).2.1 (TX0 1).2.2.1 ∈ tb_G := tb_in (tb_1 (List.mem_of_getElem? (i := 84) rfl)) rfl
theorem flX0_45 : Cond.fieldLink RX0 45 RX0 (TX0 3).2.1 (TX0 3).2.2.1 ∈ tb_G := tb_in (tb_1 (List.mem_of_getElem? (i := 86) rfl)) rfl
theorem flX0_52 : Cond.fieldLink RX0 52 RX0 (TX0 4).2.1 (TX0 4).2.2.1 ∈ tb_G := tb_in (tb_1 (List.mem_of_getElem? (i := 87) rfl)) rfl
theorem flX0_55 : Cond.fieldLink RX0 55 RX0 (TX0 0).2.1 (TX0 0).2.2.1 ∈ tb_G := tb_in (tb_1 (List.mem_of_getElem? (i := 83) rfl)) rfl
theorem flX0_86 : Cond.fieldLink RX0 86 RX0 (TX0 2).2.1 (TX0 2).2.2.1 ∈ tb_G := tb_in (tb_1 (List.mem_of_getElem? (i := 85) rfl)) rfl
theorem flX0_89 : Cond.fieldLink RX0 89 RX0 (TX0 5).2.1 (TX0 5).2.2.1 ∈ tb_G := tb_in (tb_1 (List.mem_of_getElem? (i := 88) rfl)) rfl
theorem flX1_11 : Cond.fieldLink RX1 11 RX1 (TX1 0).2.1 (TX1 0).2.2.1 ∈ tb_G := tb_in (tb_1 (List.mem_of_getElem? (i := 45) rfl)) rfl
theorem flX1_15 : Cond.fieldLink RX1 15 RX1 (TX1 1).2.1 (TX1 1).2.2.1 ∈ tb_G := tb_in (tb_1 (List.mem_of_getElem? (i := 46) rfl)) rfl
theorem flX2_15 : Cond.fieldLink RX2 15 RX2 (TX2 3).2.1 (TX2 3).2.2.1 ∈ tb_G := tb_in (tb_1 (List.mem_of_getElem? (i := 111) rfl)) rfl
theorem flX2_18 : Cond.fieldLink RX2 18 RX2 (TX2 4).2.1 (TX2 4).2.2.1 ∈ tb_G := tb_in (tb_1 (List.mem_of_getElem? (i := 112) rfl)) rfl
theorem flX2_21 : Cond.fieldLink RX2 21 RX2 (TX2 5).2.1 (TX2 5).2.2.1 ∈ tb_G := tb_in (tb_1 (List.mem_of_getElem? (i := 113) rfl)) rfl
theorem flX2_24 : Cond.fieldLink RX2 24 RX2 (TX2 6).2.1 (TX2 6).2.2.1 ∈ tb_G := tb_in (tb_1 (List.mem_of_getElem? (i := 114) rfl)) rfl
theorem flX2_27 : Cond.fieldLink RX2 27 RX2 (TX2 7).2.1 (TX2 7).2.2.1 ∈ tb_G := tb_in (tb_1 (List.mem_of_getElem? (i := 115) rfl)) rfl
theorem flX2_30 : Cond.fieldLink RX2 30 RX2 (TX2 8).2.1 (TX2 8).2.2.1 ∈ tb_G := tb_in (tb_1 (List.mem_of_getElem? (i := 116) rfl)) rfl
theorem flX2_42 : Cond.fieldLink RX2 42 RX2 (TX2 0).2.1 (TX2 0).2.2.1 ∈ tb_G := tb_in (tb_1 (List.mem_of_getElem? (i := 108) rfl)) rfl
theorem flX2_46 : Cond.fieldLink RX2 46 RX2 (TX2 1).2.1 (TX2 1).2.2.1 ∈ tb_G := tb_in (tb_1 (List.mem_of_getElem? (i := 109) rfl)) rfl
theorem flX2_49 : Cond.fieldLink RX2 49 RX2 (TX2 9).2.1 (TX2 9).2.2.1 ∈ tb_G := tb_in (tb_1 (List.mem_of_getElem? (i := 117) rfl)) rfl
theorem flX2_53 : Cond.fieldLink RX2 53 RX2 (TX2 10).2.1 (TX2 10).2.2.1 ∈ tb_G := tb_in (tb_1 (List.mem_of_getElem? (i := 118) rfl)) rfl
theorem flX2_56 : Cond.fieldLink RX2 56 RX2 (TX2 11).2.1 (TX2 11).2.2.1 ∈ tb_G := tb_in (tb_1 (List.mem_of_getElem? (i := 119) rfl)) rfl
theorem flX2_9 : Cond.fieldLink RX2 9 RX2 (TX2 2).2.1 (TX2 2).2.2.1 ∈ tb_G := tb_in (tb_1 (List.mem_of_getElem? (i := 110) rfl)) rfl
theorem flX3_15 : Cond.fieldLink RX3 15 RX3 (TX3 0).2.1 (TX3 0).2.2.1 ∈ tb_G := tb_in (tb_1 (List.mem_of_getElem? (i := 58) rfl)) rfl
theorem flX3_21 : Cond.fieldLink RX3 21 RX3 (TX3 1).2.1 (TX3 1).2.2.1 ∈ tb_G := tb_in (tb_1 (List.mem_of_getElem? (i := 59) rfl)) rfl
theorem flX3_24 : Cond.fieldLink RX3 24 RX3 (TX3 2).2.1 (TX3 2).2.2.1 ∈ tb_G := tb_in (tb_1 (List.mem_of_getElem? (i := 60) rfl)) rfl
theorem flX3_27 : Cond.fieldLink RX3 27 RX3 (TX3 3).2.1 (TX3 3).2.2.1 ∈ tb_G := tb_in (tb_1 (List.mem_of_getElem? (i := 61) rfl)) rfl
theorem flX3_30 : Cond.fieldLink RX3 30 RX3 (TX3 4).2.1 (TX3 4).2.2.1 ∈ tb_G := tb_in (tb_1 (List.mem_of_getElem? (i := 62) rfl)) rfl
theorem flX3_33 : Cond.fieldLink RX3 33 RX3 (TX3 5).2.1 (TX3 5).2.2.1 ∈ tb_G := tb_in (tb_1 (List.mem_of_getElem? (i := 63) rfl)) rfl
theorem flX4_15 : Cond.fieldLink RX4 15 RX4 (TX4 0).2.1 (TX4 0).2.2.1 ∈ tb_G := tb_in (tb_1 (List.mem_of_getElem? (i := 27) rfl)) rfl
theorem flX4_21 : Cond.fieldLink RX4 21 RX4 (TX4 1).2.1 (TX4 1).2.2.1 ∈ tb_G := tb_in (tb_1 (List.mem_of_getElem? (i := 28) rfl)) rfl
theorem flX5_14 : Cond.fieldLink RX5 14 RX5 (TX5 0).2.1 (TX5 0).2.2.1 ∈ tb_G := tb_in (tb_2 (List.mem_of_getElem? (i := 22) rfl)) rfl
theorem flX5_20 : Cond.fieldLink RX5 20 RX5 (TX5 3).2.1 (TX5 3).2.2.1 ∈ tb_G := tb_in (tb_2 (List.mem_of_getElem? (i := 28) rfl)) rfl
theorem flX5_24 : Cond.fieldLink RX5 24 RX5 (TX5 4).2.1 (TX5 4).2.2.1 ∈ tb_G := tb_in (tb_2 (List.mem_of_getElem? (i := 29) rfl)) rfl
theorem flX5_28 : Cond.fieldLink RX5 28 RX5 (TX5 1).2.1 (TX5 1).2.2.1 ∈ tb_G := tb_in (tb_2 (List.mem_of_getElem? (i := 24) rfl)) rfl
theorem flX5_31 : Cond.fieldLink RX5 31 RX5 (TX5 2).2.1 (TX5 2).2.2.1 ∈ tb_G := tb_in (tb_2 (List.mem_of_getElem? (i := 26) rfl)) rfl
theorem flX6_106 : Cond.fieldLink RX6 106 RX6 (TX6 3).2.1 (TX6 3).2.2.1 ∈ tb_G := tb_in (tb_1 (List.mem_of_getElem? (i := 148) rfl)) rfl
theorem flX6_14 : Cond.fieldLink RX6 14 RX6 (TX6 0).2.1 (TX6 0).2.2.1 ∈ tb_G := tb_in (tb_1 (List.mem_of_getElem? (i := 145) rfl)) rfl
theorem flX6_18 : Cond.fieldLink RX6 18 RX6 (TX6 1).2.1 (TX6 1).2.2.1 ∈ tb_G := tb_in (tb_1 (List.mem_of_getElem? (i := 146) rfl)) rfl
theorem flX6_23 : Cond.fieldLink RX6 23 RX6 (TX6 2).2.1 (TX6 2).2.2.1 ∈ tb_G := tb_in (tb_1 (List.mem_of_getElem? (i := 147) rfl)) rfl
theorem flX6_257 : Cond.fieldLink RX6 257 RX6 (TX6 13).2.1 (TX6 13).2.2.1 ∈ tb_G := tb_in (tb_1 (List.mem_of_getElem? (i := 158) rfl)) rfl
theorem flX6_287 : Cond.fieldLink RX6 287 RX6 (TX6 5).2.1 (TX6 5).2.2.1 ∈ tb_G := tb_in (tb_1 (List.mem_of_getElem? (i := 150) rfl)) rfl
theorem flX6_29 : Cond.fieldLink RX6 29 RX6 (TX6 4).2.1 (TX6 4).2.2.1 ∈ tb_G := tb_in (tb_1 (List.mem_of_getElem? (i := 149) rfl)) rfl
theorem flX6_33 : Cond.fieldLink RX6 33 RX6 (TX6 6).2.1 (TX6 6).2.2.1 ∈ tb_G := tb_in (tb_1 (List.mem_of_getElem? (i := 151) rfl)) rfl
theorem flX6_40 : Cond.fieldLink RX6 40 RX6 (TX6 7).2.1 (TX6 7).2.2.1 ∈ tb_G := tb_in (tb_1 (List.mem_of_getElem? (i := 152) rfl)) rfl
theorem flX6_47 : Cond.fieldLink RX6 47 RX6 (TX6 8).2.1 (TX6 8).2.2.1 ∈ tb_G := tb_in (tb_1 (List.mem_of_getElem? (i := 153) rfl)) rfl
theorem flX6_51 : Cond.fieldLink RX6 51 RX6 (TX6 9).2.1 (TX6 9).2.2.1 ∈ tb_G := tb_in (tb_1 (List.mem_of_getElem? (i := 154) rfl)) rfl
theorem flX6_54 : Cond.fieldLink RX6 54 RX6 (TX6 10).2.1 (TX6 10).2.2.1 ∈ tb_G := tb_in (tb_1 (List.mem_of_getElem? (i := 155) rfl)) rfl
theorem flX6_60 : Cond.fieldLink RX6 60 RX6 (TX6 11).2.1 (TX6 11).2.2.1 ∈ tb_G := tb_in (tb_1 (List.mem_of_getElem? (i := 156) rfl)) rfl
theorem flX6_67 : Cond.fieldLink RX6 67 RX6 (TX6 12).2.1 (TX6 12).2.2.1 ∈ tb_G := tb_in (tb_1 (List.mem_of_getElem? (i := 157) rfl)) rfl
theorem flX7_105 : Cond.fieldLink RX7 105 RX7 (TX7 8).2.1 (TX7 8).2.2.1 ∈ tb_G := tb_in (tb_4 (List.mem_of_getElem? (i := 158) rfl)) rfl
theorem flX7_108 : Cond.fieldLink RX7 108 RX7 (TX7 0).2.1 (TX7 0).2.2.1 ∈ tb_G := tb_in (tb_4 (List.mem_of_getElem? (i := 150) rfl)) rfl
theorem flX7_119 : Cond.fieldLink RX7 119 RX7 (TX7 16).2.1 (TX7 16).2.2.1 ∈ tb_G := tb_in (tb_4 (List.mem_of_getElem? (i := 166) rfl)) rfl
theorem flX7_122 : Cond.fieldLink RX7 122 RX7 (TX7 20).2.1 (TX7 20).2.2.1 ∈ tb_G := tb_in (tb_4 (List.mem_of_getElem? (i := 170) rfl)) rfl
theorem flX7_125 : Cond.fieldLink RX7 125 RX7 (TX7 22).2.1 (TX7 22).2.2.1 ∈ tb_G := tb_in (tb_4 (List.mem_of_getElem? (i := 172) rfl)) rfl
theorem flX7_13 : Cond.fieldLink RX7 13 RX7 (TX7 3).2.1 (TX7 3).2.2.1 ∈ tb_G := tb_in (tb_4 (List.mem_of_getElem? (i := 153) rfl)) rfl
theorem flX7_131 : Cond.fieldLink RX7 131 RX7 (TX7 26).2.1 (TX7 26).2.2.1 ∈ tb_G := tb_in (tb_4 (List.mem_of_getElem? (i := 176) rfl)) rfl
theorem flX7_16 : Cond.fieldLink RX7 16 RX7 (TX7 4).2.1 (TX7 4).2.2.1 ∈ tb_G := tb_in (tb_4 (List.mem_of_getElem? (i := 154) rfl)) rfl
theorem flX7_178 : Cond.fieldLink RX7 178 RX7 (TX7 27).2.1 (TX7 27).2.2.1 ∈ tb_G := tb_in (tb_4 (List.mem_of_getElem? (i := 177) rfl)) rfl
theorem flX7_19 : Cond.fieldLink RX7 19 RX7 (TX7 5).2.1 (TX7 5).2.2.1 ∈ tb_G := tb_in (tb_4 (List.mem_of_getElem? (i := 155) rfl)) rfl
theorem flX7_22 : Cond.fieldLink RX7 22 RX7 (TX7 6).2.1 (TX7 6).2.2.1 ∈ tb_G := tb_in (tb_4 (List.mem_of_getElem? (i := 156) rfl)) rfl
theorem flX7_233 : Cond.fieldLink RX7 233 RX7 (TX7 33).2.1 (TX7 33).2.2.1 ∈ tb_G := tb_in (tb_4 (List.mem_of_getElem? (i := 183) rfl)) rfl
theorem flX7_25 : Cond.fieldLink RX7 25 RX7 (TX7 7).2.1 (TX7 7).2.2.1 ∈ tb_G := tb_in (tb_4 (List.mem_of_getElem? (i := 157) rfl)) rfl
theorem flX7_263 : Cond.fieldLink RX7 263 RX7 (TX7 41).2.1 (TX7 41).2.2.1 ∈ tb_G := tb_in (tb_4 (List.mem_of_getElem? (i := 191) rfl)) rfl
theorem flX7_276 : Cond.fieldLink RX7 276 RX7 (TX7 39).2.1 (TX7 39).2.2.1 ∈ tb_G := tb_in (tb_4 (List.mem_of_getElem? (i := 189) rfl)) rfl
theorem flX7_279 : Cond.fieldLink RX7 279 RX7 (TX7 40).2.1 (TX7 40).2.2.1 ∈ tb_G := tb_in (tb_4 (List.mem_of_getElem? (i := 190) rfl)) rfl
theorem flX7_28 : Cond.fieldLink RX7 28 RX7 (TX7 9).2.1 (TX7 9).2.2.1 ∈ tb_G := tb_in (tb_4 (List.mem_of_getElem? (i := 159) rfl)) rfl
theorem flX7_286 : Cond.fieldLink RX7 286 RX7 (TX7 15).2.1 (TX7 15).2.2.1 ∈ tb_G := tb_in (tb_4 (List.mem_of_getElem? (i := 165) rfl)) rfl
theorem flX7_309 : Cond.fieldLink RX7 309 RX7 (TX7 42).2.1 (TX7 42).2.2.1 ∈ tb_G := tb_in (tb_4 (List.mem_of_getElem? (i := 192) rfl)) rfl
theorem flX7_31 : Cond.fieldLink RX7 31 RX7 (TX7 10).2.1 (TX7 10).2.2.1 ∈ tb_G := tb_in (tb_4 (List.mem_of_getElem? (i := 160) rfl)) rfl
theorem flX7_34 : Cond.fieldLink RX7 34 RX7 (TX7 11).2.1 (TX7 11).2.2.1 ∈ tb_G := tb_in (tb_4 (List.mem_of_getElem? (i := 161) rfl)) rfl
theorem flX7_37 : Cond.fieldLink RX7 37 RX7 (TX7 12).2.1 (TX7 12).2.2.1 ∈ tb_G := tb_in (tb_4 (List.mem_of_getElem? (i := 162) rfl)) rfl
theorem flX7_40 : Cond.fieldLink RX7 40 RX7 (TX7 13).2.1 (TX7 13).2.2.1 ∈ tb_G := tb_in (tb_4 (List.mem_of_getElem? (i := 163) rfl)) rfl
theorem flX7_43 : Cond.fieldLink RX7 43 RX7 (TX7 14).2.1 (TX7 14).2.2.1 ∈ tb_G := tb_in (tb_4 (List.mem_of_getElem? (i := 164) rfl)) rfl
theorem flX7_46 : Cond.fieldLink RX7 46 RX7 (TX7 17).2.1 (TX7 17).2.2.1 ∈ tb_G := tb_in (tb_4 (List.mem_of_getElem? (i := 167) rfl)) rfl
theorem flX7_49 : Cond.fieldLink RX7 49 RX7 (TX7 18).2.1 (TX7 18).2.2.1 ∈ tb_G := tb_in (tb_4 (List.mem_of_getElem? (i := 168) rfl)) rfl
theorem flX7_52 : Cond.fieldLink RX7 52 RX7 (TX7 19).2.1 (TX7 19).2.2.1 ∈ tb_G := tb_in (tb_4 (List.mem_of_getElem? (i := 169) rfl)) rfl
theorem flX7_55 : Cond.fieldLink RX7 55 RX7 (TX7 21).2.1 (TX7 21).2.2.1 ∈ tb_G := tb_in (tb_4 (List.mem_of_getElem? (i := 171) rfl)) rfl
theorem flX7_58 : Cond.fieldLink RX7 58 RX7 (TX7 23).2.1 (TX7 23).2.2.1 ∈ tb_G := tb_in (tb_4 (List.mem_of_getElem? (i := 173) rfl)) rfl
theorem flX7_61 : Cond.fieldLink RX7 61 RX7 (TX7 24).2.1 (TX7 24).2.2.1 ∈ tb_G := tb_in (tb_4 (List.mem_of_getElem? (i := 174) rfl)) rfl
theorem flX7_64 : Cond.fieldLink RX7 64 RX7 (TX7 25).2.1 (TX7 25).2.2.1 ∈ tb_G := tb_in (tb_4 (List.mem_of_getElem? (i := 175) rfl)) rfl
theorem flX7_67 : Cond.fieldLink RX7 67 RX7 (TX7 28).2.1 (TX7 28).2.2.1 ∈ tb_G := tb_in (tb_4 (List.mem_of_getElem? (i := 178) rfl)) rfl
theorem flX7_7 : Cond.fieldLink RX7 7 RX7 (TX7 1).2.1 (TX7 1).2.2.1 ∈ tb_G := tb_in (tb_4 (List.mem_of_getElem? (i := 151) rfl)) rfl
theorem flX7_70 : Cond.fieldLink RX7 70 RX7 (TX7 29).2.1 (TX7 29).2.2.1 ∈ tb_G := tb_in (tb_4 (List.mem_of_getElem? (i := 179) rfl)) rfl
theorem flX7_73 : Cond.fieldLink RX7 73 RX7 (TX7 30).2.1 (TX7 30).2.2.1 ∈ tb_G := tb_in (tb_4 (List.mem_of_getElem? (i := 180) rfl)) rfl
theorem flX7_76 : Cond.fieldLink RX7 76 RX7 (TX7 31).2.1 (TX7 31).2.2.1 ∈ tb_G := tb_in (tb_4 (List.mem_of_getElem? (i := 181) rfl)) rfl
theorem flX7_79 : Cond.fieldLink RX7 79 RX7 (TX7 32).2.1 (TX7 32).2.2.1 ∈ tb_G := tb_in (tb_4 (List.mem_of_getElem? (i := 182) rfl)) rfl
theorem flX7_82 : Cond.fieldLink RX7 82 RX7 (TX7 34).2.1 (TX7 34).2.2.1 ∈ tb_G := tb_in (tb_4 (List.mem_of_getElem? (i := 184) rfl)) rfl
theorem flX7_85 : Cond.fieldLink RX7 85 RX7 (TX7 35).2.1 (TX7 35).2.2.1 ∈ tb_G := tb_in (tb_4 (List.mem_of_getElem? (i := 185) rfl)) rfl
theorem flX7_88 : Cond.fieldLink RX7 88 RX7 (TX7 36).2.1 (TX7 36).2.2.1 ∈ tb_G := tb_in (tb_4 (List.mem_of_getElem? (i := 186) rfl)) rfl
theorem flX7_91 : Cond.fieldLink RX7 91 RX7 (TX7 37).2.1 (TX7 37).2.2.1 ∈ tb_G := tb_in (tb_4 (List.mem_of_getElem? (i := 187) rfl)) rfl
theorem flX7_94 : Cond.fieldLink RX7 94 RX7 (TX7 38).2.1 (TX7 38).2.2.1 ∈ tb_G := tb_in (tb_4 (List.mem_of_getElem? (i := 188) rfl)) rfl
theorem flX7_97 : Cond.fieldLink RX7 97 RX7 (TX7 2).2.1 (TX7 2).2.2.1 ∈ tb_G := tb_in (tb_4 (List.mem_of_getElem? (i := 152) rfl)) rfl
theorem flX6_118 : (RX6, 118, RX5, (TX5 1).2.1, (TX5 1).2.2.1, "KeptVersions") ∈ kn_nF := by decide +kernel
theorem flX6_121 : (RX6, 121, RX5, (TX5 2).2.1, (TX5 2).2.2.1, "KeptVersions") ∈ kn_nF := by decide +kernel
theorem flX6_124 : (RX6, 124, RX5, (TX5 4).2.1, (TX5 4).2.2.1, "KeptVersions") ∈ kn_nF := by decide +kernel
theorem flX6_96 : (RX6, 96, RX5, (TX5 0).2.1, (TX5 0).2.2.1, "KeptVersions") ∈ kn_nF := by decide +kernel
theorem mlX0_100 : Cond.methodLink RX0 100 yX0_addTaken ∈ tb_G := tb_in (tb_3 (List.mem_of_getElem? (i := 131) rfl)) rfl
theorem mlX0_104 : Cond.methodLink RX0 104 yX3_addGoingOf ∈ tb_G := tb_in (tb_3 (List.mem_of_getElem? (i := 135) rfl)) rfl
theorem mlX0_108 : Cond.methodLink RX0 108 yX0_addBrought ∈ tb_G := tb_in (tb_3 (List.mem_of_getElem? (i := 143) rfl)) rfl
theorem mlX0_111 : Cond.methodLink RX0 111 yX3_addComingOf ∈ tb_G := tb_in (tb_3 (List.mem_of_getElem? (i := 151) rfl)) rfl
theorem mlX0_114 : Cond.methodLink RX0 114 yX3_addGoing ∈ tb_G := tb_in (tb_3 (List.mem_of_getElem? (i := 134) rfl)) rfl
theorem mlX0_117 : Cond.methodLink RX0 117 yX3_comingAt ∈ tb_G := tb_in (tb_3 (List.mem_of_getElem? (i := 146) rfl)) rfl
theorem mlX0_120 : Cond.methodLink RX0 120 yX3_addComing ∈ tb_G := tb_in (tb_3 (List.mem_of_getElem? (i := 150) rfl)) rfl
theorem mlX0_15 : Cond.methodLink RX0 15 yX3_coming ∈ tb_G := tb_in (tb_3 (List.mem_of_getElem? (i := 102) rfl)) rfl
theorem mlX0_19 : Cond.methodLink RX0 19 yX3_beginsBehind ∈ tb_G := tb_in (tb_3 (List.mem_of_getElem? (i := 103) rfl)) rfl
theorem mlX0_22 : Cond.methodLink RX0 22 yX3_goingAt ∈ tb_G := tb_in (tb_3 (List.mem_of_getElem? (i := 104) rfl)) rfl
theorem mlX0_25 : Cond.methodLink RX0 25 yX3_comingLine ∈ tb_G := tb_in (tb_3 (List.mem_of_getElem? (i := 108) rfl)) rfl
theorem mlX0_29 : Cond.methodLink RX0 29 yX3_endsBehind ∈ tb_G := tb_in (tb_3 (List.mem_of_getElem? (i := 119) rfl)) rfl
theorem mlX0_3 : Cond.methodLink RX0 3 Lib.objectInit ∈ tb_G := tb_in (tb_1 (List.mem_of_getElem? (i := 82) rfl)) rfl
theorem mlX0_32 : Cond.methodLink RX0 32 yX3_touches ∈ tb_G := tb_in (tb_3 (List.mem_of_getElem? (i := 181) rfl)) rfl
theorem mlX0_36 : Cond.methodLink RX0 36 yX3_clear ∈ tb_G := tb_in (tb_3 (List.mem_of_getElem? (i := 113) rfl)) rfl
theorem mlX0_48 : Cond.methodLink RX0 48 yX0_gather ∈ tb_G := tb_in (tb_3 (List.mem_of_getElem? (i := 114) rfl)) rfl
theorem mlX0_58 : Cond.methodLink RX0 58 yX3_shiftBefore ∈ tb_G := tb_in (tb_3 (List.mem_of_getElem? (i := 125) rfl)) rfl
theorem mlX0_61 : Cond.methodLink RX0 61 yX3_begin ∈ tb_G := tb_in (tb_3 (List.mem_of_getElem? (i := 126) rfl)) rfl
theorem mlX0_65 : Cond.methodLink RX0 65 yX0_writeGoing ∈ tb_G := tb_in (tb_3 (List.mem_of_getElem? (i := 127) rfl)) rfl
theorem mlX0_69 : Cond.methodLink RX0 69 yX0_writeComing ∈ tb_G := tb_in (tb_3 (List.mem_of_getElem? (i := 139) rfl)) rfl
theorem mlX0_72 : Cond.methodLink RX0 72 yX3_lastIsIdle ∈ tb_G := tb_in (tb_3 (List.mem_of_getElem? (i := 155) rfl)) rfl
theorem mlX0_76 : Cond.methodLink RX0 76 yX3_leaveOutLast ∈ tb_G := tb_in (tb_3 (List.mem_of_getElem? (i := 159) rfl)) rfl
theorem mlX0_79 : Cond.methodLink RX0 79 yX3_begins ∈ tb_G := tb_in (tb_3 (List.mem_of_getElem? (i := 118) rfl)) rfl
theorem mlX0_82 : Cond.methodLink RX0 82 yX3_addHunk ∈ tb_G := tb_in (tb_3 (List.mem_of_getElem? (i := 189) rfl)) rfl
theorem mlX0_9 : Cond.methodLink RX0 9 yX3_hunks ∈ tb_G := tb_in (tb_3 (List.mem_of_getElem? (i := 101) rfl)) rfl
theorem mlX0_92 : Cond.methodLink RX0 92 Lib.Math.max.name ∈ tb_G := tb_in (tb_3 (List.mem_of_getElem? (i := 123) rfl)) rfl
theorem mlX0_97 : Cond.methodLink RX0 97 yX3_ends ∈ tb_G := tb_in (tb_3 (List.mem_of_getElem? (i := 124) rfl)) rfl
theorem mlX1_18 : Cond.methodLink RX1 18 yX4_size ∈ tb_G := tb_in (tb_2 (List.mem_of_getElem? (i := 54) rfl)) rfl
theorem mlX1_24 : Cond.methodLink RX1 24 yX1_reckonMost ∈ tb_G := tb_in (tb_2 (List.mem_of_getElem? (i := 55) rfl)) rfl
theorem mlX1_28 : Cond.methodLink RX1 28 yX1_setMost ∈ tb_G := tb_in (tb_2 (List.mem_of_getElem? (i := 65) rfl)) rfl
theorem mlX1_3 : Cond.methodLink RX1 3 Lib.objectInit ∈ tb_G := tb_in (tb_1 (List.mem_of_getElem? (i := 44) rfl)) rfl
theorem mlX1_32 : Cond.methodLink RX1 32 yX1_trace ∈ tb_G := tb_in (tb_2 (List.mem_of_getElem? (i := 69) rfl)) rfl
theorem mlX1_36 : Cond.methodLink RX1 36 yX3_clear ∈ tb_G := tb_in (tb_2 (List.mem_of_getElem? (i := 81) rfl)) rfl
theorem mlX1_41 : Cond.methodLink RX1 41 yX1_mate ∈ tb_G := tb_in (tb_2 (List.mem_of_getElem? (i := 85) rfl)) rfl
theorem mlX1_45 : Cond.methodLink RX1 45 yX3_begin ∈ tb_G := tb_in (tb_2 (List.mem_of_getElem? (i := 89) rfl)) rfl
theorem mlX1_49 : Cond.methodLink RX1 49 yX3_addGoingPart ∈ tb_G := tb_in (tb_2 (List.mem_of_getElem? (i := 93) rfl)) rfl
theorem mlX1_53 : Cond.methodLink RX1 53 yX3_addComingPart ∈ tb_G := tb_in (tb_2 (List.mem_of_getElem? (i := 106) rfl)) rfl
theorem mlX1_56 : Cond.methodLink RX1 56 yX4_at ∈ tb_G := tb_in (tb_2 (List.mem_of_getElem? (i := 59) rfl)) rfl
theorem mlX1_59 : Cond.methodLink RX1 59 yX1_mostFrom ∈ tb_G := tb_in (tb_2 (List.mem_of_getElem? (i := 60) rfl)) rfl
theorem mlX1_63 : Cond.methodLink RX1 63 Lib.Math.max.name ∈ tb_G := tb_in (tb_2 (List.mem_of_getElem? (i := 64) rfl)) rfl
theorem mlX1_68 : Cond.methodLink RX1 68 yX1_setMate ∈ tb_G := tb_in (tb_2 (List.mem_of_getElem? (i := 73) rfl)) rfl
theorem mlX2_100 : Cond.methodLink RX2 100 yX2_leadsTo ∈ tb_G := tb_in (tb_4 (List.mem_of_getElem? (i := 58) rfl)) rfl
theorem mlX2_103 : Cond.methodLink RX2 103 yX2_isLess ∈ tb_G := tb_in (tb_4 (List.mem_of_getElem? (i := 50) rfl)) rfl
theorem mlX2_3 : Cond.methodLink RX2 3 Lib.objectInit ∈ tb_G := tb_in (tb_1 (List.mem_of_getElem? (i := 107) rfl)) rfl
theorem mlX2_33 : Cond.methodLink RX2 33 Lib.Math.min.name ∈ tb_G := tb_in (tb_4 (List.mem_of_getElem? (i := 10) rfl)) rfl
theorem mlX2_39 : Cond.methodLink RX2 39 Lib.Math.max.name ∈ tb_G := tb_in (tb_4 (List.mem_of_getElem? (i := 13) rfl)) rfl
theorem mlX2_59 : Cond.methodLink RX2 59 yX2_reckonLeastFrom ∈ tb_G := tb_in (tb_4 (List.mem_of_getElem? (i := 30) rfl)) rfl
theorem mlX2_62 : Cond.methodLink RX2 62 yX2_tryFrom ∈ tb_G := tb_in (tb_4 (List.mem_of_getElem? (i := 38) rfl)) rfl
theorem mlX2_66 : Cond.methodLink RX2 66 yX2_remadeBy ∈ tb_G := tb_in (tb_4 (List.mem_of_getElem? (i := 46) rfl)) rfl
theorem mlX2_70 : Cond.methodLink RX2 70 yX2_isRemadeBy ∈ tb_G := tb_in (tb_4 (List.mem_of_getElem? (i := 90) rfl)) rfl
theorem mlX2_74 : Cond.methodLink RX2 74 yX2_lostWith ∈ tb_G := tb_in (tb_4 (List.mem_of_getElem? (i := 86) rfl)) rfl
theorem mlX2_78 : Cond.methodLink RX2 78 yX2_worstPiece ∈ tb_G := tb_in (tb_4 (List.mem_of_getElem? (i := 115) rfl)) rfl
theorem mlX2_81 : Cond.methodLink RX2 81 yX2_bestPieceRoom ∈ tb_G := tb_in (tb_4 (List.mem_of_getElem? (i := 103) rfl)) rfl
theorem mlX2_84 : Cond.methodLink RX2 84 yX2_isBetterCopy ∈ tb_G := tb_in (tb_4 (List.mem_of_getElem? (i := 107) rfl)) rfl
theorem mlX2_87 : Cond.methodLink RX2 87 yX2_worstLossBut ∈ tb_G := tb_in (tb_4 (List.mem_of_getElem? (i := 111) rfl)) rfl
theorem mlX2_90 : Cond.methodLink RX2 90 yX2_pieceRoom ∈ tb_G := tb_in (tb_4 (List.mem_of_getElem? (i := 34) rfl)) rfl
theorem mlX2_93 : Cond.methodLink RX2 93 yX2_takeIfLess ∈ tb_G := tb_in (tb_4 (List.mem_of_getElem? (i := 42) rfl)) rfl
theorem mlX2_97 : Cond.methodLink RX2 97 yX2_remadeAtLeast ∈ tb_G := tb_in (tb_4 (List.mem_of_getElem? (i := 54) rfl)) rfl
theorem mlX3_100 : Cond.methodLink RX3 100 yX3_addHunk ∈ tb_G := tb_in (tb_3 (List.mem_of_getElem? (i := 167) rfl)) rfl
theorem mlX3_104 : Cond.methodLink RX3 104 yX3_isAlike ∈ tb_G := tb_in (tb_3 (List.mem_of_getElem? (i := 212) rfl)) rfl
theorem mlX3_108 : Cond.methodLink RX3 108 yX3_standsAt ∈ tb_G := tb_in (tb_3 (List.mem_of_getElem? (i := 31) rfl)) rfl
theorem mlX3_112 : Cond.methodLink RX3 112 yX4_clear ∈ tb_G := tb_in (tb_3 (List.mem_of_getElem? (i := 45) rfl)) rfl
theorem mlX3_113 : Cond.methodLink RX3 113 yX4_addPart ∈ tb_G := tb_in (tb_3 (List.mem_of_getElem? (i := 46) rfl)) rfl
theorem mlX3_117 : Cond.methodLink RX3 117 yX4_add ∈ tb_G := tb_in (tb_3 (List.mem_of_getElem? (i := 48) rfl)) rfl
theorem mlX3_120 : Cond.methodLink RX3 120 yX4_size ∈ tb_G := tb_in (tb_3 (List.mem_of_getElem? (i := 35) rfl)) rfl
theorem mlX3_123 : Cond.methodLink RX3 123 yX3_nearestPlace ∈ tb_G := tb_in (tb_3 (List.mem_of_getElem? (i := 61) rfl)) rfl
theorem mlX3_127 : Cond.methodLink RX3 127 yX3_replace ∈ tb_G := tb_in (tb_3 (List.mem_of_getElem? (i := 68) rfl)) rfl
theorem mlX3_130 : Cond.methodLink RX3 130 Lib.Math.abs.name ∈ tb_G := tb_in (tb_3 (List.mem_of_getElem? (i := 65) rfl)) rfl
theorem mlX3_133 : Cond.methodLink RX3 133 yX4_remove ∈ tb_G := tb_in (tb_3 (List.mem_of_getElem? (i := 72) rfl)) rfl
theorem mlX3_136 : Cond.methodLink RX3 136 yX4_insert ∈ tb_G := tb_in (tb_3 (List.mem_of_getElem? (i := 73) rfl)) rfl
theorem mlX3_3 : Cond.methodLink RX3 3 Lib.objectInit ∈ tb_G := tb_in (tb_1 (List.mem_of_getElem? (i := 56) rfl)) rfl
theorem mlX3_37 : Cond.methodLink RX3 37 yX3_start ∈ tb_G := tb_in (tb_2 (List.mem_of_getElem? (i := 122) rfl)) rfl
theorem mlX3_41 : Cond.methodLink RX3 41 yX3_allComing ∈ tb_G := tb_in (tb_2 (List.mem_of_getElem? (i := 118) rfl)) rfl
theorem mlX3_45 : Cond.methodLink RX3 45 yX3_begins ∈ tb_G := tb_in (tb_2 (List.mem_of_getElem? (i := 226) rfl)) rfl
theorem mlX3_48 : Cond.methodLink RX3 48 yX3_going ∈ tb_G := tb_in (tb_2 (List.mem_of_getElem? (i := 230) rfl)) rfl
theorem mlX3_51 : Cond.methodLink RX3 51 yX3_coming ∈ tb_G := tb_in (tb_3 (List.mem_of_getElem? (i := 22) rfl)) rfl
theorem mlX3_54 : Cond.methodLink RX3 54 yX3_shiftBefore ∈ tb_G := tb_in (tb_3 (List.mem_of_getElem? (i := 88) rfl)) rfl
theorem mlX3_57 : Cond.methodLink RX3 57 yX3_beginsBehind ∈ tb_G := tb_in (tb_3 (List.mem_of_getElem? (i := 84) rfl)) rfl
theorem mlX3_60 : Cond.methodLink RX3 60 yX3_ends ∈ tb_G := tb_in (tb_2 (List.mem_of_getElem? (i := 222) rfl)) rfl
theorem mlX3_63 : Cond.methodLink RX3 63 yX3_addLine ∈ tb_G := tb_in (tb_2 (List.mem_of_getElem? (i := 102) rfl)) rfl
theorem mlX3_67 : Cond.methodLink RX3 67 yX4_at ∈ tb_G := tb_in (tb_2 (List.mem_of_getElem? (i := 97) rfl)) rfl
theorem mlX3_72 : Cond.methodLink RX3 72 yX3_addGoing ∈ tb_G := tb_in (tb_2 (List.mem_of_getElem? (i := 98) rfl)) rfl
theorem mlX3_76 : Cond.methodLink RX3 76 yX3_addComing ∈ tb_G := tb_in (tb_2 (List.mem_of_getElem? (i := 110) rfl)) rfl
theorem mlX3_79 : Cond.methodLink RX3 79 yX3_begin ∈ tb_G := tb_in (tb_3 (List.mem_of_getElem? (i := 92) rfl)) rfl
theorem mlX3_82 : Cond.methodLink RX3 82 yX3_addGoingOf ∈ tb_G := tb_in (tb_3 (List.mem_of_getElem? (i := 171) rfl)) rfl
theorem mlX3_86 : Cond.methodLink RX3 86 yX3_addComingOf ∈ tb_G := tb_in (tb_3 (List.mem_of_getElem? (i := 172) rfl)) rfl
theorem mlX3_89 : Cond.methodLink RX3 89 yX3_goingLine ∈ tb_G := tb_in (tb_3 (List.mem_of_getElem? (i := 36) rfl)) rfl
theorem mlX3_9 : Cond.methodLink RX3 9 Lib.Math.max.name ∈ tb_G := tb_in (tb_1 (List.mem_of_getElem? (i := 57) rfl)) rfl
theorem mlX3_92 : Cond.methodLink RX3 92 yX3_comingLine ∈ tb_G := tb_in (tb_3 (List.mem_of_getElem? (i := 47) rfl)) rfl
theorem mlX3_95 : Cond.methodLink RX3 95 yX3_clear ∈ tb_G := tb_in (tb_3 (List.mem_of_getElem? (i := 82) rfl)) rfl
theorem mlX3_98 : Cond.methodLink RX3 98 yX3_hunks ∈ tb_G := tb_in (tb_3 (List.mem_of_getElem? (i := 83) rfl)) rfl
theorem mlX4_25 : Cond.methodLink RX4 25 yX4_insert ∈ tb_G := tb_in (tb_2 (List.mem_of_getElem? (i := 2) rfl)) rfl
theorem mlX4_29 : Cond.methodLink RX4 29 yX4_clear ∈ tb_G := tb_in (tb_1 (List.mem_of_getElem? (i := 231) rfl)) rfl
theorem mlX4_3 : Cond.methodLink RX4 3 Lib.objectInit ∈ tb_G := tb_in (tb_1 (List.mem_of_getElem? (i := 23) rfl)) rfl
theorem mlX4_32 : Cond.methodLink RX4 32 yX4_size ∈ tb_G := tb_in (tb_1 (List.mem_of_getElem? (i := 232) rfl)) rfl
theorem mlX4_35 : Cond.methodLink RX4 35 yX4_addPart ∈ tb_G := tb_in (tb_1 (List.mem_of_getElem? (i := 233) rfl)) rfl
theorem mlX4_39 : Cond.methodLink RX4 39 yX4_at ∈ tb_G := tb_in (tb_1 (List.mem_of_getElem? (i := 237) rfl)) rfl
theorem mlX4_43 : Cond.methodLink RX4 43 yX4_add ∈ tb_G := tb_in (tb_1 (List.mem_of_getElem? (i := 238) rfl)) rfl
theorem mlX4_9 : Cond.methodLink RX4 9 Lib.Math.max.name ∈ tb_G := tb_in (tb_1 (List.mem_of_getElem? (i := 24) rfl)) rfl
theorem mlX5_11 : Cond.methodLink RX5 11 yX4_init ∈ tb_G := tb_in (tb_2 (List.mem_of_getElem? (i := 21) rfl)) rfl
theorem mlX5_3 : Cond.methodLink RX5 3 Lib.objectInit ∈ tb_G := tb_in (tb_2 (List.mem_of_getElem? (i := 19) rfl)) rfl
theorem mlX5_34 : Cond.methodLink RX5 34 yX4_size ∈ tb_G := tb_in (tb_2 (List.mem_of_getElem? (i := 137) rfl)) rfl
theorem mlX5_38 : Cond.methodLink RX5 38 yX5_setBringer ∈ tb_G := tb_in (tb_2 (List.mem_of_getElem? (i := 138) rfl)) rfl
theorem mlX6_1 : Cond.methodLink RX6 1 Lib.objectInit ∈ tb_G := tb_in (tb_1 (List.mem_of_getElem? (i := 15) rfl)) rfl
theorem mlX6_103 : Cond.methodLink RX6 103 yX6_isVersionOrNone ∈ tb_G := tb_in (tb_2 (List.mem_of_getElem? (i := 11) rfl)) rfl
theorem mlX6_11 : Cond.methodLink RX6 11 yX4_init ∈ tb_G := tb_in (tb_1 (List.mem_of_getElem? (i := 20) rfl)) rfl
theorem mlX6_110 : Cond.methodLink RX6 110 yX5_init ∈ tb_G := tb_in (tb_2 (List.mem_of_getElem? (i := 16) rfl)) rfl
theorem mlX6_111 : Cond.methodLink RX6 111 yX6_reckonRooms ∈ tb_G := tb_in (tb_2 (List.mem_of_getElem? (i := 42) rfl)) rfl
theorem mlX6_114 : Cond.methodLink RX6 114 yX6_leadBack ∈ tb_G := tb_in (tb_2 (List.mem_of_getElem? (i := 129) rfl)) rfl
theorem mlX6_127 : Cond.methodLink RX6 127 yX4_room ∈ tb_G := tb_in (tb_2 (List.mem_of_getElem? (i := 160) rfl)) rfl
theorem mlX6_130 : Cond.methodLink RX6 130 yX6_writeDifference ∈ tb_G := tb_in (tb_2 (List.mem_of_getElem? (i := 46) rfl)) rfl
theorem mlX6_134 : Cond.methodLink RX6 134 yX3_allGoing ∈ tb_G := tb_in (tb_2 (List.mem_of_getElem? (i := 172) rfl)) rfl
theorem mlX6_137 : Cond.methodLink RX6 137 yX6_tellPatch ∈ tb_G := tb_in (tb_2 (List.mem_of_getElem? (i := 176) rfl)) rfl
theorem mlX6_141 : Cond.methodLink RX6 141 yX1_find ∈ tb_G := tb_in (tb_2 (List.mem_of_getElem? (i := 50) rfl)) rfl
theorem mlX6_145 : Cond.methodLink RX6 145 yX1_mate ∈ tb_G := tb_in (tb_2 (List.mem_of_getElem? (i := 146) rfl)) rfl
theorem mlX6_148 : Cond.methodLink RX6 148 yX6_hasRoomForPatches ∈ tb_G := tb_in (tb_2 (List.mem_of_getElem? (i := 192) rfl)) rfl
theorem mlX6_151 : Cond.methodLink RX6 151 yX6_newPatch ∈ tb_G := tb_in (tb_2 (List.mem_of_getElem? (i := 196) rfl)) rfl
theorem mlX6_155 : Cond.methodLink RX6 155 yX6_addPatch ∈ tb_G := tb_in (tb_2 (List.mem_of_getElem? (i := 199) rfl)) rfl
theorem mlX6_159 : Cond.methodLink RX6 159 yX6_patchOrNull ∈ tb_G := tb_in (tb_2 (List.mem_of_getElem? (i := 211) rfl)) rfl
theorem mlX6_163 : Cond.methodLink RX6 163 yX6_isHunk ∈ tb_G := tb_in (tb_2 (List.mem_of_getElem? (i := 215) rfl)) rfl
theorem mlX6_167 : Cond.methodLink RX6 167 yX3_mayBeginNext ∈ tb_G := tb_in (tb_2 (List.mem_of_getElem? (i := 218) rfl)) rfl
theorem mlX6_170 : Cond.methodLink RX6 170 yX3_hunks ∈ tb_G := tb_in (tb_2 (List.mem_of_getElem? (i := 179) rfl)) rfl
theorem mlX6_173 : Cond.methodLink RX6 173 yX3_allComing ∈ tb_G := tb_in (tb_2 (List.mem_of_getElem? (i := 183) rfl)) rfl
theorem mlX6_176 : Cond.methodLink RX6 176 yX6_isPatchSize ∈ tb_G := tb_in (tb_2 (List.mem_of_getElem? (i := 234) rfl)) rfl
theorem mlX6_179 : Cond.methodLink RX6 179 yX3_begin ∈ tb_G := tb_in (tb_2 (List.mem_of_getElem? (i := 237) rfl)) rfl
theorem mlX6_182 : Cond.methodLink RX6 182 yX3_addGoing ∈ tb_G := tb_in (tb_2 (List.mem_of_getElem? (i := 238) rfl)) rfl
theorem mlX6_185 : Cond.methodLink RX6 185 yX3_addComing ∈ tb_G := tb_in (tb_2 (List.mem_of_getElem? (i := 239) rfl)) rfl
theorem mlX6_188 : Cond.methodLink RX6 188 yX3_begins ∈ tb_G := tb_in (tb_3 (List.mem_of_getElem? (i := 8) rfl)) rfl
theorem mlX6_191 : Cond.methodLink RX6 191 yX3_going ∈ tb_G := tb_in (tb_3 (List.mem_of_getElem? (i := 9) rfl)) rfl
theorem mlX6_194 : Cond.methodLink RX6 194 yX3_coming ∈ tb_G := tb_in (tb_3 (List.mem_of_getElem? (i := 10) rfl)) rfl
theorem mlX6_197 : Cond.methodLink RX6 197 yX3_goingLine ∈ tb_G := tb_in (tb_3 (List.mem_of_getElem? (i := 14) rfl)) rfl
theorem mlX6_201 : Cond.methodLink RX6 201 yX3_comingLine ∈ tb_G := tb_in (tb_3 (List.mem_of_getElem? (i := 18) rfl)) rfl
theorem mlX6_204 : Cond.methodLink RX6 204 yX3_fitsOn ∈ tb_G := tb_in (tb_3 (List.mem_of_getElem? (i := 27) rfl)) rfl
theorem mlX6_208 : Cond.methodLink RX6 208 yX3_layOn ∈ tb_G := tb_in (tb_3 (List.mem_of_getElem? (i := 41) rfl)) rfl
theorem mlX6_211 : Cond.methodLink RX6 211 yX6_takeTrialToDesk ∈ tb_G := tb_in (tb_3 (List.mem_of_getElem? (i := 49) rfl)) rfl
theorem mlX6_214 : Cond.methodLink RX6 214 yX3_layLooselyOn ∈ tb_G := tb_in (tb_3 (List.mem_of_getElem? (i := 57) rfl)) rfl
theorem mlX6_218 : Cond.methodLink RX6 218 yX3_becomeTurned ∈ tb_G := tb_in (tb_3 (List.mem_of_getElem? (i := 78) rfl)) rfl
theorem mlX6_222 : Cond.methodLink RX6 222 yX0_agree ∈ tb_G := tb_in (tb_3 (List.mem_of_getElem? (i := 97) rfl)) rfl
theorem mlX6_226 : Cond.methodLink RX6 226 yX0_putTogether ∈ tb_G := tb_in (tb_3 (List.mem_of_getElem? (i := 109) rfl)) rfl
theorem mlX6_230 : Cond.methodLink RX6 230 yX3_become ∈ tb_G := tb_in (tb_3 (List.mem_of_getElem? (i := 163) rfl)) rfl
theorem mlX6_232 : Cond.methodLink RX6 232 yX0_anyTouch ∈ tb_G := tb_in (tb_3 (List.mem_of_getElem? (i := 177) rfl)) rfl
theorem mlX6_235 : Cond.methodLink RX6 235 yX0_moveAhead ∈ tb_G := tb_in (tb_3 (List.mem_of_getElem? (i := 185) rfl)) rfl
theorem mlX6_238 : Cond.methodLink RX6 238 yX0_moveBehind ∈ tb_G := tb_in (tb_3 (List.mem_of_getElem? (i := 190) rfl)) rfl
theorem mlX6_241 : Cond.methodLink RX6 241 yX6_writeBothDifferences ∈ tb_G := tb_in (tb_3 (List.mem_of_getElem? (i := 198) rfl)) rfl
theorem mlX6_244 : Cond.methodLink RX6 244 yX6_clashes ∈ tb_G := tb_in (tb_3 (List.mem_of_getElem? (i := 202) rfl)) rfl
theorem mlX6_247 : Cond.methodLink RX6 247 yX6_uniteBothDifferences ∈ tb_G := tb_in (tb_3 (List.mem_of_getElem? (i := 220) rfl)) rfl
theorem mlX6_250 : Cond.methodLink RX6 250 yX5_bringerOf ∈ tb_G := tb_in (tb_2 (List.mem_of_getElem? (i := 147) rfl)) rfl
theorem mlX6_253 : Cond.methodLink RX6 253 yX6_isStore ∈ tb_G := tb_in (tb_3 (List.mem_of_getElem? (i := 238) rfl)) rfl
theorem mlX6_260 : Cond.methodLink RX6 260 yX6_findStore ∈ tb_G := tb_in (tb_4 (List.mem_of_getElem? (i := 2) rfl)) rfl
theorem mlX6_263 : Cond.methodLink RX6 263 yX2_sourceOf ∈ tb_G := tb_in (tb_4 (List.mem_of_getElem? (i := 62) rfl)) rfl
theorem mlX6_266 : Cond.methodLink RX6 266 yX2_remadeFor ∈ tb_G := tb_in (tb_4 (List.mem_of_getElem? (i := 66) rfl)) rfl
theorem mlX6_269 : Cond.methodLink RX6 269 yX2_roomOrNone ∈ tb_G := tb_in (tb_4 (List.mem_of_getElem? (i := 70) rfl)) rfl
theorem mlX6_272 : Cond.methodLink RX6 272 yX2_sumOrNone ∈ tb_G := tb_in (tb_4 (List.mem_of_getElem? (i := 74) rfl)) rfl
theorem mlX6_275 : Cond.methodLink RX6 275 yX2_worstPiece ∈ tb_G := tb_in (tb_4 (List.mem_of_getElem? (i := 82) rfl)) rfl
theorem mlX6_278 : Cond.methodLink RX6 278 yX2_lostWith ∈ tb_G := tb_in (tb_4 (List.mem_of_getElem? (i := 94) rfl)) rfl
theorem mlX6_281 : Cond.methodLink RX6 281 yX2_bestCopy ∈ tb_G := tb_in (tb_4 (List.mem_of_getElem? (i := 99) rfl)) rfl
theorem mlX6_284 : Cond.methodLink RX6 284 yX2_worstLossBut ∈ tb_G := tb_in (tb_4 (List.mem_of_getElem? (i := 116) rfl)) rfl
theorem mlX6_292 : Cond.methodLink RX6 292 yX4_mixInto ∈ tb_G := tb_in (tb_4 (List.mem_of_getElem? (i := 126) rfl)) rfl
theorem mlX6_296 : Cond.methodLink RX6 296 yX6_mixVersion ∈ tb_G := tb_in (tb_4 (List.mem_of_getElem? (i := 134) rfl)) rfl
theorem mlX6_300 : Cond.methodLink RX6 300 yX6_mixPatch ∈ tb_G := tb_in (tb_4 (List.mem_of_getElem? (i := 140) rfl)) rfl
theorem mlX6_304 : Cond.methodLink RX6 304 yX6_differenceRoom ∈ tb_G := tb_in (tb_4 (List.mem_of_getElem? (i := 18) rfl)) rfl
theorem mlX6_307 : Cond.methodLink RX6 307 yX6_mix ∈ tb_G := tb_in (tb_4 (List.mem_of_getElem? (i := 139) rfl)) rfl
theorem mlX6_310 : Cond.methodLink RX6 310 yX6_count ∈ tb_G := tb_in (tb_4 (List.mem_of_getElem? (i := 143) rfl)) rfl
theorem mlX6_313 : Cond.methodLink RX6 313 yX6_about ∈ tb_G := tb_in (tb_4 (List.mem_of_getElem? (i := 138) rfl)) rfl
theorem mlX6_318 : Cond.methodLink RX6 318 yX3_room ∈ tb_G := tb_in (tb_2 (List.mem_of_getElem? (i := 114) rfl)) rfl
theorem mlX6_319 : Cond.methodLink RX6 319 yX1_writeHunks ∈ tb_G := tb_in (tb_2 (List.mem_of_getElem? (i := 77) rfl)) rfl
theorem mlX6_323 : Cond.methodLink RX6 323 yX6_setDifferenceRoom ∈ tb_G := tb_in (tb_2 (List.mem_of_getElem? (i := 125) rfl)) rfl
theorem mlX6_327 : Cond.methodLink RX6 327 yX5_allBroughtBy ∈ tb_G := tb_in (tb_2 (List.mem_of_getElem? (i := 133) rfl)) rfl
theorem mlX6_330 : Cond.methodLink RX6 330 yX6_leadBackTo ∈ tb_G := tb_in (tb_2 (List.mem_of_getElem? (i := 142) rfl)) rfl
theorem mlX6_334 : Cond.methodLink RX6 334 yX5_setBringer ∈ tb_G := tb_in (tb_2 (List.mem_of_getElem? (i := 151) rfl)) rfl
theorem mlX6_337 : Cond.methodLink RX6 337 yX3_ends ∈ tb_G := tb_in (tb_3 (List.mem_of_getElem? (i := 206) rfl)) rfl
theorem mlX6_340 : Cond.methodLink RX6 340 yX3_touches ∈ tb_G := tb_in (tb_3 (List.mem_of_getElem? (i := 207) rfl)) rfl
theorem mlX6_343 : Cond.methodLink RX6 343 yX3_hasAlike ∈ tb_G := tb_in (tb_3 (List.mem_of_getElem? (i := 208) rfl)) rfl
theorem mlX6_347 : Cond.methodLink RX6 347 yX3_clear ∈ tb_G := tb_in (tb_3 (List.mem_of_getElem? (i := 224) rfl)) rfl
theorem mlX6_348 : Cond.methodLink RX6 348 yX3_addHunk ∈ tb_G := tb_in (tb_3 (List.mem_of_getElem? (i := 225) rfl)) rfl
theorem mlX6_352 : Cond.methodLink RX6 352 yX2_clear ∈ tb_G := tb_in (tb_4 (List.mem_of_getElem? (i := 6) rfl)) rfl
theorem mlX6_354 : Cond.methodLink RX6 354 yX2_setWhole ∈ tb_G := tb_in (tb_4 (List.mem_of_getElem? (i := 14) rfl)) rfl
theorem mlX6_357 : Cond.methodLink RX6 357 yX2_setPatch ∈ tb_G := tb_in (tb_4 (List.mem_of_getElem? (i := 22) rfl)) rfl
theorem mlX6_360 : Cond.methodLink RX6 360 yX2_find ∈ tb_G := tb_in (tb_4 (List.mem_of_getElem? (i := 26) rfl)) rfl
theorem mlX6_44 : Cond.methodLink RX6 44 yX3_init ∈ tb_G := tb_in (tb_1 (List.mem_of_getElem? (i := 53) rfl)) rfl
theorem mlX6_71 : Cond.methodLink RX6 71 yX4_size ∈ tb_G := tb_in (tb_1 (List.mem_of_getElem? (i := 192) rfl)) rfl
theorem mlX6_75 : Cond.methodLink RX6 75 yX6_isLine ∈ tb_G := tb_in (tb_1 (List.mem_of_getElem? (i := 196) rfl)) rfl
theorem mlX6_79 : Cond.methodLink RX6 79 yX4_insert ∈ tb_G := tb_in (tb_1 (List.mem_of_getElem? (i := 199) rfl)) rfl
theorem mlX6_82 : Cond.methodLink RX6 82 yX4_at ∈ tb_G := tb_in (tb_1 (List.mem_of_getElem? (i := 207) rfl)) rfl
theorem mlX6_86 : Cond.methodLink RX6 86 yX4_remove ∈ tb_G := tb_in (tb_1 (List.mem_of_getElem? (i := 211) rfl)) rfl
theorem mlX6_89 : Cond.methodLink RX6 89 yX4_clear ∈ tb_G := tb_in (tb_1 (List.mem_of_getElem? (i := 219) rfl)) rfl
theorem mlX6_92 : Cond.methodLink RX6 92 yX6_versionOrNull ∈ tb_G := tb_in (tb_1 (List.mem_of_getElem? (i := 223) rfl)) rfl
theorem mlX6_99 : Cond.methodLink RX6 99 yX4_become ∈ tb_G := tb_in (tb_1 (List.mem_of_getElem? (i := 227) rfl)) rfl
theorem mlX7_1 : Cond.methodLink RX7 1 Lib.objectInit ∈ tb_G := tb_in (tb_4 (List.mem_of_getElem? (i := 149) rfl)) rfl
theorem mlX7_101 : Cond.methodLink RX7 101 yX7_within ∈ tb_G := tb_in (tb_5 (List.mem_of_getElem? (i := 44) rfl)) rfl
theorem mlX7_111 : Cond.methodLink RX7 111 yX7_isVersion ∈ tb_G := tb_in (tb_5 (List.mem_of_getElem? (i := 55) rfl)) rfl
theorem mlX7_115 : Cond.methodLink RX7 115 yX7_aboutOf ∈ tb_G := tb_in (tb_5 (List.mem_of_getElem? (i := 75) rfl)) rfl
theorem mlX7_128 : Cond.methodLink RX7 128 yX7_newWork ∈ tb_G := tb_in (tb_5 (List.mem_of_getElem? (i := 91) rfl)) rfl
theorem mlX7_134 : Cond.methodLink RX7 134 yX7_newHunk ∈ tb_G := tb_in (tb_5 (List.mem_of_getElem? (i := 95) rfl)) rfl
theorem mlX7_138 : Cond.methodLink RX7 138 yX7_goes ∈ tb_G := tb_in (tb_5 (List.mem_of_getElem? (i := 99) rfl)) rfl
theorem mlX7_141 : Cond.methodLink RX7 141 yX7_comes ∈ tb_G := tb_in (tb_5 (List.mem_of_getElem? (i := 103) rfl)) rfl
theorem mlX7_144 : Cond.methodLink RX7 144 yX7_layDifference ∈ tb_G := tb_in (tb_5 (List.mem_of_getElem? (i := 87) rfl)) rfl
theorem mlX7_148 : Cond.methodLink RX7 148 yX7_workRoom ∈ tb_G := tb_in (tb_5 (List.mem_of_getElem? (i := 107) rfl)) rfl
theorem mlX7_152 : Cond.methodLink RX7 152 yX7_storeWork ∈ tb_G := tb_in (tb_5 (List.mem_of_getElem? (i := 119) rfl)) rfl
theorem mlX7_155 : Cond.methodLink RX7 155 yX7_isPatch ∈ tb_G := tb_in (tb_5 (List.mem_of_getElem? (i := 131) rfl)) rfl
theorem mlX7_158 : Cond.methodLink RX7 158 yX7_goesOf ∈ tb_G := tb_in (tb_5 (List.mem_of_getElem? (i := 135) rfl)) rfl
theorem mlX7_162 : Cond.methodLink RX7 162 yX7_comesOf ∈ tb_G := tb_in (tb_5 (List.mem_of_getElem? (i := 139) rfl)) rfl
theorem mlX7_165 : Cond.methodLink RX7 165 yX7_ofPatch ∈ tb_G := tb_in (tb_5 (List.mem_of_getElem? (i := 147) rfl)) rfl
theorem mlX7_168 : Cond.methodLink RX7 168 yX7_goFrom ∈ tb_G := tb_in (tb_5 (List.mem_of_getElem? (i := 159) rfl)) rfl
theorem mlX7_171 : Cond.methodLink RX7 171 yX7_comeFrom ∈ tb_G := tb_in (tb_5 (List.mem_of_getElem? (i := 163) rfl)) rfl
theorem mlX7_174 : Cond.methodLink RX7 174 yX7_toldOf ∈ tb_G := tb_in (tb_5 (List.mem_of_getElem? (i := 155) rfl)) rfl
theorem mlX7_181 : Cond.methodLink RX7 181 yX7_stands ∈ tb_G := tb_in (tb_5 (List.mem_of_getElem? (i := 179) rfl)) rfl
theorem mlX7_185 : Cond.methodLink RX7 185 yX7_workOnDesk ∈ tb_G := tb_in (tb_5 (List.mem_of_getElem? (i := 171) rfl)) rfl
theorem mlX7_188 : Cond.methodLink RX7 188 yX7_fitsWork ∈ tb_G := tb_in (tb_5 (List.mem_of_getElem? (i := 175) rfl)) rfl
theorem mlX7_191 : Cond.methodLink RX7 191 yX7_layHunk ∈ tb_G := tb_in (tb_5 (List.mem_of_getElem? (i := 187) rfl)) rfl
theorem mlX7_195 : Cond.methodLink RX7 195 yX7_toDesk ∈ tb_G := tb_in (tb_5 (List.mem_of_getElem? (i := 191) rfl)) rfl
theorem mlX7_198 : Cond.methodLink RX7 198 yX7_standsAt ∈ tb_G := tb_in (tb_5 (List.mem_of_getElem? (i := 211) rfl)) rfl
theorem mlX7_201 : Cond.methodLink RX7 201 yX7_agree ∈ tb_G := tb_in (tb_5 (List.mem_of_getElem? (i := 207) rfl)) rfl
theorem mlX7_205 : Cond.methodLink RX7 205 yX7_layAhead ∈ tb_G := tb_in (tb_5 (List.mem_of_getElem? (i := 215) rfl)) rfl
theorem mlX7_209 : Cond.methodLink RX7 209 yX7_layBehind ∈ tb_G := tb_in (tb_5 (List.mem_of_getElem? (i := 223) rfl)) rfl
theorem mlX7_212 : Cond.methodLink RX7 212 yX7_leaveOutIdle ∈ tb_G := tb_in (tb_5 (List.mem_of_getElem? (i := 231) rfl)) rfl
theorem mlX7_215 : Cond.methodLink RX7 215 yX7_workFits ∈ tb_G := tb_in (tb_5 (List.mem_of_getElem? (i := 235) rfl)) rfl
theorem mlX7_219 : Cond.methodLink RX7 219 yX7_takenAt ∈ tb_G := tb_in (tb_5 (List.mem_of_getElem? (i := 219) rfl)) rfl
theorem mlX7_223 : Cond.methodLink RX7 223 yX7_broughtAt ∈ tb_G := tb_in (tb_5 (List.mem_of_getElem? (i := 227) rfl)) rfl
theorem mlX7_226 : Cond.methodLink RX7 226 yX7_touches ∈ tb_G := tb_in (tb_6 (List.mem_of_getElem? (i := 3) rfl)) rfl
theorem mlX7_229 : Cond.methodLink RX7 229 yX7_layMoved ∈ tb_G := tb_in (tb_6 (List.mem_of_getElem? (i := 7) rfl)) rfl
theorem mlX7_236 : Cond.methodLink RX7 236 yX7_xFrom ∈ tb_G := tb_in (tb_6 (List.mem_of_getElem? (i := 35) rfl)) rfl
theorem mlX7_239 : Cond.methodLink RX7 239 yX7_workFrom ∈ tb_G := tb_in (tb_6 (List.mem_of_getElem? (i := 39) rfl)) rfl
theorem mlX7_242 : Cond.methodLink RX7 242 yX7_alike ∈ tb_G := tb_in (tb_6 (List.mem_of_getElem? (i := 31) rfl)) rfl
theorem mlX7_245 : Cond.methodLink RX7 245 yX7_layX ∈ tb_G := tb_in (tb_6 (List.mem_of_getElem? (i := 23) rfl)) rfl
theorem mlX7_248 : Cond.methodLink RX7 248 yX7_clashes ∈ tb_G := tb_in (tb_6 (List.mem_of_getElem? (i := 27) rfl)) rfl
theorem mlX7_251 : Cond.methodLink RX7 251 yX7_areVersions ∈ tb_G := tb_in (tb_6 (List.mem_of_getElem? (i := 15) rfl)) rfl
theorem mlX7_254 : Cond.methodLink RX7 254 yX7_clashMany ∈ tb_G := tb_in (tb_6 (List.mem_of_getElem? (i := 19) rfl)) rfl
theorem mlX7_257 : Cond.methodLink RX7 257 yX7_ledTo ∈ tb_G := tb_in (tb_6 (List.mem_of_getElem? (i := 55) rfl)) rfl
theorem mlX7_260 : Cond.methodLink RX7 260 yX7_broughtBy ∈ tb_G := tb_in (tb_6 (List.mem_of_getElem? (i := 51) rfl)) rfl
theorem mlX7_267 : Cond.methodLink RX7 267 yX7_layCode ∈ tb_G := tb_in (tb_6 (List.mem_of_getElem? (i := 75) rfl)) rfl
theorem mlX7_270 : Cond.methodLink RX7 270 yX7_layRemade ∈ tb_G := tb_in (tb_6 (List.mem_of_getElem? (i := 79) rfl)) rfl
theorem mlX7_273 : Cond.methodLink RX7 273 yX7_look ∈ tb_G := tb_in (tb_6 (List.mem_of_getElem? (i := 83) rfl)) rfl
theorem mlX7_283 : Cond.methodLink RX7 283 yX7_isAsk ∈ tb_G := tb_in (tb_6 (List.mem_of_getElem? (i := 67) rfl)) rfl
theorem mlX7_289 : Cond.methodLink RX7 289 yX7_layStore ∈ tb_G := tb_in (tb_6 (List.mem_of_getElem? (i := 71) rfl)) rfl
theorem mlX7_292 : Cond.methodLink RX7 292 yX7_lostBy ∈ tb_G := tb_in (tb_6 (List.mem_of_getElem? (i := 95) rfl)) rfl
theorem mlX7_295 : Cond.methodLink RX7 295 yX7_worstPiece ∈ tb_G := tb_in (tb_6 (List.mem_of_getElem? (i := 91) rfl)) rfl
theorem mlX7_298 : Cond.methodLink RX7 298 yX7_pieceRoom ∈ tb_G := tb_in (tb_6 (List.mem_of_getElem? (i := 103) rfl)) rfl
theorem mlX7_301 : Cond.methodLink RX7 301 yX7_worstThen ∈ tb_G := tb_in (tb_6 (List.mem_of_getElem? (i := 107) rfl)) rfl
theorem mlX7_304 : Cond.methodLink RX7 304 yX7_howMany ∈ tb_G := tb_in (tb_6 (List.mem_of_getElem? (i := 115) rfl)) rfl
theorem mlX7_312 : Cond.methodLink RX7 312 yX7_mix ∈ tb_G := tb_in (tb_6 (List.mem_of_getElem? (i := 124) rfl)) rfl
theorem mlX7_318 : Cond.methodLink RX7 318 yX7_mixPatch ∈ tb_G := tb_in (tb_6 (List.mem_of_getElem? (i := 129) rfl)) rfl
theorem mlX4_47 : (RX4, 47, yX6_mix, "KeptVersions") ∈ kn_nM := by decide +kernel
theorem mlX6_39 : (RX6, 39, yX1_init, "KeptVersions") ∈ kn_nM := by decide +kernel
theorem mlX6_59 : (RX6, 59, yX0_init, "KeptVersions") ∈ kn_nM := by decide +kernel
theorem mlX6_66 : (RX6, 66, yX2_init, "KeptVersions") ∈ kn_nM := by decide +kernel
abbrev sX3_addLine : ST := (cX3_addLine, 5, RX3, false, none, 1, 24, 0, 0)
abbrev sX3_addComing : ST := (cX3_addComing, 2, RX3, false, none, 2, 48, 0, 0)
abbrev sX3_begins : ST := (cX3_begins, 2, RX3, false, some .int, 1, 24, 0, 0)
abbrev sX3_shiftBefore : ST := (cX3_shiftBefore, 3, RX3, false, some .int, 1, 24, 0, 0)
abbrev sX3_beginsBehind : ST := (cX3_beginsBehind, 2, RX3, false, some .int, 2, 46, 0, 0)
abbrev sX3_coming : ST := (cX3_coming, 2, RX3, false, some .int, 1, 24, 0, 0)
abbrev sX3_start : ST := (cX3_start, 2, RX3, false, some .int, 1, 24, 0, 0)
abbrev sX3_comingLine : ST := (cX3_comingLine, 4, RX3, false, some .int, 2, 45, 0, 0)
abbrev sX3_comingAt : ST := (cX3_comingAt, 4, RX3, false, some .int, 3, 68, 0, 0)
abbrev sX0_addBrought : ST := (cX0_addBrought, 5, RX0, false, none, 4, 91, 0, 0)
abbrev sX3_addGoing : ST := (cX3_addGoing, 2, RX3, false, none, 2, 48, 0, 0)
abbrev sX3_going : ST := (cX3_going, 2, RX3, false, some .int, 1, 24, 0, 0)
abbrev sX3_goingLine : ST := (cX3_goingLine, 4, RX3, false, some .int, 2, 45, 0, 0)
abbrev sX3_goingAt : ST := (cX3_goingAt, 4, RX3, false, some .int, 3, 68, 0, 0)
abbrev sX0_addTaken : ST := (cX0_addTaken, 5, RX0, false, none, 4, 91, 0, 0)
abbrev sX3_hunks : ST := (cX3_hunks, 1, RX3, false, some .int, 1, 24, 0, 0)
abbrev sX0_agree : ST := (cX0_agree, 6, RX0, false, some .boolean, 4, 91, 0, 0)
abbrev sX3_endsBehind : ST := (cX3_endsBehind, 2, RX3, false, some .int, 3, 67, 0, 0)
abbrev sX3_ends : ST := (cX3_ends, 2, RX3, false, some .int, 2, 45, 0, 0)
abbrev sX3_touches : ST := (cX3_touches, 4, RX3, false, some .boolean, 3, 66, 0, 0)
abbrev sX0_anyTouch : ST := (cX0_anyTouch, 4, RX0, false, some .boolean, 4, 89, 0, 0)
abbrev sX0_gather : ST := (cX0_gather, 8, RX0, false, none, 4, 88, 0, 0)
abbrev sX0_init : ST := (cX0_init, 1, RX0, true, none, 1, 24, 0, 0)
abbrev sX3_addComingOf : ST := (cX3_addComingOf, 4, RX3, false, none, 3, 69, 0, 0)
abbrev sX3_addGoingOf : ST := (cX3_addGoingOf, 4, RX3, false, none, 3, 69, 0, 0)
abbrev sX3_begin : ST := (cX3_begin, 2, RX3, false, none, 1, 24, 0, 0)
abbrev sX3_addHunk : ST := (cX3_addHunk, 4, RX3, false, none, 4, 92, 0, 0)
abbrev sX0_moveAhead : ST := (cX0_moveAhead, 7, RX0, false, none, 5, 115, 0, 0)
abbrev sX0_moveBehind : ST := (cX0_moveBehind, 7, RX0, false, none, 5, 115, 0, 0)
abbrev sX0_writeComing : ST := (cX0_writeComing, 6, RX0, false, none, 5, 115, 0, 0)
abbrev sX0_writeGoing : ST := (cX0_writeGoing, 6, RX0, false, none, 5, 115, 0, 0)
abbrev sX3_clear : ST := (cX3_clear, 1, RX3, false, none, 1, 24, 0, 0)
abbrev sX3_lastIsIdle : ST := (cX3_lastIsIdle, 4, RX3, false, some .boolean, 3, 68, 0, 0)
abbrev sX3_leaveOutLast : ST := (cX3_leaveOutLast, 1, RX3, false, none, 1, 24, 0, 0)
abbrev sX0_putTogether : ST := (cX0_putTogether, 5, RX0, false, none, 6, 140, 0, 0)
abbrev sX1_mostFrom : ST := (cX1_mostFrom, 4, RX1, false, some .int, 1, 24, 0, 0)
abbrev sX4_at : ST := (cX4_at, 2, RX4, false, some .int, 1, 24, 0, 0)
abbrev sX4_size : ST := (cX4_size, 1, RX4, false, some .int, 1, 24, 0, 0)
abbrev sX1_reckonMost : ST := (cX1_reckonMost, 5, RX1, false, some .int, 2, 47, 0, 0)
abbrev sX1_setMost : ST := (cX1_setMost, 5, RX1, false, none, 1, 24, 0, 0)
abbrev sX1_setMate : ST := (cX1_setMate, 3, RX1, false, none, 1, 24, 0, 0)
abbrev sX1_trace : ST := (cX1_trace, 7, RX1, false, none, 2, 47, 0, 0)
abbrev sX1_find : ST := (cX1_find, 5, RX1, false, none, 3, 73, 0, 0)
abbrev sX1_init : ST := (cX1_init, 1, RX1, true, none, 1, 24, 2, 239)
abbrev sX1_mate : ST := (cX1_mate, 2, RX1, false, some .int, 1, 24, 0, 0)
abbrev sX3_addComingPart : ST := (cX3_addComingPart, 5, RX3, false, none, 3, 69, 0, 0)
abbrev sX3_addGoingPart : ST := (cX3_addGoingPart, 5, RX3, false, none, 3, 69, 0, 0)
abbrev sX1_writeHunks : ST := (cX1_writeHunks, 8, RX1, false, none, 4, 93, 0, 0)
abbrev sX2_pieceRoom : ST := (cX2_pieceRoom, 3, RX2, false, some .int, 1, 24, 0, 0)
abbrev sX2_bestPieceRoom : ST := (cX2_bestPieceRoom, 2, RX2, false, some .int, 2, 46, 0, 0)
abbrev sX2_isRemadeBy : ST := (cX2_isRemadeBy, 5, RX2, false, some .boolean, 1, 24, 0, 0)
abbrev sX2_lostWith : ST := (cX2_lostWith, 4, RX2, false, some .int, 2, 48, 0, 0)
abbrev sX2_worstPiece : ST := (cX2_worstPiece, 4, RX2, false, some .int, 3, 71, 0, 0)
abbrev sX2_worstLossBut : ST := (cX2_worstLossBut, 3, RX2, false, some .int, 4, 94, 0, 0)
abbrev sX2_isBetterCopy : ST := (cX2_isBetterCopy, 5, RX2, false, some .boolean, 5, 116, 0, 0)
abbrev sX2_bestCopy : ST := (cX2_bestCopy, 4, RX2, false, some .int, 6, 140, 0, 0)
abbrev sX2_clear : ST := (cX2_clear, 3, RX2, false, none, 1, 24, 0, 0)
abbrev sX2_reckonLeastFrom : ST := (cX2_reckonLeastFrom, 4, RX2, false, none, 2, 46, 0, 0)
abbrev sX2_isLess : ST := (cX2_isLess, 3, RX2, false, some .boolean, 1, 24, 0, 0)
abbrev sX2_leadsTo : ST := (cX2_leadsTo, 5, RX2, false, some .boolean, 1, 24, 0, 0)
abbrev sX2_remadeAtLeast : ST := (cX2_remadeAtLeast, 4, RX2, false, some .int, 2, 46, 0, 0)
abbrev sX2_remadeBy : ST := (cX2_remadeBy, 6, RX2, false, some .int, 2, 46, 0, 0)
abbrev sX2_takeIfLess : ST := (cX2_takeIfLess, 5, RX2, false, none, 3, 71, 0, 0)
def sX2_tryFrom (n : Nat) : ST := (cX2_tryFrom, 9, RX2, false, none, 4 + n, 95 + 28 * n, 0, 0)
abbrev sX2_find : ST := (cX2_find, 2, RX2, false, none, 13, 347, 0, 0)
abbrev sX2_init : ST := (cX2_init, 1, RX2, true, none, 1, 24, 7, 74)
abbrev sX2_remadeFor : ST := (cX2_remadeFor, 2, RX2, false, some .int, 3, 71, 0, 0)
abbrev sX2_roomOrNone : ST := (cX2_roomOrNone, 1, RX2, false, some .int, 1, 24, 0, 0)
abbrev sX2_setPatch : ST := (cX2_setPatch, 4, RX2, false, none, 1, 24, 0, 0)
abbrev sX2_setWhole : ST := (cX2_setWhole, 4, RX2, false, none, 1, 24, 0, 0)
abbrev sX2_sourceOf : ST := (cX2_sourceOf, 2, RX2, false, some .int, 1, 24, 0, 0)
abbrev sX2_sumOrNone : ST := (cX2_sumOrNone, 1, RX2, false, some .int, 1, 24, 0, 0)
abbrev sX3_allComing : ST := (cX3_allComing, 1, RX3, false, some .int, 2, 45, 0, 0)
abbrev sX3_allGoing : ST := (cX3_allGoing, 1, RX3, false, some .int, 2, 45, 0, 0)
abbrev sX3_become : ST := (cX3_become, 3, RX3, false, none, 5, 115, 0, 0)
abbrev sX3_becomeTurned : ST := (cX3_becomeTurned, 4, RX3, false, none, 3, 69, 0, 0)
abbrev sX3_standsAt : ST := (cX3_standsAt, 5, RX3, false, some .boolean, 3, 68, 0, 0)
abbrev sX3_fitsOn : ST := (cX3_fitsOn, 3, RX3, false, some .boolean, 4, 92, 0, 0)
abbrev sX3_isAlike : ST := (cX3_isAlike, 7, RX3, false, some .boolean, 3, 68, 0, 0)
abbrev sX3_hasAlike : ST := (cX3_hasAlike, 4, RX3, false, some .boolean, 4, 94, 0, 0)
abbrev sX3_init : ST := (cX3_init, 5, RX3, true, none, 1, 24, 5, 320)
abbrev sX3_nearestPlace : ST := (cX3_nearestPlace, 8, RX3, false, some .int, 4, 92, 0, 0)
abbrev sX4_insert : ST := (cX4_insert, 4, RX4, false, none, 1, 24, 0, 0)
abbrev sX4_remove : ST := (cX4_remove, 3, RX4, false, none, 1, 24, 0, 0)
abbrev sX3_replace : ST := (cX3_replace, 5, RX3, false, none, 3, 68, 0, 0)
abbrev sX3_layLooselyOn : ST := (cX3_layLooselyOn, 8, RX3, false, some .int, 5, 119, 0, 0)
abbrev sX4_add : ST := (cX4_add, 2, RX4, false, none, 2, 47, 0, 0)
abbrev sX4_addPart : ST := (cX4_addPart, 5, RX4, false, none, 3, 68, 0, 0)
abbrev sX4_clear : ST := (cX4_clear, 1, RX4, false, none, 1, 24, 0, 0)
abbrev sX3_layOn : ST := (cX3_layOn, 6, RX3, false, none, 4, 92, 0, 0)
abbrev sX3_mayBeginNext : ST := (cX3_mayBeginNext, 2, RX3, false, some .boolean, 3, 66, 0, 0)
abbrev sX3_room : ST := (cX3_room, 1, RX3, false, some .int, 3, 65, 0, 0)
abbrev sX4_become : ST := (cX4_become, 2, RX4, false, none, 4, 92, 0, 0)
abbrev sX4_init : ST := (cX4_init, 2, RX4, true, none, 1, 24, 1, 64)
abbrev sX6_mix : ST := (cX6_mix, 3, RX6, false, some .long, 1, 24, 0, 0)
abbrev sX4_mixInto : ST := (cX4_mixInto, 6, RX4, false, some .long, 2, 46, 0, 0)
abbrev sX4_room : ST := (cX4_room, 1, RX4, false, some .int, 1, 24, 0, 0)
abbrev sX5_setBringer : ST := (cX5_setBringer, 3, RX5, false, none, 1, 24, 0, 0)
abbrev sX5_allBroughtBy : ST := (cX5_allBroughtBy, 3, RX5, false, none, 2, 46, 0, 0)
abbrev sX5_bringerOf : ST := (cX5_bringerOf, 2, RX5, false, some .int, 1, 24, 0, 0)
abbrev sX5_init : ST := (cX5_init, 3, RX5, true, none, 2, 45, 3, 80)
abbrev sX6_versionOrNull : ST := (cX6_versionOrNull, 2, RX6, false, some (.object "KeptVersions$Version"), 1, 24, 0, 0)
abbrev sX6_about : ST := (cX6_about, 4, RX6, false, some .int, 2, 45, 0, 0)
abbrev sX6_addPatch : ST := (cX6_addPatch, 2, RX6, false, some .int, 1, 24, 0, 0)
abbrev sX6_asked : ST := (cX6_asked, 5, RX6, false, some .int, 2, 45, 0, 0)
abbrev sX6_hasRoomForPatches : ST := (cX6_hasRoomForPatches, 2, RX6, false, some .boolean, 1, 24, 0, 0)
abbrev sX6_newPatch : ST := (cX6_newPatch, 0, RX6, false, some (.object "KeptVersions$Patch"), 2, 48, 6, 326)
abbrev sX6_blank : ST := (cX6_blank, 1, RX6, false, some .int, 3, 67, 6, 326)
abbrev sX6_brought : ST := (cX6_brought, 4, RX6, false, some .int, 2, 45, 0, 0)
abbrev sX6_clashes : ST := (cX6_clashes, 4, RX6, false, some .int, 5, 117, 0, 0)
abbrev sX6_writeDifference : ST := (cX6_writeDifference, 4, RX6, false, none, 5, 120, 0, 0)
abbrev sX6_writeBothDifferences : ST := (cX6_writeBothDifferences, 7, RX6, false, some .boolean, 6, 143, 0, 0)
abbrev sX6_clash : ST := (cX6_clash, 4, RX6, false, some .int, 7, 169, 0, 0)
abbrev sX6_count : ST := (cX6_count, 2, RX6, false, some .int, 2, 44, 0, 0)
abbrev sX6_desk : ST := (cX6_desk, 2, RX6, false, some .int, 2, 45, 0, 0)
abbrev sX6_tellPatch : ST := (cX6_tellPatch, 2, RX6, false, some .int, 4, 85, 0, 0)
abbrev sX6_differ : ST := (cX6_differ, 6, RX6, false, some .int, 6, 143, 0, 0)
abbrev sX6_differenceRoom : ST := (cX6_differenceRoom, 4, RX6, false, some .int, 1, 24, 0, 0)
abbrev sX6_mixPatch : ST := (cX6_mixPatch, 7, RX6, false, some .long, 5, 106, 0, 0)
abbrev sX6_mixVersion : ST := (cX6_mixVersion, 7, RX6, false, some .long, 3, 71, 0, 0)
abbrev sX6_patchOrNull : ST := (cX6_patchOrNull, 2, RX6, false, some (.object "KeptVersions$Patch"), 1, 24, 0, 0)
abbrev sX6_digest : ST := (cX6_digest, 5, RX6, false, some .long, 6, 132, 0, 0)
abbrev sX6_drop : ST := (cX6_drop, 3, RX6, false, some .int, 2, 46, 0, 0)
abbrev sX6_findStore : ST := (cX6_findStore, 6, RX6, false, none, 14, 368, 0, 0)
abbrev sX6_fits : ST := (cX6_fits, 3, RX6, false, some .int, 5, 114, 0, 0)
abbrev sX6_isLine : ST := (cX6_isLine, 1, RX6, false, some .boolean, 1, 24, 0, 0)
abbrev sX6_isHunk : ST := (cX6_isHunk, 4, RX6, false, some .boolean, 2, 44, 0, 0)
abbrev sX6_isPatchSize : ST := (cX6_isPatchSize, 3, RX6, false, some .boolean, 1, 24, 0, 0)
abbrev sX6_hunk : ST := (cX6_hunk, 8, RX6, false, some .int, 4, 87, 0, 0)
abbrev sX6_hunkOf : ST := (cX6_hunkOf, 5, RX6, false, some .int, 3, 68, 0, 0)
abbrev sX6_init : ST := (cX6_init, 1, RX6, true, none, 2, 48, 37, 1565)
abbrev sX6_isStore : ST := (cX6_isStore, 3, RX6, false, some .boolean, 1, 24, 0, 0)
abbrev sX6_isVersionOrNone : ST := (cX6_isVersionOrNone, 2, RX6, false, some .boolean, 2, 45, 0, 0)
abbrev sX6_takeTrialToDesk : ST := (cX6_takeTrialToDesk, 1, RX6, false, some .int, 5, 113, 0, 0)
abbrev sX6_uniteBothDifferences : ST := (cX6_uniteBothDifferences, 7, RX6, false, none, 5, 115, 0, 0)
abbrev sX6_join : ST := (cX6_join, 5, RX6, false, some .int, 7, 169, 0, 0)
abbrev sX6_leadBackTo : ST := (cX6_leadBackTo, 4, RX6, false, none, 4, 97, 0, 0)
abbrev sX6_leadBack : ST := (cX6_leadBack, 3, RX6, false, none, 5, 120, 0, 0)
abbrev sX6_setDifferenceRoom : ST := (cX6_setDifferenceRoom, 5, RX6, false, none, 1, 24, 0, 0)
abbrev sX6_reckonRooms : ST := (cX6_reckonRooms, 5, RX6, false, none, 6, 143, 0, 0)
abbrev sX6_keep : ST := (cX6_keep, 5, RX6, false, some .int, 7, 167, 4, 85)
abbrev sX6_kept : ST := (cX6_kept, 6, RX6, false, some .int, 4, 97, 0, 0)
abbrev sX6_lay : ST := (cX6_lay, 3, RX6, false, some .int, 6, 133, 0, 0)
abbrev sX6_line : ST := (cX6_line, 3, RX6, false, some .int, 2, 47, 0, 0)
abbrev sX6_loose : ST := (cX6_loose, 4, RX6, false, some .int, 6, 146, 0, 0)
abbrev sX6_of : ST := (cX6_of, 4, RX6, false, some .int, 5, 106, 0, 0)
abbrev sX6_patch : ST := (cX6_patch, 6, RX6, false, some .int, 6, 143, 6, 326)
abbrev sX6_saved : ST := (cX6_saved, 6, RX6, false, some .int, 15, 393, 0, 0)
abbrev sX6_share : ST := (cX6_share, 6, RX6, false, some .int, 2, 45, 0, 0)
abbrev sX6_store : ST := (cX6_store, 6, RX6, false, some .int, 15, 393, 0, 0)
abbrev sX6_swap : ST := (cX6_swap, 8, RX6, false, some .int, 6, 141, 12, 652)
abbrev sX6_take : ST := (cX6_take, 3, RX6, false, some .int, 5, 113, 0, 0)
abbrev sX6_text : ST := (cX6_text, 4, RX6, false, some .int, 2, 45, 0, 0)
abbrev sX6_together : ST := (cX6_together, 6, RX6, false, some .int, 7, 164, 6, 326)
abbrev sX6_turn : ST := (cX6_turn, 4, RX6, false, some .int, 4, 92, 6, 326)
abbrev sX6_worst : ST := (cX6_worst, 5, RX6, false, some .int, 15, 393, 0, 0)
abbrev sX7_aboutOf : ST := (cX7_aboutOf, 3, RX7, false, some .int, 1, 24, 0, 0)
abbrev sX7_within : ST := (cX7_within, 3, RX7, false, some .boolean, 1, 24, 0, 0)
abbrev sX7_isVersion : ST := (cX7_isVersion, 2, RX7, false, some .boolean, 2, 46, 0, 0)
abbrev sX7_about : ST := (cX7_about, 3, RX7, false, some .int, 3, 67, 0, 0)
abbrev sX7_comeFrom : ST := (cX7_comeFrom, 5, RX7, false, some .int, 1, 24, 0, 0)
abbrev sX7_goFrom : ST := (cX7_goFrom, 5, RX7, false, some .int, 1, 24, 0, 0)
abbrev sX7_standsAt : ST := (cX7_standsAt, 5, RX7, false, some .int, 1, 24, 0, 0)
abbrev sX7_agree : ST := (cX7_agree, 8, RX7, false, some .boolean, 2, 48, 0, 0)
abbrev sX7_workFrom : ST := (cX7_workFrom, 4, RX7, false, some .int, 1, 24, 0, 0)
abbrev sX7_xFrom : ST := (cX7_xFrom, 4, RX7, false, some .int, 1, 24, 0, 0)
abbrev sX7_alike : ST := (cX7_alike, 5, RX7, false, some .boolean, 2, 47, 0, 0)
abbrev sX7_areVersions : ST := (cX7_areVersions, 4, RX7, false, some .boolean, 3, 67, 0, 0)
abbrev sX7_asked : ST := (cX7_asked, 4, RX7, false, some .int, 3, 67, 0, 0)
abbrev sX7_newWork : ST := (cX7_newWork, 1, RX7, false, none, 1, 24, 0, 0)
abbrev sX7_storeWork : ST := (cX7_storeWork, 2, RX7, false, some .int, 1, 24, 0, 0)
abbrev sX7_blank : ST := (cX7_blank, 1, RX7, false, some .int, 2, 45, 0, 0)
abbrev sX7_comes : ST := (cX7_comes, 2, RX7, false, none, 1, 24, 0, 0)
abbrev sX7_goes : ST := (cX7_goes, 2, RX7, false, none, 1, 24, 0, 0)
abbrev sX7_newHunk : ST := (cX7_newHunk, 2, RX7, false, none, 1, 24, 0, 0)
abbrev sX7_layDifference : ST := (cX7_layDifference, 10, RX7, false, none, 2, 45, 0, 0)
abbrev sX7_ledTo : ST := (cX7_ledTo, 5, RX7, false, some .int, 3, 74, 0, 0)
abbrev sX7_broughtBy : ST := (cX7_broughtBy, 8, RX7, false, some .int, 4, 98, 0, 0)
abbrev sX7_brought : ST := (cX7_brought, 3, RX7, false, some .int, 5, 125, 0, 0)
abbrev sX7_broughtAt : ST := (cX7_broughtAt, 8, RX7, false, some .int, 2, 48, 0, 0)
abbrev sX7_clashes : ST := (cX7_clashes, 4, RX7, false, some .boolean, 3, 71, 0, 0)
abbrev sX7_layX : ST := (cX7_layX, 4, RX7, false, none, 3, 74, 0, 0)
abbrev sX7_clashMany : ST := (cX7_clashMany, 6, RX7, false, some .int, 4, 97, 0, 0)
abbrev sX7_clash : ST := (cX7_clash, 4, RX7, false, some .int, 5, 122, 0, 0)
abbrev sX7_comesOf : ST := (cX7_comesOf, 4, RX7, false, some .int, 1, 24, 0, 0)
abbrev sX7_howMany : ST := (cX7_howMany, 2, RX7, false, some .int, 1, 24, 0, 0)
abbrev sX7_count : ST := (cX7_count, 2, RX7, false, some .int, 2, 45, 0, 0)
abbrev sX7_desk : ST := (cX7_desk, 2, RX7, false, some .int, 2, 46, 0, 0)
abbrev sX7_workRoom : ST := (cX7_workRoom, 1, RX7, false, some .int, 1, 24, 0, 0)
abbrev sX7_differ : ST := (cX7_differ, 4, RX7, false, some .int, 3, 74, 0, 0)
abbrev sX7_mix : ST := (cX7_mix, 3, RX7, false, none, 1, 24, 0, 0)
abbrev sX7_goesOf : ST := (cX7_goesOf, 4, RX7, false, some .int, 1, 24, 0, 0)
abbrev sX7_ofPatch : ST := (cX7_ofPatch, 3, RX7, false, some .int, 2, 47, 0, 0)
abbrev sX7_toldOf : ST := (cX7_toldOf, 5, RX7, false, some .int, 2, 48, 0, 0)
abbrev sX7_mixPatch : ST := (cX7_mixPatch, 4, RX7, false, none, 3, 72, 0, 0)
abbrev sX7_digest : ST := (cX7_digest, 3, RX7, false, some .long, 4, 95, 0, 0)
abbrev sX7_drop : ST := (cX7_drop, 4, RX7, false, some .int, 2, 46, 0, 0)
abbrev sX7_stands : ST := (cX7_stands, 8, RX7, false, some .boolean, 2, 48, 0, 0)
abbrev sX7_fitsWork : ST := (cX7_fitsWork, 4, RX7, false, some .boolean, 3, 75, 0, 0)
abbrev sX7_isPatch : ST := (cX7_isPatch, 2, RX7, false, some .boolean, 2, 46, 0, 0)
abbrev sX7_workOnDesk : ST := (cX7_workOnDesk, 2, RX7, false, none, 1, 24, 0, 0)
abbrev sX7_fits : ST := (cX7_fits, 2, RX7, false, some .int, 4, 98, 0, 0)
abbrev sX7_hunk : ST := (cX7_hunk, 10, RX7, false, some .int, 3, 67, 0, 0)
abbrev sX7_hunkOf : ST := (cX7_hunkOf, 5, RX7, false, some .int, 3, 72, 0, 0)
abbrev sX7_init : ST := (cX7_init, 1, RX7, true, none, 1, 24, 29, 2084)
abbrev sX7_isAsk : ST := (cX7_isAsk, 3, RX7, false, some .boolean, 2, 46, 0, 0)
abbrev sX7_toDesk : ST := (cX7_toDesk, 2, RX7, false, none, 1, 24, 0, 0)
abbrev sX7_join : ST := (cX7_join, 11, RX7, false, some .int, 5, 122, 0, 0)
abbrev sX7_keep : ST := (cX7_keep, 4, RX7, false, some .int, 3, 67, 0, 0)
abbrev sX7_kept : ST := (cX7_kept, 4, RX7, false, some .int, 3, 74, 0, 0)
abbrev sX7_layHunk : ST := (cX7_layHunk, 7, RX7, false, none, 2, 48, 0, 0)
abbrev sX7_lay : ST := (cX7_lay, 3, RX7, false, some .int, 4, 98, 0, 0)
abbrev sX7_takenAt : ST := (cX7_takenAt, 8, RX7, false, some .int, 2, 48, 0, 0)
abbrev sX7_layAhead : ST := (cX7_layAhead, 12, RX7, false, none, 3, 75, 0, 0)
abbrev sX7_layBehind : ST := (cX7_layBehind, 12, RX7, false, none, 3, 75, 0, 0)
abbrev sX7_layCode : ST := (cX7_layCode, 6, RX7, false, none, 1, 24, 0, 0)
abbrev sX7_layMoved : ST := (cX7_layMoved, 10, RX7, false, none, 2, 48, 0, 0)
abbrev sX7_layRemade : ST := (cX7_layRemade, 6, RX7, false, some .boolean, 1, 24, 0, 0)
abbrev sX7_look : ST := (cX7_look, 7, RX7, false, none, 1, 24, 0, 0)
abbrev sX7_layStore : ST := (cX7_layStore, 5, RX7, false, none, 3, 74, 0, 0)
abbrev sX7_leaveOutIdle : ST := (cX7_leaveOutIdle, 4, RX7, false, none, 1, 24, 0, 0)
abbrev sX7_line : ST := (cX7_line, 4, RX7, false, some .int, 2, 46, 0, 0)
abbrev sX7_loose : ST := (cX7_loose, 9, RX7, false, some .int, 3, 75, 0, 0)
abbrev sX7_lostBy : ST := (cX7_lostBy, 7, RX7, false, some .int, 1, 24, 0, 0)
abbrev sX7_of : ST := (cX7_of, 3, RX7, false, some .int, 3, 69, 0, 0)
abbrev sX7_patch : ST := (cX7_patch, 3, RX7, false, some .int, 3, 74, 0, 0)
abbrev sX7_pieceRoom : ST := (cX7_pieceRoom, 2, RX7, false, some .int, 1, 24, 0, 0)
abbrev sX7_worstPiece : ST := (cX7_worstPiece, 5, RX7, false, some .int, 2, 50, 0, 0)
abbrev sX7_worstThen : ST := (cX7_worstThen, 4, RX7, false, some .int, 3, 74, 0, 0)
abbrev sX7_saved : ST := (cX7_saved, 8, RX7, false, some .int, 4, 98, 0, 0)
abbrev sX7_share : ST := (cX7_share, 5, RX7, false, some .int, 5, 125, 0, 0)
abbrev sX7_store : ST := (cX7_store, 5, RX7, false, some .int, 4, 98, 0, 0)
abbrev sX7_touches : ST := (cX7_touches, 7, RX7, false, some .boolean, 2, 48, 0, 0)
abbrev sX7_swap : ST := (cX7_swap, 5, RX7, false, some .int, 3, 77, 0, 0)
abbrev sX7_take : ST := (cX7_take, 3, RX7, false, some .int, 3, 67, 0, 0)
abbrev sX7_text : ST := (cX7_text, 3, RX7, false, some .int, 3, 67, 0, 0)
abbrev sX7_workFits : ST := (cX7_workFits, 1, RX7, false, some .boolean, 1, 24, 0, 0)
abbrev sX7_together : ST := (cX7_together, 13, RX7, false, some .int, 4, 106, 0, 0)
abbrev sX7_turn : ST := (cX7_turn, 5, RX7, false, some .int, 3, 67, 0, 0)
abbrev sX7_worst : ST := (cX7_worst, 5, RX7, false, some .int, 4, 98, 0, 0)
theorem mwX3_addLine : mw_V yX3_addLine sX3_addLine 3 := ⟨tb_in (tb_2 (List.mem_of_getElem? (i := 105) rfl)) rfl, iiX3, ⟨by decide +kernel, by decide +kernel, by decide +kernel⟩, tb_in (tb_2 (List.mem_of_getElem? (i := 104) rfl)) rfl, tb_in (tb_0 (List.mem_of_getElem? (i := 9) rfl)) rfl⟩
theorem mwX3_addComing : mw_V yX3_addComing sX3_addComing 1 := ⟨tb_in (tb_2 (List.mem_of_getElem? (i := 113) rfl)) rfl, iiX3, ⟨by decide +kernel, by decide +kernel, by decide +kernel⟩, tb_in (tb_2 (List.mem_of_getElem? (i := 111) rfl)) rfl, tb_in (tb_2 (List.mem_of_getElem? (i := 112) rfl)) rfl⟩
theorem mwX3_begins : mw_V yX3_begins sX3_begins 1 := ⟨tb_in (tb_2 (List.mem_of_getElem? (i := 229) rfl)) rfl, iiX3, ⟨by decide +kernel, by decide +kernel, by decide +kernel⟩, tb_in (tb_2 (List.mem_of_getElem? (i := 227) rfl)) rfl, tb_in (tb_2 (List.mem_of_getElem? (i := 228) rfl)) rfl⟩
theorem mwX3_shiftBefore : mw_V yX3_shiftBefore sX3_shiftBefore 1 := ⟨tb_in (tb_3 (List.mem_of_getElem? (i := 91) rfl)) rfl, iiX3, ⟨by decide +kernel, by decide +kernel, by decide +kernel⟩, tb_in (tb_3 (List.mem_of_getElem? (i := 89) rfl)) rfl, tb_in (tb_3 (List.mem_of_getElem? (i := 90) rfl)) rfl⟩
theorem mwX3_beginsBehind : mw_V yX3_beginsBehind sX3_beginsBehind 1 := ⟨tb_in (tb_3 (List.mem_of_getElem? (i := 87) rfl)) rfl, iiX3, ⟨by decide +kernel, by decide +kernel, by decide +kernel⟩, tb_in (tb_3 (List.mem_of_getElem? (i := 85) rfl)) rfl, tb_in (tb_3 (List.mem_of_getElem? (i := 86) rfl)) rfl⟩
theorem mwX3_coming : mw_V yX3_coming sX3_coming 1 := ⟨tb_in (tb_3 (List.mem_of_getElem? (i := 13) rfl)) rfl, iiX3, ⟨by decide +kernel, by decide +kernel, by decide +kernel⟩, tb_in (tb_3 (List.mem_of_getElem? (i := 11) rfl)) rfl, tb_in (tb_3 (List.mem_of_getElem? (i := 12) rfl)) rfl⟩
theorem mwX3_start : mw_S yX3_start sX3_start 2 := ⟨tb_in (tb_2 (List.mem_of_getElem? (i := 124) rfl)) rfl, iiX3, ⟨by decide +kernel, by decide +kernel, by decide +kernel⟩, tb_in (tb_2 (List.mem_of_getElem? (i := 123) rfl)) rfl⟩
theorem mwX3_comingLine : mw_V yX3_comingLine sX3_comingLine 2 := ⟨tb_in (tb_3 (List.mem_of_getElem? (i := 21) rfl)) rfl, iiX3, ⟨by decide +kernel, by decide +kernel, by decide +kernel⟩, tb_in (tb_3 (List.mem_of_getElem? (i := 19) rfl)) rfl, tb_in (tb_3 (List.mem_of_getElem? (i := 20) rfl)) rfl⟩
theorem mwX3_comingAt : mw_V yX3_comingAt sX3_comingAt 1 := ⟨tb_in (tb_3 (List.mem_of_getElem? (i := 149) rfl)) rfl, iiX3, ⟨by decide +kernel, by decide +kernel, by decide +kernel⟩, tb_in (tb_3 (List.mem_of_getElem? (i := 147) rfl)) rfl, tb_in (tb_3 (List.mem_of_getElem? (i := 148) rfl)) rfl⟩
theorem mwX0_addBrought : mw_S yX0_addBrought sX0_addBrought 4 := ⟨tb_in (tb_3 (List.mem_of_getElem? (i := 145) rfl)) rfl, iiX0, ⟨by decide +kernel, by decide +kernel, by decide +kernel⟩, tb_in (tb_3 (List.mem_of_getElem? (i := 144) rfl)) rfl⟩
theorem mwX3_addGoing : mw_V yX3_addGoing sX3_addGoing 1 := ⟨tb_in (tb_2 (List.mem_of_getElem? (i := 101) rfl)) rfl, iiX3, ⟨by decide +kernel, by decide +kernel, by decide +kernel⟩, tb_in (tb_2 (List.mem_of_getElem? (i := 99) rfl)) rfl, tb_in (tb_2 (List.mem_of_getElem? (i := 100) rfl)) rfl⟩
theorem mwX3_going : mw_V yX3_going sX3_going 1 := ⟨tb_in (tb_2 (List.mem_of_getElem? (i := 233) rfl)) rfl, iiX3, ⟨by decide +kernel, by decide +kernel, by decide +kernel⟩, tb_in (tb_2 (List.mem_of_getElem? (i := 231) rfl)) rfl, tb_in (tb_2 (List.mem_of_getElem? (i := 232) rfl)) rfl⟩
theorem mwX3_goingLine : mw_V yX3_goingLine sX3_goingLine 2 := ⟨tb_in (tb_3 (List.mem_of_getElem? (i := 17) rfl)) rfl, iiX3, ⟨by decide +kernel, by decide +kernel, by decide +kernel⟩, tb_in (tb_3 (List.mem_of_getElem? (i := 15) rfl)) rfl, tb_in (tb_3 (List.mem_of_getElem? (i := 16) rfl)) rfl⟩
theorem mwX3_goingAt : mw_V yX3_goingAt sX3_goingAt 1 := ⟨tb_in (tb_3 (List.mem_of_getElem? (i := 107) rfl)) rfl, iiX3, ⟨by decide +kernel, by decide +kernel, by decide +kernel⟩, tb_in (tb_3 (List.mem_of_getElem? (i := 105) rfl)) rfl, tb_in (tb_3 (List.mem_of_getElem? (i := 106) rfl)) rfl⟩
theorem mwX0_addTaken : mw_S yX0_addTaken sX0_addTaken 4 := ⟨tb_in (tb_3 (List.mem_of_getElem? (i := 133) rfl)) rfl, iiX0, ⟨by decide +kernel, by decide +kernel, by decide +kernel⟩, tb_in (tb_3 (List.mem_of_getElem? (i := 132) rfl)) rfl⟩
theorem mwX3_hunks : mw_V yX3_hunks sX3_hunks 0 := ⟨tb_in (tb_2 (List.mem_of_getElem? (i := 182) rfl)) rfl, iiX3, ⟨by decide +kernel, by decide +kernel, by decide +kernel⟩, tb_in (tb_2 (List.mem_of_getElem? (i := 180) rfl)) rfl, tb_in (tb_2 (List.mem_of_getElem? (i := 181) rfl)) rfl⟩
theorem mwX0_agree : mw_V yX0_agree sX0_agree 2 := ⟨tb_in (tb_3 (List.mem_of_getElem? (i := 100) rfl)) rfl, iiX0, ⟨by decide +kernel, by decide +kernel, by decide +kernel⟩, tb_in (tb_3 (List.mem_of_getElem? (i := 98) rfl)) rfl, tb_in (tb_3 (List.mem_of_getElem? (i := 99) rfl)) rfl⟩
theorem mwX3_endsBehind : mw_V yX3_endsBehind sX3_endsBehind 1 := ⟨tb_in (tb_3 (List.mem_of_getElem? (i := 122) rfl)) rfl, iiX3, ⟨by decide +kernel, by decide +kernel, by decide +kernel⟩, tb_in (tb_3 (List.mem_of_getElem? (i := 120) rfl)) rfl, tb_in (tb_3 (List.mem_of_getElem? (i := 121) rfl)) rfl⟩
theorem mwX3_ends : mw_V yX3_ends sX3_ends 1 := ⟨tb_in (tb_2 (List.mem_of_getElem? (i := 225) rfl)) rfl, iiX3, ⟨by decide +kernel, by decide +kernel, by decide +kernel⟩, tb_in (tb_2 (List.mem_of_getElem? (i := 223) rfl)) rfl, tb_in (tb_2 (List.mem_of_getElem? (i := 224) rfl)) rfl⟩
theorem mwX3_touches : mw_V yX3_touches sX3_touches 2 := ⟨tb_in (tb_3 (List.mem_of_getElem? (i := 184) rfl)) rfl, iiX3, ⟨by decide +kernel, by decide +kernel, by decide +kernel⟩, tb_in (tb_3 (List.mem_of_getElem? (i := 182) rfl)) rfl, tb_in (tb_3 (List.mem_of_getElem? (i := 183) rfl)) rfl⟩
theorem mwX0_anyTouch : mw_V yX0_anyTouch sX0_anyTouch 2 := ⟨tb_in (tb_3 (List.mem_of_getElem? (i := 180) rfl)) rfl, iiX0, ⟨by decide +kernel, by decide +kernel, by decide +kernel⟩, tb_in (tb_3 (List.mem_of_getElem? (i := 178) rfl)) rfl, tb_in (tb_3 (List.mem_of_getElem? (i := 179) rfl)) rfl⟩
theorem mwX0_gather : mw_V yX0_gather sX0_gather 2 := ⟨tb_in (tb_3 (List.mem_of_getElem? (i := 117) rfl)) rfl, iiX0, ⟨by decide +kernel, by decide +kernel, by decide +kernel⟩, tb_in (tb_3 (List.mem_of_getElem? (i := 116) rfl)) rfl, tb_in (tb_0 (List.mem_of_getElem? (i := 20) rfl)) rfl⟩
theorem mwX0_init : mw_I yX0_init sX0_init 0 := ⟨tb_in (tb_1 (List.mem_of_getElem? (i := 81) rfl)) rfl, iiX0, ⟨by decide +kernel, by decide +kernel, by decide +kernel⟩, tb_in (tb_1 (List.mem_of_getElem? (i := 80) rfl)) rfl, rfl, rfl⟩
theorem mwX3_addComingOf : mw_V yX3_addComingOf sX3_addComingOf 2 := ⟨tb_in (tb_3 (List.mem_of_getElem? (i := 154) rfl)) rfl, iiX3, ⟨by decide +kernel, by decide +kernel, by decide +kernel⟩, tb_in (tb_3 (List.mem_of_getElem? (i := 152) rfl)) rfl, tb_in (tb_3 (List.mem_of_getElem? (i := 153) rfl)) rfl⟩
theorem mwX3_addGoingOf : mw_V yX3_addGoingOf sX3_addGoingOf 2 := ⟨tb_in (tb_3 (List.mem_of_getElem? (i := 138) rfl)) rfl, iiX3, ⟨by decide +kernel, by decide +kernel, by decide +kernel⟩, tb_in (tb_3 (List.mem_of_getElem? (i := 136) rfl)) rfl, tb_in (tb_3 (List.mem_of_getElem? (i := 137) rfl)) rfl⟩
theorem mwX3_begin : mw_V yX3_begin sX3_begin 1 := ⟨tb_in (tb_2 (List.mem_of_getElem? (i := 92) rfl)) rfl, iiX3, ⟨by decide +kernel, by decide +kernel, by decide +kernel⟩, tb_in (tb_2 (List.mem_of_getElem? (i := 90) rfl)) rfl, tb_in (tb_2 (List.mem_of_getElem? (i := 91) rfl)) rfl⟩
theorem mwX3_addHunk : mw_V yX3_addHunk sX3_addHunk 3 := ⟨tb_in (tb_3 (List.mem_of_getElem? (i := 170) rfl)) rfl, iiX3, ⟨by decide +kernel, by decide +kernel, by decide +kernel⟩, tb_in (tb_3 (List.mem_of_getElem? (i := 168) rfl)) rfl, tb_in (tb_3 (List.mem_of_getElem? (i := 169) rfl)) rfl⟩
theorem mwX0_moveAhead : mw_V yX0_moveAhead sX0_moveAhead 3 := ⟨tb_in (tb_3 (List.mem_of_getElem? (i := 188) rfl)) rfl, iiX0, ⟨by decide +kernel, by decide +kernel, by decide +kernel⟩, tb_in (tb_3 (List.mem_of_getElem? (i := 186) rfl)) rfl, tb_in (tb_3 (List.mem_of_getElem? (i := 187) rfl)) rfl⟩
theorem mwX0_moveBehind : mw_V yX0_moveBehind sX0_moveBehind 3 := ⟨tb_in (tb_3 (List.mem_of_getElem? (i := 193) rfl)) rfl, iiX0, ⟨by decide +kernel, by decide +kernel, by decide +kernel⟩, tb_in (tb_3 (List.mem_of_getElem? (i := 191) rfl)) rfl, tb_in (tb_3 (List.mem_of_getElem? (i := 192) rfl)) rfl⟩
theorem mwX0_writeComing : mw_V yX0_writeComing sX0_writeComing 3 := ⟨tb_in (tb_3 (List.mem_of_getElem? (i := 142) rfl)) rfl, iiX0, ⟨by decide +kernel, by decide +kernel, by decide +kernel⟩, tb_in (tb_3 (List.mem_of_getElem? (i := 141) rfl)) rfl, tb_in (tb_0 (List.mem_of_getElem? (i := 22) rfl)) rfl⟩
theorem mwX0_writeGoing : mw_V yX0_writeGoing sX0_writeGoing 3 := ⟨tb_in (tb_3 (List.mem_of_getElem? (i := 130) rfl)) rfl, iiX0, ⟨by decide +kernel, by decide +kernel, by decide +kernel⟩, tb_in (tb_3 (List.mem_of_getElem? (i := 129) rfl)) rfl, tb_in (tb_0 (List.mem_of_getElem? (i := 21) rfl)) rfl⟩
theorem mwX3_clear : mw_V yX3_clear sX3_clear 0 := ⟨tb_in (tb_2 (List.mem_of_getElem? (i := 84) rfl)) rfl, iiX3, ⟨by decide +kernel, by decide +kernel, by decide +kernel⟩, tb_in (tb_2 (List.mem_of_getElem? (i := 82) rfl)) rfl, tb_in (tb_2 (List.mem_of_getElem? (i := 83) rfl)) rfl⟩
theorem mwX3_lastIsIdle : mw_V yX3_lastIsIdle sX3_lastIsIdle 0 := ⟨tb_in (tb_3 (List.mem_of_getElem? (i := 158) rfl)) rfl, iiX3, ⟨by decide +kernel, by decide +kernel, by decide +kernel⟩, tb_in (tb_3 (List.mem_of_getElem? (i := 156) rfl)) rfl, tb_in (tb_3 (List.mem_of_getElem? (i := 157) rfl)) rfl⟩
theorem mwX3_leaveOutLast : mw_V yX3_leaveOutLast sX3_leaveOutLast 0 := ⟨tb_in (tb_3 (List.mem_of_getElem? (i := 162) rfl)) rfl, iiX3, ⟨by decide +kernel, by decide +kernel, by decide +kernel⟩, tb_in (tb_3 (List.mem_of_getElem? (i := 160) rfl)) rfl, tb_in (tb_3 (List.mem_of_getElem? (i := 161) rfl)) rfl⟩
theorem mwX0_putTogether : mw_V yX0_putTogether sX0_putTogether 3 := ⟨tb_in (tb_3 (List.mem_of_getElem? (i := 112) rfl)) rfl, iiX0, ⟨by decide +kernel, by decide +kernel, by decide +kernel⟩, tb_in (tb_3 (List.mem_of_getElem? (i := 110) rfl)) rfl, tb_in (tb_3 (List.mem_of_getElem? (i := 111) rfl)) rfl⟩
theorem mwX1_mostFrom : mw_V yX1_mostFrom sX1_mostFrom 2 := ⟨tb_in (tb_2 (List.mem_of_getElem? (i := 63) rfl)) rfl, iiX1, ⟨by decide +kernel, by decide +kernel, by decide +kernel⟩, tb_in (tb_2 (List.mem_of_getElem? (i := 62) rfl)) rfl, tb_in (tb_0 (List.mem_of_getElem? (i := 5) rfl)) rfl⟩
theorem mwX4_at : mw_V yX4_at sX4_at 1 := ⟨tb_in (tb_1 (List.mem_of_getElem? (i := 210) rfl)) rfl, iiX4, ⟨by decide +kernel, by decide +kernel, by decide +kernel⟩, tb_in (tb_1 (List.mem_of_getElem? (i := 208) rfl)) rfl, tb_in (tb_1 (List.mem_of_getElem? (i := 209) rfl)) rfl⟩
theorem mwX4_size : mw_V yX4_size sX4_size 0 := ⟨tb_in (tb_1 (List.mem_of_getElem? (i := 195) rfl)) rfl, iiX4, ⟨by decide +kernel, by decide +kernel, by decide +kernel⟩, tb_in (tb_1 (List.mem_of_getElem? (i := 193) rfl)) rfl, tb_in (tb_1 (List.mem_of_getElem? (i := 194) rfl)) rfl⟩
theorem mwX1_reckonMost : mw_V yX1_reckonMost sX1_reckonMost 4 := ⟨tb_in (tb_2 (List.mem_of_getElem? (i := 58) rfl)) rfl, iiX1, ⟨by decide +kernel, by decide +kernel, by decide +kernel⟩, tb_in (tb_2 (List.mem_of_getElem? (i := 57) rfl)) rfl, tb_in (tb_0 (List.mem_of_getElem? (i := 4) rfl)) rfl⟩
theorem mwX1_setMost : mw_V yX1_setMost sX1_setMost 3 := ⟨tb_in (tb_2 (List.mem_of_getElem? (i := 68) rfl)) rfl, iiX1, ⟨by decide +kernel, by decide +kernel, by decide +kernel⟩, tb_in (tb_2 (List.mem_of_getElem? (i := 67) rfl)) rfl, tb_in (tb_0 (List.mem_of_getElem? (i := 6) rfl)) rfl⟩
theorem mwX1_setMate : mw_V yX1_setMate sX1_setMate 2 := ⟨tb_in (tb_2 (List.mem_of_getElem? (i := 76) rfl)) rfl, iiX1, ⟨by decide +kernel, by decide +kernel, by decide +kernel⟩, tb_in (tb_2 (List.mem_of_getElem? (i := 75) rfl)) rfl, tb_in (tb_0 (List.mem_of_getElem? (i := 8) rfl)) rfl⟩
theorem mwX1_trace : mw_V yX1_trace sX1_trace 2 := ⟨tb_in (tb_2 (List.mem_of_getElem? (i := 72) rfl)) rfl, iiX1, ⟨by decide +kernel, by decide +kernel, by decide +kernel⟩, tb_in (tb_2 (List.mem_of_getElem? (i := 71) rfl)) rfl, tb_in (tb_0 (List.mem_of_getElem? (i := 7) rfl)) rfl⟩
theorem mwX1_find : mw_V yX1_find sX1_find 2 := ⟨tb_in (tb_2 (List.mem_of_getElem? (i := 53) rfl)) rfl, iiX1, ⟨by decide +kernel, by decide +kernel, by decide +kernel⟩, tb_in (tb_2 (List.mem_of_getElem? (i := 51) rfl)) rfl, tb_in (tb_2 (List.mem_of_getElem? (i := 52) rfl)) rfl⟩
theorem mwX1_init : mw_I yX1_init sX1_init 0 := ⟨tb_in (tb_1 (List.mem_of_getElem? (i := 43) rfl)) rfl, iiX1, ⟨by decide +kernel, by decide +kernel, by decide +kernel⟩, tb_in (tb_1 (List.mem_of_getElem? (i := 42) rfl)) rfl, rfl, rfl⟩
theorem mwX1_mate : mw_V yX1_mate sX1_mate 1 := ⟨tb_in (tb_2 (List.mem_of_getElem? (i := 88) rfl)) rfl, iiX1, ⟨by decide +kernel, by decide +kernel, by decide +kernel⟩, tb_in (tb_2 (List.mem_of_getElem? (i := 86) rfl)) rfl, tb_in (tb_2 (List.mem_of_getElem? (i := 87) rfl)) rfl⟩
theorem mwX3_addComingPart : mw_V yX3_addComingPart sX3_addComingPart 3 := ⟨tb_in (tb_2 (List.mem_of_getElem? (i := 109) rfl)) rfl, iiX3, ⟨by decide +kernel, by decide +kernel, by decide +kernel⟩, tb_in (tb_2 (List.mem_of_getElem? (i := 107) rfl)) rfl, tb_in (tb_2 (List.mem_of_getElem? (i := 108) rfl)) rfl⟩
theorem mwX3_addGoingPart : mw_V yX3_addGoingPart sX3_addGoingPart 3 := ⟨tb_in (tb_2 (List.mem_of_getElem? (i := 96) rfl)) rfl, iiX3, ⟨by decide +kernel, by decide +kernel, by decide +kernel⟩, tb_in (tb_2 (List.mem_of_getElem? (i := 94) rfl)) rfl, tb_in (tb_2 (List.mem_of_getElem? (i := 95) rfl)) rfl⟩
theorem mwX1_writeHunks : mw_V yX1_writeHunks sX1_writeHunks 3 := ⟨tb_in (tb_2 (List.mem_of_getElem? (i := 80) rfl)) rfl, iiX1, ⟨by decide +kernel, by decide +kernel, by decide +kernel⟩, tb_in (tb_2 (List.mem_of_getElem? (i := 78) rfl)) rfl, tb_in (tb_2 (List.mem_of_getElem? (i := 79) rfl)) rfl⟩
theorem mwX2_pieceRoom : mw_V yX2_pieceRoom sX2_pieceRoom 2 := ⟨tb_in (tb_4 (List.mem_of_getElem? (i := 37) rfl)) rfl, iiX2, ⟨by decide +kernel, by decide +kernel, by decide +kernel⟩, tb_in (tb_4 (List.mem_of_getElem? (i := 36) rfl)) rfl, tb_in (tb_0 (List.mem_of_getElem? (i := 31) rfl)) rfl⟩
theorem mwX2_bestPieceRoom : mw_V yX2_bestPieceRoom sX2_bestPieceRoom 1 := ⟨tb_in (tb_4 (List.mem_of_getElem? (i := 106) rfl)) rfl, iiX2, ⟨by decide +kernel, by decide +kernel, by decide +kernel⟩, tb_in (tb_4 (List.mem_of_getElem? (i := 105) rfl)) rfl, tb_in (tb_0 (List.mem_of_getElem? (i := 39) rfl)) rfl⟩
theorem mwX2_isRemadeBy : mw_V yX2_isRemadeBy sX2_isRemadeBy 2 := ⟨tb_in (tb_4 (List.mem_of_getElem? (i := 93) rfl)) rfl, iiX2, ⟨by decide +kernel, by decide +kernel, by decide +kernel⟩, tb_in (tb_4 (List.mem_of_getElem? (i := 92) rfl)) rfl, tb_in (tb_0 (List.mem_of_getElem? (i := 38) rfl)) rfl⟩
theorem mwX2_lostWith : mw_V yX2_lostWith sX2_lostWith 1 := ⟨tb_in (tb_4 (List.mem_of_getElem? (i := 89) rfl)) rfl, iiX2, ⟨by decide +kernel, by decide +kernel, by decide +kernel⟩, tb_in (tb_4 (List.mem_of_getElem? (i := 87) rfl)) rfl, tb_in (tb_4 (List.mem_of_getElem? (i := 88) rfl)) rfl⟩
theorem mwX2_worstPiece : mw_V yX2_worstPiece sX2_worstPiece 1 := ⟨tb_in (tb_4 (List.mem_of_getElem? (i := 85) rfl)) rfl, iiX2, ⟨by decide +kernel, by decide +kernel, by decide +kernel⟩, tb_in (tb_4 (List.mem_of_getElem? (i := 83) rfl)) rfl, tb_in (tb_4 (List.mem_of_getElem? (i := 84) rfl)) rfl⟩
theorem mwX2_worstLossBut : mw_V yX2_worstLossBut sX2_worstLossBut 1 := ⟨tb_in (tb_4 (List.mem_of_getElem? (i := 114) rfl)) rfl, iiX2, ⟨by decide +kernel, by decide +kernel, by decide +kernel⟩, tb_in (tb_4 (List.mem_of_getElem? (i := 112) rfl)) rfl, tb_in (tb_4 (List.mem_of_getElem? (i := 113) rfl)) rfl⟩
theorem mwX2_isBetterCopy : mw_V yX2_isBetterCopy sX2_isBetterCopy 2 := ⟨tb_in (tb_4 (List.mem_of_getElem? (i := 110) rfl)) rfl, iiX2, ⟨by decide +kernel, by decide +kernel, by decide +kernel⟩, tb_in (tb_4 (List.mem_of_getElem? (i := 109) rfl)) rfl, tb_in (tb_0 (List.mem_of_getElem? (i := 40) rfl)) rfl⟩
theorem mwX2_bestCopy : mw_V yX2_bestCopy sX2_bestCopy 1 := ⟨tb_in (tb_4 (List.mem_of_getElem? (i := 102) rfl)) rfl, iiX2, ⟨by decide +kernel, by decide +kernel, by decide +kernel⟩, tb_in (tb_4 (List.mem_of_getElem? (i := 100) rfl)) rfl, tb_in (tb_4 (List.mem_of_getElem? (i := 101) rfl)) rfl⟩
theorem mwX2_clear : mw_V yX2_clear sX2_clear 2 := ⟨tb_in (tb_4 (List.mem_of_getElem? (i := 9) rfl)) rfl, iiX2, ⟨by decide +kernel, by decide +kernel, by decide +kernel⟩, tb_in (tb_4 (List.mem_of_getElem? (i := 7) rfl)) rfl, tb_in (tb_4 (List.mem_of_getElem? (i := 8) rfl)) rfl⟩
theorem mwX2_reckonLeastFrom : mw_V yX2_reckonLeastFrom sX2_reckonLeastFrom 0 := ⟨tb_in (tb_4 (List.mem_of_getElem? (i := 33) rfl)) rfl, iiX2, ⟨by decide +kernel, by decide +kernel, by decide +kernel⟩, tb_in (tb_4 (List.mem_of_getElem? (i := 32) rfl)) rfl, tb_in (tb_0 (List.mem_of_getElem? (i := 30) rfl)) rfl⟩
theorem mwX2_isLess : mw_V yX2_isLess sX2_isLess 2 := ⟨tb_in (tb_4 (List.mem_of_getElem? (i := 53) rfl)) rfl, iiX2, ⟨by decide +kernel, by decide +kernel, by decide +kernel⟩, tb_in (tb_4 (List.mem_of_getElem? (i := 52) rfl)) rfl, tb_in (tb_0 (List.mem_of_getElem? (i := 35) rfl)) rfl⟩
theorem mwX2_leadsTo : mw_V yX2_leadsTo sX2_leadsTo 2 := ⟨tb_in (tb_4 (List.mem_of_getElem? (i := 61) rfl)) rfl, iiX2, ⟨by decide +kernel, by decide +kernel, by decide +kernel⟩, tb_in (tb_4 (List.mem_of_getElem? (i := 60) rfl)) rfl, tb_in (tb_0 (List.mem_of_getElem? (i := 37) rfl)) rfl⟩
theorem mwX2_remadeAtLeast : mw_V yX2_remadeAtLeast sX2_remadeAtLeast 2 := ⟨tb_in (tb_4 (List.mem_of_getElem? (i := 57) rfl)) rfl, iiX2, ⟨by decide +kernel, by decide +kernel, by decide +kernel⟩, tb_in (tb_4 (List.mem_of_getElem? (i := 56) rfl)) rfl, tb_in (tb_0 (List.mem_of_getElem? (i := 36) rfl)) rfl⟩
theorem mwX2_remadeBy : mw_V yX2_remadeBy sX2_remadeBy 2 := ⟨tb_in (tb_4 (List.mem_of_getElem? (i := 49) rfl)) rfl, iiX2, ⟨by decide +kernel, by decide +kernel, by decide +kernel⟩, tb_in (tb_4 (List.mem_of_getElem? (i := 48) rfl)) rfl, tb_in (tb_0 (List.mem_of_getElem? (i := 34) rfl)) rfl⟩
theorem mwX2_takeIfLess : mw_V yX2_takeIfLess sX2_takeIfLess 1 := ⟨tb_in (tb_4 (List.mem_of_getElem? (i := 45) rfl)) rfl, iiX2, ⟨by decide +kernel, by decide +kernel, by decide +kernel⟩, tb_in (tb_4 (List.mem_of_getElem? (i := 44) rfl)) rfl, tb_in (tb_0 (List.mem_of_getElem? (i := 33) rfl)) rfl⟩
theorem mwX2_tryFrom (n : Nat) : mw_V yX2_tryFrom (sX2_tryFrom n) 3 := ⟨tb_in (tb_4 (List.mem_of_getElem? (i := 41) rfl)) rfl, iiX2, ⟨by decide +kernel, by decide +kernel, by decide +kernel⟩, tb_in (tb_4 (List.mem_of_getElem? (i := 40) rfl)) rfl, tb_in (tb_0 (List.mem_of_getElem? (i := 32) rfl)) rfl⟩
theorem mwX2_find : mw_V yX2_find sX2_find 0 := ⟨tb_in (tb_4 (List.mem_of_getElem? (i := 29) rfl)) rfl, iiX2, ⟨by decide +kernel, by decide +kernel, by decide +kernel⟩, tb_in (tb_4 (List.mem_of_getElem? (i := 27) rfl)) rfl, tb_in (tb_4 (List.mem_of_getElem? (i := 28) rfl)) rfl⟩
theorem mwX2_init : mw_I yX2_init sX2_init 0 := ⟨tb_in (tb_1 (List.mem_of_getElem? (i := 106) rfl)) rfl, iiX2, ⟨by decide +kernel, by decide +kernel, by decide +kernel⟩, tb_in (tb_1 (List.mem_of_getElem? (i := 105) rfl)) rfl, rfl, rfl⟩
theorem mwX2_remadeFor : mw_V yX2_remadeFor sX2_remadeFor 1 := ⟨tb_in (tb_4 (List.mem_of_getElem? (i := 69) rfl)) rfl, iiX2, ⟨by decide +kernel, by decide +kernel, by decide +kernel⟩, tb_in (tb_4 (List.mem_of_getElem? (i := 67) rfl)) rfl, tb_in (tb_4 (List.mem_of_getElem? (i := 68) rfl)) rfl⟩
theorem mwX2_roomOrNone : mw_V yX2_roomOrNone sX2_roomOrNone 0 := ⟨tb_in (tb_4 (List.mem_of_getElem? (i := 73) rfl)) rfl, iiX2, ⟨by decide +kernel, by decide +kernel, by decide +kernel⟩, tb_in (tb_4 (List.mem_of_getElem? (i := 71) rfl)) rfl, tb_in (tb_4 (List.mem_of_getElem? (i := 72) rfl)) rfl⟩
theorem mwX2_setPatch : mw_V yX2_setPatch sX2_setPatch 3 := ⟨tb_in (tb_4 (List.mem_of_getElem? (i := 25) rfl)) rfl, iiX2, ⟨by decide +kernel, by decide +kernel, by decide +kernel⟩, tb_in (tb_4 (List.mem_of_getElem? (i := 23) rfl)) rfl, tb_in (tb_4 (List.mem_of_getElem? (i := 24) rfl)) rfl⟩
theorem mwX2_setWhole : mw_V yX2_setWhole sX2_setWhole 3 := ⟨tb_in (tb_4 (List.mem_of_getElem? (i := 17) rfl)) rfl, iiX2, ⟨by decide +kernel, by decide +kernel, by decide +kernel⟩, tb_in (tb_4 (List.mem_of_getElem? (i := 15) rfl)) rfl, tb_in (tb_4 (List.mem_of_getElem? (i := 16) rfl)) rfl⟩
theorem mwX2_sourceOf : mw_V yX2_sourceOf sX2_sourceOf 1 := ⟨tb_in (tb_4 (List.mem_of_getElem? (i := 65) rfl)) rfl, iiX2, ⟨by decide +kernel, by decide +kernel, by decide +kernel⟩, tb_in (tb_4 (List.mem_of_getElem? (i := 63) rfl)) rfl, tb_in (tb_4 (List.mem_of_getElem? (i := 64) rfl)) rfl⟩
theorem mwX2_sumOrNone : mw_V yX2_sumOrNone sX2_sumOrNone 0 := ⟨tb_in (tb_4 (List.mem_of_getElem? (i := 77) rfl)) rfl, iiX2, ⟨by decide +kernel, by decide +kernel, by decide +kernel⟩, tb_in (tb_4 (List.mem_of_getElem? (i := 75) rfl)) rfl, tb_in (tb_4 (List.mem_of_getElem? (i := 76) rfl)) rfl⟩
theorem mwX3_allComing : mw_V yX3_allComing sX3_allComing 0 := ⟨tb_in (tb_2 (List.mem_of_getElem? (i := 121) rfl)) rfl, iiX3, ⟨by decide +kernel, by decide +kernel, by decide +kernel⟩, tb_in (tb_2 (List.mem_of_getElem? (i := 119) rfl)) rfl, tb_in (tb_2 (List.mem_of_getElem? (i := 120) rfl)) rfl⟩
theorem mwX3_allGoing : mw_V yX3_allGoing sX3_allGoing 0 := ⟨tb_in (tb_2 (List.mem_of_getElem? (i := 175) rfl)) rfl, iiX3, ⟨by decide +kernel, by decide +kernel, by decide +kernel⟩, tb_in (tb_2 (List.mem_of_getElem? (i := 173) rfl)) rfl, tb_in (tb_2 (List.mem_of_getElem? (i := 174) rfl)) rfl⟩
theorem mwX3_become : mw_V yX3_become sX3_become 1 := ⟨tb_in (tb_3 (List.mem_of_getElem? (i := 166) rfl)) rfl, iiX3, ⟨by decide +kernel, by decide +kernel, by decide +kernel⟩, tb_in (tb_3 (List.mem_of_getElem? (i := 164) rfl)) rfl, tb_in (tb_3 (List.mem_of_getElem? (i := 165) rfl)) rfl⟩
theorem mwX3_becomeTurned : mw_V yX3_becomeTurned sX3_becomeTurned 1 := ⟨tb_in (tb_3 (List.mem_of_getElem? (i := 81) rfl)) rfl, iiX3, ⟨by decide +kernel, by decide +kernel, by decide +kernel⟩, tb_in (tb_3 (List.mem_of_getElem? (i := 79) rfl)) rfl, tb_in (tb_3 (List.mem_of_getElem? (i := 80) rfl)) rfl⟩
theorem mwX3_standsAt : mw_V yX3_standsAt sX3_standsAt 3 := ⟨tb_in (tb_3 (List.mem_of_getElem? (i := 34) rfl)) rfl, iiX3, ⟨by decide +kernel, by decide +kernel, by decide +kernel⟩, tb_in (tb_3 (List.mem_of_getElem? (i := 33) rfl)) rfl, tb_in (tb_0 (List.mem_of_getElem? (i := 16) rfl)) rfl⟩
theorem mwX3_fitsOn : mw_V yX3_fitsOn sX3_fitsOn 1 := ⟨tb_in (tb_3 (List.mem_of_getElem? (i := 30) rfl)) rfl, iiX3, ⟨by decide +kernel, by decide +kernel, by decide +kernel⟩, tb_in (tb_3 (List.mem_of_getElem? (i := 28) rfl)) rfl, tb_in (tb_3 (List.mem_of_getElem? (i := 29) rfl)) rfl⟩
theorem mwX3_isAlike : mw_V yX3_isAlike sX3_isAlike 3 := ⟨tb_in (tb_3 (List.mem_of_getElem? (i := 215) rfl)) rfl, iiX3, ⟨by decide +kernel, by decide +kernel, by decide +kernel⟩, tb_in (tb_3 (List.mem_of_getElem? (i := 214) rfl)) rfl, tb_in (tb_0 (List.mem_of_getElem? (i := 25) rfl)) rfl⟩
theorem mwX3_hasAlike : mw_V yX3_hasAlike sX3_hasAlike 2 := ⟨tb_in (tb_3 (List.mem_of_getElem? (i := 211) rfl)) rfl, iiX3, ⟨by decide +kernel, by decide +kernel, by decide +kernel⟩, tb_in (tb_3 (List.mem_of_getElem? (i := 209) rfl)) rfl, tb_in (tb_3 (List.mem_of_getElem? (i := 210) rfl)) rfl⟩
theorem mwX3_init : mw_I yX3_init sX3_init 2 := ⟨tb_in (tb_1 (List.mem_of_getElem? (i := 55) rfl)) rfl, iiX3, ⟨by decide +kernel, by decide +kernel, by decide +kernel⟩, tb_in (tb_1 (List.mem_of_getElem? (i := 54) rfl)) rfl, rfl, rfl⟩
theorem mwX3_nearestPlace : mw_V yX3_nearestPlace sX3_nearestPlace 4 := ⟨tb_in (tb_3 (List.mem_of_getElem? (i := 64) rfl)) rfl, iiX3, ⟨by decide +kernel, by decide +kernel, by decide +kernel⟩, tb_in (tb_3 (List.mem_of_getElem? (i := 63) rfl)) rfl, tb_in (tb_0 (List.mem_of_getElem? (i := 18) rfl)) rfl⟩
theorem mwX4_insert : mw_V yX4_insert sX4_insert 2 := ⟨tb_in (tb_1 (List.mem_of_getElem? (i := 202) rfl)) rfl, iiX4, ⟨by decide +kernel, by decide +kernel, by decide +kernel⟩, tb_in (tb_1 (List.mem_of_getElem? (i := 200) rfl)) rfl, tb_in (tb_1 (List.mem_of_getElem? (i := 201) rfl)) rfl⟩
theorem mwX4_remove : mw_V yX4_remove sX4_remove 1 := ⟨tb_in (tb_1 (List.mem_of_getElem? (i := 214) rfl)) rfl, iiX4, ⟨by decide +kernel, by decide +kernel, by decide +kernel⟩, tb_in (tb_1 (List.mem_of_getElem? (i := 212) rfl)) rfl, tb_in (tb_1 (List.mem_of_getElem? (i := 213) rfl)) rfl⟩
theorem mwX3_replace : mw_V yX3_replace sX3_replace 3 := ⟨tb_in (tb_3 (List.mem_of_getElem? (i := 71) rfl)) rfl, iiX3, ⟨by decide +kernel, by decide +kernel, by decide +kernel⟩, tb_in (tb_3 (List.mem_of_getElem? (i := 70) rfl)) rfl, tb_in (tb_0 (List.mem_of_getElem? (i := 19) rfl)) rfl⟩
theorem mwX3_layLooselyOn : mw_V yX3_layLooselyOn sX3_layLooselyOn 1 := ⟨tb_in (tb_3 (List.mem_of_getElem? (i := 60) rfl)) rfl, iiX3, ⟨by decide +kernel, by decide +kernel, by decide +kernel⟩, tb_in (tb_3 (List.mem_of_getElem? (i := 58) rfl)) rfl, tb_in (tb_3 (List.mem_of_getElem? (i := 59) rfl)) rfl⟩
theorem mwX4_add : mw_V yX4_add sX4_add 1 := ⟨tb_in (tb_2 (List.mem_of_getElem? (i := 1) rfl)) rfl, iiX4, ⟨by decide +kernel, by decide +kernel, by decide +kernel⟩, tb_in (tb_1 (List.mem_of_getElem? (i := 239) rfl)) rfl, tb_in (tb_2 (List.mem_of_getElem? (i := 0) rfl)) rfl⟩
theorem mwX4_addPart : mw_V yX4_addPart sX4_addPart 3 := ⟨tb_in (tb_1 (List.mem_of_getElem? (i := 236) rfl)) rfl, iiX4, ⟨by decide +kernel, by decide +kernel, by decide +kernel⟩, tb_in (tb_1 (List.mem_of_getElem? (i := 234) rfl)) rfl, tb_in (tb_1 (List.mem_of_getElem? (i := 235) rfl)) rfl⟩
theorem mwX4_clear : mw_V yX4_clear sX4_clear 0 := ⟨tb_in (tb_1 (List.mem_of_getElem? (i := 222) rfl)) rfl, iiX4, ⟨by decide +kernel, by decide +kernel, by decide +kernel⟩, tb_in (tb_1 (List.mem_of_getElem? (i := 220) rfl)) rfl, tb_in (tb_1 (List.mem_of_getElem? (i := 221) rfl)) rfl⟩
theorem mwX3_layOn : mw_V yX3_layOn sX3_layOn 2 := ⟨tb_in (tb_3 (List.mem_of_getElem? (i := 44) rfl)) rfl, iiX3, ⟨by decide +kernel, by decide +kernel, by decide +kernel⟩, tb_in (tb_3 (List.mem_of_getElem? (i := 42) rfl)) rfl, tb_in (tb_3 (List.mem_of_getElem? (i := 43) rfl)) rfl⟩
theorem mwX3_mayBeginNext : mw_V yX3_mayBeginNext sX3_mayBeginNext 1 := ⟨tb_in (tb_2 (List.mem_of_getElem? (i := 221) rfl)) rfl, iiX3, ⟨by decide +kernel, by decide +kernel, by decide +kernel⟩, tb_in (tb_2 (List.mem_of_getElem? (i := 219) rfl)) rfl, tb_in (tb_2 (List.mem_of_getElem? (i := 220) rfl)) rfl⟩
theorem mwX3_room : mw_V yX3_room sX3_room 0 := ⟨tb_in (tb_2 (List.mem_of_getElem? (i := 117) rfl)) rfl, iiX3, ⟨by decide +kernel, by decide +kernel, by decide +kernel⟩, tb_in (tb_2 (List.mem_of_getElem? (i := 115) rfl)) rfl, tb_in (tb_2 (List.mem_of_getElem? (i := 116) rfl)) rfl⟩
theorem mwX4_become : mw_V yX4_become sX4_become 1 := ⟨tb_in (tb_1 (List.mem_of_getElem? (i := 230) rfl)) rfl, iiX4, ⟨by decide +kernel, by decide +kernel, by decide +kernel⟩, tb_in (tb_1 (List.mem_of_getElem? (i := 228) rfl)) rfl, tb_in (tb_1 (List.mem_of_getElem? (i := 229) rfl)) rfl⟩
theorem mwX4_init : mw_I yX4_init sX4_init 1 := ⟨tb_in (tb_1 (List.mem_of_getElem? (i := 22) rfl)) rfl, iiX4, ⟨by decide +kernel, by decide +kernel, by decide +kernel⟩, tb_in (tb_1 (List.mem_of_getElem? (i := 21) rfl)) rfl, rfl, rfl⟩
theorem mwX6_mix : mw_S yX6_mix sX6_mix 2 := ⟨tb_in (tb_4 (List.mem_of_getElem? (i := 132) rfl)) rfl, iiX6, ⟨by decide +kernel, by decide +kernel, by decide +kernel⟩, tb_in (tb_4 (List.mem_of_getElem? (i := 131) rfl)) rfl⟩
theorem mwX4_mixInto : mw_V yX4_mixInto sX4_mixInto 1 := ⟨tb_in (tb_4 (List.mem_of_getElem? (i := 129) rfl)) rfl, iiX4, ⟨by decide +kernel, by decide +kernel, by decide +kernel⟩, tb_in (tb_4 (List.mem_of_getElem? (i := 127) rfl)) rfl, tb_in (tb_4 (List.mem_of_getElem? (i := 128) rfl)) rfl⟩
theorem mwX4_room : mw_V yX4_room sX4_room 0 := ⟨tb_in (tb_2 (List.mem_of_getElem? (i := 163) rfl)) rfl, iiX4, ⟨by decide +kernel, by decide +kernel, by decide +kernel⟩, tb_in (tb_2 (List.mem_of_getElem? (i := 161) rfl)) rfl, tb_in (tb_2 (List.mem_of_getElem? (i := 162) rfl)) rfl⟩
theorem mwX5_setBringer : mw_V yX5_setBringer sX5_setBringer 2 := ⟨tb_in (tb_2 (List.mem_of_getElem? (i := 141) rfl)) rfl, iiX5, ⟨by decide +kernel, by decide +kernel, by decide +kernel⟩, tb_in (tb_2 (List.mem_of_getElem? (i := 139) rfl)) rfl, tb_in (tb_2 (List.mem_of_getElem? (i := 140) rfl)) rfl⟩
theorem mwX5_allBroughtBy : mw_V yX5_allBroughtBy sX5_allBroughtBy 1 := ⟨tb_in (tb_2 (List.mem_of_getElem? (i := 136) rfl)) rfl, iiX5, ⟨by decide +kernel, by decide +kernel, by decide +kernel⟩, tb_in (tb_2 (List.mem_of_getElem? (i := 134) rfl)) rfl, tb_in (tb_2 (List.mem_of_getElem? (i := 135) rfl)) rfl⟩
theorem mwX5_bringerOf : mw_V yX5_bringerOf sX5_bringerOf 1 := ⟨tb_in (tb_2 (List.mem_of_getElem? (i := 150) rfl)) rfl, iiX5, ⟨by decide +kernel, by decide +kernel, by decide +kernel⟩, tb_in (tb_2 (List.mem_of_getElem? (i := 148) rfl)) rfl, tb_in (tb_2 (List.mem_of_getElem? (i := 149) rfl)) rfl⟩
theorem mwX5_init : mw_I yX5_init sX5_init 2 := ⟨tb_in (tb_2 (List.mem_of_getElem? (i := 18) rfl)) rfl, iiX5, ⟨by decide +kernel, by decide +kernel, by decide +kernel⟩, tb_in (tb_2 (List.mem_of_getElem? (i := 17) rfl)) rfl, rfl, rfl⟩
theorem mwX6_versionOrNull : mw_V yX6_versionOrNull sX6_versionOrNull 1 := ⟨tb_in (tb_1 (List.mem_of_getElem? (i := 226) rfl)) rfl, iiX6, ⟨by decide +kernel, by decide +kernel, by decide +kernel⟩, tb_in (tb_1 (List.mem_of_getElem? (i := 225) rfl)) rfl, tb_in (tb_0 (List.mem_of_getElem? (i := 0) rfl)) rfl⟩
theorem mwX6_about : mw_V yX6_about sX6_about 2 := ⟨tb_in (tb_2 (List.mem_of_getElem? (i := 159) rfl)) rfl, iiX6, ⟨by decide +kernel, by decide +kernel, by decide +kernel⟩, tb_in (tb_2 (List.mem_of_getElem? (i := 157) rfl)) rfl, tb_in (tb_2 (List.mem_of_getElem? (i := 158) rfl)) rfl⟩
theorem mwX6_addPatch : mw_V yX6_addPatch sX6_addPatch 1 := ⟨tb_in (tb_2 (List.mem_of_getElem? (i := 202) rfl)) rfl, iiX6, ⟨by decide +kernel, by decide +kernel, by decide +kernel⟩, tb_in (tb_2 (List.mem_of_getElem? (i := 201) rfl)) rfl, tb_in (tb_0 (List.mem_of_getElem? (i := 14) rfl)) rfl⟩
theorem mwX6_asked : mw_V yX6_asked sX6_asked 2 := ⟨tb_in (tb_2 (List.mem_of_getElem? (i := 167) rfl)) rfl, iiX6, ⟨by decide +kernel, by decide +kernel, by decide +kernel⟩, tb_in (tb_2 (List.mem_of_getElem? (i := 165) rfl)) rfl, tb_in (tb_2 (List.mem_of_getElem? (i := 166) rfl)) rfl⟩
theorem mwX6_hasRoomForPatches : mw_V yX6_hasRoomForPatches sX6_hasRoomForPatches 1 := ⟨tb_in (tb_2 (List.mem_of_getElem? (i := 195) rfl)) rfl, iiX6, ⟨by decide +kernel, by decide +kernel, by decide +kernel⟩, tb_in (tb_2 (List.mem_of_getElem? (i := 194) rfl)) rfl, tb_in (tb_0 (List.mem_of_getElem? (i := 13) rfl)) rfl⟩
theorem mwX6_newPatch : mw_S yX6_newPatch sX6_newPatch 0 := ⟨tb_in (tb_2 (List.mem_of_getElem? (i := 198) rfl)) rfl, iiX6, ⟨by decide +kernel, by decide +kernel, by decide +kernel⟩, tb_in (tb_2 (List.mem_of_getElem? (i := 197) rfl)) rfl⟩
theorem mwX6_blank : mw_V yX6_blank sX6_blank 0 := ⟨tb_in (tb_2 (List.mem_of_getElem? (i := 206) rfl)) rfl, iiX6, ⟨by decide +kernel, by decide +kernel, by decide +kernel⟩, tb_in (tb_2 (List.mem_of_getElem? (i := 204) rfl)) rfl, tb_in (tb_2 (List.mem_of_getElem? (i := 205) rfl)) rfl⟩
theorem mwX6_brought : mw_V yX6_brought sX6_brought 2 := ⟨tb_in (tb_3 (List.mem_of_getElem? (i := 229) rfl)) rfl, iiX6, ⟨by decide +kernel, by decide +kernel, by decide +kernel⟩, tb_in (tb_3 (List.mem_of_getElem? (i := 227) rfl)) rfl, tb_in (tb_3 (List.mem_of_getElem? (i := 228) rfl)) rfl⟩
theorem mwX6_clashes : mw_V yX6_clashes sX6_clashes 0 := ⟨tb_in (tb_3 (List.mem_of_getElem? (i := 205) rfl)) rfl, iiX6, ⟨by decide +kernel, by decide +kernel, by decide +kernel⟩, tb_in (tb_3 (List.mem_of_getElem? (i := 204) rfl)) rfl, tb_in (tb_0 (List.mem_of_getElem? (i := 24) rfl)) rfl⟩
theorem mwX6_writeDifference : mw_V yX6_writeDifference sX6_writeDifference 3 := ⟨tb_in (tb_2 (List.mem_of_getElem? (i := 49) rfl)) rfl, iiX6, ⟨by decide +kernel, by decide +kernel, by decide +kernel⟩, tb_in (tb_2 (List.mem_of_getElem? (i := 48) rfl)) rfl, tb_in (tb_0 (List.mem_of_getElem? (i := 3) rfl)) rfl⟩
theorem mwX6_writeBothDifferences : mw_V yX6_writeBothDifferences sX6_writeBothDifferences 3 := ⟨tb_in (tb_3 (List.mem_of_getElem? (i := 201) rfl)) rfl, iiX6, ⟨by decide +kernel, by decide +kernel, by decide +kernel⟩, tb_in (tb_3 (List.mem_of_getElem? (i := 200) rfl)) rfl, tb_in (tb_0 (List.mem_of_getElem? (i := 23) rfl)) rfl⟩
theorem mwX6_clash : mw_V yX6_clash sX6_clash 3 := ⟨tb_in (tb_3 (List.mem_of_getElem? (i := 197) rfl)) rfl, iiX6, ⟨by decide +kernel, by decide +kernel, by decide +kernel⟩, tb_in (tb_3 (List.mem_of_getElem? (i := 195) rfl)) rfl, tb_in (tb_3 (List.mem_of_getElem? (i := 196) rfl)) rfl⟩
theorem mwX6_count : mw_V yX6_count sX6_count 1 := ⟨tb_in (tb_4 (List.mem_of_getElem? (i := 120) rfl)) rfl, iiX6, ⟨by decide +kernel, by decide +kernel, by decide +kernel⟩, tb_in (tb_4 (List.mem_of_getElem? (i := 118) rfl)) rfl, tb_in (tb_4 (List.mem_of_getElem? (i := 119) rfl)) rfl⟩
theorem mwX6_desk : mw_V yX6_desk sX6_desk 1 := ⟨tb_in (tb_2 (List.mem_of_getElem? (i := 6) rfl)) rfl, iiX6, ⟨by decide +kernel, by decide +kernel, by decide +kernel⟩, tb_in (tb_2 (List.mem_of_getElem? (i := 4) rfl)) rfl, tb_in (tb_2 (List.mem_of_getElem? (i := 5) rfl)) rfl⟩
theorem mwX6_tellPatch : mw_S yX6_tellPatch sX6_tellPatch 2 := ⟨tb_in (tb_2 (List.mem_of_getElem? (i := 178) rfl)) rfl, iiX6, ⟨by decide +kernel, by decide +kernel, by decide +kernel⟩, tb_in (tb_2 (List.mem_of_getElem? (i := 177) rfl)) rfl⟩
theorem mwX6_differ : mw_V yX6_differ sX6_differ 3 := ⟨tb_in (tb_2 (List.mem_of_getElem? (i := 171) rfl)) rfl, iiX6, ⟨by decide +kernel, by decide +kernel, by decide +kernel⟩, tb_in (tb_2 (List.mem_of_getElem? (i := 169) rfl)) rfl, tb_in (tb_2 (List.mem_of_getElem? (i := 170) rfl)) rfl⟩
theorem mwX6_differenceRoom : mw_V yX6_differenceRoom sX6_differenceRoom 2 := ⟨tb_in (tb_4 (List.mem_of_getElem? (i := 21) rfl)) rfl, iiX6, ⟨by decide +kernel, by decide +kernel, by decide +kernel⟩, tb_in (tb_4 (List.mem_of_getElem? (i := 20) rfl)) rfl, tb_in (tb_0 (List.mem_of_getElem? (i := 29) rfl)) rfl⟩
theorem mwX6_mixPatch : mw_S yX6_mixPatch sX6_mixPatch 2 := ⟨tb_in (tb_4 (List.mem_of_getElem? (i := 142) rfl)) rfl, iiX6, ⟨by decide +kernel, by decide +kernel, by decide +kernel⟩, tb_in (tb_4 (List.mem_of_getElem? (i := 141) rfl)) rfl⟩
theorem mwX6_mixVersion : mw_V yX6_mixVersion sX6_mixVersion 2 := ⟨tb_in (tb_4 (List.mem_of_getElem? (i := 137) rfl)) rfl, iiX6, ⟨by decide +kernel, by decide +kernel, by decide +kernel⟩, tb_in (tb_4 (List.mem_of_getElem? (i := 136) rfl)) rfl, tb_in (tb_0 (List.mem_of_getElem? (i := 41) rfl)) rfl⟩
theorem mwX6_patchOrNull : mw_V yX6_patchOrNull sX6_patchOrNull 1 := ⟨tb_in (tb_2 (List.mem_of_getElem? (i := 214) rfl)) rfl, iiX6, ⟨by decide +kernel, by decide +kernel, by decide +kernel⟩, tb_in (tb_2 (List.mem_of_getElem? (i := 213) rfl)) rfl, tb_in (tb_0 (List.mem_of_getElem? (i := 15) rfl)) rfl⟩
theorem mwX6_digest : mw_V yX6_digest sX6_digest 0 := ⟨tb_in (tb_4 (List.mem_of_getElem? (i := 124) rfl)) rfl, iiX6, ⟨by decide +kernel, by decide +kernel, by decide +kernel⟩, tb_in (tb_4 (List.mem_of_getElem? (i := 122) rfl)) rfl, tb_in (tb_4 (List.mem_of_getElem? (i := 123) rfl)) rfl⟩
theorem mwX6_drop : mw_V yX6_drop sX6_drop 1 := ⟨tb_in (tb_1 (List.mem_of_getElem? (i := 206) rfl)) rfl, iiX6, ⟨by decide +kernel, by decide +kernel, by decide +kernel⟩, tb_in (tb_1 (List.mem_of_getElem? (i := 204) rfl)) rfl, tb_in (tb_1 (List.mem_of_getElem? (i := 205) rfl)) rfl⟩
theorem mwX6_findStore : mw_V yX6_findStore sX6_findStore 2 := ⟨tb_in (tb_4 (List.mem_of_getElem? (i := 5) rfl)) rfl, iiX6, ⟨by decide +kernel, by decide +kernel, by decide +kernel⟩, tb_in (tb_4 (List.mem_of_getElem? (i := 4) rfl)) rfl, tb_in (tb_0 (List.mem_of_getElem? (i := 28) rfl)) rfl⟩
theorem mwX6_fits : mw_V yX6_fits sX6_fits 1 := ⟨tb_in (tb_3 (List.mem_of_getElem? (i := 26) rfl)) rfl, iiX6, ⟨by decide +kernel, by decide +kernel, by decide +kernel⟩, tb_in (tb_3 (List.mem_of_getElem? (i := 24) rfl)) rfl, tb_in (tb_3 (List.mem_of_getElem? (i := 25) rfl)) rfl⟩
theorem mwX6_isLine : mw_S yX6_isLine sX6_isLine 1 := ⟨tb_in (tb_1 (List.mem_of_getElem? (i := 198) rfl)) rfl, iiX6, ⟨by decide +kernel, by decide +kernel, by decide +kernel⟩, tb_in (tb_1 (List.mem_of_getElem? (i := 197) rfl)) rfl⟩
theorem mwX6_isHunk : mw_S yX6_isHunk sX6_isHunk 3 := ⟨tb_in (tb_2 (List.mem_of_getElem? (i := 217) rfl)) rfl, iiX6, ⟨by decide +kernel, by decide +kernel, by decide +kernel⟩, tb_in (tb_2 (List.mem_of_getElem? (i := 216) rfl)) rfl⟩
theorem mwX6_isPatchSize : mw_S yX6_isPatchSize sX6_isPatchSize 3 := ⟨tb_in (tb_2 (List.mem_of_getElem? (i := 236) rfl)) rfl, iiX6, ⟨by decide +kernel, by decide +kernel, by decide +kernel⟩, tb_in (tb_2 (List.mem_of_getElem? (i := 235) rfl)) rfl⟩
theorem mwX6_hunk : mw_V yX6_hunk sX6_hunk 4 := ⟨tb_in (tb_2 (List.mem_of_getElem? (i := 210) rfl)) rfl, iiX6, ⟨by decide +kernel, by decide +kernel, by decide +kernel⟩, tb_in (tb_2 (List.mem_of_getElem? (i := 208) rfl)) rfl, tb_in (tb_2 (List.mem_of_getElem? (i := 209) rfl)) rfl⟩
theorem mwX6_hunkOf : mw_V yX6_hunkOf sX6_hunkOf 3 := ⟨tb_in (tb_3 (List.mem_of_getElem? (i := 7) rfl)) rfl, iiX6, ⟨by decide +kernel, by decide +kernel, by decide +kernel⟩, tb_in (tb_3 (List.mem_of_getElem? (i := 5) rfl)) rfl, tb_in (tb_3 (List.mem_of_getElem? (i := 6) rfl)) rfl⟩
theorem mwX6_init : mw_I yX6_init sX6_init 0 := ⟨tb_in (tb_1 (List.mem_of_getElem? (i := 14) rfl)) rfl, iiX6, ⟨by decide +kernel, by decide +kernel, by decide +kernel⟩, tb_in (tb_1 (List.mem_of_getElem? (i := 13) rfl)) rfl, rfl, rfl⟩
theorem mwX6_isStore : mw_V yX6_isStore sX6_isStore 2 := ⟨tb_in (tb_4 (List.mem_of_getElem? (i := 1) rfl)) rfl, iiX6, ⟨by decide +kernel, by decide +kernel, by decide +kernel⟩, tb_in (tb_4 (List.mem_of_getElem? (i := 0) rfl)) rfl, tb_in (tb_0 (List.mem_of_getElem? (i := 27) rfl)) rfl⟩
theorem mwX6_isVersionOrNone : mw_V yX6_isVersionOrNone sX6_isVersionOrNone 1 := ⟨tb_in (tb_2 (List.mem_of_getElem? (i := 14) rfl)) rfl, iiX6, ⟨by decide +kernel, by decide +kernel, by decide +kernel⟩, tb_in (tb_2 (List.mem_of_getElem? (i := 13) rfl)) rfl, tb_in (tb_0 (List.mem_of_getElem? (i := 1) rfl)) rfl⟩
theorem mwX6_takeTrialToDesk : mw_V yX6_takeTrialToDesk sX6_takeTrialToDesk 0 := ⟨tb_in (tb_3 (List.mem_of_getElem? (i := 52) rfl)) rfl, iiX6, ⟨by decide +kernel, by decide +kernel, by decide +kernel⟩, tb_in (tb_3 (List.mem_of_getElem? (i := 51) rfl)) rfl, tb_in (tb_0 (List.mem_of_getElem? (i := 17) rfl)) rfl⟩
theorem mwX6_uniteBothDifferences : mw_V yX6_uniteBothDifferences sX6_uniteBothDifferences 0 := ⟨tb_in (tb_3 (List.mem_of_getElem? (i := 223) rfl)) rfl, iiX6, ⟨by decide +kernel, by decide +kernel, by decide +kernel⟩, tb_in (tb_3 (List.mem_of_getElem? (i := 222) rfl)) rfl, tb_in (tb_0 (List.mem_of_getElem? (i := 26) rfl)) rfl⟩
theorem mwX6_join : mw_V yX6_join sX6_join 3 := ⟨tb_in (tb_3 (List.mem_of_getElem? (i := 219) rfl)) rfl, iiX6, ⟨by decide +kernel, by decide +kernel, by decide +kernel⟩, tb_in (tb_3 (List.mem_of_getElem? (i := 217) rfl)) rfl, tb_in (tb_3 (List.mem_of_getElem? (i := 218) rfl)) rfl⟩
theorem mwX6_leadBackTo : mw_V yX6_leadBackTo sX6_leadBackTo 2 := ⟨tb_in (tb_2 (List.mem_of_getElem? (i := 145) rfl)) rfl, iiX6, ⟨by decide +kernel, by decide +kernel, by decide +kernel⟩, tb_in (tb_2 (List.mem_of_getElem? (i := 144) rfl)) rfl, tb_in (tb_0 (List.mem_of_getElem? (i := 12) rfl)) rfl⟩
theorem mwX6_leadBack : mw_V yX6_leadBack sX6_leadBack 2 := ⟨tb_in (tb_2 (List.mem_of_getElem? (i := 132) rfl)) rfl, iiX6, ⟨by decide +kernel, by decide +kernel, by decide +kernel⟩, tb_in (tb_2 (List.mem_of_getElem? (i := 131) rfl)) rfl, tb_in (tb_0 (List.mem_of_getElem? (i := 11) rfl)) rfl⟩
theorem mwX6_setDifferenceRoom : mw_V yX6_setDifferenceRoom sX6_setDifferenceRoom 3 := ⟨tb_in (tb_2 (List.mem_of_getElem? (i := 128) rfl)) rfl, iiX6, ⟨by decide +kernel, by decide +kernel, by decide +kernel⟩, tb_in (tb_2 (List.mem_of_getElem? (i := 127) rfl)) rfl, tb_in (tb_0 (List.mem_of_getElem? (i := 10) rfl)) rfl⟩
theorem mwX6_reckonRooms : mw_V yX6_reckonRooms sX6_reckonRooms 1 := ⟨tb_in (tb_2 (List.mem_of_getElem? (i := 45) rfl)) rfl, iiX6, ⟨by decide +kernel, by decide +kernel, by decide +kernel⟩, tb_in (tb_2 (List.mem_of_getElem? (i := 44) rfl)) rfl, tb_in (tb_0 (List.mem_of_getElem? (i := 2) rfl)) rfl⟩
theorem mwX6_keep : mw_V yX6_keep sX6_keep 2 := ⟨tb_in (tb_2 (List.mem_of_getElem? (i := 10) rfl)) rfl, iiX6, ⟨by decide +kernel, by decide +kernel, by decide +kernel⟩, tb_in (tb_2 (List.mem_of_getElem? (i := 8) rfl)) rfl, tb_in (tb_2 (List.mem_of_getElem? (i := 9) rfl)) rfl⟩
theorem mwX6_kept : mw_V yX6_kept sX6_kept 3 := ⟨tb_in (tb_2 (List.mem_of_getElem? (i := 187) rfl)) rfl, iiX6, ⟨by decide +kernel, by decide +kernel, by decide +kernel⟩, tb_in (tb_2 (List.mem_of_getElem? (i := 185) rfl)) rfl, tb_in (tb_2 (List.mem_of_getElem? (i := 186) rfl)) rfl⟩
theorem mwX6_lay : mw_V yX6_lay sX6_lay 1 := ⟨tb_in (tb_3 (List.mem_of_getElem? (i := 40) rfl)) rfl, iiX6, ⟨by decide +kernel, by decide +kernel, by decide +kernel⟩, tb_in (tb_3 (List.mem_of_getElem? (i := 38) rfl)) rfl, tb_in (tb_3 (List.mem_of_getElem? (i := 39) rfl)) rfl⟩
theorem mwX6_line : mw_V yX6_line sX6_line 2 := ⟨tb_in (tb_1 (List.mem_of_getElem? (i := 191) rfl)) rfl, iiX6, ⟨by decide +kernel, by decide +kernel, by decide +kernel⟩, tb_in (tb_1 (List.mem_of_getElem? (i := 189) rfl)) rfl, tb_in (tb_1 (List.mem_of_getElem? (i := 190) rfl)) rfl⟩
theorem mwX6_loose : mw_V yX6_loose sX6_loose 1 := ⟨tb_in (tb_3 (List.mem_of_getElem? (i := 56) rfl)) rfl, iiX6, ⟨by decide +kernel, by decide +kernel, by decide +kernel⟩, tb_in (tb_3 (List.mem_of_getElem? (i := 54) rfl)) rfl, tb_in (tb_3 (List.mem_of_getElem? (i := 55) rfl)) rfl⟩
theorem mwX6_of : mw_V yX6_of sX6_of 2 := ⟨tb_in (tb_3 (List.mem_of_getElem? (i := 3) rfl)) rfl, iiX6, ⟨by decide +kernel, by decide +kernel, by decide +kernel⟩, tb_in (tb_3 (List.mem_of_getElem? (i := 1) rfl)) rfl, tb_in (tb_3 (List.mem_of_getElem? (i := 2) rfl)) rfl⟩
theorem mwX6_patch : mw_V yX6_patch sX6_patch 2 := ⟨tb_in (tb_2 (List.mem_of_getElem? (i := 191) rfl)) rfl, iiX6, ⟨by decide +kernel, by decide +kernel, by decide +kernel⟩, tb_in (tb_2 (List.mem_of_getElem? (i := 189) rfl)) rfl, tb_in (tb_2 (List.mem_of_getElem? (i := 190) rfl)) rfl⟩
theorem mwX6_saved : mw_V yX6_saved sX6_saved 4 := ⟨tb_in (tb_4 (List.mem_of_getElem? (i := 98) rfl)) rfl, iiX6, ⟨by decide +kernel, by decide +kernel, by decide +kernel⟩, tb_in (tb_4 (List.mem_of_getElem? (i := 96) rfl)) rfl, tb_in (tb_4 (List.mem_of_getElem? (i := 97) rfl)) rfl⟩
theorem mwX6_share : mw_V yX6_share sX6_share 2 := ⟨tb_in (tb_3 (List.mem_of_getElem? (i := 233) rfl)) rfl, iiX6, ⟨by decide +kernel, by decide +kernel, by decide +kernel⟩, tb_in (tb_3 (List.mem_of_getElem? (i := 231) rfl)) rfl, tb_in (tb_3 (List.mem_of_getElem? (i := 232) rfl)) rfl⟩
theorem mwX6_store : mw_V yX6_store sX6_store 3 := ⟨tb_in (tb_3 (List.mem_of_getElem? (i := 237) rfl)) rfl, iiX6, ⟨by decide +kernel, by decide +kernel, by decide +kernel⟩, tb_in (tb_3 (List.mem_of_getElem? (i := 235) rfl)) rfl, tb_in (tb_3 (List.mem_of_getElem? (i := 236) rfl)) rfl⟩
theorem mwX6_swap : mw_V yX6_swap sX6_swap 2 := ⟨tb_in (tb_3 (List.mem_of_getElem? (i := 176) rfl)) rfl, iiX6, ⟨by decide +kernel, by decide +kernel, by decide +kernel⟩, tb_in (tb_3 (List.mem_of_getElem? (i := 174) rfl)) rfl, tb_in (tb_3 (List.mem_of_getElem? (i := 175) rfl)) rfl⟩
theorem mwX6_take : mw_V yX6_take sX6_take 1 := ⟨tb_in (tb_1 (List.mem_of_getElem? (i := 218) rfl)) rfl, iiX6, ⟨by decide +kernel, by decide +kernel, by decide +kernel⟩, tb_in (tb_1 (List.mem_of_getElem? (i := 216) rfl)) rfl, tb_in (tb_1 (List.mem_of_getElem? (i := 217) rfl)) rfl⟩
theorem mwX6_text : mw_V yX6_text sX6_text 2 := ⟨tb_in (tb_2 (List.mem_of_getElem? (i := 155) rfl)) rfl, iiX6, ⟨by decide +kernel, by decide +kernel, by decide +kernel⟩, tb_in (tb_2 (List.mem_of_getElem? (i := 153) rfl)) rfl, tb_in (tb_2 (List.mem_of_getElem? (i := 154) rfl)) rfl⟩
theorem mwX6_together : mw_V yX6_together sX6_together 2 := ⟨tb_in (tb_3 (List.mem_of_getElem? (i := 96) rfl)) rfl, iiX6, ⟨by decide +kernel, by decide +kernel, by decide +kernel⟩, tb_in (tb_3 (List.mem_of_getElem? (i := 94) rfl)) rfl, tb_in (tb_3 (List.mem_of_getElem? (i := 95) rfl)) rfl⟩
theorem mwX6_turn : mw_V yX6_turn sX6_turn 1 := ⟨tb_in (tb_3 (List.mem_of_getElem? (i := 77) rfl)) rfl, iiX6, ⟨by decide +kernel, by decide +kernel, by decide +kernel⟩, tb_in (tb_3 (List.mem_of_getElem? (i := 75) rfl)) rfl, tb_in (tb_3 (List.mem_of_getElem? (i := 76) rfl)) rfl⟩
theorem mwX6_worst : mw_V yX6_worst sX6_worst 3 := ⟨tb_in (tb_4 (List.mem_of_getElem? (i := 81) rfl)) rfl, iiX6, ⟨by decide +kernel, by decide +kernel, by decide +kernel⟩, tb_in (tb_4 (List.mem_of_getElem? (i := 79) rfl)) rfl, tb_in (tb_4 (List.mem_of_getElem? (i := 80) rfl)) rfl⟩
theorem mwX7_aboutOf : mw_V yX7_aboutOf sX7_aboutOf 2 := ⟨tb_in (tb_5 (List.mem_of_getElem? (i := 78) rfl)) rfl, iiX7, ⟨by decide +kernel, by decide +kernel, by decide +kernel⟩, tb_in (tb_5 (List.mem_of_getElem? (i := 77) rfl)) rfl, tb_in (tb_0 (List.mem_of_getElem? (i := 43) rfl)) rfl⟩
theorem mwX7_within : mw_S yX7_within sX7_within 3 := ⟨tb_in (tb_5 (List.mem_of_getElem? (i := 46) rfl)) rfl, iiX7, ⟨by decide +kernel, by decide +kernel, by decide +kernel⟩, tb_in (tb_5 (List.mem_of_getElem? (i := 45) rfl)) rfl⟩
theorem mwX7_isVersion : mw_V yX7_isVersion sX7_isVersion 1 := ⟨tb_in (tb_5 (List.mem_of_getElem? (i := 58) rfl)) rfl, iiX7, ⟨by decide +kernel, by decide +kernel, by decide +kernel⟩, tb_in (tb_5 (List.mem_of_getElem? (i := 57) rfl)) rfl, tb_in (tb_0 (List.mem_of_getElem? (i := 42) rfl)) rfl⟩
theorem mwX7_about : mw_V yX7_about sX7_about 2 := ⟨tb_in (tb_5 (List.mem_of_getElem? (i := 74) rfl)) rfl, iiX7, ⟨by decide +kernel, by decide +kernel, by decide +kernel⟩, tb_in (tb_5 (List.mem_of_getElem? (i := 72) rfl)) rfl, tb_in (tb_5 (List.mem_of_getElem? (i := 73) rfl)) rfl⟩
theorem mwX7_comeFrom : mw_V yX7_comeFrom sX7_comeFrom 2 := ⟨tb_in (tb_5 (List.mem_of_getElem? (i := 166) rfl)) rfl, iiX7, ⟨by decide +kernel, by decide +kernel, by decide +kernel⟩, tb_in (tb_5 (List.mem_of_getElem? (i := 165) rfl)) rfl, tb_in (tb_0 (List.mem_of_getElem? (i := 57) rfl)) rfl⟩
theorem mwX7_goFrom : mw_V yX7_goFrom sX7_goFrom 2 := ⟨tb_in (tb_5 (List.mem_of_getElem? (i := 162) rfl)) rfl, iiX7, ⟨by decide +kernel, by decide +kernel, by decide +kernel⟩, tb_in (tb_5 (List.mem_of_getElem? (i := 161) rfl)) rfl, tb_in (tb_0 (List.mem_of_getElem? (i := 56) rfl)) rfl⟩
theorem mwX7_standsAt : mw_V yX7_standsAt sX7_standsAt 2 := ⟨tb_in (tb_5 (List.mem_of_getElem? (i := 214) rfl)) rfl, iiX7, ⟨by decide +kernel, by decide +kernel, by decide +kernel⟩, tb_in (tb_5 (List.mem_of_getElem? (i := 213) rfl)) rfl, tb_in (tb_0 (List.mem_of_getElem? (i := 64) rfl)) rfl⟩
theorem mwX7_agree : mw_V yX7_agree sX7_agree 2 := ⟨tb_in (tb_5 (List.mem_of_getElem? (i := 210) rfl)) rfl, iiX7, ⟨by decide +kernel, by decide +kernel, by decide +kernel⟩, tb_in (tb_5 (List.mem_of_getElem? (i := 209) rfl)) rfl, tb_in (tb_0 (List.mem_of_getElem? (i := 63) rfl)) rfl⟩
theorem mwX7_workFrom : mw_V yX7_workFrom sX7_workFrom 1 := ⟨tb_in (tb_6 (List.mem_of_getElem? (i := 42) rfl)) rfl, iiX7, ⟨by decide +kernel, by decide +kernel, by decide +kernel⟩, tb_in (tb_6 (List.mem_of_getElem? (i := 41) rfl)) rfl, tb_in (tb_0 (List.mem_of_getElem? (i := 79) rfl)) rfl⟩
theorem mwX7_xFrom : mw_V yX7_xFrom sX7_xFrom 1 := ⟨tb_in (tb_6 (List.mem_of_getElem? (i := 38) rfl)) rfl, iiX7, ⟨by decide +kernel, by decide +kernel, by decide +kernel⟩, tb_in (tb_6 (List.mem_of_getElem? (i := 37) rfl)) rfl, tb_in (tb_0 (List.mem_of_getElem? (i := 78) rfl)) rfl⟩
theorem mwX7_alike : mw_V yX7_alike sX7_alike 2 := ⟨tb_in (tb_6 (List.mem_of_getElem? (i := 34) rfl)) rfl, iiX7, ⟨by decide +kernel, by decide +kernel, by decide +kernel⟩, tb_in (tb_6 (List.mem_of_getElem? (i := 33) rfl)) rfl, tb_in (tb_0 (List.mem_of_getElem? (i := 77) rfl)) rfl⟩
theorem mwX7_areVersions : mw_V yX7_areVersions sX7_areVersions 3 := ⟨tb_in (tb_6 (List.mem_of_getElem? (i := 18) rfl)) rfl, iiX7, ⟨by decide +kernel, by decide +kernel, by decide +kernel⟩, tb_in (tb_6 (List.mem_of_getElem? (i := 17) rfl)) rfl, tb_in (tb_0 (List.mem_of_getElem? (i := 73) rfl)) rfl⟩
theorem mwX7_asked : mw_V yX7_asked sX7_asked 2 := ⟨tb_in (tb_5 (List.mem_of_getElem? (i := 82) rfl)) rfl, iiX7, ⟨by decide +kernel, by decide +kernel, by decide +kernel⟩, tb_in (tb_5 (List.mem_of_getElem? (i := 80) rfl)) rfl, tb_in (tb_5 (List.mem_of_getElem? (i := 81) rfl)) rfl⟩
theorem mwX7_newWork : mw_V yX7_newWork sX7_newWork 0 := ⟨tb_in (tb_5 (List.mem_of_getElem? (i := 94) rfl)) rfl, iiX7, ⟨by decide +kernel, by decide +kernel, by decide +kernel⟩, tb_in (tb_5 (List.mem_of_getElem? (i := 93) rfl)) rfl, tb_in (tb_0 (List.mem_of_getElem? (i := 45) rfl)) rfl⟩
theorem mwX7_storeWork : mw_V yX7_storeWork sX7_storeWork 0 := ⟨tb_in (tb_5 (List.mem_of_getElem? (i := 122) rfl)) rfl, iiX7, ⟨by decide +kernel, by decide +kernel, by decide +kernel⟩, tb_in (tb_5 (List.mem_of_getElem? (i := 121) rfl)) rfl, tb_in (tb_0 (List.mem_of_getElem? (i := 50) rfl)) rfl⟩
theorem mwX7_blank : mw_V yX7_blank sX7_blank 0 := ⟨tb_in (tb_5 (List.mem_of_getElem? (i := 126) rfl)) rfl, iiX7, ⟨by decide +kernel, by decide +kernel, by decide +kernel⟩, tb_in (tb_5 (List.mem_of_getElem? (i := 124) rfl)) rfl, tb_in (tb_5 (List.mem_of_getElem? (i := 125) rfl)) rfl⟩
theorem mwX7_comes : mw_V yX7_comes sX7_comes 1 := ⟨tb_in (tb_5 (List.mem_of_getElem? (i := 106) rfl)) rfl, iiX7, ⟨by decide +kernel, by decide +kernel, by decide +kernel⟩, tb_in (tb_5 (List.mem_of_getElem? (i := 105) rfl)) rfl, tb_in (tb_0 (List.mem_of_getElem? (i := 48) rfl)) rfl⟩
theorem mwX7_goes : mw_V yX7_goes sX7_goes 1 := ⟨tb_in (tb_5 (List.mem_of_getElem? (i := 102) rfl)) rfl, iiX7, ⟨by decide +kernel, by decide +kernel, by decide +kernel⟩, tb_in (tb_5 (List.mem_of_getElem? (i := 101) rfl)) rfl, tb_in (tb_0 (List.mem_of_getElem? (i := 47) rfl)) rfl⟩
theorem mwX7_newHunk : mw_V yX7_newHunk sX7_newHunk 1 := ⟨tb_in (tb_5 (List.mem_of_getElem? (i := 98) rfl)) rfl, iiX7, ⟨by decide +kernel, by decide +kernel, by decide +kernel⟩, tb_in (tb_5 (List.mem_of_getElem? (i := 97) rfl)) rfl, tb_in (tb_0 (List.mem_of_getElem? (i := 46) rfl)) rfl⟩
theorem mwX7_layDifference : mw_V yX7_layDifference sX7_layDifference 2 := ⟨tb_in (tb_5 (List.mem_of_getElem? (i := 90) rfl)) rfl, iiX7, ⟨by decide +kernel, by decide +kernel, by decide +kernel⟩, tb_in (tb_5 (List.mem_of_getElem? (i := 89) rfl)) rfl, tb_in (tb_0 (List.mem_of_getElem? (i := 44) rfl)) rfl⟩
theorem mwX7_ledTo : mw_V yX7_ledTo sX7_ledTo 3 := ⟨tb_in (tb_6 (List.mem_of_getElem? (i := 58) rfl)) rfl, iiX7, ⟨by decide +kernel, by decide +kernel, by decide +kernel⟩, tb_in (tb_6 (List.mem_of_getElem? (i := 57) rfl)) rfl, tb_in (tb_0 (List.mem_of_getElem? (i := 81) rfl)) rfl⟩
theorem mwX7_broughtBy : mw_V yX7_broughtBy sX7_broughtBy 2 := ⟨tb_in (tb_6 (List.mem_of_getElem? (i := 54) rfl)) rfl, iiX7, ⟨by decide +kernel, by decide +kernel, by decide +kernel⟩, tb_in (tb_6 (List.mem_of_getElem? (i := 53) rfl)) rfl, tb_in (tb_0 (List.mem_of_getElem? (i := 80) rfl)) rfl⟩
theorem mwX7_brought : mw_V yX7_brought sX7_brought 2 := ⟨tb_in (tb_6 (List.mem_of_getElem? (i := 50) rfl)) rfl, iiX7, ⟨by decide +kernel, by decide +kernel, by decide +kernel⟩, tb_in (tb_6 (List.mem_of_getElem? (i := 48) rfl)) rfl, tb_in (tb_6 (List.mem_of_getElem? (i := 49) rfl)) rfl⟩
theorem mwX7_broughtAt : mw_V yX7_broughtAt sX7_broughtAt 4 := ⟨tb_in (tb_5 (List.mem_of_getElem? (i := 230) rfl)) rfl, iiX7, ⟨by decide +kernel, by decide +kernel, by decide +kernel⟩, tb_in (tb_5 (List.mem_of_getElem? (i := 229) rfl)) rfl, tb_in (tb_0 (List.mem_of_getElem? (i := 68) rfl)) rfl⟩
theorem mwX7_clashes : mw_V yX7_clashes sX7_clashes 1 := ⟨tb_in (tb_6 (List.mem_of_getElem? (i := 30) rfl)) rfl, iiX7, ⟨by decide +kernel, by decide +kernel, by decide +kernel⟩, tb_in (tb_6 (List.mem_of_getElem? (i := 29) rfl)) rfl, tb_in (tb_0 (List.mem_of_getElem? (i := 76) rfl)) rfl⟩
theorem mwX7_layX : mw_V yX7_layX sX7_layX 2 := ⟨tb_in (tb_6 (List.mem_of_getElem? (i := 26) rfl)) rfl, iiX7, ⟨by decide +kernel, by decide +kernel, by decide +kernel⟩, tb_in (tb_6 (List.mem_of_getElem? (i := 25) rfl)) rfl, tb_in (tb_0 (List.mem_of_getElem? (i := 75) rfl)) rfl⟩
theorem mwX7_clashMany : mw_V yX7_clashMany sX7_clashMany 3 := ⟨tb_in (tb_6 (List.mem_of_getElem? (i := 22) rfl)) rfl, iiX7, ⟨by decide +kernel, by decide +kernel, by decide +kernel⟩, tb_in (tb_6 (List.mem_of_getElem? (i := 21) rfl)) rfl, tb_in (tb_0 (List.mem_of_getElem? (i := 74) rfl)) rfl⟩
theorem mwX7_clash : mw_V yX7_clash sX7_clash 3 := ⟨tb_in (tb_6 (List.mem_of_getElem? (i := 14) rfl)) rfl, iiX7, ⟨by decide +kernel, by decide +kernel, by decide +kernel⟩, tb_in (tb_6 (List.mem_of_getElem? (i := 12) rfl)) rfl, tb_in (tb_6 (List.mem_of_getElem? (i := 13) rfl)) rfl⟩
theorem mwX7_comesOf : mw_V yX7_comesOf sX7_comesOf 1 := ⟨tb_in (tb_5 (List.mem_of_getElem? (i := 142) rfl)) rfl, iiX7, ⟨by decide +kernel, by decide +kernel, by decide +kernel⟩, tb_in (tb_5 (List.mem_of_getElem? (i := 141) rfl)) rfl, tb_in (tb_0 (List.mem_of_getElem? (i := 53) rfl)) rfl⟩
theorem mwX7_howMany : mw_V yX7_howMany sX7_howMany 1 := ⟨tb_in (tb_6 (List.mem_of_getElem? (i := 118) rfl)) rfl, iiX7, ⟨by decide +kernel, by decide +kernel, by decide +kernel⟩, tb_in (tb_6 (List.mem_of_getElem? (i := 117) rfl)) rfl, tb_in (tb_0 (List.mem_of_getElem? (i := 91) rfl)) rfl⟩
theorem mwX7_count : mw_V yX7_count sX7_count 1 := ⟨tb_in (tb_6 (List.mem_of_getElem? (i := 114) rfl)) rfl, iiX7, ⟨by decide +kernel, by decide +kernel, by decide +kernel⟩, tb_in (tb_6 (List.mem_of_getElem? (i := 112) rfl)) rfl, tb_in (tb_6 (List.mem_of_getElem? (i := 113) rfl)) rfl⟩
theorem mwX7_desk : mw_V yX7_desk sX7_desk 1 := ⟨tb_in (tb_5 (List.mem_of_getElem? (i := 62) rfl)) rfl, iiX7, ⟨by decide +kernel, by decide +kernel, by decide +kernel⟩, tb_in (tb_5 (List.mem_of_getElem? (i := 60) rfl)) rfl, tb_in (tb_5 (List.mem_of_getElem? (i := 61) rfl)) rfl⟩
theorem mwX7_workRoom : mw_V yX7_workRoom sX7_workRoom 0 := ⟨tb_in (tb_5 (List.mem_of_getElem? (i := 110) rfl)) rfl, iiX7, ⟨by decide +kernel, by decide +kernel, by decide +kernel⟩, tb_in (tb_5 (List.mem_of_getElem? (i := 109) rfl)) rfl, tb_in (tb_0 (List.mem_of_getElem? (i := 49) rfl)) rfl⟩
theorem mwX7_differ : mw_V yX7_differ sX7_differ 3 := ⟨tb_in (tb_5 (List.mem_of_getElem? (i := 86) rfl)) rfl, iiX7, ⟨by decide +kernel, by decide +kernel, by decide +kernel⟩, tb_in (tb_5 (List.mem_of_getElem? (i := 84) rfl)) rfl, tb_in (tb_5 (List.mem_of_getElem? (i := 85) rfl)) rfl⟩
theorem mwX7_mix : mw_V yX7_mix sX7_mix 1 := ⟨tb_in (tb_6 (List.mem_of_getElem? (i := 127) rfl)) rfl, iiX7, ⟨by decide +kernel, by decide +kernel, by decide +kernel⟩, tb_in (tb_6 (List.mem_of_getElem? (i := 126) rfl)) rfl, tb_in (tb_0 (List.mem_of_getElem? (i := 92) rfl)) rfl⟩
theorem mwX7_goesOf : mw_V yX7_goesOf sX7_goesOf 1 := ⟨tb_in (tb_5 (List.mem_of_getElem? (i := 138) rfl)) rfl, iiX7, ⟨by decide +kernel, by decide +kernel, by decide +kernel⟩, tb_in (tb_5 (List.mem_of_getElem? (i := 137) rfl)) rfl, tb_in (tb_0 (List.mem_of_getElem? (i := 52) rfl)) rfl⟩
theorem mwX7_ofPatch : mw_V yX7_ofPatch sX7_ofPatch 2 := ⟨tb_in (tb_5 (List.mem_of_getElem? (i := 150) rfl)) rfl, iiX7, ⟨by decide +kernel, by decide +kernel, by decide +kernel⟩, tb_in (tb_5 (List.mem_of_getElem? (i := 149) rfl)) rfl, tb_in (tb_0 (List.mem_of_getElem? (i := 54) rfl)) rfl⟩
theorem mwX7_toldOf : mw_V yX7_toldOf sX7_toldOf 3 := ⟨tb_in (tb_5 (List.mem_of_getElem? (i := 158) rfl)) rfl, iiX7, ⟨by decide +kernel, by decide +kernel, by decide +kernel⟩, tb_in (tb_5 (List.mem_of_getElem? (i := 157) rfl)) rfl, tb_in (tb_0 (List.mem_of_getElem? (i := 55) rfl)) rfl⟩
theorem mwX7_mixPatch : mw_V yX7_mixPatch sX7_mixPatch 1 := ⟨tb_in (tb_6 (List.mem_of_getElem? (i := 132) rfl)) rfl, iiX7, ⟨by decide +kernel, by decide +kernel, by decide +kernel⟩, tb_in (tb_6 (List.mem_of_getElem? (i := 131) rfl)) rfl, tb_in (tb_0 (List.mem_of_getElem? (i := 93) rfl)) rfl⟩
theorem mwX7_digest : mw_V yX7_digest sX7_digest 0 := ⟨tb_in (tb_6 (List.mem_of_getElem? (i := 122) rfl)) rfl, iiX7, ⟨by decide +kernel, by decide +kernel, by decide +kernel⟩, tb_in (tb_6 (List.mem_of_getElem? (i := 120) rfl)) rfl, tb_in (tb_6 (List.mem_of_getElem? (i := 121) rfl)) rfl⟩
theorem mwX7_drop : mw_V yX7_drop sX7_drop 1 := ⟨tb_in (tb_5 (List.mem_of_getElem? (i := 50) rfl)) rfl, iiX7, ⟨by decide +kernel, by decide +kernel, by decide +kernel⟩, tb_in (tb_5 (List.mem_of_getElem? (i := 48) rfl)) rfl, tb_in (tb_5 (List.mem_of_getElem? (i := 49) rfl)) rfl⟩
theorem mwX7_stands : mw_V yX7_stands sX7_stands 4 := ⟨tb_in (tb_5 (List.mem_of_getElem? (i := 182) rfl)) rfl, iiX7, ⟨by decide +kernel, by decide +kernel, by decide +kernel⟩, tb_in (tb_5 (List.mem_of_getElem? (i := 181) rfl)) rfl, tb_in (tb_0 (List.mem_of_getElem? (i := 60) rfl)) rfl⟩
theorem mwX7_fitsWork : mw_V yX7_fitsWork sX7_fitsWork 1 := ⟨tb_in (tb_5 (List.mem_of_getElem? (i := 178) rfl)) rfl, iiX7, ⟨by decide +kernel, by decide +kernel, by decide +kernel⟩, tb_in (tb_5 (List.mem_of_getElem? (i := 177) rfl)) rfl, tb_in (tb_0 (List.mem_of_getElem? (i := 59) rfl)) rfl⟩
theorem mwX7_isPatch : mw_V yX7_isPatch sX7_isPatch 1 := ⟨tb_in (tb_5 (List.mem_of_getElem? (i := 134) rfl)) rfl, iiX7, ⟨by decide +kernel, by decide +kernel, by decide +kernel⟩, tb_in (tb_5 (List.mem_of_getElem? (i := 133) rfl)) rfl, tb_in (tb_0 (List.mem_of_getElem? (i := 51) rfl)) rfl⟩
theorem mwX7_workOnDesk : mw_V yX7_workOnDesk sX7_workOnDesk 0 := ⟨tb_in (tb_5 (List.mem_of_getElem? (i := 174) rfl)) rfl, iiX7, ⟨by decide +kernel, by decide +kernel, by decide +kernel⟩, tb_in (tb_5 (List.mem_of_getElem? (i := 173) rfl)) rfl, tb_in (tb_0 (List.mem_of_getElem? (i := 58) rfl)) rfl⟩
theorem mwX7_fits : mw_V yX7_fits sX7_fits 1 := ⟨tb_in (tb_5 (List.mem_of_getElem? (i := 170) rfl)) rfl, iiX7, ⟨by decide +kernel, by decide +kernel, by decide +kernel⟩, tb_in (tb_5 (List.mem_of_getElem? (i := 168) rfl)) rfl, tb_in (tb_5 (List.mem_of_getElem? (i := 169) rfl)) rfl⟩
theorem mwX7_hunk : mw_V yX7_hunk sX7_hunk 4 := ⟨tb_in (tb_5 (List.mem_of_getElem? (i := 130) rfl)) rfl, iiX7, ⟨by decide +kernel, by decide +kernel, by decide +kernel⟩, tb_in (tb_5 (List.mem_of_getElem? (i := 128) rfl)) rfl, tb_in (tb_5 (List.mem_of_getElem? (i := 129) rfl)) rfl⟩
theorem mwX7_hunkOf : mw_V yX7_hunkOf sX7_hunkOf 3 := ⟨tb_in (tb_5 (List.mem_of_getElem? (i := 154) rfl)) rfl, iiX7, ⟨by decide +kernel, by decide +kernel, by decide +kernel⟩, tb_in (tb_5 (List.mem_of_getElem? (i := 152) rfl)) rfl, tb_in (tb_5 (List.mem_of_getElem? (i := 153) rfl)) rfl⟩
theorem mwX7_init : mw_I yX7_init sX7_init 0 := ⟨tb_in (tb_4 (List.mem_of_getElem? (i := 148) rfl)) rfl, iiX7, ⟨by decide +kernel, by decide +kernel, by decide +kernel⟩, tb_in (tb_4 (List.mem_of_getElem? (i := 147) rfl)) rfl, rfl, rfl⟩
theorem mwX7_isAsk : mw_V yX7_isAsk sX7_isAsk 2 := ⟨tb_in (tb_6 (List.mem_of_getElem? (i := 70) rfl)) rfl, iiX7, ⟨by decide +kernel, by decide +kernel, by decide +kernel⟩, tb_in (tb_6 (List.mem_of_getElem? (i := 69) rfl)) rfl, tb_in (tb_0 (List.mem_of_getElem? (i := 82) rfl)) rfl⟩
theorem mwX7_toDesk : mw_V yX7_toDesk sX7_toDesk 0 := ⟨tb_in (tb_5 (List.mem_of_getElem? (i := 194) rfl)) rfl, iiX7, ⟨by decide +kernel, by decide +kernel, by decide +kernel⟩, tb_in (tb_5 (List.mem_of_getElem? (i := 193) rfl)) rfl, tb_in (tb_0 (List.mem_of_getElem? (i := 62) rfl)) rfl⟩
theorem mwX7_join : mw_V yX7_join sX7_join 3 := ⟨tb_in (tb_6 (List.mem_of_getElem? (i := 46) rfl)) rfl, iiX7, ⟨by decide +kernel, by decide +kernel, by decide +kernel⟩, tb_in (tb_6 (List.mem_of_getElem? (i := 44) rfl)) rfl, tb_in (tb_6 (List.mem_of_getElem? (i := 45) rfl)) rfl⟩
theorem mwX7_keep : mw_V yX7_keep sX7_keep 2 := ⟨tb_in (tb_5 (List.mem_of_getElem? (i := 66) rfl)) rfl, iiX7, ⟨by decide +kernel, by decide +kernel, by decide +kernel⟩, tb_in (tb_5 (List.mem_of_getElem? (i := 64) rfl)) rfl, tb_in (tb_5 (List.mem_of_getElem? (i := 65) rfl)) rfl⟩
theorem mwX7_kept : mw_V yX7_kept sX7_kept 3 := ⟨tb_in (tb_5 (List.mem_of_getElem? (i := 114) rfl)) rfl, iiX7, ⟨by decide +kernel, by decide +kernel, by decide +kernel⟩, tb_in (tb_5 (List.mem_of_getElem? (i := 112) rfl)) rfl, tb_in (tb_5 (List.mem_of_getElem? (i := 113) rfl)) rfl⟩
theorem mwX7_layHunk : mw_V yX7_layHunk sX7_layHunk 3 := ⟨tb_in (tb_5 (List.mem_of_getElem? (i := 190) rfl)) rfl, iiX7, ⟨by decide +kernel, by decide +kernel, by decide +kernel⟩, tb_in (tb_5 (List.mem_of_getElem? (i := 189) rfl)) rfl, tb_in (tb_0 (List.mem_of_getElem? (i := 61) rfl)) rfl⟩
theorem mwX7_lay : mw_V yX7_lay sX7_lay 1 := ⟨tb_in (tb_5 (List.mem_of_getElem? (i := 186) rfl)) rfl, iiX7, ⟨by decide +kernel, by decide +kernel, by decide +kernel⟩, tb_in (tb_5 (List.mem_of_getElem? (i := 184) rfl)) rfl, tb_in (tb_5 (List.mem_of_getElem? (i := 185) rfl)) rfl⟩
theorem mwX7_takenAt : mw_V yX7_takenAt sX7_takenAt 4 := ⟨tb_in (tb_5 (List.mem_of_getElem? (i := 222) rfl)) rfl, iiX7, ⟨by decide +kernel, by decide +kernel, by decide +kernel⟩, tb_in (tb_5 (List.mem_of_getElem? (i := 221) rfl)) rfl, tb_in (tb_0 (List.mem_of_getElem? (i := 66) rfl)) rfl⟩
theorem mwX7_layAhead : mw_V yX7_layAhead sX7_layAhead 8 := ⟨tb_in (tb_5 (List.mem_of_getElem? (i := 218) rfl)) rfl, iiX7, ⟨by decide +kernel, by decide +kernel, by decide +kernel⟩, tb_in (tb_5 (List.mem_of_getElem? (i := 217) rfl)) rfl, tb_in (tb_0 (List.mem_of_getElem? (i := 65) rfl)) rfl⟩
theorem mwX7_layBehind : mw_V yX7_layBehind sX7_layBehind 8 := ⟨tb_in (tb_5 (List.mem_of_getElem? (i := 226) rfl)) rfl, iiX7, ⟨by decide +kernel, by decide +kernel, by decide +kernel⟩, tb_in (tb_5 (List.mem_of_getElem? (i := 225) rfl)) rfl, tb_in (tb_0 (List.mem_of_getElem? (i := 67) rfl)) rfl⟩
theorem mwX7_layCode : mw_V yX7_layCode sX7_layCode 2 := ⟨tb_in (tb_6 (List.mem_of_getElem? (i := 78) rfl)) rfl, iiX7, ⟨by decide +kernel, by decide +kernel, by decide +kernel⟩, tb_in (tb_6 (List.mem_of_getElem? (i := 77) rfl)) rfl, tb_in (tb_0 (List.mem_of_getElem? (i := 84) rfl)) rfl⟩
theorem mwX7_layMoved : mw_V yX7_layMoved sX7_layMoved 3 := ⟨tb_in (tb_6 (List.mem_of_getElem? (i := 10) rfl)) rfl, iiX7, ⟨by decide +kernel, by decide +kernel, by decide +kernel⟩, tb_in (tb_6 (List.mem_of_getElem? (i := 9) rfl)) rfl, tb_in (tb_0 (List.mem_of_getElem? (i := 72) rfl)) rfl⟩
theorem mwX7_layRemade : mw_V yX7_layRemade sX7_layRemade 1 := ⟨tb_in (tb_6 (List.mem_of_getElem? (i := 82) rfl)) rfl, iiX7, ⟨by decide +kernel, by decide +kernel, by decide +kernel⟩, tb_in (tb_6 (List.mem_of_getElem? (i := 81) rfl)) rfl, tb_in (tb_0 (List.mem_of_getElem? (i := 85) rfl)) rfl⟩
theorem mwX7_look : mw_V yX7_look sX7_look 2 := ⟨tb_in (tb_6 (List.mem_of_getElem? (i := 86) rfl)) rfl, iiX7, ⟨by decide +kernel, by decide +kernel, by decide +kernel⟩, tb_in (tb_6 (List.mem_of_getElem? (i := 85) rfl)) rfl, tb_in (tb_0 (List.mem_of_getElem? (i := 86) rfl)) rfl⟩
theorem mwX7_layStore : mw_V yX7_layStore sX7_layStore 2 := ⟨tb_in (tb_6 (List.mem_of_getElem? (i := 74) rfl)) rfl, iiX7, ⟨by decide +kernel, by decide +kernel, by decide +kernel⟩, tb_in (tb_6 (List.mem_of_getElem? (i := 73) rfl)) rfl, tb_in (tb_0 (List.mem_of_getElem? (i := 83) rfl)) rfl⟩
theorem mwX7_leaveOutIdle : mw_V yX7_leaveOutIdle sX7_leaveOutIdle 0 := ⟨tb_in (tb_5 (List.mem_of_getElem? (i := 234) rfl)) rfl, iiX7, ⟨by decide +kernel, by decide +kernel, by decide +kernel⟩, tb_in (tb_5 (List.mem_of_getElem? (i := 233) rfl)) rfl, tb_in (tb_0 (List.mem_of_getElem? (i := 69) rfl)) rfl⟩
theorem mwX7_line : mw_V yX7_line sX7_line 2 := ⟨tb_in (tb_5 (List.mem_of_getElem? (i := 43) rfl)) rfl, iiX7, ⟨by decide +kernel, by decide +kernel, by decide +kernel⟩, tb_in (tb_5 (List.mem_of_getElem? (i := 41) rfl)) rfl, tb_in (tb_5 (List.mem_of_getElem? (i := 42) rfl)) rfl⟩
theorem mwX7_loose : mw_V yX7_loose sX7_loose 1 := ⟨tb_in (tb_5 (List.mem_of_getElem? (i := 198) rfl)) rfl, iiX7, ⟨by decide +kernel, by decide +kernel, by decide +kernel⟩, tb_in (tb_5 (List.mem_of_getElem? (i := 196) rfl)) rfl, tb_in (tb_5 (List.mem_of_getElem? (i := 197) rfl)) rfl⟩
theorem mwX7_lostBy : mw_V yX7_lostBy sX7_lostBy 2 := ⟨tb_in (tb_6 (List.mem_of_getElem? (i := 98) rfl)) rfl, iiX7, ⟨by decide +kernel, by decide +kernel, by decide +kernel⟩, tb_in (tb_6 (List.mem_of_getElem? (i := 97) rfl)) rfl, tb_in (tb_0 (List.mem_of_getElem? (i := 88) rfl)) rfl⟩
theorem mwX7_of : mw_V yX7_of sX7_of 2 := ⟨tb_in (tb_5 (List.mem_of_getElem? (i := 146) rfl)) rfl, iiX7, ⟨by decide +kernel, by decide +kernel, by decide +kernel⟩, tb_in (tb_5 (List.mem_of_getElem? (i := 144) rfl)) rfl, tb_in (tb_5 (List.mem_of_getElem? (i := 145) rfl)) rfl⟩
theorem mwX7_patch : mw_V yX7_patch sX7_patch 2 := ⟨tb_in (tb_5 (List.mem_of_getElem? (i := 118) rfl)) rfl, iiX7, ⟨by decide +kernel, by decide +kernel, by decide +kernel⟩, tb_in (tb_5 (List.mem_of_getElem? (i := 116) rfl)) rfl, tb_in (tb_5 (List.mem_of_getElem? (i := 117) rfl)) rfl⟩
theorem mwX7_pieceRoom : mw_V yX7_pieceRoom sX7_pieceRoom 1 := ⟨tb_in (tb_6 (List.mem_of_getElem? (i := 106) rfl)) rfl, iiX7, ⟨by decide +kernel, by decide +kernel, by decide +kernel⟩, tb_in (tb_6 (List.mem_of_getElem? (i := 105) rfl)) rfl, tb_in (tb_0 (List.mem_of_getElem? (i := 89) rfl)) rfl⟩
theorem mwX7_worstPiece : mw_V yX7_worstPiece sX7_worstPiece 2 := ⟨tb_in (tb_6 (List.mem_of_getElem? (i := 94) rfl)) rfl, iiX7, ⟨by decide +kernel, by decide +kernel, by decide +kernel⟩, tb_in (tb_6 (List.mem_of_getElem? (i := 93) rfl)) rfl, tb_in (tb_0 (List.mem_of_getElem? (i := 87) rfl)) rfl⟩
theorem mwX7_worstThen : mw_V yX7_worstThen sX7_worstThen 2 := ⟨tb_in (tb_6 (List.mem_of_getElem? (i := 110) rfl)) rfl, iiX7, ⟨by decide +kernel, by decide +kernel, by decide +kernel⟩, tb_in (tb_6 (List.mem_of_getElem? (i := 109) rfl)) rfl, tb_in (tb_0 (List.mem_of_getElem? (i := 90) rfl)) rfl⟩
theorem mwX7_saved : mw_V yX7_saved sX7_saved 4 := ⟨tb_in (tb_6 (List.mem_of_getElem? (i := 102) rfl)) rfl, iiX7, ⟨by decide +kernel, by decide +kernel, by decide +kernel⟩, tb_in (tb_6 (List.mem_of_getElem? (i := 100) rfl)) rfl, tb_in (tb_6 (List.mem_of_getElem? (i := 101) rfl)) rfl⟩
theorem mwX7_share : mw_V yX7_share sX7_share 2 := ⟨tb_in (tb_6 (List.mem_of_getElem? (i := 62) rfl)) rfl, iiX7, ⟨by decide +kernel, by decide +kernel, by decide +kernel⟩, tb_in (tb_6 (List.mem_of_getElem? (i := 60) rfl)) rfl, tb_in (tb_6 (List.mem_of_getElem? (i := 61) rfl)) rfl⟩
theorem mwX7_store : mw_V yX7_store sX7_store 3 := ⟨tb_in (tb_6 (List.mem_of_getElem? (i := 66) rfl)) rfl, iiX7, ⟨by decide +kernel, by decide +kernel, by decide +kernel⟩, tb_in (tb_6 (List.mem_of_getElem? (i := 64) rfl)) rfl, tb_in (tb_6 (List.mem_of_getElem? (i := 65) rfl)) rfl⟩
theorem mwX7_touches : mw_V yX7_touches sX7_touches 4 := ⟨tb_in (tb_6 (List.mem_of_getElem? (i := 6) rfl)) rfl, iiX7, ⟨by decide +kernel, by decide +kernel, by decide +kernel⟩, tb_in (tb_6 (List.mem_of_getElem? (i := 5) rfl)) rfl, tb_in (tb_0 (List.mem_of_getElem? (i := 71) rfl)) rfl⟩
theorem mwX7_swap : mw_V yX7_swap sX7_swap 2 := ⟨tb_in (tb_6 (List.mem_of_getElem? (i := 2) rfl)) rfl, iiX7, ⟨by decide +kernel, by decide +kernel, by decide +kernel⟩, tb_in (tb_6 (List.mem_of_getElem? (i := 0) rfl)) rfl, tb_in (tb_6 (List.mem_of_getElem? (i := 1) rfl)) rfl⟩
theorem mwX7_take : mw_V yX7_take sX7_take 1 := ⟨tb_in (tb_5 (List.mem_of_getElem? (i := 54) rfl)) rfl, iiX7, ⟨by decide +kernel, by decide +kernel, by decide +kernel⟩, tb_in (tb_5 (List.mem_of_getElem? (i := 52) rfl)) rfl, tb_in (tb_5 (List.mem_of_getElem? (i := 53) rfl)) rfl⟩
theorem mwX7_text : mw_V yX7_text sX7_text 2 := ⟨tb_in (tb_5 (List.mem_of_getElem? (i := 70) rfl)) rfl, iiX7, ⟨by decide +kernel, by decide +kernel, by decide +kernel⟩, tb_in (tb_5 (List.mem_of_getElem? (i := 68) rfl)) rfl, tb_in (tb_5 (List.mem_of_getElem? (i := 69) rfl)) rfl⟩
theorem mwX7_workFits : mw_V yX7_workFits sX7_workFits 0 := ⟨tb_in (tb_5 (List.mem_of_getElem? (i := 238) rfl)) rfl, iiX7, ⟨by decide +kernel, by decide +kernel, by decide +kernel⟩, tb_in (tb_5 (List.mem_of_getElem? (i := 237) rfl)) rfl, tb_in (tb_0 (List.mem_of_getElem? (i := 70) rfl)) rfl⟩
theorem mwX7_together : mw_V yX7_together sX7_together 2 := ⟨tb_in (tb_5 (List.mem_of_getElem? (i := 206) rfl)) rfl, iiX7, ⟨by decide +kernel, by decide +kernel, by decide +kernel⟩, tb_in (tb_5 (List.mem_of_getElem? (i := 204) rfl)) rfl, tb_in (tb_5 (List.mem_of_getElem? (i := 205) rfl)) rfl⟩
theorem mwX7_turn : mw_V yX7_turn sX7_turn 1 := ⟨tb_in (tb_5 (List.mem_of_getElem? (i := 202) rfl)) rfl, iiX7, ⟨by decide +kernel, by decide +kernel, by decide +kernel⟩, tb_in (tb_5 (List.mem_of_getElem? (i := 200) rfl)) rfl, tb_in (tb_5 (List.mem_of_getElem? (i := 201) rfl)) rfl⟩
theorem mwX7_worst : mw_V yX7_worst sX7_worst 3 := ⟨tb_in (tb_6 (List.mem_of_getElem? (i := 90) rfl)) rfl, iiX7, ⟨by decide +kernel, by decide +kernel, by decide +kernel⟩, tb_in (tb_6 (List.mem_of_getElem? (i := 88) rfl)) rfl, tb_in (tb_6 (List.mem_of_getElem? (i := 89) rfl)) rfl⟩
