theorem la_0_0 : u_lay RX0 TX0 0 ∈ big := mem_big (List.mem_of_getElem? (i := 251) (by decide +kernel)) (by decide +kernel)
theorem la_0_1 : u_lay RX0 TX0 1 ∈ big := mem_big (List.mem_of_getElem? (i := 253) (by decide +kernel)) (by decide +kernel)
theorem la_0_2 : u_lay RX0 TX0 2 ∈ big := mem_big (List.mem_of_getElem? (i := 255) (by decide +kernel)) (by decide +kernel)
theorem la_0_3 : u_lay RX0 TX0 3 ∈ big := mem_big (List.mem_of_getElem? (i := 257) (by decide +kernel)) (by decide +kernel)
theorem la_0_4 : u_lay RX0 TX0 4 ∈ big := mem_big (List.mem_of_getElem? (i := 259) (by decide +kernel)) (by decide +kernel)
theorem la_0_5 : u_lay RX0 TX0 5 ∈ big := mem_big (List.mem_of_getElem? (i := 261) (by decide +kernel)) (by decide +kernel)
theorem la_0_6 : u_lay RX0 TX0 6 ∈ big := mem_big (List.mem_of_getElem? (i := 263) (by decide +kernel)) (by decide +kernel)
theorem la_0_7 : u_lay RX0 TX0 7 ∈ big := mem_big (List.mem_of_getElem? (i := 265) (by decide +kernel)) (by decide +kernel)
theorem la_0_8 : u_lay RX0 TX0 8 ∈ big := mem_big (List.mem_of_getElem? (i := 267) (by decide +kernel)) (by decide +kernel)
theorem la_0_9 : u_lay RX0 TX0 9 ∈ big := mem_big (List.mem_of_getElem? (i := 269) (by decide +kernel)) (by decide +kernel)
theorem la_0_10 : u_lay RX0 TX0 10 ∈ big := mem_big (List.mem_of_getElem? (i := 271) (by decide +kernel)) (by decide +kernel)
theorem la_0_11 : u_lay RX0 TX0 11 ∈ big := mem_big (List.mem_of_getElem? (i := 273) (by decide +kernel)) (by decide +kernel)
theorem la_0_12 : u_lay RX0 TX0 12 ∈ big := mem_big (List.mem_of_getElem? (i := 275) (by decide +kernel)) (by decide +kernel)
theorem FX_0 : FX 0 RX0 TX0 13 tyX0 := by
  refine ⟨by decide, rfl, rfl, fun w hw => ?_, tyX0_ok, nmX0⟩
  obtain ⟨k, hk, rfl⟩ := List.mem_map.mp hw
  have hk := List.mem_range.mp hk
  match k, hk with
  | 0, _ => exact la_0_0
  | 1, _ => exact la_0_1
  | 2, _ => exact la_0_2
  | 3, _ => exact la_0_3
  | 4, _ => exact la_0_4
  | 5, _ => exact la_0_5
  | 6, _ => exact la_0_6
  | 7, _ => exact la_0_7
  | 8, _ => exact la_0_8
  | 9, _ => exact la_0_9
  | 10, _ => exact la_0_10
  | 11, _ => exact la_0_11
  | 12, _ => exact la_0_12
  | k + 13, hk => omega
theorem la_1_0 : u_lay RX1 TX1 0 ∈ big := mem_big (List.mem_of_getElem? (i := 473) (by decide +kernel)) (by decide +kernel)
theorem la_1_1 : u_lay RX1 TX1 1 ∈ big := mem_big (List.mem_of_getElem? (i := 475) (by decide +kernel)) (by decide +kernel)
theorem la_1_2 : u_lay RX1 TX1 2 ∈ big := mem_big (List.mem_of_getElem? (i := 477) (by decide +kernel)) (by decide +kernel)
theorem FX_1 : FX 1 RX1 TX1 3 tyX1 := by
  refine ⟨by decide, rfl, rfl, fun w hw => ?_, tyX1_ok, nmX1⟩
  obtain ⟨k, hk, rfl⟩ := List.mem_map.mp hw
  have hk := List.mem_range.mp hk
  match k, hk with
  | 0, _ => exact la_1_0
  | 1, _ => exact la_1_1
  | 2, _ => exact la_1_2
  | k + 3, hk => omega
theorem la_2_0 : u_lay RX2 TX2 0 ∈ big := mem_big (List.mem_of_getElem? (i := 370) (by decide +kernel)) (by decide +kernel)
theorem la_2_1 : u_lay RX2 TX2 1 ∈ big := mem_big (List.mem_of_getElem? (i := 372) (by decide +kernel)) (by decide +kernel)
theorem la_2_2 : u_lay RX2 TX2 2 ∈ big := mem_big (List.mem_of_getElem? (i := 374) (by decide +kernel)) (by decide +kernel)
theorem la_2_3 : u_lay RX2 TX2 3 ∈ big := mem_big (List.mem_of_getElem? (i := 376) (by decide +kernel)) (by decide +kernel)
theorem la_2_4 : u_lay RX2 TX2 4 ∈ big := mem_big (List.mem_of_getElem? (i := 378) (by decide +kernel)) (by decide +kernel)
theorem la_2_5 : u_lay RX2 TX2 5 ∈ big := mem_big (List.mem_of_getElem? (i := 380) (by decide +kernel)) (by decide +kernel)
theorem la_2_6 : u_lay RX2 TX2 6 ∈ big := mem_big (List.mem_of_getElem? (i := 382) (by decide +kernel)) (by decide +kernel)
theorem la_2_7 : u_lay RX2 TX2 7 ∈ big := mem_big (List.mem_of_getElem? (i := 384) (by decide +kernel)) (by decide +kernel)
theorem la_2_8 : u_lay RX2 TX2 8 ∈ big := mem_big (List.mem_of_getElem? (i := 386) (by decide +kernel)) (by decide +kernel)
theorem la_2_9 : u_lay RX2 TX2 9 ∈ big := mem_big (List.mem_of_getElem? (i := 388) (by decide +kernel)) (by decide +kernel)
theorem la_2_10 : u_lay RX2 TX2 10 ∈ big := mem_big (List.mem_of_getElem? (i := 390) (by decide +kernel)) (by decide +kernel)
theorem FX_2 : FX 2 RX2 TX2 11 tyX2 := by
  refine ⟨by decide, rfl, rfl, fun w hw => ?_, tyX2_ok, nmX2⟩
  obtain ⟨k, hk, rfl⟩ := List.mem_map.mp hw
  have hk := List.mem_range.mp hk
  match k, hk with
  | 0, _ => exact la_2_0
  | 1, _ => exact la_2_1
  | 2, _ => exact la_2_2
  | 3, _ => exact la_2_3
  | 4, _ => exact la_2_4
  | 5, _ => exact la_2_5
  | 6, _ => exact la_2_6
  | 7, _ => exact la_2_7
  | 8, _ => exact la_2_8
  | 9, _ => exact la_2_9
  | 10, _ => exact la_2_10
  | k + 11, hk => omega
theorem la_3_0 : u_lay RX3 TX3 0 ∈ big := mem_big (List.mem_of_getElem? (i := 402) (by decide +kernel)) (by decide +kernel)
theorem la_3_1 : u_lay RX3 TX3 1 ∈ big := mem_big (List.mem_of_getElem? (i := 404) (by decide +kernel)) (by decide +kernel)
theorem la_3_2 : u_lay RX3 TX3 2 ∈ big := mem_big (List.mem_of_getElem? (i := 406) (by decide +kernel)) (by decide +kernel)
theorem FX_3 : FX 3 RX3 TX3 3 tyX3 := by
  refine ⟨by decide, rfl, rfl, fun w hw => ?_, tyX3_ok, nmX3⟩
  obtain ⟨k, hk, rfl⟩ := List.mem_map.mp hw
  have hk := List.mem_range.mp hk
  match k, hk with
  | 0, _ => exact la_3_0
  | 1, _ => exact la_3_1
  | 2, _ => exact la_3_2
  | k + 3, hk => omega
theorem la_4_0 : u_lay RX4 TX4 0 ∈ big := mem_big (List.mem_of_getElem? (i := 429) (by decide +kernel)) (by decide +kernel)
theorem la_4_1 : u_lay RX4 TX4 1 ∈ big := mem_big (List.mem_of_getElem? (i := 431) (by decide +kernel)) (by decide +kernel)
theorem la_4_2 : u_lay RX4 TX4 2 ∈ big := mem_big (List.mem_of_getElem? (i := 433) (by decide +kernel)) (by decide +kernel)
theorem la_4_3 : u_lay RX4 TX4 3 ∈ big := mem_big (List.mem_of_getElem? (i := 435) (by decide +kernel)) (by decide +kernel)
theorem la_4_4 : u_lay RX4 TX4 4 ∈ big := mem_big (List.mem_of_getElem? (i := 437) (by decide +kernel)) (by decide +kernel)
theorem la_4_5 : u_lay RX4 TX4 5 ∈ big := mem_big (List.mem_of_getElem? (i := 439) (by decide +kernel)) (by decide +kernel)
theorem la_4_6 : u_lay RX4 TX4 6 ∈ big := mem_big (List.mem_of_getElem? (i := 441) (by decide +kernel)) (by decide +kernel)
theorem la_4_7 : u_lay RX4 TX4 7 ∈ big := mem_big (List.mem_of_getElem? (i := 443) (by decide +kernel)) (by decide +kernel)
theorem la_4_8 : u_lay RX4 TX4 8 ∈ big := mem_big (List.mem_of_getElem? (i := 445) (by decide +kernel)) (by decide +kernel)
theorem la_4_9 : u_lay RX4 TX4 9 ∈ big := mem_big (List.mem_of_getElem? (i := 447) (by decide +kernel)) (by decide +kernel)
theorem la_4_10 : u_lay RX4 TX4 10 ∈ big := mem_big (List.mem_of_getElem? (i := 449) (by decide +kernel)) (by decide +kernel)
theorem FX_4 : FX 4 RX4 TX4 11 tyX4 := by
  refine ⟨by decide, rfl, rfl, fun w hw => ?_, tyX4_ok, nmX4⟩
  obtain ⟨k, hk, rfl⟩ := List.mem_map.mp hw
  have hk := List.mem_range.mp hk
  match k, hk with
  | 0, _ => exact la_4_0
  | 1, _ => exact la_4_1
  | 2, _ => exact la_4_2
  | 3, _ => exact la_4_3
  | 4, _ => exact la_4_4
  | 5, _ => exact la_4_5
  | 6, _ => exact la_4_6
  | 7, _ => exact la_4_7
  | 8, _ => exact la_4_8
  | 9, _ => exact la_4_9
  | 10, _ => exact la_4_10
  | k + 11, hk => omega
theorem la_5_0 : u_lay RX5 TX5 0 ∈ big := mem_big (List.mem_of_getElem? (i := 505) (by decide +kernel)) (by decide +kernel)
theorem la_5_1 : u_lay RX5 TX5 1 ∈ big := mem_big (List.mem_of_getElem? (i := 507) (by decide +kernel)) (by decide +kernel)
theorem la_5_2 : u_lay RX5 TX5 2 ∈ big := mem_big (List.mem_of_getElem? (i := 509) (by decide +kernel)) (by decide +kernel)
theorem la_5_3 : u_lay RX5 TX5 3 ∈ big := mem_big (List.mem_of_getElem? (i := 511) (by decide +kernel)) (by decide +kernel)
theorem la_5_4 : u_lay RX5 TX5 4 ∈ big := mem_big (List.mem_of_getElem? (i := 513) (by decide +kernel)) (by decide +kernel)
theorem la_5_5 : u_lay RX5 TX5 5 ∈ big := mem_big (List.mem_of_getElem? (i := 515) (by decide +kernel)) (by decide +kernel)
theorem la_5_6 : u_lay RX5 TX5 6 ∈ big := mem_big (List.mem_of_getElem? (i := 517) (by decide +kernel)) (by decide +kernel)
theorem la_5_7 : u_lay RX5 TX5 7 ∈ big := mem_big (List.mem_of_getElem? (i := 519) (by decide +kernel)) (by decide +kernel)
theorem la_5_8 : u_lay RX5 TX5 8 ∈ big := mem_big (List.mem_of_getElem? (i := 521) (by decide +kernel)) (by decide +kernel)
theorem la_5_9 : u_lay RX5 TX5 9 ∈ big := mem_big (List.mem_of_getElem? (i := 523) (by decide +kernel)) (by decide +kernel)
theorem la_5_10 : u_lay RX5 TX5 10 ∈ big := mem_big (List.mem_of_getElem? (i := 525) (by decide +kernel)) (by decide +kernel)
theorem la_5_11 : u_lay RX5 TX5 11 ∈ big := mem_big (List.mem_of_getElem? (i := 527) (by decide +kernel)) (by decide +kernel)
theorem la_5_12 : u_lay RX5 TX5 12 ∈ big := mem_big (List.mem_of_getElem? (i := 529) (by decide +kernel)) (by decide +kernel)
theorem la_5_13 : u_lay RX5 TX5 13 ∈ big := mem_big (List.mem_of_getElem? (i := 531) (by decide +kernel)) (by decide +kernel)
theorem la_5_14 : u_lay RX5 TX5 14 ∈ big := mem_big (List.mem_of_getElem? (i := 533) (by decide +kernel)) (by decide +kernel)
theorem la_5_15 : u_lay RX5 TX5 15 ∈ big := mem_big (List.mem_of_getElem? (i := 535) (by decide +kernel)) (by decide +kernel)
theorem la_5_16 : u_lay RX5 TX5 16 ∈ big := mem_big (List.mem_of_getElem? (i := 537) (by decide +kernel)) (by decide +kernel)
theorem la_5_17 : u_lay RX5 TX5 17 ∈ big := mem_big (List.mem_of_getElem? (i := 539) (by decide +kernel)) (by decide +kernel)
theorem la_5_18 : u_lay RX5 TX5 18 ∈ big := mem_big (List.mem_of_getElem? (i := 541) (by decide +kernel)) (by decide +kernel)
theorem FX_5 : FX 5 RX5 TX5 19 tyX5 := by
  refine ⟨by decide, rfl, rfl, fun w hw => ?_, tyX5_ok, nmX5⟩
  obtain ⟨k, hk, rfl⟩ := List.mem_map.mp hw
  have hk := List.mem_range.mp hk
  match k, hk with
  | 0, _ => exact la_5_0
  | 1, _ => exact la_5_1
  | 2, _ => exact la_5_2
  | 3, _ => exact la_5_3
  | 4, _ => exact la_5_4
  | 5, _ => exact la_5_5
  | 6, _ => exact la_5_6
  | 7, _ => exact la_5_7
  | 8, _ => exact la_5_8
  | 9, _ => exact la_5_9
  | 10, _ => exact la_5_10
  | 11, _ => exact la_5_11
  | 12, _ => exact la_5_12
  | 13, _ => exact la_5_13
  | 14, _ => exact la_5_14
  | 15, _ => exact la_5_15
  | 16, _ => exact la_5_16
  | 17, _ => exact la_5_17
  | 18, _ => exact la_5_18
  | k + 19, hk => omega
theorem la_6_0 : u_lay RX6 TX6 0 ∈ big := mem_big (List.mem_of_getElem? (i := 334) (by decide +kernel)) (by decide +kernel)
theorem la_6_1 : u_lay RX6 TX6 1 ∈ big := mem_big (List.mem_of_getElem? (i := 336) (by decide +kernel)) (by decide +kernel)
theorem la_6_2 : u_lay RX6 TX6 2 ∈ big := mem_big (List.mem_of_getElem? (i := 338) (by decide +kernel)) (by decide +kernel)
theorem la_6_3 : u_lay RX6 TX6 3 ∈ big := mem_big (List.mem_of_getElem? (i := 340) (by decide +kernel)) (by decide +kernel)
theorem la_6_4 : u_lay RX6 TX6 4 ∈ big := mem_big (List.mem_of_getElem? (i := 342) (by decide +kernel)) (by decide +kernel)
theorem la_6_5 : u_lay RX6 TX6 5 ∈ big := mem_big (List.mem_of_getElem? (i := 344) (by decide +kernel)) (by decide +kernel)
theorem FX_6 : FX 6 RX6 TX6 6 tyX6 := by
  refine ⟨by decide, rfl, rfl, fun w hw => ?_, tyX6_ok, nmX6⟩
  obtain ⟨k, hk, rfl⟩ := List.mem_map.mp hw
  have hk := List.mem_range.mp hk
  match k, hk with
  | 0, _ => exact la_6_0
  | 1, _ => exact la_6_1
  | 2, _ => exact la_6_2
  | 3, _ => exact la_6_3
  | 4, _ => exact la_6_4
  | 5, _ => exact la_6_5
  | k + 6, hk => omega
theorem la_7_0 : u_lay RX8 TX8 0 ∈ big := mem_big (List.mem_of_getElem? (i := 302) (by decide +kernel)) (by decide +kernel)
theorem la_7_1 : u_lay RX8 TX8 1 ∈ big := mem_big (List.mem_of_getElem? (i := 304) (by decide +kernel)) (by decide +kernel)
theorem la_7_2 : u_lay RX8 TX8 2 ∈ big := mem_big (List.mem_of_getElem? (i := 306) (by decide +kernel)) (by decide +kernel)
theorem la_7_3 : u_lay RX8 TX8 3 ∈ big := mem_big (List.mem_of_getElem? (i := 308) (by decide +kernel)) (by decide +kernel)
theorem la_7_4 : u_lay RX8 TX8 4 ∈ big := mem_big (List.mem_of_getElem? (i := 310) (by decide +kernel)) (by decide +kernel)
theorem la_7_5 : u_lay RX8 TX8 5 ∈ big := mem_big (List.mem_of_getElem? (i := 312) (by decide +kernel)) (by decide +kernel)
theorem FX_7 : FX 7 RX8 TX8 6 tyX8 := by
  refine ⟨by decide, rfl, rfl, fun w hw => ?_, tyX8_ok, nmX8⟩
  obtain ⟨k, hk, rfl⟩ := List.mem_map.mp hw
  have hk := List.mem_range.mp hk
  match k, hk with
  | 0, _ => exact la_7_0
  | 1, _ => exact la_7_1
  | 2, _ => exact la_7_2
  | 3, _ => exact la_7_3
  | 4, _ => exact la_7_4
  | 5, _ => exact la_7_5
  | k + 6, hk => omega
theorem la_8_0 : u_lay RX10 TX10 0 ∈ big := mem_big (List.mem_of_getElem? (i := 170) (by decide +kernel)) (by decide +kernel)
theorem la_8_1 : u_lay RX10 TX10 1 ∈ big := mem_big (List.mem_of_getElem? (i := 172) (by decide +kernel)) (by decide +kernel)
theorem la_8_2 : u_lay RX10 TX10 2 ∈ big := mem_big (List.mem_of_getElem? (i := 174) (by decide +kernel)) (by decide +kernel)
theorem la_8_3 : u_lay RX10 TX10 3 ∈ big := mem_big (List.mem_of_getElem? (i := 176) (by decide +kernel)) (by decide +kernel)
theorem la_8_4 : u_lay RX10 TX10 4 ∈ big := mem_big (List.mem_of_getElem? (i := 178) (by decide +kernel)) (by decide +kernel)
theorem la_8_5 : u_lay RX10 TX10 5 ∈ big := mem_big (List.mem_of_getElem? (i := 180) (by decide +kernel)) (by decide +kernel)
theorem la_8_6 : u_lay RX10 TX10 6 ∈ big := mem_big (List.mem_of_getElem? (i := 182) (by decide +kernel)) (by decide +kernel)
theorem FX_8 : FX 8 RX10 TX10 7 tyX10 := by
  refine ⟨by decide, rfl, rfl, fun w hw => ?_, tyX10_ok, nmX10⟩
  obtain ⟨k, hk, rfl⟩ := List.mem_map.mp hw
  have hk := List.mem_range.mp hk
  match k, hk with
  | 0, _ => exact la_8_0
  | 1, _ => exact la_8_1
  | 2, _ => exact la_8_2
  | 3, _ => exact la_8_3
  | 4, _ => exact la_8_4
  | 5, _ => exact la_8_5
  | 6, _ => exact la_8_6
  | k + 7, hk => omega
theorem la_9_0 : u_lay RX11 TX11 0 ∈ big := mem_big (List.mem_of_getElem? (i := 554) (by decide +kernel)) (by decide +kernel)
theorem la_9_1 : u_lay RX11 TX11 1 ∈ big := mem_big (List.mem_of_getElem? (i := 556) (by decide +kernel)) (by decide +kernel)
theorem la_9_2 : u_lay RX11 TX11 2 ∈ big := mem_big (List.mem_of_getElem? (i := 558) (by decide +kernel)) (by decide +kernel)
theorem la_9_3 : u_lay RX11 TX11 3 ∈ big := mem_big (List.mem_of_getElem? (i := 560) (by decide +kernel)) (by decide +kernel)
theorem la_9_4 : u_lay RX11 TX11 4 ∈ big := mem_big (List.mem_of_getElem? (i := 562) (by decide +kernel)) (by decide +kernel)
theorem la_9_5 : u_lay RX11 TX11 5 ∈ big := mem_big (List.mem_of_getElem? (i := 564) (by decide +kernel)) (by decide +kernel)
theorem la_9_6 : u_lay RX11 TX11 6 ∈ big := mem_big (List.mem_of_getElem? (i := 566) (by decide +kernel)) (by decide +kernel)
theorem la_9_7 : u_lay RX11 TX11 7 ∈ big := mem_big (List.mem_of_getElem? (i := 568) (by decide +kernel)) (by decide +kernel)
theorem la_9_8 : u_lay RX11 TX11 8 ∈ big := mem_big (List.mem_of_getElem? (i := 570) (by decide +kernel)) (by decide +kernel)
theorem FX_9 : FX 9 RX11 TX11 9 tyX11 := by
  refine ⟨by decide, rfl, rfl, fun w hw => ?_, tyX11_ok, nmX11⟩
  obtain ⟨k, hk, rfl⟩ := List.mem_map.mp hw
  have hk := List.mem_range.mp hk
  match k, hk with
  | 0, _ => exact la_9_0
  | 1, _ => exact la_9_1
  | 2, _ => exact la_9_2
  | 3, _ => exact la_9_3
  | 4, _ => exact la_9_4
  | 5, _ => exact la_9_5
  | 6, _ => exact la_9_6
  | 7, _ => exact la_9_7
  | 8, _ => exact la_9_8
  | k + 9, hk => omega
theorem la_10_0 : u_lay RX12 TX12 0 ∈ big := mem_big (List.mem_of_getElem? (i := 1245) (by decide +kernel)) (by decide +kernel)
theorem la_10_1 : u_lay RX12 TX12 1 ∈ big := mem_big (List.mem_of_getElem? (i := 1247) (by decide +kernel)) (by decide +kernel)
theorem la_10_2 : u_lay RX12 TX12 2 ∈ big := mem_big (List.mem_of_getElem? (i := 1249) (by decide +kernel)) (by decide +kernel)
theorem la_10_3 : u_lay RX12 TX12 3 ∈ big := mem_big (List.mem_of_getElem? (i := 1251) (by decide +kernel)) (by decide +kernel)
theorem la_10_4 : u_lay RX12 TX12 4 ∈ big := mem_big (List.mem_of_getElem? (i := 1253) (by decide +kernel)) (by decide +kernel)
theorem la_10_5 : u_lay RX12 TX12 5 ∈ big := mem_big (List.mem_of_getElem? (i := 1255) (by decide +kernel)) (by decide +kernel)
theorem la_10_6 : u_lay RX12 TX12 6 ∈ big := mem_big (List.mem_of_getElem? (i := 1257) (by decide +kernel)) (by decide +kernel)
theorem la_10_7 : u_lay RX12 TX12 7 ∈ big := mem_big (List.mem_of_getElem? (i := 1259) (by decide +kernel)) (by decide +kernel)
theorem la_10_8 : u_lay RX12 TX12 8 ∈ big := mem_big (List.mem_of_getElem? (i := 1261) (by decide +kernel)) (by decide +kernel)
theorem la_10_9 : u_lay RX12 TX12 9 ∈ big := mem_big (List.mem_of_getElem? (i := 1263) (by decide +kernel)) (by decide +kernel)
theorem la_10_10 : u_lay RX12 TX12 10 ∈ big := mem_big (List.mem_of_getElem? (i := 1265) (by decide +kernel)) (by decide +kernel)
theorem la_10_11 : u_lay RX12 TX12 11 ∈ big := mem_big (List.mem_of_getElem? (i := 1267) (by decide +kernel)) (by decide +kernel)
theorem la_10_12 : u_lay RX12 TX12 12 ∈ big := mem_big (List.mem_of_getElem? (i := 1269) (by decide +kernel)) (by decide +kernel)
theorem la_10_13 : u_lay RX12 TX12 13 ∈ big := mem_big (List.mem_of_getElem? (i := 1271) (by decide +kernel)) (by decide +kernel)
theorem la_10_14 : u_lay RX12 TX12 14 ∈ big := mem_big (List.mem_of_getElem? (i := 1273) (by decide +kernel)) (by decide +kernel)
theorem la_10_15 : u_lay RX12 TX12 15 ∈ big := mem_big (List.mem_of_getElem? (i := 1275) (by decide +kernel)) (by decide +kernel)
theorem la_10_16 : u_lay RX12 TX12 16 ∈ big := mem_big (List.mem_of_getElem? (i := 1277) (by decide +kernel)) (by decide +kernel)
theorem la_10_17 : u_lay RX12 TX12 17 ∈ big := mem_big (List.mem_of_getElem? (i := 1279) (by decide +kernel)) (by decide +kernel)
theorem la_10_18 : u_lay RX12 TX12 18 ∈ big := mem_big (List.mem_of_getElem? (i := 1281) (by decide +kernel)) (by decide +kernel)
theorem la_10_19 : u_lay RX12 TX12 19 ∈ big := mem_big (List.mem_of_getElem? (i := 1283) (by decide +kernel)) (by decide +kernel)
theorem la_10_20 : u_lay RX12 TX12 20 ∈ big := mem_big (List.mem_of_getElem? (i := 1285) (by decide +kernel)) (by decide +kernel)
theorem la_10_21 : u_lay RX12 TX12 21 ∈ big := mem_big (List.mem_of_getElem? (i := 1287) (by decide +kernel)) (by decide +kernel)
theorem la_10_22 : u_lay RX12 TX12 22 ∈ big := mem_big (List.mem_of_getElem? (i := 1289) (by decide +kernel)) (by decide +kernel)
theorem la_10_23 : u_lay RX12 TX12 23 ∈ big := mem_big (List.mem_of_getElem? (i := 1291) (by decide +kernel)) (by decide +kernel)
theorem la_10_24 : u_lay RX12 TX12 24 ∈ big := mem_big (List.mem_of_getElem? (i := 1293) (by decide +kernel)) (by decide +kernel)
theorem la_10_25 : u_lay RX12 TX12 25 ∈ big := mem_big (List.mem_of_getElem? (i := 1295) (by decide +kernel)) (by decide +kernel)
theorem la_10_26 : u_lay RX12 TX12 26 ∈ big := mem_big (List.mem_of_getElem? (i := 1297) (by decide +kernel)) (by decide +kernel)
theorem la_10_27 : u_lay RX12 TX12 27 ∈ big := mem_big (List.mem_of_getElem? (i := 1299) (by decide +kernel)) (by decide +kernel)
theorem la_10_28 : u_lay RX12 TX12 28 ∈ big := mem_big (List.mem_of_getElem? (i := 1301) (by decide +kernel)) (by decide +kernel)
theorem la_10_29 : u_lay RX12 TX12 29 ∈ big := mem_big (List.mem_of_getElem? (i := 1303) (by decide +kernel)) (by decide +kernel)
theorem la_10_30 : u_lay RX12 TX12 30 ∈ big := mem_big (List.mem_of_getElem? (i := 1305) (by decide +kernel)) (by decide +kernel)
theorem la_10_31 : u_lay RX12 TX12 31 ∈ big := mem_big (List.mem_of_getElem? (i := 1307) (by decide +kernel)) (by decide +kernel)
theorem la_10_32 : u_lay RX12 TX12 32 ∈ big := mem_big (List.mem_of_getElem? (i := 1309) (by decide +kernel)) (by decide +kernel)
theorem la_10_33 : u_lay RX12 TX12 33 ∈ big := mem_big (List.mem_of_getElem? (i := 1311) (by decide +kernel)) (by decide +kernel)
theorem la_10_34 : u_lay RX12 TX12 34 ∈ big := mem_big (List.mem_of_getElem? (i := 1313) (by decide +kernel)) (by decide +kernel)
theorem la_10_35 : u_lay RX12 TX12 35 ∈ big := mem_big (List.mem_of_getElem? (i := 1315) (by decide +kernel)) (by decide +kernel)
theorem la_10_36 : u_lay RX12 TX12 36 ∈ big := mem_big (List.mem_of_getElem? (i := 1317) (by decide +kernel)) (by decide +kernel)
theorem la_10_37 : u_lay RX12 TX12 37 ∈ big := mem_big (List.mem_of_getElem? (i := 1319) (by decide +kernel)) (by decide +kernel)
theorem la_10_38 : u_lay RX12 TX12 38 ∈ big := mem_big (List.mem_of_getElem? (i := 1321) (by decide +kernel)) (by decide +kernel)
theorem la_10_39 : u_lay RX12 TX12 39 ∈ big := mem_big (List.mem_of_getElem? (i := 1323) (by decide +kernel)) (by decide +kernel)
theorem la_10_40 : u_lay RX12 TX12 40 ∈ big := mem_big (List.mem_of_getElem? (i := 1325) (by decide +kernel)) (by decide +kernel)
theorem la_10_41 : u_lay RX12 TX12 41 ∈ big := mem_big (List.mem_of_getElem? (i := 1327) (by decide +kernel)) (by decide +kernel)
theorem la_10_42 : u_lay RX12 TX12 42 ∈ big := mem_big (List.mem_of_getElem? (i := 1329) (by decide +kernel)) (by decide +kernel)
theorem la_10_43 : u_lay RX12 TX12 43 ∈ big := mem_big (List.mem_of_getElem? (i := 1331) (by decide +kernel)) (by decide +kernel)
theorem la_10_44 : u_lay RX12 TX12 44 ∈ big := mem_big (List.mem_of_getElem? (i := 1333) (by decide +kernel)) (by decide +kernel)
theorem la_10_45 : u_lay RX12 TX12 45 ∈ big := mem_big (List.mem_of_getElem? (i := 1335) (by decide +kernel)) (by decide +kernel)
theorem la_10_46 : u_lay RX12 TX12 46 ∈ big := mem_big (List.mem_of_getElem? (i := 1337) (by decide +kernel)) (by decide +kernel)
theorem la_10_47 : u_lay RX12 TX12 47 ∈ big := mem_big (List.mem_of_getElem? (i := 1339) (by decide +kernel)) (by decide +kernel)
theorem la_10_48 : u_lay RX12 TX12 48 ∈ big := mem_big (List.mem_of_getElem? (i := 1341) (by decide +kernel)) (by decide +kernel)
theorem la_10_49 : u_lay RX12 TX12 49 ∈ big := mem_big (List.mem_of_getElem? (i := 1343) (by decide +kernel)) (by decide +kernel)
theorem la_10_50 : u_lay RX12 TX12 50 ∈ big := mem_big (List.mem_of_getElem? (i := 1345) (by decide +kernel)) (by decide +kernel)
theorem la_10_51 : u_lay RX12 TX12 51 ∈ big := mem_big (List.mem_of_getElem? (i := 1347) (by decide +kernel)) (by decide +kernel)
theorem la_10_52 : u_lay RX12 TX12 52 ∈ big := mem_big (List.mem_of_getElem? (i := 1349) (by decide +kernel)) (by decide +kernel)
theorem la_10_53 : u_lay RX12 TX12 53 ∈ big := mem_big (List.mem_of_getElem? (i := 1351) (by decide +kernel)) (by decide +kernel)
theorem la_10_54 : u_lay RX12 TX12 54 ∈ big := mem_big (List.mem_of_getElem? (i := 1353) (by decide +kernel)) (by decide +kernel)
theorem la_10_55 : u_lay RX12 TX12 55 ∈ big := mem_big (List.mem_of_getElem? (i := 1355) (by decide +kernel)) (by decide +kernel)
theorem la_10_56 : u_lay RX12 TX12 56 ∈ big := mem_big (List.mem_of_getElem? (i := 1357) (by decide +kernel)) (by decide +kernel)
theorem la_10_57 : u_lay RX12 TX12 57 ∈ big := mem_big (List.mem_of_getElem? (i := 1359) (by decide +kernel)) (by decide +kernel)
theorem la_10_58 : u_lay RX12 TX12 58 ∈ big := mem_big (List.mem_of_getElem? (i := 1361) (by decide +kernel)) (by decide +kernel)
theorem la_10_59 : u_lay RX12 TX12 59 ∈ big := mem_big (List.mem_of_getElem? (i := 1363) (by decide +kernel)) (by decide +kernel)
theorem la_10_60 : u_lay RX12 TX12 60 ∈ big := mem_big (List.mem_of_getElem? (i := 1365) (by decide +kernel)) (by decide +kernel)
theorem la_10_61 : u_lay RX12 TX12 61 ∈ big := mem_big (List.mem_of_getElem? (i := 1367) (by decide +kernel)) (by decide +kernel)
theorem la_10_62 : u_lay RX12 TX12 62 ∈ big := mem_big (List.mem_of_getElem? (i := 1369) (by decide +kernel)) (by decide +kernel)
theorem la_10_63 : u_lay RX12 TX12 63 ∈ big := mem_big (List.mem_of_getElem? (i := 1371) (by decide +kernel)) (by decide +kernel)
theorem la_10_64 : u_lay RX12 TX12 64 ∈ big := mem_big (List.mem_of_getElem? (i := 1373) (by decide +kernel)) (by decide +kernel)
theorem la_10_65 : u_lay RX12 TX12 65 ∈ big := mem_big (List.mem_of_getElem? (i := 1375) (by decide +kernel)) (by decide +kernel)
theorem la_10_66 : u_lay RX12 TX12 66 ∈ big := mem_big (List.mem_of_getElem? (i := 1377) (by decide +kernel)) (by decide +kernel)
theorem la_10_67 : u_lay RX12 TX12 67 ∈ big := mem_big (List.mem_of_getElem? (i := 1379) (by decide +kernel)) (by decide +kernel)
theorem la_10_68 : u_lay RX12 TX12 68 ∈ big := mem_big (List.mem_of_getElem? (i := 1381) (by decide +kernel)) (by decide +kernel)
theorem la_10_69 : u_lay RX12 TX12 69 ∈ big := mem_big (List.mem_of_getElem? (i := 1383) (by decide +kernel)) (by decide +kernel)
theorem la_10_70 : u_lay RX12 TX12 70 ∈ big := mem_big (List.mem_of_getElem? (i := 1385) (by decide +kernel)) (by decide +kernel)
theorem la_10_71 : u_lay RX12 TX12 71 ∈ big := mem_big (List.mem_of_getElem? (i := 1387) (by decide +kernel)) (by decide +kernel)
theorem la_10_72 : u_lay RX12 TX12 72 ∈ big := mem_big (List.mem_of_getElem? (i := 1389) (by decide +kernel)) (by decide +kernel)
theorem la_10_73 : u_lay RX12 TX12 73 ∈ big := mem_big (List.mem_of_getElem? (i := 1391) (by decide +kernel)) (by decide +kernel)
theorem la_10_74 : u_lay RX12 TX12 74 ∈ big := mem_big (List.mem_of_getElem? (i := 1393) (by decide +kernel)) (by decide +kernel)
theorem FX_10 : FX 10 RX12 TX12 75 tyX12 := by
  refine ⟨by decide, rfl, rfl, fun w hw => ?_, tyX12_ok, nmX12⟩
  obtain ⟨k, hk, rfl⟩ := List.mem_map.mp hw
  have hk := List.mem_range.mp hk
  match k, hk with
  | 0, _ => exact la_10_0
  | 1, _ => exact la_10_1
  | 2, _ => exact la_10_2
  | 3, _ => exact la_10_3
  | 4, _ => exact la_10_4
  | 5, _ => exact la_10_5
  | 6, _ => exact la_10_6
  | 7, _ => exact la_10_7
  | 8, _ => exact la_10_8
  | 9, _ => exact la_10_9
  | 10, _ => exact la_10_10
  | 11, _ => exact la_10_11
  | 12, _ => exact la_10_12
  | 13, _ => exact la_10_13
  | 14, _ => exact la_10_14
  | 15, _ => exact la_10_15
  | 16, _ => exact la_10_16
  | 17, _ => exact la_10_17
  | 18, _ => exact la_10_18
  | 19, _ => exact la_10_19
  | 20, _ => exact la_10_20
  | 21, _ => exact la_10_21
  | 22, _ => exact la_10_22
  | 23, _ => exact la_10_23
  | 24, _ => exact la_10_24
  | 25, _ => exact la_10_25
  | 26, _ => exact la_10_26
  | 27, _ => exact la_10_27
  | 28, _ => exact la_10_28
  | 29, _ => exact la_10_29
  | 30, _ => exact la_10_30
  | 31, _ => exact la_10_31
  | 32, _ => exact la_10_32
  | 33, _ => exact la_10_33
  | 34, _ => exact la_10_34
  | 35, _ => exact la_10_35
  | 36, _ => exact la_10_36
  | 37, _ => exact la_10_37
  | 38, _ => exact la_10_38
  | 39, _ => exact la_10_39
  | 40, _ => exact la_10_40
  | 41, _ => exact la_10_41
  | 42, _ => exact la_10_42
  | 43, _ => exact la_10_43
  | 44, _ => exact la_10_44
  | 45, _ => exact la_10_45
  | 46, _ => exact la_10_46
  | 47, _ => exact la_10_47
  | 48, _ => exact la_10_48
  | 49, _ => exact la_10_49
  | 50, _ => exact la_10_50
  | 51, _ => exact la_10_51
  | 52, _ => exact la_10_52
  | 53, _ => exact la_10_53
  | 54, _ => exact la_10_54
  | 55, _ => exact la_10_55
  | 56, _ => exact la_10_56
  | 57, _ => exact la_10_57
  | 58, _ => exact la_10_58
  | 59, _ => exact la_10_59
  | 60, _ => exact la_10_60
  | 61, _ => exact la_10_61
  | 62, _ => exact la_10_62
  | 63, _ => exact la_10_63
  | 64, _ => exact la_10_64
  | 65, _ => exact la_10_65
  | 66, _ => exact la_10_66
  | 67, _ => exact la_10_67
  | 68, _ => exact la_10_68
  | 69, _ => exact la_10_69
  | 70, _ => exact la_10_70
  | 71, _ => exact la_10_71
  | 72, _ => exact la_10_72
  | 73, _ => exact la_10_73
  | 74, _ => exact la_10_74
  | k + 75, hk => omega
/-! ===== the shape of the class: objects 0 .. 95; of the reference: 0 .. 48 ===== -/
def kdC : List Nat := [9, 100, 0, 8, 101, 101, 100, 101, 100, 100, 7, 100, 100, 102, 100, 7, 100, 100, 102, 100, 5, 6, 100, 100, 100, 102, 2, 100, 100, 100, 100, 100, 100, 100, 3, 100, 100, 4, 100, 100, 100, 100, 100, 100, 100, 104, 1, 1, 1, 1, 1, 1, 1, 1, 1, 1, 100, 100, 5, 6, 100, 100, 100, 102, 2, 100, 100, 100, 100, 100, 100, 100, 3, 100, 100, 4, 100, 100, 100, 100, 100, 100, 100, 104, 1, 1, 1, 1, 1, 1, 1, 1, 1, 1, 100, 100]
def lnC : List Nat := [0, 4000, 0, 0, 51, 200, 200, 200, 200, 200, 0, 200, 600, 200, 100, 0, 200, 600, 200, 100, 0, 0, 4096, 4096, 4096, 4096, 0, 101, 101, 101, 101, 101, 256, 100, 0, 101, 100, 0, 60, 60, 60, 60, 20, 20, 20, 8, 0, 0, 0, 0, 0, 0, 0, 0, 0, 0, 32, 100, 0, 0, 4096, 4096, 4096, 4096, 0, 101, 101, 101, 101, 101, 256, 100, 0, 101, 100, 0, 60, 60, 60, 60, 20, 20, 20, 8, 0, 0, 0, 0, 0, 0, 0, 0, 0, 0, 32, 100]
/-- the changing reference to a machine's program -/
def mq (B : Nat) : Nat := if B = 20 then 4 else 5
def rfC (k j : Nat) : Option (Nat ⊕ Nat) := match kdC.getD k 999 with
  | 9 => match j with | 0 => some (.inl 1) | 2 => some (.inl 2) | 3 => some (.inr 0) | 4 => some (.inr 1) | 6 => some (.inl 20) | 7 => some (.inl 58) | _ => none
  | 0 => match j with | 0 => some (.inl 3) | 1 => some (.inl 4) | 2 => some (.inl 5) | 3 => some (.inl 6) | 5 => some (.inl 7) | 6 => some (.inl 8) | 7 => some (.inl 9) | 9 => some (.inr 2) | _ => none
  | 8 => match j with | 0 => some (.inr 3) | _ => none
  | 7 => match j with | 0 => some (.inl (k + 1)) | 1 => some (.inl (k + 2)) | 2 => some (.inl (k + 3)) | 4 => some (.inl (k + 4)) | _ => none
  | 5 => match j with | 0 => some (.inr (mq k)) | 1 => some (.inl (k + 1)) | 2 => some (.inl (k + 6)) | 3 => some (.inl (k + 14)) | 4 => some (.inl (k + 17)) | 5 => some (.inl (k + 25)) | 6 => some (.inl (k + 34)) | 7 => some (.inl (k + 35)) | 15 => some (.inl (k + 36)) | 17 => some (.inl (k + 37)) | _ => none
  | 6 => match j with | 0 => some (.inl (k + 1)) | 1 => some (.inl (k + 2)) | 2 => some (.inl (k + 3)) | 3 => some (.inl (k + 4)) | _ => none
  | 2 => match j with | 0 => some (.inl (k + 1)) | 1 => some (.inl (k + 2)) | 2 => some (.inl (k + 3)) | 3 => some (.inl (k + 4)) | 4 => some (.inl (k + 5)) | 6 => some (.inl (k + 6)) | 7 => some (.inl (k + 7)) | _ => none
  | 3 => match j with | 0 => some (.inl (k + 1)) | 1 => some (.inl (k + 2)) | _ => none
  | 4 => match j with | 0 => some (.inl (k + 1)) | 1 => some (.inl (k + 2)) | 2 => some (.inl (k + 3)) | 3 => some (.inl (k + 4)) | 7 => some (.inl (k + 5)) | 8 => some (.inl (k + 6)) | 9 => some (.inl (k + 7)) | _ => none
  | 104 => some (.inl (k + 1 + j))
  | _ => none
/-! the texts that stand in the class: their places are 200 .. 210, their rows of bytes 300 .. 310 -/
def txS : List (String × Nat × String) := [("ShadeBench$Assembler", 49, "li mv not neg add sub mul div rem and or xor shl shr sar eq ne lt ltu sxb sxh lb lbu lh lhu lw sb sh sw beq bne blt bge bltu bgeu jmp call ret halt push pop new zero grow free copy fill in out mark look "), ("ShadeBench$Op", 7, "RN"), ("ShadeBench$Op", 11, "RR"), ("ShadeBench$Op", 13, "RRX"), ("ShadeBench$Op", 15, "RRN"), ("ShadeBench$Op", 17, "RXL"), ("ShadeBench$Op", 23, "L"), ("ShadeBench$Op", 25, ""), ("ShadeBench$Op", 27, "RX"), ("ShadeBench$Op", 29, "RXN"), ("ShadeBench$Op", 31, "R")]
def leS : List Nat := [203, 2, 2, 3, 3, 3, 1, 0, 2, 3, 1]
def byS : List (List Int32) := [[108, 105, 32, 109, 118, 32, 110, 111, 116, 32, 110, 101, 103, 32, 97, 100, 100, 32, 115, 117, 98, 32, 109, 117, 108, 32, 100, 105, 118, 32, 114, 101, 109, 32, 97, 110, 100, 32, 111, 114, 32, 120, 111, 114, 32, 115, 104, 108, 32, 115, 104, 114, 32, 115, 97, 114, 32, 101, 113, 32, 110, 101, 32, 108, 116, 32, 108, 116, 117, 32, 115, 120, 98, 32, 115, 120, 104, 32, 108, 98, 32, 108, 98, 117, 32, 108, 104, 32, 108, 104, 117, 32, 108, 119, 32, 115, 98, 32, 115, 104, 32, 115, 119, 32, 98, 101, 113, 32, 98, 110, 101, 32, 98, 108, 116, 32, 98, 103, 101, 32, 98, 108, 116, 117, 32, 98, 103, 101, 117, 32, 106, 109, 112, 32, 99, 97, 108, 108, 32, 114, 101, 116, 32, 104, 97, 108, 116, 32, 112, 117, 115, 104, 32, 112, 111, 112, 32, 110, 101, 119, 32, 122, 101, 114, 111, 32, 103, 114, 111, 119, 32, 102, 114, 101, 101, 32, 99, 111, 112, 121, 32, 102, 105, 108, 108, 32, 105, 110, 32, 111, 117, 116, 32, 109, 97, 114, 107, 32, 108, 111, 111, 107, 32], [82, 78], [82, 82], [82, 82, 88], [82, 82, 78], [82, 88, 76], [76], [], [82, 88], [82, 88, 78], [82]]
def strX (a : Nat → Nat) (A : Nat → Prop) (U : State) : Prop := vk_S 11 leS byS (fun i => a (200 + i)) (fun i => a (300 + i)) A U U.heap ∧ (∀ i, i < 11 → vk_R (txS.getD i ("", 0, "")).1 (txS.getD i ("", 0, "")).2.1 (txS.getD i ("", 0, "")).2.2 (a (200 + i)) U) ∧ va_Z "java/lang/String" "COMPACT_STRINGS" "Z" (.int 1) A U U.heap ∧ va_Zq "jdk/internal/util/Preconditions" "SIOOBE_FORMATTER" "Ljava/util/function/BiFunction;" A U U.heap
theorem okX_str : okX strX := by
  intro a A B s U h hW hq hB
  have hv : s.vm.Alike U.vm := by
    rcases hW with hW | hW
    · exact hW.alike
    · rw [hW]; exact Vm.Alike.refl _
  refine ⟨((h.1.moved hv).kept hq).narrow hB, fun i hi => ?_, ((h.2.2.1.moved hv).kept hq).narrow hB, ?_⟩
  · rcases hW with hW | hW
    · exact (h.2.1 i hi).warm hW
    · exact (h.2.1 i hi).same hW
  · rcases h.2.2.2 with z | ⟨t, z⟩
    · exact Or.inl (((z.moved hv).kept hq).narrow hB)
    · exact Or.inr ⟨t, ((z.moved hv).kept hq).narrow hB⟩
def SC : Sh := (96, fun k => kdC.getD k 999, fun k => lnC.getD k 0, rfC, strX)
theorem okX_C : okX SC.2.2.2.2 := okX_str
/-- a machine; a program; a datum -/
abbrev isM (B : Nat) : Prop := B = 20 ∨ B = 58
abbrev isP (p : Nat) : Prop := p = 10 ∨ p = 15
abbrev isD (k : Nat) : Prop := (46 ≤ k ∧ k ≤ 55) ∨ (84 ≤ k ∧ k ≤ 93)
def KD (S : Sh) (k c : Nat) : Prop := k < S.1 ∧ S.2.1 k = c
def KA (S : Sh) (k t n : Nat) : Prop := k < S.1 ∧ S.2.1 k = t ∧ S.2.2.1 k = n
theorem oC_0 : KD SC 0 9 := ⟨by decide, rfl⟩
theorem oC_1 : KA SC 1 100 4000 := ⟨by decide, rfl, rfl⟩
theorem oC_2 : KD SC 2 0 := ⟨by decide, rfl⟩
theorem oC_3 : KD SC 3 8 := ⟨by decide, rfl⟩
theorem oC_4 : KA SC 4 101 51 := ⟨by decide, rfl, rfl⟩
theorem oC_5 : KA SC 5 101 200 := ⟨by decide, rfl, rfl⟩
theorem oC_6 : KA SC 6 100 200 := ⟨by decide, rfl, rfl⟩
theorem oC_7 : KA SC 7 101 200 := ⟨by decide, rfl, rfl⟩
theorem oC_8 : KA SC 8 100 200 := ⟨by decide, rfl, rfl⟩
theorem oC_9 : KA SC 9 100 200 := ⟨by decide, rfl, rfl⟩
theorem oC_10 : KD SC 10 7 := ⟨by decide, rfl⟩
theorem oC_11 : KA SC 11 100 200 := ⟨by decide, rfl, rfl⟩
theorem oC_12 : KA SC 12 100 600 := ⟨by decide, rfl, rfl⟩
theorem oC_13 : KA SC 13 102 200 := ⟨by decide, rfl, rfl⟩
theorem oC_14 : KA SC 14 100 100 := ⟨by decide, rfl, rfl⟩
theorem oC_15 : KD SC 15 7 := ⟨by decide, rfl⟩
theorem oC_16 : KA SC 16 100 200 := ⟨by decide, rfl, rfl⟩
theorem oC_17 : KA SC 17 100 600 := ⟨by decide, rfl, rfl⟩
theorem oC_18 : KA SC 18 102 200 := ⟨by decide, rfl, rfl⟩
theorem oC_19 : KA SC 19 100 100 := ⟨by decide, rfl, rfl⟩
theorem oM_0 {B : Nat} (h : isM B) : KD SC B 5 := by rcases h with rfl | rfl <;> exact ⟨by decide, rfl⟩
theorem oM_1 {B : Nat} (h : isM B) : KD SC (B + 1) 6 := by rcases h with rfl | rfl <;> exact ⟨by decide, rfl⟩
theorem oM_2 {B : Nat} (h : isM B) : KA SC (B + 2) 100 4096 := by rcases h with rfl | rfl <;> exact ⟨by decide, rfl, rfl⟩
theorem oM_3 {B : Nat} (h : isM B) : KA SC (B + 3) 100 4096 := by rcases h with rfl | rfl <;> exact ⟨by decide, rfl, rfl⟩
theorem oM_4 {B : Nat} (h : isM B) : KA SC (B + 4) 100 4096 := by rcases h with rfl | rfl <;> exact ⟨by decide, rfl, rfl⟩
theorem oM_5 {B : Nat} (h : isM B) : KA SC (B + 5) 102 4096 := by rcases h with rfl | rfl <;> exact ⟨by decide, rfl, rfl⟩
theorem oM_6 {B : Nat} (h : isM B) : KD SC (B + 6) 2 := by rcases h with rfl | rfl <;> exact ⟨by decide, rfl⟩
theorem oM_7 {B : Nat} (h : isM B) : KA SC (B + 7) 100 101 := by rcases h with rfl | rfl <;> exact ⟨by decide, rfl, rfl⟩
theorem oM_8 {B : Nat} (h : isM B) : KA SC (B + 8) 100 101 := by rcases h with rfl | rfl <;> exact ⟨by decide, rfl, rfl⟩
theorem oM_9 {B : Nat} (h : isM B) : KA SC (B + 9) 100 101 := by rcases h with rfl | rfl <;> exact ⟨by decide, rfl, rfl⟩
theorem oM_10 {B : Nat} (h : isM B) : KA SC (B + 10) 100 101 := by rcases h with rfl | rfl <;> exact ⟨by decide, rfl, rfl⟩
theorem oM_11 {B : Nat} (h : isM B) : KA SC (B + 11) 100 101 := by rcases h with rfl | rfl <;> exact ⟨by decide, rfl, rfl⟩
theorem oM_12 {B : Nat} (h : isM B) : KA SC (B + 12) 100 256 := by rcases h with rfl | rfl <;> exact ⟨by decide, rfl, rfl⟩
theorem oM_13 {B : Nat} (h : isM B) : KA SC (B + 13) 100 100 := by rcases h with rfl | rfl <;> exact ⟨by decide, rfl, rfl⟩
theorem oM_14 {B : Nat} (h : isM B) : KD SC (B + 14) 3 := by rcases h with rfl | rfl <;> exact ⟨by decide, rfl⟩
theorem oM_15 {B : Nat} (h : isM B) : KA SC (B + 15) 100 101 := by rcases h with rfl | rfl <;> exact ⟨by decide, rfl, rfl⟩
theorem oM_16 {B : Nat} (h : isM B) : KA SC (B + 16) 100 100 := by rcases h with rfl | rfl <;> exact ⟨by decide, rfl, rfl⟩
theorem oM_17 {B : Nat} (h : isM B) : KD SC (B + 17) 4 := by rcases h with rfl | rfl <;> exact ⟨by decide, rfl⟩
theorem oM_18 {B : Nat} (h : isM B) : KA SC (B + 18) 100 60 := by rcases h with rfl | rfl <;> exact ⟨by decide, rfl, rfl⟩
theorem oM_19 {B : Nat} (h : isM B) : KA SC (B + 19) 100 60 := by rcases h with rfl | rfl <;> exact ⟨by decide, rfl, rfl⟩
theorem oM_20 {B : Nat} (h : isM B) : KA SC (B + 20) 100 60 := by rcases h with rfl | rfl <;> exact ⟨by decide, rfl, rfl⟩
theorem oM_21 {B : Nat} (h : isM B) : KA SC (B + 21) 100 60 := by rcases h with rfl | rfl <;> exact ⟨by decide, rfl, rfl⟩
theorem oM_22 {B : Nat} (h : isM B) : KA SC (B + 22) 100 20 := by rcases h with rfl | rfl <;> exact ⟨by decide, rfl, rfl⟩
theorem oM_23 {B : Nat} (h : isM B) : KA SC (B + 23) 100 20 := by rcases h with rfl | rfl <;> exact ⟨by decide, rfl, rfl⟩
theorem oM_24 {B : Nat} (h : isM B) : KA SC (B + 24) 100 20 := by rcases h with rfl | rfl <;> exact ⟨by decide, rfl, rfl⟩
theorem oM_25 {B : Nat} (h : isM B) : KA SC (B + 25) 104 8 := by rcases h with rfl | rfl <;> exact ⟨by decide, rfl, rfl⟩
theorem oM_26 {B : Nat} (h : isM B) : KD SC (B + 26) 1 := by rcases h with rfl | rfl <;> exact ⟨by decide, rfl⟩
theorem oM_27 {B : Nat} (h : isM B) : KD SC (B + 27) 1 := by rcases h with rfl | rfl <;> exact ⟨by decide, rfl⟩
theorem oM_28 {B : Nat} (h : isM B) : KD SC (B + 28) 1 := by rcases h with rfl | rfl <;> exact ⟨by decide, rfl⟩
theorem oM_29 {B : Nat} (h : isM B) : KD SC (B + 29) 1 := by rcases h with rfl | rfl <;> exact ⟨by decide, rfl⟩
theorem oM_30 {B : Nat} (h : isM B) : KD SC (B + 30) 1 := by rcases h with rfl | rfl <;> exact ⟨by decide, rfl⟩
theorem oM_31 {B : Nat} (h : isM B) : KD SC (B + 31) 1 := by rcases h with rfl | rfl <;> exact ⟨by decide, rfl⟩
theorem oM_32 {B : Nat} (h : isM B) : KD SC (B + 32) 1 := by rcases h with rfl | rfl <;> exact ⟨by decide, rfl⟩
theorem oM_33 {B : Nat} (h : isM B) : KD SC (B + 33) 1 := by rcases h with rfl | rfl <;> exact ⟨by decide, rfl⟩
theorem oM_34 {B : Nat} (h : isM B) : KD SC (B + 34) 1 := by rcases h with rfl | rfl <;> exact ⟨by decide, rfl⟩
theorem oM_35 {B : Nat} (h : isM B) : KD SC (B + 35) 1 := by rcases h with rfl | rfl <;> exact ⟨by decide, rfl⟩
theorem oM_36 {B : Nat} (h : isM B) : KA SC (B + 36) 100 32 := by rcases h with rfl | rfl <;> exact ⟨by decide, rfl, rfl⟩
theorem oM_37 {B : Nat} (h : isM B) : KA SC (B + 37) 100 100 := by rcases h with rfl | rfl <;> exact ⟨by decide, rfl, rfl⟩
theorem oP_0 {P : Nat} (h : isP P) : KD SC P 7 := by rcases h with rfl | rfl <;> exact ⟨by decide, rfl⟩
theorem oP_1 {P : Nat} (h : isP P) : KA SC (P + 1) 100 200 := by rcases h with rfl | rfl <;> exact ⟨by decide, rfl, rfl⟩
theorem oP_2 {P : Nat} (h : isP P) : KA SC (P + 2) 100 600 := by rcases h with rfl | rfl <;> exact ⟨by decide, rfl, rfl⟩
theorem oP_3 {P : Nat} (h : isP P) : KA SC (P + 3) 102 200 := by rcases h with rfl | rfl <;> exact ⟨by decide, rfl, rfl⟩
theorem oP_4 {P : Nat} (h : isP P) : KA SC (P + 4) 100 100 := by rcases h with rfl | rfl <;> exact ⟨by decide, rfl, rfl⟩
theorem oD {k : Nat} (h : isD k) : KD SC k 1 := by
  have h1 : k < 96 := by rcases h with h | h <;> omega
  have h2 : ∀ k, k < 96 → (46 ≤ k ∧ k ≤ 55) ∨ (84 ≤ k ∧ k ≤ 93) → kdC.getD k 999 = 1 := by decide
  exact ⟨h1, h2 k h1 h⟩
theorem dM_34 {B : Nat} (h : isM B) : isD (B + 34) := by rcases h with rfl | rfl <;> decide
theorem dM_35 {B : Nat} (h : isM B) : isD (B + 35) := by rcases h with rfl | rfl <;> decide
theorem dM_r {B : Nat} {i : Int32} (h : isM B) (hi : vp_in i 8) : isD (B + 26 + i.toNatClampNeg) := by
  have : i.toNatClampNeg < 8 := by
    rcases Nat.lt_or_ge i.toNatClampNeg 8 with q | q
    · exact q
    · exact absurd (Or.inr q) hi
  rcases h with rfl | rfl
  · left; omega
  · right; omega
theorem rM_r {B : Nat} {i : Int32} (s : St) (h : isM B) : rv SC s (B + 25) i.toNatClampNeg = some (B + 26 + i.toNatClampNeg) := by
  have e : SC.2.2.2.1 (B + 25) i.toNatClampNeg = some (.inl (B + 25 + 1 + i.toNatClampNeg)) := by rcases h with rfl | rfl <;> rfl
  unfold rv; rw [e]
theorem pne {p : Nat} (h : isP p) : p ≠ 999 := by rcases h with rfl | rfl <;> decide
theorem rM_p {B : Nat} {s : St} (h : isM B) (hp : isP (s.2.2 (mq B))) : rv SC s B 0 = some (s.2.2 (mq B)) := by
  have e : SC.2.2.2.1 B 0 = some (.inr (mq B)) := by rcases h with rfl | rfl <;> rfl
  unfold rv; rw [e]; exact if_neg (pne hp)
theorem rX_p {k j q : Nat} {s : St} (e : SC.2.2.2.1 k j = some (.inr q)) (hp : s.2.2 q ≠ 999) : rv SC s k j = some (s.2.2 q) := by
  unfold rv; rw [e]; exact if_neg hp
theorem rM_0_1 {B : Nat} (s : St) (h : isM B) : rv SC s B 1 = some (B + 1) := by rcases h with rfl | rfl <;> rfl
theorem rM_0_2 {B : Nat} (s : St) (h : isM B) : rv SC s B 2 = some (B + 6) := by rcases h with rfl | rfl <;> rfl
theorem rM_0_3 {B : Nat} (s : St) (h : isM B) : rv SC s B 3 = some (B + 14) := by rcases h with rfl | rfl <;> rfl
theorem rM_0_4 {B : Nat} (s : St) (h : isM B) : rv SC s B 4 = some (B + 17) := by rcases h with rfl | rfl <;> rfl
theorem rM_0_5 {B : Nat} (s : St) (h : isM B) : rv SC s B 5 = some (B + 25) := by rcases h with rfl | rfl <;> rfl
theorem rM_0_6 {B : Nat} (s : St) (h : isM B) : rv SC s B 6 = some (B + 34) := by rcases h with rfl | rfl <;> rfl
theorem rM_0_7 {B : Nat} (s : St) (h : isM B) : rv SC s B 7 = some (B + 35) := by rcases h with rfl | rfl <;> rfl
theorem rM_0_15 {B : Nat} (s : St) (h : isM B) : rv SC s B 15 = some (B + 36) := by rcases h with rfl | rfl <;> rfl
theorem rM_0_17 {B : Nat} (s : St) (h : isM B) : rv SC s B 17 = some (B + 37) := by rcases h with rfl | rfl <;> rfl
theorem rM_1_0 {B : Nat} (s : St) (h : isM B) : rv SC s (B + 1) 0 = some (B + 2) := by rcases h with rfl | rfl <;> rfl
theorem rM_1_1 {B : Nat} (s : St) (h : isM B) : rv SC s (B + 1) 1 = some (B + 3) := by rcases h with rfl | rfl <;> rfl
theorem rM_1_2 {B : Nat} (s : St) (h : isM B) : rv SC s (B + 1) 2 = some (B + 4) := by rcases h with rfl | rfl <;> rfl
theorem rM_1_3 {B : Nat} (s : St) (h : isM B) : rv SC s (B + 1) 3 = some (B + 5) := by rcases h with rfl | rfl <;> rfl
theorem rM_6_0 {B : Nat} (s : St) (h : isM B) : rv SC s (B + 6) 0 = some (B + 7) := by rcases h with rfl | rfl <;> rfl
theorem rM_6_1 {B : Nat} (s : St) (h : isM B) : rv SC s (B + 6) 1 = some (B + 8) := by rcases h with rfl | rfl <;> rfl
theorem rM_6_2 {B : Nat} (s : St) (h : isM B) : rv SC s (B + 6) 2 = some (B + 9) := by rcases h with rfl | rfl <;> rfl
theorem rM_6_3 {B : Nat} (s : St) (h : isM B) : rv SC s (B + 6) 3 = some (B + 10) := by rcases h with rfl | rfl <;> rfl
theorem rM_6_4 {B : Nat} (s : St) (h : isM B) : rv SC s (B + 6) 4 = some (B + 11) := by rcases h with rfl | rfl <;> rfl
theorem rM_6_6 {B : Nat} (s : St) (h : isM B) : rv SC s (B + 6) 6 = some (B + 12) := by rcases h with rfl | rfl <;> rfl
theorem rM_6_7 {B : Nat} (s : St) (h : isM B) : rv SC s (B + 6) 7 = some (B + 13) := by rcases h with rfl | rfl <;> rfl
theorem rM_14_0 {B : Nat} (s : St) (h : isM B) : rv SC s (B + 14) 0 = some (B + 15) := by rcases h with rfl | rfl <;> rfl
theorem rM_14_1 {B : Nat} (s : St) (h : isM B) : rv SC s (B + 14) 1 = some (B + 16) := by rcases h with rfl | rfl <;> rfl
theorem rM_17_0 {B : Nat} (s : St) (h : isM B) : rv SC s (B + 17) 0 = some (B + 18) := by rcases h with rfl | rfl <;> rfl
theorem rM_17_1 {B : Nat} (s : St) (h : isM B) : rv SC s (B + 17) 1 = some (B + 19) := by rcases h with rfl | rfl <;> rfl
theorem rM_17_2 {B : Nat} (s : St) (h : isM B) : rv SC s (B + 17) 2 = some (B + 20) := by rcases h with rfl | rfl <;> rfl
theorem rM_17_3 {B : Nat} (s : St) (h : isM B) : rv SC s (B + 17) 3 = some (B + 21) := by rcases h with rfl | rfl <;> rfl
theorem rM_17_7 {B : Nat} (s : St) (h : isM B) : rv SC s (B + 17) 7 = some (B + 22) := by rcases h with rfl | rfl <;> rfl
theorem rM_17_8 {B : Nat} (s : St) (h : isM B) : rv SC s (B + 17) 8 = some (B + 23) := by rcases h with rfl | rfl <;> rfl
theorem rM_17_9 {B : Nat} (s : St) (h : isM B) : rv SC s (B + 17) 9 = some (B + 24) := by rcases h with rfl | rfl <;> rfl
theorem rP_0_0 {P : Nat} (s : St) (h : isP P) : rv SC s P 0 = some (P + 1) := by rcases h with rfl | rfl <;> rfl
theorem rP_0_1 {P : Nat} (s : St) (h : isP P) : rv SC s P 1 = some (P + 2) := by rcases h with rfl | rfl <;> rfl
theorem rP_0_2 {P : Nat} (s : St) (h : isP P) : rv SC s P 2 = some (P + 3) := by rcases h with rfl | rfl <;> rfl
theorem rP_0_4 {P : Nat} (s : St) (h : isP P) : rv SC s P 4 = some (P + 4) := by rcases h with rfl | rfl <;> rfl
theorem huC : ∀ k, k < 96 → ∀ j, j < 19 → ∀ q, rfC k j = some (.inr q) → (k, j) ∈ [(0, 3), (0, 4), (2, 9), (3, 0), (20, 0), (58, 0)] := by
  intro k hk j hj q h
  have key : ∀ k, k < 96 → ∀ j, j < 19 → (match rfC k j with | some (.inr _) => decide ((k, j) ∈ [(0, 3), (0, 4), (2, 9), (3, 0), (20, 0), (58, 0)]) | _ => true) = true := by decide +kernel
  have := key k hk j hj
  rw [h] at this
  simpa using this
theorem huD {k j q : Nat} (h : rfC k j = some (.inr q)) : k < 96 ∧ j < 19 := by
  have hk : k < 96 := by
    rcases Nat.lt_or_ge k 96 with z | z
    · exact z
    · have : kdC.getD k 999 = 999 := by
        have z' : kdC[k]? = none := List.getElem?_eq_none (by simpa [kdC] using z)
        simp [List.getD, z']
      unfold rfC at h; rw [this] at h; cases h
  refine ⟨hk, ?_⟩
  rcases Nat.lt_or_ge j 19 with z | z
  · exact z
  · exfalso
    have hj : j = (j - 19) + 19 := by omega
    rw [hj] at h
    unfold rfC at h
    split at h <;> cases h
theorem hu_0 : ∀ i j, SC.2.2.2.1 i j = some (.inr 0) → i = 0 ∧ j = 3 := by
  intro i j h
  have := huC i (huD h).1 j (huD h).2 0 h
  simp at this
  rcases this with ⟨rfl, rfl⟩ | ⟨rfl, rfl⟩ | ⟨rfl, rfl⟩ | ⟨rfl, rfl⟩ | ⟨rfl, rfl⟩ | ⟨rfl, rfl⟩ <;> first | exact ⟨rfl, rfl⟩ | (exfalso; revert h; decide)
theorem hu_1 : ∀ i j, SC.2.2.2.1 i j = some (.inr 1) → i = 0 ∧ j = 4 := by
  intro i j h
  have := huC i (huD h).1 j (huD h).2 1 h
  simp at this
  rcases this with ⟨rfl, rfl⟩ | ⟨rfl, rfl⟩ | ⟨rfl, rfl⟩ | ⟨rfl, rfl⟩ | ⟨rfl, rfl⟩ | ⟨rfl, rfl⟩ <;> first | exact ⟨rfl, rfl⟩ | (exfalso; revert h; decide)
theorem hu_2 : ∀ i j, SC.2.2.2.1 i j = some (.inr 2) → i = 2 ∧ j = 9 := by
  intro i j h
  have := huC i (huD h).1 j (huD h).2 2 h
  simp at this
  rcases this with ⟨rfl, rfl⟩ | ⟨rfl, rfl⟩ | ⟨rfl, rfl⟩ | ⟨rfl, rfl⟩ | ⟨rfl, rfl⟩ | ⟨rfl, rfl⟩ <;> first | exact ⟨rfl, rfl⟩ | (exfalso; revert h; decide)
theorem hu_3 : ∀ i j, SC.2.2.2.1 i j = some (.inr 3) → i = 3 ∧ j = 0 := by
  intro i j h
  have := huC i (huD h).1 j (huD h).2 3 h
  simp at this
  rcases this with ⟨rfl, rfl⟩ | ⟨rfl, rfl⟩ | ⟨rfl, rfl⟩ | ⟨rfl, rfl⟩ | ⟨rfl, rfl⟩ | ⟨rfl, rfl⟩ <;> first | exact ⟨rfl, rfl⟩ | (exfalso; revert h; decide)
theorem hu_m {B : Nat} (hB : isM B) : ∀ i j, SC.2.2.2.1 i j = some (.inr (mq B)) → i = B ∧ j = 0 := by
  intro i j h
  have := huC i (huD h).1 j (huD h).2 _ h
  simp at this
  rcases hB with rfl | rfl <;> rcases this with ⟨rfl, rfl⟩ | ⟨rfl, rfl⟩ | ⟨rfl, rfl⟩ | ⟨rfl, rfl⟩ | ⟨rfl, rfl⟩ | ⟨rfl, rfl⟩ <;> first | exact ⟨rfl, rfl⟩ | (exfalso; revert h; decide)
theorem rm_p {B : Nat} (h : isM B) : SC.2.2.2.1 B 0 = some (.inr (mq B)) := by rcases h with rfl | rfl <;> rfl
def kdM : List Nat := [10, 103, 103, 100, 102, 100, 100, 100, 100, 100, 100, 100, 100, 100, 100, 100, 100, 100, 100, 102, 100, 100, 100, 100, 100, 100, 100, 100, 100, 100, 100, 100, 100, 100, 100, 100, 100, 100, 100, 100, 100, 100, 100, 100, 100, 100, 100, 100, 100]
def lnM : List Nat := [0, 4000, 3000, 400, 1200, 1200, 201, 201, 201, 201, 201, 201, 201, 16, 16, 16, 8192, 8192, 8192, 8192, 2, 2, 2, 2, 2, 64, 2, 2, 202, 202, 202, 202, 202, 202, 2, 2, 100, 100, 60, 60, 60, 60, 20, 20, 20, 256, 256, 256, 101]
def rfM (k j : Nat) : Option (Nat ⊕ Nat) := if k = 0 then (match j with | 0 => some (.inl 1) | 2 => some (.inl 2) | 4 => some (.inl 3) | 5 => some (.inl 4) | 6 => some (.inl 5) | 7 => some (.inl 6) | 8 => some (.inl 7) | 9 => some (.inl 8) | 10 => some (.inl 9) | 11 => some (.inl 10) | 12 => some (.inl 11) | 13 => some (.inl 12) | 30 => some (.inl 13) | 31 => some (.inl 14) | 32 => some (.inl 15) | 33 => some (.inl 16) | 34 => some (.inl 17) | 35 => some (.inl 18) | 36 => some (.inl 19) | 37 => some (.inl 20) | 38 => some (.inl 21) | 39 => some (.inl 22) | 40 => some (.inl 23) | 41 => some (.inl 24) | 42 => some (.inl 25) | 43 => some (.inl 26) | 44 => some (.inl 27) | 45 => some (.inl 28) | 46 => some (.inl 29) | 47 => some (.inl 30) | 48 => some (.inl 31) | 49 => some (.inl 32) | 50 => some (.inl 33) | 51 => some (.inl 34) | 52 => some (.inl 35) | 53 => some (.inl 36) | 54 => some (.inl 37) | 57 => some (.inl 38) | 58 => some (.inl 39) | 59 => some (.inl 40) | 60 => some (.inl 41) | 65 => some (.inl 42) | 66 => some (.inl 43) | 67 => some (.inl 44) | 70 => some (.inl 45) | 71 => some (.inl 46) | 72 => some (.inl 47) | 74 => some (.inl 48) | _ => none) else none
def SM : Sh := (49, fun k => kdM.getD k 999, fun k => lnM.getD k 0, rfM, fun _ _ _ => True)
theorem okX_M : okX SM.2.2.2.2 := fun _ _ _ _ _ _ _ _ _ => trivial
theorem oS_0 : KD SM 0 10 := ⟨by decide, rfl⟩
theorem oS_1 : KA SM 1 103 4000 := ⟨by decide, rfl, rfl⟩
theorem oS_2 : KA SM 2 103 3000 := ⟨by decide, rfl, rfl⟩
theorem oS_3 : KA SM 3 100 400 := ⟨by decide, rfl, rfl⟩
theorem oS_4 : KA SM 4 102 1200 := ⟨by decide, rfl, rfl⟩
theorem oS_5 : KA SM 5 100 1200 := ⟨by decide, rfl, rfl⟩
theorem oS_6 : KA SM 6 100 201 := ⟨by decide, rfl, rfl⟩
theorem oS_7 : KA SM 7 100 201 := ⟨by decide, rfl, rfl⟩
theorem oS_8 : KA SM 8 100 201 := ⟨by decide, rfl, rfl⟩
theorem oS_9 : KA SM 9 100 201 := ⟨by decide, rfl, rfl⟩
theorem oS_10 : KA SM 10 100 201 := ⟨by decide, rfl, rfl⟩
theorem oS_11 : KA SM 11 100 201 := ⟨by decide, rfl, rfl⟩
theorem oS_12 : KA SM 12 100 201 := ⟨by decide, rfl, rfl⟩
theorem oS_13 : KA SM 13 100 16 := ⟨by decide, rfl, rfl⟩
theorem oS_14 : KA SM 14 100 16 := ⟨by decide, rfl, rfl⟩
theorem oS_15 : KA SM 15 100 16 := ⟨by decide, rfl, rfl⟩
theorem oS_16 : KA SM 16 100 8192 := ⟨by decide, rfl, rfl⟩
theorem oS_17 : KA SM 17 100 8192 := ⟨by decide, rfl, rfl⟩
theorem oS_18 : KA SM 18 100 8192 := ⟨by decide, rfl, rfl⟩
theorem oS_19 : KA SM 19 102 8192 := ⟨by decide, rfl, rfl⟩
theorem oS_20 : KA SM 20 100 2 := ⟨by decide, rfl, rfl⟩
theorem oS_21 : KA SM 21 100 2 := ⟨by decide, rfl, rfl⟩
theorem oS_22 : KA SM 22 100 2 := ⟨by decide, rfl, rfl⟩
theorem oS_23 : KA SM 23 100 2 := ⟨by decide, rfl, rfl⟩
theorem oS_24 : KA SM 24 100 2 := ⟨by decide, rfl, rfl⟩
theorem oS_25 : KA SM 25 100 64 := ⟨by decide, rfl, rfl⟩
theorem oS_26 : KA SM 26 100 2 := ⟨by decide, rfl, rfl⟩
theorem oS_27 : KA SM 27 100 2 := ⟨by decide, rfl, rfl⟩
theorem oS_28 : KA SM 28 100 202 := ⟨by decide, rfl, rfl⟩
theorem oS_29 : KA SM 29 100 202 := ⟨by decide, rfl, rfl⟩
theorem oS_30 : KA SM 30 100 202 := ⟨by decide, rfl, rfl⟩
theorem oS_31 : KA SM 31 100 202 := ⟨by decide, rfl, rfl⟩
theorem oS_32 : KA SM 32 100 202 := ⟨by decide, rfl, rfl⟩
theorem oS_33 : KA SM 33 100 202 := ⟨by decide, rfl, rfl⟩
theorem oS_34 : KA SM 34 100 2 := ⟨by decide, rfl, rfl⟩
theorem oS_35 : KA SM 35 100 2 := ⟨by decide, rfl, rfl⟩
theorem oS_36 : KA SM 36 100 100 := ⟨by decide, rfl, rfl⟩
theorem oS_37 : KA SM 37 100 100 := ⟨by decide, rfl, rfl⟩
theorem oS_38 : KA SM 38 100 60 := ⟨by decide, rfl, rfl⟩
theorem oS_39 : KA SM 39 100 60 := ⟨by decide, rfl, rfl⟩
theorem oS_40 : KA SM 40 100 60 := ⟨by decide, rfl, rfl⟩
theorem oS_41 : KA SM 41 100 60 := ⟨by decide, rfl, rfl⟩
theorem oS_42 : KA SM 42 100 20 := ⟨by decide, rfl, rfl⟩
theorem oS_43 : KA SM 43 100 20 := ⟨by decide, rfl, rfl⟩
theorem oS_44 : KA SM 44 100 20 := ⟨by decide, rfl, rfl⟩
theorem oS_45 : KA SM 45 100 256 := ⟨by decide, rfl, rfl⟩
theorem oS_46 : KA SM 46 100 256 := ⟨by decide, rfl, rfl⟩
theorem oS_47 : KA SM 47 100 256 := ⟨by decide, rfl, rfl⟩
theorem oS_48 : KA SM 48 100 101 := ⟨by decide, rfl, rfl⟩
