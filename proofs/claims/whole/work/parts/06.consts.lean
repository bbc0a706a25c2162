theorem ic_m1 : Int32.ofInt (-1) = (-1) := by decide
theorem ic_0 : Int32.ofInt 0 = 0 := by decide
theorem ic_1 : Int32.ofInt 1 = 1 := by decide
theorem ic_2 : Int32.ofInt 2 = 2 := by decide
theorem ic_3 : Int32.ofInt 3 = 3 := by decide
theorem ic_4 : Int32.ofInt 4 = 4 := by decide
theorem ic_5 : Int32.ofInt 5 = 5 := by decide
theorem bp_m8 : (Int8.ofInt (-8)).toInt32 = (-8) := by decide
theorem bp_m4 : (Int8.ofInt (-4)).toInt32 = (-4) := by decide
theorem bp_6 : (Int8.ofInt 6).toInt32 = 6 := by decide
theorem bp_7 : (Int8.ofInt 7).toInt32 = 7 := by decide
theorem bp_8 : (Int8.ofInt 8).toInt32 = 8 := by decide
theorem bp_10 : (Int8.ofInt 10).toInt32 = 10 := by decide
theorem bp_12 : (Int8.ofInt 12).toInt32 = 12 := by decide
theorem bp_13 : (Int8.ofInt 13).toInt32 = 13 := by decide
theorem bp_15 : (Int8.ofInt 15).toInt32 = 15 := by decide
theorem bp_16 : (Int8.ofInt 16).toInt32 = 16 := by decide
theorem bp_17 : (Int8.ofInt 17).toInt32 = 17 := by decide
theorem bp_18 : (Int8.ofInt 18).toInt32 = 18 := by decide
theorem bp_19 : (Int8.ofInt 19).toInt32 = 19 := by decide
theorem bp_20 : (Int8.ofInt 20).toInt32 = 20 := by decide
theorem bp_21 : (Int8.ofInt 21).toInt32 = 21 := by decide
theorem bp_22 : (Int8.ofInt 22).toInt32 = 22 := by decide
theorem bp_23 : (Int8.ofInt 23).toInt32 = 23 := by decide
theorem bp_24 : (Int8.ofInt 24).toInt32 = 24 := by decide
theorem bp_25 : (Int8.ofInt 25).toInt32 = 25 := by decide
theorem bp_26 : (Int8.ofInt 26).toInt32 = 26 := by decide
theorem bp_27 : (Int8.ofInt 27).toInt32 = 27 := by decide
theorem bp_28 : (Int8.ofInt 28).toInt32 = 28 := by decide
theorem bp_29 : (Int8.ofInt 29).toInt32 = 29 := by decide
theorem bp_30 : (Int8.ofInt 30).toInt32 = 30 := by decide
theorem bp_31 : (Int8.ofInt 31).toInt32 = 31 := by decide
theorem bp_32 : (Int8.ofInt 32).toInt32 = 32 := by decide
theorem bp_33 : (Int8.ofInt 33).toInt32 = 33 := by decide
theorem bp_34 : (Int8.ofInt 34).toInt32 = 34 := by decide
theorem bp_35 : (Int8.ofInt 35).toInt32 = 35 := by decide
theorem bp_37 : (Int8.ofInt 37).toInt32 = 37 := by decide
theorem bp_38 : (Int8.ofInt 38).toInt32 = 38 := by decide
theorem bp_39 : (Int8.ofInt 39).toInt32 = 39 := by decide
theorem bp_40 : (Int8.ofInt 40).toInt32 = 40 := by decide
theorem bp_41 : (Int8.ofInt 41).toInt32 = 41 := by decide
theorem bp_42 : (Int8.ofInt 42).toInt32 = 42 := by decide
theorem bp_44 : (Int8.ofInt 44).toInt32 = 44 := by decide
theorem bp_45 : (Int8.ofInt 45).toInt32 = 45 := by decide
theorem bp_47 : (Int8.ofInt 47).toInt32 = 47 := by decide
theorem bp_48 : (Int8.ofInt 48).toInt32 = 48 := by decide
theorem bp_49 : (Int8.ofInt 49).toInt32 = 49 := by decide
theorem bp_51 : (Int8.ofInt 51).toInt32 = 51 := by decide
theorem bp_55 : (Int8.ofInt 55).toInt32 = 55 := by decide
theorem bp_57 : (Int8.ofInt 57).toInt32 = 57 := by decide
theorem bp_58 : (Int8.ofInt 58).toInt32 = 58 := by decide
theorem bp_59 : (Int8.ofInt 59).toInt32 = 59 := by decide
theorem bp_60 : (Int8.ofInt 60).toInt32 = 60 := by decide
theorem bp_65 : (Int8.ofInt 65).toInt32 = 65 := by decide
theorem bp_76 : (Int8.ofInt 76).toInt32 = 76 := by decide
theorem bp_78 : (Int8.ofInt 78).toInt32 = 78 := by decide
theorem bp_82 : (Int8.ofInt 82).toInt32 = 82 := by decide
theorem bp_87 : (Int8.ofInt 87).toInt32 = 87 := by decide
theorem bp_88 : (Int8.ofInt 88).toInt32 = 88 := by decide
theorem bp_90 : (Int8.ofInt 90).toInt32 = 90 := by decide
theorem bp_97 : (Int8.ofInt 97).toInt32 = 97 := by decide
theorem bp_100 : (Int8.ofInt 100).toInt32 = 100 := by decide
theorem bp_101 : (Int8.ofInt 101).toInt32 = 101 := by decide
theorem bp_102 : (Int8.ofInt 102).toInt32 = 102 := by decide
theorem bp_114 : (Int8.ofInt 114).toInt32 = 114 := by decide
theorem bp_120 : (Int8.ofInt 120).toInt32 = 120 := by decide
theorem bp_122 : (Int8.ofInt 122).toInt32 = 122 := by decide
theorem sp_200 : (Int16.ofInt 200).toInt32 = 200 := by decide
theorem sp_201 : (Int16.ofInt 201).toInt32 = 201 := by decide
theorem sp_255 : (Int16.ofInt 255).toInt32 = 255 := by decide
theorem sp_256 : (Int16.ofInt 256).toInt32 = 256 := by decide
theorem sp_274 : (Int16.ofInt 274).toInt32 = 274 := by decide
theorem sp_275 : (Int16.ofInt 275).toInt32 = 275 := by decide
theorem sp_306 : (Int16.ofInt 306).toInt32 = 306 := by decide
theorem sp_308 : (Int16.ofInt 308).toInt32 = 308 := by decide
theorem sp_511 : (Int16.ofInt 511).toInt32 = 511 := by decide
theorem sp_512 : (Int16.ofInt 512).toInt32 = 512 := by decide
theorem sp_600 : (Int16.ofInt 600).toInt32 = 600 := by decide
theorem sp_1024 : (Int16.ofInt 1024).toInt32 = 1024 := by decide
theorem sp_1032 : (Int16.ofInt 1032).toInt32 = 1032 := by decide
theorem sp_3000 : (Int16.ofInt 3000).toInt32 = 3000 := by decide
theorem sp_3072 : (Int16.ofInt 3072).toInt32 = 3072 := by decide
theorem sp_4000 : (Int16.ofInt 4000).toInt32 = 4000 := by decide
theorem sp_4096 : (Int16.ofInt 4096).toInt32 = 4096 := by decide
theorem sp_20000 : (Int16.ofInt 20000).toInt32 = 20000 := by decide
theorem ii_m8 {x : Int32} : x + Int32.ofInt (-8) = x + (-8) := congrArg (fun z => x + z) (show Int32.ofInt (-8) = (-8) by decide)
theorem ii_m1 {x : Int32} : x + Int32.ofInt (-1) = x + (-1) := congrArg (fun z => x + z) (show Int32.ofInt (-1) = (-1) by decide)
theorem ii_1 {x : Int32} : x + Int32.ofInt 1 = x + 1 := congrArg (fun z => x + z) (show Int32.ofInt 1 = 1 by decide)
theorem ii_4 {x : Int32} : x + Int32.ofInt 4 = x + 4 := congrArg (fun z => x + z) (show Int32.ofInt 4 = 4 by decide)
theorem ii_8 {x : Int32} : x + Int32.ofInt 8 = x + 8 := congrArg (fun z => x + z) (show Int32.ofInt 8 = 8 by decide)
theorem ff_0_0 : 0 < 13 ∧ fT 0 0 = 2 := ⟨by decide, rfl⟩
theorem ff_0_1 : 1 < 13 ∧ fT 0 1 = 2 := ⟨by decide, rfl⟩
theorem ff_0_2 : 2 < 13 ∧ fT 0 2 = 2 := ⟨by decide, rfl⟩
theorem ff_0_3 : 3 < 13 ∧ fT 0 3 = 2 := ⟨by decide, rfl⟩
theorem ff_0_4 : 4 < 13 ∧ fT 0 4 = 0 := ⟨by decide, rfl⟩
theorem ff_0_5 : 5 < 13 ∧ fT 0 5 = 2 := ⟨by decide, rfl⟩
theorem ff_0_6 : 6 < 13 ∧ fT 0 6 = 2 := ⟨by decide, rfl⟩
theorem ff_0_7 : 7 < 13 ∧ fT 0 7 = 2 := ⟨by decide, rfl⟩
theorem ff_0_8 : 8 < 13 ∧ fT 0 8 = 0 := ⟨by decide, rfl⟩
theorem ff_0_9 : 9 < 13 ∧ fT 0 9 = 2 := ⟨by decide, rfl⟩
theorem ff_0_10 : 10 < 13 ∧ fT 0 10 = 0 := ⟨by decide, rfl⟩
theorem ff_0_11 : 11 < 13 ∧ fT 0 11 = 0 := ⟨by decide, rfl⟩
theorem ff_0_12 : 12 < 13 ∧ fT 0 12 = 0 := ⟨by decide, rfl⟩
theorem ff_1_0 : 0 < 3 ∧ fT 1 0 = 0 := ⟨by decide, rfl⟩
theorem ff_1_1 : 1 < 3 ∧ fT 1 1 = 0 := ⟨by decide, rfl⟩
theorem ff_1_2 : 2 < 3 ∧ fT 1 2 = 0 := ⟨by decide, rfl⟩
theorem ff_2_0 : 0 < 11 ∧ fT 2 0 = 2 := ⟨by decide, rfl⟩
theorem ff_2_1 : 1 < 11 ∧ fT 2 1 = 2 := ⟨by decide, rfl⟩
theorem ff_2_2 : 2 < 11 ∧ fT 2 2 = 2 := ⟨by decide, rfl⟩
theorem ff_2_3 : 3 < 11 ∧ fT 2 3 = 2 := ⟨by decide, rfl⟩
theorem ff_2_4 : 4 < 11 ∧ fT 2 4 = 2 := ⟨by decide, rfl⟩
theorem ff_2_5 : 5 < 11 ∧ fT 2 5 = 0 := ⟨by decide, rfl⟩
theorem ff_2_6 : 6 < 11 ∧ fT 2 6 = 2 := ⟨by decide, rfl⟩
theorem ff_2_7 : 7 < 11 ∧ fT 2 7 = 2 := ⟨by decide, rfl⟩
theorem ff_2_8 : 8 < 11 ∧ fT 2 8 = 0 := ⟨by decide, rfl⟩
theorem ff_2_9 : 9 < 11 ∧ fT 2 9 = 0 := ⟨by decide, rfl⟩
theorem ff_2_10 : 10 < 11 ∧ fT 2 10 = 0 := ⟨by decide, rfl⟩
theorem ff_3_0 : 0 < 3 ∧ fT 3 0 = 2 := ⟨by decide, rfl⟩
theorem ff_3_1 : 1 < 3 ∧ fT 3 1 = 2 := ⟨by decide, rfl⟩
theorem ff_3_2 : 2 < 3 ∧ fT 3 2 = 0 := ⟨by decide, rfl⟩
theorem ff_4_0 : 0 < 11 ∧ fT 4 0 = 2 := ⟨by decide, rfl⟩
theorem ff_4_1 : 1 < 11 ∧ fT 4 1 = 2 := ⟨by decide, rfl⟩
theorem ff_4_2 : 2 < 11 ∧ fT 4 2 = 2 := ⟨by decide, rfl⟩
theorem ff_4_3 : 3 < 11 ∧ fT 4 3 = 2 := ⟨by decide, rfl⟩
theorem ff_4_4 : 4 < 11 ∧ fT 4 4 = 0 := ⟨by decide, rfl⟩
theorem ff_4_5 : 5 < 11 ∧ fT 4 5 = 0 := ⟨by decide, rfl⟩
theorem ff_4_6 : 6 < 11 ∧ fT 4 6 = 0 := ⟨by decide, rfl⟩
theorem ff_4_7 : 7 < 11 ∧ fT 4 7 = 2 := ⟨by decide, rfl⟩
theorem ff_4_8 : 8 < 11 ∧ fT 4 8 = 2 := ⟨by decide, rfl⟩
theorem ff_4_9 : 9 < 11 ∧ fT 4 9 = 2 := ⟨by decide, rfl⟩
theorem ff_4_10 : 10 < 11 ∧ fT 4 10 = 0 := ⟨by decide, rfl⟩
theorem ff_5_0 : 0 < 19 ∧ fT 5 0 = 2 := ⟨by decide, rfl⟩
theorem ff_5_1 : 1 < 19 ∧ fT 5 1 = 2 := ⟨by decide, rfl⟩
theorem ff_5_2 : 2 < 19 ∧ fT 5 2 = 2 := ⟨by decide, rfl⟩
theorem ff_5_3 : 3 < 19 ∧ fT 5 3 = 2 := ⟨by decide, rfl⟩
theorem ff_5_4 : 4 < 19 ∧ fT 5 4 = 2 := ⟨by decide, rfl⟩
theorem ff_5_5 : 5 < 19 ∧ fT 5 5 = 2 := ⟨by decide, rfl⟩
theorem ff_5_6 : 6 < 19 ∧ fT 5 6 = 2 := ⟨by decide, rfl⟩
theorem ff_5_7 : 7 < 19 ∧ fT 5 7 = 2 := ⟨by decide, rfl⟩
theorem ff_5_8 : 8 < 19 ∧ fT 5 8 = 0 := ⟨by decide, rfl⟩
theorem ff_5_9 : 9 < 19 ∧ fT 5 9 = 0 := ⟨by decide, rfl⟩
theorem ff_5_10 : 10 < 19 ∧ fT 5 10 = 0 := ⟨by decide, rfl⟩
theorem ff_5_11 : 11 < 19 ∧ fT 5 11 = 0 := ⟨by decide, rfl⟩
theorem ff_5_12 : 12 < 19 ∧ fT 5 12 = 0 := ⟨by decide, rfl⟩
theorem ff_5_13 : 13 < 19 ∧ fT 5 13 = 0 := ⟨by decide, rfl⟩
theorem ff_5_14 : 14 < 19 ∧ fT 5 14 = 0 := ⟨by decide, rfl⟩
theorem ff_5_15 : 15 < 19 ∧ fT 5 15 = 2 := ⟨by decide, rfl⟩
theorem ff_5_16 : 16 < 19 ∧ fT 5 16 = 0 := ⟨by decide, rfl⟩
theorem ff_5_17 : 17 < 19 ∧ fT 5 17 = 2 := ⟨by decide, rfl⟩
theorem ff_5_18 : 18 < 19 ∧ fT 5 18 = 0 := ⟨by decide, rfl⟩
theorem ff_6_0 : 0 < 6 ∧ fT 6 0 = 2 := ⟨by decide, rfl⟩
theorem ff_6_1 : 1 < 6 ∧ fT 6 1 = 2 := ⟨by decide, rfl⟩
theorem ff_6_2 : 2 < 6 ∧ fT 6 2 = 2 := ⟨by decide, rfl⟩
theorem ff_6_3 : 3 < 6 ∧ fT 6 3 = 2 := ⟨by decide, rfl⟩
theorem ff_6_4 : 4 < 6 ∧ fT 6 4 = 0 := ⟨by decide, rfl⟩
theorem ff_6_5 : 5 < 6 ∧ fT 6 5 = 0 := ⟨by decide, rfl⟩
theorem ff_7_0 : 0 < 6 ∧ fT 7 0 = 2 := ⟨by decide, rfl⟩
theorem ff_7_1 : 1 < 6 ∧ fT 7 1 = 2 := ⟨by decide, rfl⟩
theorem ff_7_2 : 2 < 6 ∧ fT 7 2 = 2 := ⟨by decide, rfl⟩
theorem ff_7_3 : 3 < 6 ∧ fT 7 3 = 0 := ⟨by decide, rfl⟩
theorem ff_7_4 : 4 < 6 ∧ fT 7 4 = 2 := ⟨by decide, rfl⟩
theorem ff_7_5 : 5 < 6 ∧ fT 7 5 = 0 := ⟨by decide, rfl⟩
theorem ff_8_0 : 0 < 7 ∧ fT 8 0 = 2 := ⟨by decide, rfl⟩
theorem ff_8_1 : 1 < 7 ∧ fT 8 1 = 0 := ⟨by decide, rfl⟩
theorem ff_8_2 : 2 < 7 ∧ fT 8 2 = 0 := ⟨by decide, rfl⟩
theorem ff_8_3 : 3 < 7 ∧ fT 8 3 = 0 := ⟨by decide, rfl⟩
theorem ff_8_4 : 4 < 7 ∧ fT 8 4 = 0 := ⟨by decide, rfl⟩
theorem ff_8_5 : 5 < 7 ∧ fT 8 5 = 1 := ⟨by decide, rfl⟩
theorem ff_8_6 : 6 < 7 ∧ fT 8 6 = 0 := ⟨by decide, rfl⟩
theorem ff_9_0 : 0 < 9 ∧ fT 9 0 = 2 := ⟨by decide, rfl⟩
theorem ff_9_1 : 1 < 9 ∧ fT 9 1 = 0 := ⟨by decide, rfl⟩
theorem ff_9_2 : 2 < 9 ∧ fT 9 2 = 2 := ⟨by decide, rfl⟩
theorem ff_9_3 : 3 < 9 ∧ fT 9 3 = 2 := ⟨by decide, rfl⟩
theorem ff_9_4 : 4 < 9 ∧ fT 9 4 = 2 := ⟨by decide, rfl⟩
theorem ff_9_5 : 5 < 9 ∧ fT 9 5 = 0 := ⟨by decide, rfl⟩
theorem ff_9_6 : 6 < 9 ∧ fT 9 6 = 2 := ⟨by decide, rfl⟩
theorem ff_9_7 : 7 < 9 ∧ fT 9 7 = 2 := ⟨by decide, rfl⟩
theorem ff_9_8 : 8 < 9 ∧ fT 9 8 = 0 := ⟨by decide, rfl⟩
theorem ff_10_0 : 0 < 75 ∧ fT 10 0 = 2 := ⟨by decide, rfl⟩
theorem ff_10_1 : 1 < 75 ∧ fT 10 1 = 0 := ⟨by decide, rfl⟩
theorem ff_10_2 : 2 < 75 ∧ fT 10 2 = 2 := ⟨by decide, rfl⟩
theorem ff_10_3 : 3 < 75 ∧ fT 10 3 = 0 := ⟨by decide, rfl⟩
theorem ff_10_4 : 4 < 75 ∧ fT 10 4 = 2 := ⟨by decide, rfl⟩
theorem ff_10_5 : 5 < 75 ∧ fT 10 5 = 2 := ⟨by decide, rfl⟩
theorem ff_10_6 : 6 < 75 ∧ fT 10 6 = 2 := ⟨by decide, rfl⟩
theorem ff_10_7 : 7 < 75 ∧ fT 10 7 = 2 := ⟨by decide, rfl⟩
theorem ff_10_8 : 8 < 75 ∧ fT 10 8 = 2 := ⟨by decide, rfl⟩
theorem ff_10_9 : 9 < 75 ∧ fT 10 9 = 2 := ⟨by decide, rfl⟩
theorem ff_10_10 : 10 < 75 ∧ fT 10 10 = 2 := ⟨by decide, rfl⟩
theorem ff_10_11 : 11 < 75 ∧ fT 10 11 = 2 := ⟨by decide, rfl⟩
theorem ff_10_12 : 12 < 75 ∧ fT 10 12 = 2 := ⟨by decide, rfl⟩
theorem ff_10_13 : 13 < 75 ∧ fT 10 13 = 2 := ⟨by decide, rfl⟩
theorem ff_10_14 : 14 < 75 ∧ fT 10 14 = 0 := ⟨by decide, rfl⟩
theorem ff_10_15 : 15 < 75 ∧ fT 10 15 = 0 := ⟨by decide, rfl⟩
theorem ff_10_16 : 16 < 75 ∧ fT 10 16 = 0 := ⟨by decide, rfl⟩
theorem ff_10_17 : 17 < 75 ∧ fT 10 17 = 0 := ⟨by decide, rfl⟩
theorem ff_10_18 : 18 < 75 ∧ fT 10 18 = 0 := ⟨by decide, rfl⟩
theorem ff_10_19 : 19 < 75 ∧ fT 10 19 = 0 := ⟨by decide, rfl⟩
theorem ff_10_20 : 20 < 75 ∧ fT 10 20 = 0 := ⟨by decide, rfl⟩
theorem ff_10_21 : 21 < 75 ∧ fT 10 21 = 0 := ⟨by decide, rfl⟩
theorem ff_10_22 : 22 < 75 ∧ fT 10 22 = 0 := ⟨by decide, rfl⟩
theorem ff_10_23 : 23 < 75 ∧ fT 10 23 = 0 := ⟨by decide, rfl⟩
theorem ff_10_24 : 24 < 75 ∧ fT 10 24 = 0 := ⟨by decide, rfl⟩
theorem ff_10_25 : 25 < 75 ∧ fT 10 25 = 0 := ⟨by decide, rfl⟩
theorem ff_10_26 : 26 < 75 ∧ fT 10 26 = 0 := ⟨by decide, rfl⟩
theorem ff_10_27 : 27 < 75 ∧ fT 10 27 = 0 := ⟨by decide, rfl⟩
theorem ff_10_28 : 28 < 75 ∧ fT 10 28 = 0 := ⟨by decide, rfl⟩
theorem ff_10_29 : 29 < 75 ∧ fT 10 29 = 0 := ⟨by decide, rfl⟩
theorem ff_10_30 : 30 < 75 ∧ fT 10 30 = 2 := ⟨by decide, rfl⟩
theorem ff_10_31 : 31 < 75 ∧ fT 10 31 = 2 := ⟨by decide, rfl⟩
theorem ff_10_32 : 32 < 75 ∧ fT 10 32 = 2 := ⟨by decide, rfl⟩
theorem ff_10_33 : 33 < 75 ∧ fT 10 33 = 2 := ⟨by decide, rfl⟩
theorem ff_10_34 : 34 < 75 ∧ fT 10 34 = 2 := ⟨by decide, rfl⟩
theorem ff_10_35 : 35 < 75 ∧ fT 10 35 = 2 := ⟨by decide, rfl⟩
theorem ff_10_36 : 36 < 75 ∧ fT 10 36 = 2 := ⟨by decide, rfl⟩
theorem ff_10_37 : 37 < 75 ∧ fT 10 37 = 2 := ⟨by decide, rfl⟩
theorem ff_10_38 : 38 < 75 ∧ fT 10 38 = 2 := ⟨by decide, rfl⟩
theorem ff_10_39 : 39 < 75 ∧ fT 10 39 = 2 := ⟨by decide, rfl⟩
theorem ff_10_40 : 40 < 75 ∧ fT 10 40 = 2 := ⟨by decide, rfl⟩
theorem ff_10_41 : 41 < 75 ∧ fT 10 41 = 2 := ⟨by decide, rfl⟩
theorem ff_10_42 : 42 < 75 ∧ fT 10 42 = 2 := ⟨by decide, rfl⟩
theorem ff_10_43 : 43 < 75 ∧ fT 10 43 = 2 := ⟨by decide, rfl⟩
theorem ff_10_44 : 44 < 75 ∧ fT 10 44 = 2 := ⟨by decide, rfl⟩
theorem ff_10_45 : 45 < 75 ∧ fT 10 45 = 2 := ⟨by decide, rfl⟩
theorem ff_10_46 : 46 < 75 ∧ fT 10 46 = 2 := ⟨by decide, rfl⟩
theorem ff_10_47 : 47 < 75 ∧ fT 10 47 = 2 := ⟨by decide, rfl⟩
theorem ff_10_48 : 48 < 75 ∧ fT 10 48 = 2 := ⟨by decide, rfl⟩
theorem ff_10_49 : 49 < 75 ∧ fT 10 49 = 2 := ⟨by decide, rfl⟩
theorem ff_10_50 : 50 < 75 ∧ fT 10 50 = 2 := ⟨by decide, rfl⟩
theorem ff_10_51 : 51 < 75 ∧ fT 10 51 = 2 := ⟨by decide, rfl⟩
theorem ff_10_52 : 52 < 75 ∧ fT 10 52 = 2 := ⟨by decide, rfl⟩
theorem ff_10_53 : 53 < 75 ∧ fT 10 53 = 2 := ⟨by decide, rfl⟩
theorem ff_10_54 : 54 < 75 ∧ fT 10 54 = 2 := ⟨by decide, rfl⟩
theorem ff_10_55 : 55 < 75 ∧ fT 10 55 = 0 := ⟨by decide, rfl⟩
theorem ff_10_56 : 56 < 75 ∧ fT 10 56 = 0 := ⟨by decide, rfl⟩
theorem ff_10_57 : 57 < 75 ∧ fT 10 57 = 2 := ⟨by decide, rfl⟩
theorem ff_10_58 : 58 < 75 ∧ fT 10 58 = 2 := ⟨by decide, rfl⟩
theorem ff_10_59 : 59 < 75 ∧ fT 10 59 = 2 := ⟨by decide, rfl⟩
theorem ff_10_60 : 60 < 75 ∧ fT 10 60 = 2 := ⟨by decide, rfl⟩
theorem ff_10_61 : 61 < 75 ∧ fT 10 61 = 0 := ⟨by decide, rfl⟩
theorem ff_10_62 : 62 < 75 ∧ fT 10 62 = 0 := ⟨by decide, rfl⟩
theorem ff_10_63 : 63 < 75 ∧ fT 10 63 = 0 := ⟨by decide, rfl⟩
theorem ff_10_64 : 64 < 75 ∧ fT 10 64 = 0 := ⟨by decide, rfl⟩
theorem ff_10_65 : 65 < 75 ∧ fT 10 65 = 2 := ⟨by decide, rfl⟩
theorem ff_10_66 : 66 < 75 ∧ fT 10 66 = 2 := ⟨by decide, rfl⟩
theorem ff_10_67 : 67 < 75 ∧ fT 10 67 = 2 := ⟨by decide, rfl⟩
theorem ff_10_68 : 68 < 75 ∧ fT 10 68 = 0 := ⟨by decide, rfl⟩
theorem ff_10_69 : 69 < 75 ∧ fT 10 69 = 0 := ⟨by decide, rfl⟩
theorem ff_10_70 : 70 < 75 ∧ fT 10 70 = 2 := ⟨by decide, rfl⟩
theorem ff_10_71 : 71 < 75 ∧ fT 10 71 = 2 := ⟨by decide, rfl⟩
theorem ff_10_72 : 72 < 75 ∧ fT 10 72 = 2 := ⟨by decide, rfl⟩
theorem ff_10_73 : 73 < 75 ∧ fT 10 73 = 0 := ⟨by decide, rfl⟩
theorem ff_10_74 : 74 < 75 ∧ fT 10 74 = 2 := ⟨by decide, rfl⟩
