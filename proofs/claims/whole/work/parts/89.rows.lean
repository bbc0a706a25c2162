/-! ===== the first worlds, row by row ===== -/
theorem rC_0 (a : Nat → Nat) (cy : Nat → ClassId) : ce SC a cy c00 0 = .inr (9, [.ref (a 1), .int 0, .ref (a 2), .ref (a 10), .ref (a 15), .int 0, .ref (a 20), .ref (a 58), .int 200000]) := rfl
theorem rC_1 (a : Nat → Nat) (cy : Nat → ClassId) : ce SC a cy c00 1 = .inl (cy 100, 4000, .inl (fun _ => 0)) := rfl
theorem rC_2 (a : Nat → Nat) (cy : Nat → ClassId) : ce SC a cy c00 2 = .inr (0, [.ref (a 3), .ref (a 4), .ref (a 5), .ref (a 6), .int 0, .ref (a 7), .ref (a 8), .ref (a 9), .int 0, .null, .int 0, .int (-1), .int (-1)]) := rfl
theorem rC_3 (a : Nat → Nat) (cy : Nat → ClassId) : ce SC a cy c00 3 = .inr (8, [.null, .int 0, .int 0, .int 0, .int 0, .long 0, .int 0]) := rfl
theorem rC_4 (a : Nat → Nat) (cy : Nat → ClassId) : ce SC a cy c00 4 = .inl (cy 101, 51, .inr (.inl nmF)) := rfl
theorem rC_5 (a : Nat → Nat) (cy : Nat → ClassId) : ce SC a cy c00 5 = .inl (cy 101, 200, .inr (.inl (fun _ => 0))) := rfl
theorem rC_6 (a : Nat → Nat) (cy : Nat → ClassId) : ce SC a cy c00 6 = .inl (cy 100, 200, .inl (fun _ => 0)) := rfl
theorem rC_7 (a : Nat → Nat) (cy : Nat → ClassId) : ce SC a cy c00 7 = .inl (cy 101, 200, .inr (.inl (fun _ => 0))) := rfl
theorem rC_8 (a : Nat → Nat) (cy : Nat → ClassId) : ce SC a cy c00 8 = .inl (cy 100, 200, .inl (fun _ => 0)) := rfl
theorem rC_9 (a : Nat → Nat) (cy : Nat → ClassId) : ce SC a cy c00 9 = .inl (cy 100, 200, .inl (fun _ => 0)) := rfl
theorem rC_10 (a : Nat → Nat) (cy : Nat → ClassId) : ce SC a cy c00 10 = .inr (7, [.ref (a 11), .ref (a 12), .ref (a 13), .int 0, .ref (a 14), .int 0]) := rfl
theorem rC_11 (a : Nat → Nat) (cy : Nat → ClassId) : ce SC a cy c00 11 = .inl (cy 100, 200, .inl (fun _ => 0)) := rfl
theorem rC_12 (a : Nat → Nat) (cy : Nat → ClassId) : ce SC a cy c00 12 = .inl (cy 100, 600, .inl (fun _ => 0)) := rfl
theorem rC_13 (a : Nat → Nat) (cy : Nat → ClassId) : ce SC a cy c00 13 = .inl (cy 102, 200, .inl (fun _ => 0)) := rfl
theorem rC_14 (a : Nat → Nat) (cy : Nat → ClassId) : ce SC a cy c00 14 = .inl (cy 100, 100, .inl (fun _ => 0)) := rfl
theorem rC_15 (a : Nat → Nat) (cy : Nat → ClassId) : ce SC a cy c00 15 = .inr (7, [.ref (a 16), .ref (a 17), .ref (a 18), .int 0, .ref (a 19), .int 0]) := rfl
theorem rC_16 (a : Nat → Nat) (cy : Nat → ClassId) : ce SC a cy c00 16 = .inl (cy 100, 200, .inl (fun _ => 0)) := rfl
theorem rC_17 (a : Nat → Nat) (cy : Nat → ClassId) : ce SC a cy c00 17 = .inl (cy 100, 600, .inl (fun _ => 0)) := rfl
theorem rC_18 (a : Nat → Nat) (cy : Nat → ClassId) : ce SC a cy c00 18 = .inl (cy 102, 200, .inl (fun _ => 0)) := rfl
theorem rC_19 (a : Nat → Nat) (cy : Nat → ClassId) : ce SC a cy c00 19 = .inl (cy 100, 100, .inl (fun _ => 0)) := rfl
theorem rC_20 (a : Nat → Nat) (cy : Nat → ClassId) : ce SC a cy c00 20 = .inr (5, [.null, .ref (a 21), .ref (a 26), .ref (a 34), .ref (a 37), .ref (a 45), .ref (a 54), .ref (a 55), .int 0, .int 0, .int 0, .int 0, .int 0, .int 0, .int 0, .ref (a 56), .int 0, .ref (a 57), .int 0]) := rfl
theorem rC_21 (a : Nat → Nat) (cy : Nat → ClassId) : ce SC a cy c00 21 = .inr (6, [.ref (a 22), .ref (a 23), .ref (a 24), .ref (a 25), .int 0, .int 0]) := rfl
theorem rC_22 (a : Nat → Nat) (cy : Nat → ClassId) : ce SC a cy c00 22 = .inl (cy 100, 4096, .inl (fun _ => 0)) := rfl
theorem rC_23 (a : Nat → Nat) (cy : Nat → ClassId) : ce SC a cy c00 23 = .inl (cy 100, 4096, .inl (fun _ => 0)) := rfl
theorem rC_24 (a : Nat → Nat) (cy : Nat → ClassId) : ce SC a cy c00 24 = .inl (cy 100, 4096, .inl (fun _ => 0)) := rfl
theorem rC_25 (a : Nat → Nat) (cy : Nat → ClassId) : ce SC a cy c00 25 = .inl (cy 102, 4096, .inl (fun _ => 0)) := rfl
theorem rC_26 (a : Nat → Nat) (cy : Nat → ClassId) : ce SC a cy c00 26 = .inr (2, [.ref (a 27), .ref (a 28), .ref (a 29), .ref (a 30), .ref (a 31), .int 0, .ref (a 32), .ref (a 33), .int 0, .int 0, .int 0]) := rfl
theorem rC_27 (a : Nat → Nat) (cy : Nat → ClassId) : ce SC a cy c00 27 = .inl (cy 100, 101, .inl (fun _ => 0)) := rfl
theorem rC_28 (a : Nat → Nat) (cy : Nat → ClassId) : ce SC a cy c00 28 = .inl (cy 100, 101, .inl (fun _ => 0)) := rfl
theorem rC_29 (a : Nat → Nat) (cy : Nat → ClassId) : ce SC a cy c00 29 = .inl (cy 100, 101, .inl (fun _ => 0)) := rfl
theorem rC_30 (a : Nat → Nat) (cy : Nat → ClassId) : ce SC a cy c00 30 = .inl (cy 100, 101, .inl (fun _ => 0)) := rfl
theorem rC_31 (a : Nat → Nat) (cy : Nat → ClassId) : ce SC a cy c00 31 = .inl (cy 100, 101, .inl (fun _ => 0)) := rfl
theorem rC_32 (a : Nat → Nat) (cy : Nat → ClassId) : ce SC a cy c00 32 = .inl (cy 100, 256, .inl (fun _ => 0)) := rfl
theorem rC_33 (a : Nat → Nat) (cy : Nat → ClassId) : ce SC a cy c00 33 = .inl (cy 100, 100, .inl (fun _ => 0)) := rfl
theorem rC_34 (a : Nat → Nat) (cy : Nat → ClassId) : ce SC a cy c00 34 = .inr (3, [.ref (a 35), .ref (a 36), .int 0]) := rfl
theorem rC_35 (a : Nat → Nat) (cy : Nat → ClassId) : ce SC a cy c00 35 = .inl (cy 100, 101, .inl (fun _ => 0)) := rfl
theorem rC_36 (a : Nat → Nat) (cy : Nat → ClassId) : ce SC a cy c00 36 = .inl (cy 100, 100, .inl (fun _ => 0)) := rfl
theorem rC_37 (a : Nat → Nat) (cy : Nat → ClassId) : ce SC a cy c00 37 = .inr (4, [.ref (a 38), .ref (a 39), .ref (a 40), .ref (a 41), .int 0, .int 0, .int 0, .ref (a 42), .ref (a 43), .ref (a 44), .int 0]) := rfl
theorem rC_38 (a : Nat → Nat) (cy : Nat → ClassId) : ce SC a cy c00 38 = .inl (cy 100, 60, .inl (fun _ => 0)) := rfl
theorem rC_39 (a : Nat → Nat) (cy : Nat → ClassId) : ce SC a cy c00 39 = .inl (cy 100, 60, .inl (fun _ => 0)) := rfl
theorem rC_40 (a : Nat → Nat) (cy : Nat → ClassId) : ce SC a cy c00 40 = .inl (cy 100, 60, .inl (fun _ => 0)) := rfl
theorem rC_41 (a : Nat → Nat) (cy : Nat → ClassId) : ce SC a cy c00 41 = .inl (cy 100, 60, .inl (fun _ => 0)) := rfl
theorem rC_42 (a : Nat → Nat) (cy : Nat → ClassId) : ce SC a cy c00 42 = .inl (cy 100, 20, .inl (fun _ => 0)) := rfl
theorem rC_43 (a : Nat → Nat) (cy : Nat → ClassId) : ce SC a cy c00 43 = .inl (cy 100, 20, .inl (fun _ => 0)) := rfl
theorem rC_44 (a : Nat → Nat) (cy : Nat → ClassId) : ce SC a cy c00 44 = .inl (cy 100, 20, .inl (fun _ => 0)) := rfl
theorem rC_45 (a : Nat → Nat) (cy : Nat → ClassId) : ce SC a cy c00 45 = .inl (cy 104, 8, .inr (.inr (.inr (.inr (fun j => (rv SC c00 45 j).map a))))) := rfl
theorem rC_46 (a : Nat → Nat) (cy : Nat → ClassId) : ce SC a cy c00 46 = .inr (1, [.int 0, .int 0, .int 0]) := rfl
theorem rC_47 (a : Nat → Nat) (cy : Nat → ClassId) : ce SC a cy c00 47 = .inr (1, [.int 0, .int 0, .int 0]) := rfl
theorem rC_48 (a : Nat → Nat) (cy : Nat → ClassId) : ce SC a cy c00 48 = .inr (1, [.int 0, .int 0, .int 0]) := rfl
theorem rC_49 (a : Nat → Nat) (cy : Nat → ClassId) : ce SC a cy c00 49 = .inr (1, [.int 0, .int 0, .int 0]) := rfl
theorem rC_50 (a : Nat → Nat) (cy : Nat → ClassId) : ce SC a cy c00 50 = .inr (1, [.int 0, .int 0, .int 0]) := rfl
theorem rC_51 (a : Nat → Nat) (cy : Nat → ClassId) : ce SC a cy c00 51 = .inr (1, [.int 0, .int 0, .int 0]) := rfl
theorem rC_52 (a : Nat → Nat) (cy : Nat → ClassId) : ce SC a cy c00 52 = .inr (1, [.int 0, .int 0, .int 0]) := rfl
theorem rC_53 (a : Nat → Nat) (cy : Nat → ClassId) : ce SC a cy c00 53 = .inr (1, [.int 0, .int 0, .int 0]) := rfl
theorem rC_54 (a : Nat → Nat) (cy : Nat → ClassId) : ce SC a cy c00 54 = .inr (1, [.int 0, .int 0, .int 0]) := rfl
theorem rC_55 (a : Nat → Nat) (cy : Nat → ClassId) : ce SC a cy c00 55 = .inr (1, [.int 0, .int 0, .int 0]) := rfl
theorem rC_56 (a : Nat → Nat) (cy : Nat → ClassId) : ce SC a cy c00 56 = .inl (cy 100, 32, .inl (fun _ => 0)) := rfl
theorem rC_57 (a : Nat → Nat) (cy : Nat → ClassId) : ce SC a cy c00 57 = .inl (cy 100, 100, .inl (fun _ => 0)) := rfl
theorem rC_58 (a : Nat → Nat) (cy : Nat → ClassId) : ce SC a cy c00 58 = .inr (5, [.null, .ref (a 59), .ref (a 64), .ref (a 72), .ref (a 75), .ref (a 83), .ref (a 92), .ref (a 93), .int 0, .int 0, .int 0, .int 0, .int 0, .int 0, .int 0, .ref (a 94), .int 0, .ref (a 95), .int 0]) := rfl
theorem rC_59 (a : Nat → Nat) (cy : Nat → ClassId) : ce SC a cy c00 59 = .inr (6, [.ref (a 60), .ref (a 61), .ref (a 62), .ref (a 63), .int 0, .int 0]) := rfl
theorem rC_60 (a : Nat → Nat) (cy : Nat → ClassId) : ce SC a cy c00 60 = .inl (cy 100, 4096, .inl (fun _ => 0)) := rfl
theorem rC_61 (a : Nat → Nat) (cy : Nat → ClassId) : ce SC a cy c00 61 = .inl (cy 100, 4096, .inl (fun _ => 0)) := rfl
theorem rC_62 (a : Nat → Nat) (cy : Nat → ClassId) : ce SC a cy c00 62 = .inl (cy 100, 4096, .inl (fun _ => 0)) := rfl
theorem rC_63 (a : Nat → Nat) (cy : Nat → ClassId) : ce SC a cy c00 63 = .inl (cy 102, 4096, .inl (fun _ => 0)) := rfl
theorem rC_64 (a : Nat → Nat) (cy : Nat → ClassId) : ce SC a cy c00 64 = .inr (2, [.ref (a 65), .ref (a 66), .ref (a 67), .ref (a 68), .ref (a 69), .int 0, .ref (a 70), .ref (a 71), .int 0, .int 0, .int 0]) := rfl
theorem rC_65 (a : Nat → Nat) (cy : Nat → ClassId) : ce SC a cy c00 65 = .inl (cy 100, 101, .inl (fun _ => 0)) := rfl
theorem rC_66 (a : Nat → Nat) (cy : Nat → ClassId) : ce SC a cy c00 66 = .inl (cy 100, 101, .inl (fun _ => 0)) := rfl
theorem rC_67 (a : Nat → Nat) (cy : Nat → ClassId) : ce SC a cy c00 67 = .inl (cy 100, 101, .inl (fun _ => 0)) := rfl
theorem rC_68 (a : Nat → Nat) (cy : Nat → ClassId) : ce SC a cy c00 68 = .inl (cy 100, 101, .inl (fun _ => 0)) := rfl
theorem rC_69 (a : Nat → Nat) (cy : Nat → ClassId) : ce SC a cy c00 69 = .inl (cy 100, 101, .inl (fun _ => 0)) := rfl
theorem rC_70 (a : Nat → Nat) (cy : Nat → ClassId) : ce SC a cy c00 70 = .inl (cy 100, 256, .inl (fun _ => 0)) := rfl
theorem rC_71 (a : Nat → Nat) (cy : Nat → ClassId) : ce SC a cy c00 71 = .inl (cy 100, 100, .inl (fun _ => 0)) := rfl
theorem rC_72 (a : Nat → Nat) (cy : Nat → ClassId) : ce SC a cy c00 72 = .inr (3, [.ref (a 73), .ref (a 74), .int 0]) := rfl
theorem rC_73 (a : Nat → Nat) (cy : Nat → ClassId) : ce SC a cy c00 73 = .inl (cy 100, 101, .inl (fun _ => 0)) := rfl
theorem rC_74 (a : Nat → Nat) (cy : Nat → ClassId) : ce SC a cy c00 74 = .inl (cy 100, 100, .inl (fun _ => 0)) := rfl
theorem rC_75 (a : Nat → Nat) (cy : Nat → ClassId) : ce SC a cy c00 75 = .inr (4, [.ref (a 76), .ref (a 77), .ref (a 78), .ref (a 79), .int 0, .int 0, .int 0, .ref (a 80), .ref (a 81), .ref (a 82), .int 0]) := rfl
theorem rC_76 (a : Nat → Nat) (cy : Nat → ClassId) : ce SC a cy c00 76 = .inl (cy 100, 60, .inl (fun _ => 0)) := rfl
theorem rC_77 (a : Nat → Nat) (cy : Nat → ClassId) : ce SC a cy c00 77 = .inl (cy 100, 60, .inl (fun _ => 0)) := rfl
theorem rC_78 (a : Nat → Nat) (cy : Nat → ClassId) : ce SC a cy c00 78 = .inl (cy 100, 60, .inl (fun _ => 0)) := rfl
theorem rC_79 (a : Nat → Nat) (cy : Nat → ClassId) : ce SC a cy c00 79 = .inl (cy 100, 60, .inl (fun _ => 0)) := rfl
theorem rC_80 (a : Nat → Nat) (cy : Nat → ClassId) : ce SC a cy c00 80 = .inl (cy 100, 20, .inl (fun _ => 0)) := rfl
theorem rC_81 (a : Nat → Nat) (cy : Nat → ClassId) : ce SC a cy c00 81 = .inl (cy 100, 20, .inl (fun _ => 0)) := rfl
theorem rC_82 (a : Nat → Nat) (cy : Nat → ClassId) : ce SC a cy c00 82 = .inl (cy 100, 20, .inl (fun _ => 0)) := rfl
theorem rC_83 (a : Nat → Nat) (cy : Nat → ClassId) : ce SC a cy c00 83 = .inl (cy 104, 8, .inr (.inr (.inr (.inr (fun j => (rv SC c00 83 j).map a))))) := rfl
theorem rC_84 (a : Nat → Nat) (cy : Nat → ClassId) : ce SC a cy c00 84 = .inr (1, [.int 0, .int 0, .int 0]) := rfl
theorem rC_85 (a : Nat → Nat) (cy : Nat → ClassId) : ce SC a cy c00 85 = .inr (1, [.int 0, .int 0, .int 0]) := rfl
theorem rC_86 (a : Nat → Nat) (cy : Nat → ClassId) : ce SC a cy c00 86 = .inr (1, [.int 0, .int 0, .int 0]) := rfl
theorem rC_87 (a : Nat → Nat) (cy : Nat → ClassId) : ce SC a cy c00 87 = .inr (1, [.int 0, .int 0, .int 0]) := rfl
theorem rC_88 (a : Nat → Nat) (cy : Nat → ClassId) : ce SC a cy c00 88 = .inr (1, [.int 0, .int 0, .int 0]) := rfl
theorem rC_89 (a : Nat → Nat) (cy : Nat → ClassId) : ce SC a cy c00 89 = .inr (1, [.int 0, .int 0, .int 0]) := rfl
theorem rC_90 (a : Nat → Nat) (cy : Nat → ClassId) : ce SC a cy c00 90 = .inr (1, [.int 0, .int 0, .int 0]) := rfl
theorem rC_91 (a : Nat → Nat) (cy : Nat → ClassId) : ce SC a cy c00 91 = .inr (1, [.int 0, .int 0, .int 0]) := rfl
theorem rC_92 (a : Nat → Nat) (cy : Nat → ClassId) : ce SC a cy c00 92 = .inr (1, [.int 0, .int 0, .int 0]) := rfl
theorem rC_93 (a : Nat → Nat) (cy : Nat → ClassId) : ce SC a cy c00 93 = .inr (1, [.int 0, .int 0, .int 0]) := rfl
theorem rC_94 (a : Nat → Nat) (cy : Nat → ClassId) : ce SC a cy c00 94 = .inl (cy 100, 32, .inl (fun _ => 0)) := rfl
theorem rC_95 (a : Nat → Nat) (cy : Nat → ClassId) : ce SC a cy c00 95 = .inl (cy 100, 100, .inl (fun _ => 0)) := rfl
theorem rM_0 (a : Nat → Nat) (cy : Nat → ClassId) : ce SM a cy m00 0 = .inr (10, [.ref (a 1), .int 0, .ref (a 2), .int 0, .ref (a 3), .ref (a 4), .ref (a 5), .ref (a 6), .ref (a 7), .ref (a 8), .ref (a 9), .ref (a 10), .ref (a 11), .ref (a 12), .int 0, .int 0, .int 0, .int 0, .int 0, .int 0, .int 0, .int (-1), .int (-1), .int 0, .int 0, .int 0, .int 0, .int 0, .int 0, .int 0, .ref (a 13), .ref (a 14), .ref (a 15), .ref (a 16), .ref (a 17), .ref (a 18), .ref (a 19), .ref (a 20), .ref (a 21), .ref (a 22), .ref (a 23), .ref (a 24), .ref (a 25), .ref (a 26), .ref (a 27), .ref (a 28), .ref (a 29), .ref (a 30), .ref (a 31), .ref (a 32), .ref (a 33), .ref (a 34), .ref (a 35), .ref (a 36), .ref (a 37), .int 0, .int 0, .ref (a 38), .ref (a 39), .ref (a 40), .ref (a 41), .int 0, .int 0, .int 0, .int 0, .ref (a 42), .ref (a 43), .ref (a 44), .int 0, .int 0, .ref (a 45), .ref (a 46), .ref (a 47), .int 0, .ref (a 48)]) := rfl
theorem rM_1 (a : Nat → Nat) (cy : Nat → ClassId) : ce SM a cy m00 1 = .inl (cy 103, 4000, .inl (fun _ => 0)) := rfl
theorem rM_2 (a : Nat → Nat) (cy : Nat → ClassId) : ce SM a cy m00 2 = .inl (cy 103, 3000, .inl (fun _ => 0)) := rfl
theorem rM_3 (a : Nat → Nat) (cy : Nat → ClassId) : ce SM a cy m00 3 = .inl (cy 100, 400, .inl (fun _ => 0)) := rfl
theorem rM_4 (a : Nat → Nat) (cy : Nat → ClassId) : ce SM a cy m00 4 = .inl (cy 102, 1200, .inl (fun _ => 0)) := rfl
theorem rM_5 (a : Nat → Nat) (cy : Nat → ClassId) : ce SM a cy m00 5 = .inl (cy 100, 1200, .inl (fun _ => 0)) := rfl
theorem rM_6 (a : Nat → Nat) (cy : Nat → ClassId) : ce SM a cy m00 6 = .inl (cy 100, 201, .inl (fun _ => 0)) := rfl
theorem rM_7 (a : Nat → Nat) (cy : Nat → ClassId) : ce SM a cy m00 7 = .inl (cy 100, 201, .inl (fun _ => 0)) := rfl
theorem rM_8 (a : Nat → Nat) (cy : Nat → ClassId) : ce SM a cy m00 8 = .inl (cy 100, 201, .inl (fun _ => 0)) := rfl
theorem rM_9 (a : Nat → Nat) (cy : Nat → ClassId) : ce SM a cy m00 9 = .inl (cy 100, 201, .inl (fun _ => 0)) := rfl
theorem rM_10 (a : Nat → Nat) (cy : Nat → ClassId) : ce SM a cy m00 10 = .inl (cy 100, 201, .inl (fun _ => 0)) := rfl
theorem rM_11 (a : Nat → Nat) (cy : Nat → ClassId) : ce SM a cy m00 11 = .inl (cy 100, 201, .inl (fun _ => 0)) := rfl
theorem rM_12 (a : Nat → Nat) (cy : Nat → ClassId) : ce SM a cy m00 12 = .inl (cy 100, 201, .inl (fun _ => 0)) := rfl
theorem rM_13 (a : Nat → Nat) (cy : Nat → ClassId) : ce SM a cy m00 13 = .inl (cy 100, 16, .inl (fun _ => 0)) := rfl
theorem rM_14 (a : Nat → Nat) (cy : Nat → ClassId) : ce SM a cy m00 14 = .inl (cy 100, 16, .inl (fun _ => 0)) := rfl
theorem rM_15 (a : Nat → Nat) (cy : Nat → ClassId) : ce SM a cy m00 15 = .inl (cy 100, 16, .inl (fun _ => 0)) := rfl
theorem rM_16 (a : Nat → Nat) (cy : Nat → ClassId) : ce SM a cy m00 16 = .inl (cy 100, 8192, .inl (fun _ => 0)) := rfl
theorem rM_17 (a : Nat → Nat) (cy : Nat → ClassId) : ce SM a cy m00 17 = .inl (cy 100, 8192, .inl (fun _ => 0)) := rfl
theorem rM_18 (a : Nat → Nat) (cy : Nat → ClassId) : ce SM a cy m00 18 = .inl (cy 100, 8192, .inl (fun _ => 0)) := rfl
theorem rM_19 (a : Nat → Nat) (cy : Nat → ClassId) : ce SM a cy m00 19 = .inl (cy 102, 8192, .inl (fun _ => 0)) := rfl
theorem rM_20 (a : Nat → Nat) (cy : Nat → ClassId) : ce SM a cy m00 20 = .inl (cy 100, 2, .inl (fun _ => 0)) := rfl
theorem rM_21 (a : Nat → Nat) (cy : Nat → ClassId) : ce SM a cy m00 21 = .inl (cy 100, 2, .inl (fun _ => 0)) := rfl
theorem rM_22 (a : Nat → Nat) (cy : Nat → ClassId) : ce SM a cy m00 22 = .inl (cy 100, 2, .inl (fun _ => 0)) := rfl
theorem rM_23 (a : Nat → Nat) (cy : Nat → ClassId) : ce SM a cy m00 23 = .inl (cy 100, 2, .inl (fun _ => 0)) := rfl
theorem rM_24 (a : Nat → Nat) (cy : Nat → ClassId) : ce SM a cy m00 24 = .inl (cy 100, 2, .inl (fun _ => 0)) := rfl
theorem rM_25 (a : Nat → Nat) (cy : Nat → ClassId) : ce SM a cy m00 25 = .inl (cy 100, 64, .inl (fun _ => 0)) := rfl
theorem rM_26 (a : Nat → Nat) (cy : Nat → ClassId) : ce SM a cy m00 26 = .inl (cy 100, 2, .inl (fun _ => 0)) := rfl
theorem rM_27 (a : Nat → Nat) (cy : Nat → ClassId) : ce SM a cy m00 27 = .inl (cy 100, 2, .inl (fun _ => 0)) := rfl
theorem rM_28 (a : Nat → Nat) (cy : Nat → ClassId) : ce SM a cy m00 28 = .inl (cy 100, 202, .inl (fun _ => 0)) := rfl
theorem rM_29 (a : Nat → Nat) (cy : Nat → ClassId) : ce SM a cy m00 29 = .inl (cy 100, 202, .inl (fun _ => 0)) := rfl
theorem rM_30 (a : Nat → Nat) (cy : Nat → ClassId) : ce SM a cy m00 30 = .inl (cy 100, 202, .inl (fun _ => 0)) := rfl
theorem rM_31 (a : Nat → Nat) (cy : Nat → ClassId) : ce SM a cy m00 31 = .inl (cy 100, 202, .inl (fun _ => 0)) := rfl
theorem rM_32 (a : Nat → Nat) (cy : Nat → ClassId) : ce SM a cy m00 32 = .inl (cy 100, 202, .inl (fun _ => 0)) := rfl
theorem rM_33 (a : Nat → Nat) (cy : Nat → ClassId) : ce SM a cy m00 33 = .inl (cy 100, 202, .inl (fun _ => 0)) := rfl
theorem rM_34 (a : Nat → Nat) (cy : Nat → ClassId) : ce SM a cy m00 34 = .inl (cy 100, 2, .inl (fun _ => 0)) := rfl
theorem rM_35 (a : Nat → Nat) (cy : Nat → ClassId) : ce SM a cy m00 35 = .inl (cy 100, 2, .inl (fun _ => 0)) := rfl
theorem rM_36 (a : Nat → Nat) (cy : Nat → ClassId) : ce SM a cy m00 36 = .inl (cy 100, 100, .inl (fun _ => 0)) := rfl
theorem rM_37 (a : Nat → Nat) (cy : Nat → ClassId) : ce SM a cy m00 37 = .inl (cy 100, 100, .inl (fun _ => 0)) := rfl
theorem rM_38 (a : Nat → Nat) (cy : Nat → ClassId) : ce SM a cy m00 38 = .inl (cy 100, 60, .inl (fun _ => 0)) := rfl
theorem rM_39 (a : Nat → Nat) (cy : Nat → ClassId) : ce SM a cy m00 39 = .inl (cy 100, 60, .inl (fun _ => 0)) := rfl
theorem rM_40 (a : Nat → Nat) (cy : Nat → ClassId) : ce SM a cy m00 40 = .inl (cy 100, 60, .inl (fun _ => 0)) := rfl
theorem rM_41 (a : Nat → Nat) (cy : Nat → ClassId) : ce SM a cy m00 41 = .inl (cy 100, 60, .inl (fun _ => 0)) := rfl
theorem rM_42 (a : Nat → Nat) (cy : Nat → ClassId) : ce SM a cy m00 42 = .inl (cy 100, 20, .inl (fun _ => 0)) := rfl
theorem rM_43 (a : Nat → Nat) (cy : Nat → ClassId) : ce SM a cy m00 43 = .inl (cy 100, 20, .inl (fun _ => 0)) := rfl
theorem rM_44 (a : Nat → Nat) (cy : Nat → ClassId) : ce SM a cy m00 44 = .inl (cy 100, 20, .inl (fun _ => 0)) := rfl
theorem rM_45 (a : Nat → Nat) (cy : Nat → ClassId) : ce SM a cy m00 45 = .inl (cy 100, 256, .inl (fun _ => 0)) := rfl
theorem rM_46 (a : Nat → Nat) (cy : Nat → ClassId) : ce SM a cy m00 46 = .inl (cy 100, 256, .inl (fun _ => 0)) := rfl
theorem rM_47 (a : Nat → Nat) (cy : Nat → ClassId) : ce SM a cy m00 47 = .inl (cy 100, 256, .inl (fun _ => 0)) := rfl
theorem rM_48 (a : Nat → Nat) (cy : Nat → ClassId) : ce SM a cy m00 48 = .inl (cy 100, 101, .inl (fun _ => 0)) := rfl
theorem rngC : List.range SC.1 = [0, 1, 2, 3, 4, 5, 6, 7, 8, 9, 10, 11, 12, 13, 14, 15, 16, 17, 18, 19, 20, 21, 22, 23, 24, 25, 26, 27, 28, 29, 30, 31, 32, 33, 34, 35, 36, 37, 38, 39, 40, 41, 42, 43, 44, 45, 46, 47, 48, 49, 50, 51, 52, 53, 54, 55, 56, 57, 58, 59, 60, 61, 62, 63, 64, 65, 66, 67, 68, 69, 70, 71, 72, 73, 74, 75, 76, 77, 78, 79, 80, 81, 82, 83, 84, 85, 86, 87, 88, 89, 90, 91, 92, 93, 94, 95] := by decide
theorem rngM : List.range SM.1 = [0, 1, 2, 3, 4, 5, 6, 7, 8, 9, 10, 11, 12, 13, 14, 15, 16, 17, 18, 19, 20, 21, 22, 23, 24, 25, 26, 27, 28, 29, 30, 31, 32, 33, 34, 35, 36, 37, 38, 39, 40, 41, 42, 43, 44, 45, 46, 47, 48] := by decide
set_option maxRecDepth 100000 in
theorem wd_c00 (a : Nat → Nat) (cy : Nat → ClassId) : wd SC a cy c00 = [(a 0, .inr (9, [.ref (a 1), .int 0, .ref (a 2), .ref (a 10), .ref (a 15), .int 0, .ref (a 20), .ref (a 58), .int 200000])), (a 1, .inl (cy 100, 4000, .inl (fun _ => 0))), (a 2, .inr (0, [.ref (a 3), .ref (a 4), .ref (a 5), .ref (a 6), .int 0, .ref (a 7), .ref (a 8), .ref (a 9), .int 0, .null, .int 0, .int (-1), .int (-1)])), (a 3, .inr (8, [.null, .int 0, .int 0, .int 0, .int 0, .long 0, .int 0])), (a 4, .inl (cy 101, 51, .inr (.inl nmF))), (a 5, .inl (cy 101, 200, .inr (.inl (fun _ => 0)))), (a 6, .inl (cy 100, 200, .inl (fun _ => 0))), (a 7, .inl (cy 101, 200, .inr (.inl (fun _ => 0)))), (a 8, .inl (cy 100, 200, .inl (fun _ => 0))), (a 9, .inl (cy 100, 200, .inl (fun _ => 0))), (a 10, .inr (7, [.ref (a 11), .ref (a 12), .ref (a 13), .int 0, .ref (a 14), .int 0])), (a 11, .inl (cy 100, 200, .inl (fun _ => 0))), (a 12, .inl (cy 100, 600, .inl (fun _ => 0))), (a 13, .inl (cy 102, 200, .inl (fun _ => 0))), (a 14, .inl (cy 100, 100, .inl (fun _ => 0))), (a 15, .inr (7, [.ref (a 16), .ref (a 17), .ref (a 18), .int 0, .ref (a 19), .int 0])), (a 16, .inl (cy 100, 200, .inl (fun _ => 0))), (a 17, .inl (cy 100, 600, .inl (fun _ => 0))), (a 18, .inl (cy 102, 200, .inl (fun _ => 0))), (a 19, .inl (cy 100, 100, .inl (fun _ => 0))), (a 20, .inr (5, [.null, .ref (a 21), .ref (a 26), .ref (a 34), .ref (a 37), .ref (a 45), .ref (a 54), .ref (a 55), .int 0, .int 0, .int 0, .int 0, .int 0, .int 0, .int 0, .ref (a 56), .int 0, .ref (a 57), .int 0])), (a 21, .inr (6, [.ref (a 22), .ref (a 23), .ref (a 24), .ref (a 25), .int 0, .int 0])), (a 22, .inl (cy 100, 4096, .inl (fun _ => 0))), (a 23, .inl (cy 100, 4096, .inl (fun _ => 0))), (a 24, .inl (cy 100, 4096, .inl (fun _ => 0))), (a 25, .inl (cy 102, 4096, .inl (fun _ => 0))), (a 26, .inr (2, [.ref (a 27), .ref (a 28), .ref (a 29), .ref (a 30), .ref (a 31), .int 0, .ref (a 32), .ref (a 33), .int 0, .int 0, .int 0])), (a 27, .inl (cy 100, 101, .inl (fun _ => 0))), (a 28, .inl (cy 100, 101, .inl (fun _ => 0))), (a 29, .inl (cy 100, 101, .inl (fun _ => 0))), (a 30, .inl (cy 100, 101, .inl (fun _ => 0))), (a 31, .inl (cy 100, 101, .inl (fun _ => 0))), (a 32, .inl (cy 100, 256, .inl (fun _ => 0))), (a 33, .inl (cy 100, 100, .inl (fun _ => 0))), (a 34, .inr (3, [.ref (a 35), .ref (a 36), .int 0])), (a 35, .inl (cy 100, 101, .inl (fun _ => 0))), (a 36, .inl (cy 100, 100, .inl (fun _ => 0))), (a 37, .inr (4, [.ref (a 38), .ref (a 39), .ref (a 40), .ref (a 41), .int 0, .int 0, .int 0, .ref (a 42), .ref (a 43), .ref (a 44), .int 0])), (a 38, .inl (cy 100, 60, .inl (fun _ => 0))), (a 39, .inl (cy 100, 60, .inl (fun _ => 0))), (a 40, .inl (cy 100, 60, .inl (fun _ => 0))), (a 41, .inl (cy 100, 60, .inl (fun _ => 0))), (a 42, .inl (cy 100, 20, .inl (fun _ => 0))), (a 43, .inl (cy 100, 20, .inl (fun _ => 0))), (a 44, .inl (cy 100, 20, .inl (fun _ => 0))), (a 45, .inl (cy 104, 8, .inr (.inr (.inr (.inr (fun j => (rv SC c00 45 j).map a)))))), (a 46, .inr (1, [.int 0, .int 0, .int 0])), (a 47, .inr (1, [.int 0, .int 0, .int 0])), (a 48, .inr (1, [.int 0, .int 0, .int 0])), (a 49, .inr (1, [.int 0, .int 0, .int 0])), (a 50, .inr (1, [.int 0, .int 0, .int 0])), (a 51, .inr (1, [.int 0, .int 0, .int 0])), (a 52, .inr (1, [.int 0, .int 0, .int 0])), (a 53, .inr (1, [.int 0, .int 0, .int 0])), (a 54, .inr (1, [.int 0, .int 0, .int 0])), (a 55, .inr (1, [.int 0, .int 0, .int 0])), (a 56, .inl (cy 100, 32, .inl (fun _ => 0))), (a 57, .inl (cy 100, 100, .inl (fun _ => 0))), (a 58, .inr (5, [.null, .ref (a 59), .ref (a 64), .ref (a 72), .ref (a 75), .ref (a 83), .ref (a 92), .ref (a 93), .int 0, .int 0, .int 0, .int 0, .int 0, .int 0, .int 0, .ref (a 94), .int 0, .ref (a 95), .int 0])), (a 59, .inr (6, [.ref (a 60), .ref (a 61), .ref (a 62), .ref (a 63), .int 0, .int 0])), (a 60, .inl (cy 100, 4096, .inl (fun _ => 0))), (a 61, .inl (cy 100, 4096, .inl (fun _ => 0))), (a 62, .inl (cy 100, 4096, .inl (fun _ => 0))), (a 63, .inl (cy 102, 4096, .inl (fun _ => 0))), (a 64, .inr (2, [.ref (a 65), .ref (a 66), .ref (a 67), .ref (a 68), .ref (a 69), .int 0, .ref (a 70), .ref (a 71), .int 0, .int 0, .int 0])), (a 65, .inl (cy 100, 101, .inl (fun _ => 0))), (a 66, .inl (cy 100, 101, .inl (fun _ => 0))), (a 67, .inl (cy 100, 101, .inl (fun _ => 0))), (a 68, .inl (cy 100, 101, .inl (fun _ => 0))), (a 69, .inl (cy 100, 101, .inl (fun _ => 0))), (a 70, .inl (cy 100, 256, .inl (fun _ => 0))), (a 71, .inl (cy 100, 100, .inl (fun _ => 0))), (a 72, .inr (3, [.ref (a 73), .ref (a 74), .int 0])), (a 73, .inl (cy 100, 101, .inl (fun _ => 0))), (a 74, .inl (cy 100, 100, .inl (fun _ => 0))), (a 75, .inr (4, [.ref (a 76), .ref (a 77), .ref (a 78), .ref (a 79), .int 0, .int 0, .int 0, .ref (a 80), .ref (a 81), .ref (a 82), .int 0])), (a 76, .inl (cy 100, 60, .inl (fun _ => 0))), (a 77, .inl (cy 100, 60, .inl (fun _ => 0))), (a 78, .inl (cy 100, 60, .inl (fun _ => 0))), (a 79, .inl (cy 100, 60, .inl (fun _ => 0))), (a 80, .inl (cy 100, 20, .inl (fun _ => 0))), (a 81, .inl (cy 100, 20, .inl (fun _ => 0))), (a 82, .inl (cy 100, 20, .inl (fun _ => 0))), (a 83, .inl (cy 104, 8, .inr (.inr (.inr (.inr (fun j => (rv SC c00 83 j).map a)))))), (a 84, .inr (1, [.int 0, .int 0, .int 0])), (a 85, .inr (1, [.int 0, .int 0, .int 0])), (a 86, .inr (1, [.int 0, .int 0, .int 0])), (a 87, .inr (1, [.int 0, .int 0, .int 0])), (a 88, .inr (1, [.int 0, .int 0, .int 0])), (a 89, .inr (1, [.int 0, .int 0, .int 0])), (a 90, .inr (1, [.int 0, .int 0, .int 0])), (a 91, .inr (1, [.int 0, .int 0, .int 0])), (a 92, .inr (1, [.int 0, .int 0, .int 0])), (a 93, .inr (1, [.int 0, .int 0, .int 0])), (a 94, .inl (cy 100, 32, .inl (fun _ => 0))), (a 95, .inl (cy 100, 100, .inl (fun _ => 0)))] := by
  unfold wd
  rw [rngC]
  simp only [List.map_cons, List.map_nil, rC_0, rC_1, rC_2, rC_3, rC_4, rC_5, rC_6, rC_7, rC_8, rC_9, rC_10, rC_11, rC_12, rC_13, rC_14, rC_15, rC_16, rC_17, rC_18, rC_19, rC_20, rC_21, rC_22, rC_23, rC_24, rC_25, rC_26, rC_27, rC_28, rC_29, rC_30, rC_31, rC_32, rC_33, rC_34, rC_35, rC_36, rC_37, rC_38, rC_39, rC_40, rC_41, rC_42, rC_43, rC_44, rC_45, rC_46, rC_47, rC_48, rC_49, rC_50, rC_51, rC_52, rC_53, rC_54, rC_55, rC_56, rC_57, rC_58, rC_59, rC_60, rC_61, rC_62, rC_63, rC_64, rC_65, rC_66, rC_67, rC_68, rC_69, rC_70, rC_71, rC_72, rC_73, rC_74, rC_75, rC_76, rC_77, rC_78, rC_79, rC_80, rC_81, rC_82, rC_83, rC_84, rC_85, rC_86, rC_87, rC_88, rC_89, rC_90, rC_91, rC_92, rC_93, rC_94, rC_95]
set_option maxRecDepth 100000 in
theorem wd_m00 (a : Nat → Nat) (cy : Nat → ClassId) : wd SM a cy m00 = [(a 0, .inr (10, [.ref (a 1), .int 0, .ref (a 2), .int 0, .ref (a 3), .ref (a 4), .ref (a 5), .ref (a 6), .ref (a 7), .ref (a 8), .ref (a 9), .ref (a 10), .ref (a 11), .ref (a 12), .int 0, .int 0, .int 0, .int 0, .int 0, .int 0, .int 0, .int (-1), .int (-1), .int 0, .int 0, .int 0, .int 0, .int 0, .int 0, .int 0, .ref (a 13), .ref (a 14), .ref (a 15), .ref (a 16), .ref (a 17), .ref (a 18), .ref (a 19), .ref (a 20), .ref (a 21), .ref (a 22), .ref (a 23), .ref (a 24), .ref (a 25), .ref (a 26), .ref (a 27), .ref (a 28), .ref (a 29), .ref (a 30), .ref (a 31), .ref (a 32), .ref (a 33), .ref (a 34), .ref (a 35), .ref (a 36), .ref (a 37), .int 0, .int 0, .ref (a 38), .ref (a 39), .ref (a 40), .ref (a 41), .int 0, .int 0, .int 0, .int 0, .ref (a 42), .ref (a 43), .ref (a 44), .int 0, .int 0, .ref (a 45), .ref (a 46), .ref (a 47), .int 0, .ref (a 48)])), (a 1, .inl (cy 103, 4000, .inl (fun _ => 0))), (a 2, .inl (cy 103, 3000, .inl (fun _ => 0))), (a 3, .inl (cy 100, 400, .inl (fun _ => 0))), (a 4, .inl (cy 102, 1200, .inl (fun _ => 0))), (a 5, .inl (cy 100, 1200, .inl (fun _ => 0))), (a 6, .inl (cy 100, 201, .inl (fun _ => 0))), (a 7, .inl (cy 100, 201, .inl (fun _ => 0))), (a 8, .inl (cy 100, 201, .inl (fun _ => 0))), (a 9, .inl (cy 100, 201, .inl (fun _ => 0))), (a 10, .inl (cy 100, 201, .inl (fun _ => 0))), (a 11, .inl (cy 100, 201, .inl (fun _ => 0))), (a 12, .inl (cy 100, 201, .inl (fun _ => 0))), (a 13, .inl (cy 100, 16, .inl (fun _ => 0))), (a 14, .inl (cy 100, 16, .inl (fun _ => 0))), (a 15, .inl (cy 100, 16, .inl (fun _ => 0))), (a 16, .inl (cy 100, 8192, .inl (fun _ => 0))), (a 17, .inl (cy 100, 8192, .inl (fun _ => 0))), (a 18, .inl (cy 100, 8192, .inl (fun _ => 0))), (a 19, .inl (cy 102, 8192, .inl (fun _ => 0))), (a 20, .inl (cy 100, 2, .inl (fun _ => 0))), (a 21, .inl (cy 100, 2, .inl (fun _ => 0))), (a 22, .inl (cy 100, 2, .inl (fun _ => 0))), (a 23, .inl (cy 100, 2, .inl (fun _ => 0))), (a 24, .inl (cy 100, 2, .inl (fun _ => 0))), (a 25, .inl (cy 100, 64, .inl (fun _ => 0))), (a 26, .inl (cy 100, 2, .inl (fun _ => 0))), (a 27, .inl (cy 100, 2, .inl (fun _ => 0))), (a 28, .inl (cy 100, 202, .inl (fun _ => 0))), (a 29, .inl (cy 100, 202, .inl (fun _ => 0))), (a 30, .inl (cy 100, 202, .inl (fun _ => 0))), (a 31, .inl (cy 100, 202, .inl (fun _ => 0))), (a 32, .inl (cy 100, 202, .inl (fun _ => 0))), (a 33, .inl (cy 100, 202, .inl (fun _ => 0))), (a 34, .inl (cy 100, 2, .inl (fun _ => 0))), (a 35, .inl (cy 100, 2, .inl (fun _ => 0))), (a 36, .inl (cy 100, 100, .inl (fun _ => 0))), (a 37, .inl (cy 100, 100, .inl (fun _ => 0))), (a 38, .inl (cy 100, 60, .inl (fun _ => 0))), (a 39, .inl (cy 100, 60, .inl (fun _ => 0))), (a 40, .inl (cy 100, 60, .inl (fun _ => 0))), (a 41, .inl (cy 100, 60, .inl (fun _ => 0))), (a 42, .inl (cy 100, 20, .inl (fun _ => 0))), (a 43, .inl (cy 100, 20, .inl (fun _ => 0))), (a 44, .inl (cy 100, 20, .inl (fun _ => 0))), (a 45, .inl (cy 100, 256, .inl (fun _ => 0))), (a 46, .inl (cy 100, 256, .inl (fun _ => 0))), (a 47, .inl (cy 100, 256, .inl (fun _ => 0))), (a 48, .inl (cy 100, 101, .inl (fun _ => 0)))] := by
  unfold wd
  rw [rngM]
  simp only [List.map_cons, List.map_nil, rM_0, rM_1, rM_2, rM_3, rM_4, rM_5, rM_6, rM_7, rM_8, rM_9, rM_10, rM_11, rM_12, rM_13, rM_14, rM_15, rM_16, rM_17, rM_18, rM_19, rM_20, rM_21, rM_22, rM_23, rM_24, rM_25, rM_26, rM_27, rM_28, rM_29, rM_30, rM_31, rM_32, rM_33, rM_34, rM_35, rM_36, rM_37, rM_38, rM_39, rM_40, rM_41, rM_42, rM_43, rM_44, rM_45, rM_46, rM_47, rM_48]
