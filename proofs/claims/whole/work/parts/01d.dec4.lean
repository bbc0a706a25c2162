theorem dX12_move_120 : decode cX12_move 120 = .ok (.iload 4, 2) := by decide +kernel
theorem dX12_move_122 : decode cX12_move 122 = .ok (.iaload, 1) := by decide +kernel
theorem dX12_move_123 : decode cX12_move 123 = .ok (.iastore, 1) := by decide +kernel
theorem dX12_move_124 : decode cX12_move 124 = .ok (.aload_n 0, 1) := by decide +kernel
theorem dX12_move_125 : decode cX12_move 125 = .ok (.getfield 67, 3) := by decide +kernel
theorem dX12_move_128 : decode cX12_move 128 = .ok (.iload 5, 2) := by decide +kernel
theorem dX12_move_130 : decode cX12_move 130 = .ok (.aload_n 0, 1) := by decide +kernel
theorem dX12_move_131 : decode cX12_move 131 = .ok (.getfield 154, 3) := by decide +kernel
theorem dX12_move_134 : decode cX12_move 134 = .ok (.iload 4, 2) := by decide +kernel
theorem dX12_move_136 : decode cX12_move 136 = .ok (.iaload, 1) := by decide +kernel
theorem dX12_move_137 : decode cX12_move 137 = .ok (.iastore, 1) := by decide +kernel
theorem dX12_move_138 : decode cX12_move 138 = .ok (.aload_n 0, 1) := by decide +kernel
theorem dX12_move_139 : decode cX12_move 139 = .ok (.getfield 70, 3) := by decide +kernel
theorem dX12_move_142 : decode cX12_move 142 = .ok (.iload 5, 2) := by decide +kernel
theorem dX12_move_144 : decode cX12_move 144 = .ok (.aload_n 0, 1) := by decide +kernel
theorem dX12_move_145 : decode cX12_move 145 = .ok (.getfield 157, 3) := by decide +kernel
theorem dX12_move_148 : decode cX12_move 148 = .ok (.iload 4, 2) := by decide +kernel
theorem dX12_move_150 : decode cX12_move 150 = .ok (.iaload, 1) := by decide +kernel
theorem dX12_move_151 : decode cX12_move 151 = .ok (.iastore, 1) := by decide +kernel
theorem dX12_move_152 : decode cX12_move 152 = .ok (.iinc 4 1, 3) := by decide +kernel
theorem dX12_move_155 : decode cX12_move 155 = .ok (.goto (-66), 3) := by decide +kernel
theorem dX12_move_158 : decode cX12_move 158 = .ok (.return_, 1) := by decide +kernel
theorem dX12_fill_0 : decode cX12_fill 0 = .ok (.aload_n 0, 1) := by decide +kernel
theorem dX12_fill_1 : decode cX12_fill 1 = .ok (.iload_n 1, 1) := by decide +kernel
theorem dX12_fill_2 : decode cX12_fill 2 = .ok (.iconst 2, 1) := by decide +kernel
theorem dX12_fill_3 : decode cX12_fill 3 = .ok (.iadd, 1) := by decide +kernel
theorem dX12_fill_4 : decode cX12_fill 4 = .ok (.invokevirtual 451, 3) := by decide +kernel
theorem dX12_fill_7 : decode cX12_fill 7 = .ok (.istore_n 2, 1) := by decide +kernel
theorem dX12_fill_8 : decode cX12_fill 8 = .ok (.aload_n 0, 1) := by decide +kernel
theorem dX12_fill_9 : decode cX12_fill 9 = .ok (.iload_n 1, 1) := by decide +kernel
theorem dX12_fill_10 : decode cX12_fill 10 = .ok (.invokevirtual 454, 3) := by decide +kernel
theorem dX12_fill_13 : decode cX12_fill 13 = .ok (.ifCond .eq 13, 3) := by decide +kernel
theorem dX12_fill_16 : decode cX12_fill 16 = .ok (.aload_n 0, 1) := by decide +kernel
theorem dX12_fill_17 : decode cX12_fill 17 = .ok (.iconst 2, 1) := by decide +kernel
theorem dX12_fill_18 : decode cX12_fill 18 = .ok (.aload_n 0, 1) := by decide +kernel
theorem dX12_fill_19 : decode cX12_fill 19 = .ok (.iload_n 1, 1) := by decide +kernel
theorem dX12_fill_20 : decode cX12_fill 20 = .ok (.invokevirtual 457, 3) := by decide +kernel
theorem dX12_fill_23 : decode cX12_fill 23 = .ok (.invokevirtual 460, 3) := by decide +kernel
theorem dX12_fill_26 : decode cX12_fill 26 = .ok (.aload_n 0, 1) := by decide +kernel
theorem dX12_fill_27 : decode cX12_fill 27 = .ok (.iload_n 1, 1) := by decide +kernel
theorem dX12_fill_28 : decode cX12_fill 28 = .ok (.iconst 2, 1) := by decide +kernel
theorem dX12_fill_29 : decode cX12_fill 29 = .ok (.iadd, 1) := by decide +kernel
theorem dX12_fill_30 : decode cX12_fill 30 = .ok (.invokevirtual 454, 3) := by decide +kernel
theorem dX12_fill_33 : decode cX12_fill 33 = .ok (.ifCond .eq 15, 3) := by decide +kernel
theorem dX12_fill_36 : decode cX12_fill 36 = .ok (.aload_n 0, 1) := by decide +kernel
theorem dX12_fill_37 : decode cX12_fill 37 = .ok (.iconst 5, 1) := by decide +kernel
theorem dX12_fill_38 : decode cX12_fill 38 = .ok (.aload_n 0, 1) := by decide +kernel
theorem dX12_fill_39 : decode cX12_fill 39 = .ok (.iload_n 1, 1) := by decide +kernel
theorem dX12_fill_40 : decode cX12_fill 40 = .ok (.iconst 2, 1) := by decide +kernel
theorem dX12_fill_41 : decode cX12_fill 41 = .ok (.iadd, 1) := by decide +kernel
theorem dX12_fill_42 : decode cX12_fill 42 = .ok (.invokevirtual 457, 3) := by decide +kernel
theorem dX12_fill_45 : decode cX12_fill 45 = .ok (.invokevirtual 460, 3) := by decide +kernel
theorem dX12_fill_48 : decode cX12_fill 48 = .ok (.iload_n 2, 1) := by decide +kernel
theorem dX12_fill_49 : decode cX12_fill 49 = .ok (.ifCond .lt 10, 3) := by decide +kernel
theorem dX12_fill_52 : decode cX12_fill 52 = .ok (.iload_n 2, 1) := by decide +kernel
theorem dX12_fill_53 : decode cX12_fill 53 = .ok (.sipush 256, 3) := by decide +kernel
theorem dX12_fill_56 : decode cX12_fill 56 = .ok (.if_icmp .le 9, 3) := by decide +kernel
theorem dX12_fill_59 : decode cX12_fill 59 = .ok (.aload_n 0, 1) := by decide +kernel
theorem dX12_fill_60 : decode cX12_fill 60 = .ok (.iconst 4, 1) := by decide +kernel
theorem dX12_fill_61 : decode cX12_fill 61 = .ok (.invokevirtual 423, 3) := by decide +kernel
theorem dX12_fill_64 : decode cX12_fill 64 = .ok (.return_, 1) := by decide +kernel
theorem dX12_fill_65 : decode cX12_fill 65 = .ok (.aload_n 0, 1) := by decide +kernel
theorem dX12_fill_66 : decode cX12_fill 66 = .ok (.iload_n 1, 1) := by decide +kernel
theorem dX12_fill_67 : decode cX12_fill 67 = .ok (.invokevirtual 451, 3) := by decide +kernel
theorem dX12_fill_70 : decode cX12_fill 70 = .ok (.istore_n 3, 1) := by decide +kernel
theorem dX12_fill_71 : decode cX12_fill 71 = .ok (.aload_n 0, 1) := by decide +kernel
theorem dX12_fill_72 : decode cX12_fill 72 = .ok (.iload_n 3, 1) := by decide +kernel
theorem dX12_fill_73 : decode cX12_fill 73 = .ok (.iload_n 2, 1) := by decide +kernel
theorem dX12_fill_74 : decode cX12_fill 74 = .ok (.invokevirtual 486, 3) := by decide +kernel
theorem dX12_fill_77 : decode cX12_fill 77 = .ok (.ifCond .ne 4, 3) := by decide +kernel
theorem dX12_fill_80 : decode cX12_fill 80 = .ok (.return_, 1) := by decide +kernel
theorem dX12_fill_81 : decode cX12_fill 81 = .ok (.iconst 0, 1) := by decide +kernel
theorem dX12_fill_82 : decode cX12_fill 82 = .ok (.istore 4, 2) := by decide +kernel
theorem dX12_fill_84 : decode cX12_fill 84 = .ok (.iload 4, 2) := by decide +kernel
theorem dX12_fill_86 : decode cX12_fill 86 = .ok (.iload_n 2, 1) := by decide +kernel
theorem dX12_fill_87 : decode cX12_fill 87 = .ok (.if_icmp .ge 39, 3) := by decide +kernel
theorem dX12_fill_90 : decode cX12_fill 90 = .ok (.aload_n 0, 1) := by decide +kernel
theorem dX12_fill_91 : decode cX12_fill 91 = .ok (.iload_n 3, 1) := by decide +kernel
theorem dX12_fill_92 : decode cX12_fill 92 = .ok (.iload 4, 2) := by decide +kernel
theorem dX12_fill_94 : decode cX12_fill 94 = .ok (.iadd, 1) := by decide +kernel
theorem dX12_fill_95 : decode cX12_fill 95 = .ok (.iconst 1, 1) := by decide +kernel
theorem dX12_fill_96 : decode cX12_fill 96 = .ok (.aload_n 0, 1) := by decide +kernel
theorem dX12_fill_97 : decode cX12_fill 97 = .ok (.iload_n 1, 1) := by decide +kernel
theorem dX12_fill_98 : decode cX12_fill 98 = .ok (.iconst 1, 1) := by decide +kernel
theorem dX12_fill_99 : decode cX12_fill 99 = .ok (.iadd, 1) := by decide +kernel
theorem dX12_fill_100 : decode cX12_fill 100 = .ok (.invokevirtual 451, 3) := by decide +kernel
theorem dX12_fill_103 : decode cX12_fill 103 = .ok (.aload_n 0, 1) := by decide +kernel
theorem dX12_fill_104 : decode cX12_fill 104 = .ok (.iload_n 1, 1) := by decide +kernel
theorem dX12_fill_105 : decode cX12_fill 105 = .ok (.iconst 1, 1) := by decide +kernel
theorem dX12_fill_106 : decode cX12_fill 106 = .ok (.iadd, 1) := by decide +kernel
theorem dX12_fill_107 : decode cX12_fill 107 = .ok (.invokevirtual 454, 3) := by decide +kernel
theorem dX12_fill_110 : decode cX12_fill 110 = .ok (.aload_n 0, 1) := by decide +kernel
theorem dX12_fill_111 : decode cX12_fill 111 = .ok (.iload_n 1, 1) := by decide +kernel
theorem dX12_fill_112 : decode cX12_fill 112 = .ok (.iconst 1, 1) := by decide +kernel
theorem dX12_fill_113 : decode cX12_fill 113 = .ok (.iadd, 1) := by decide +kernel
theorem dX12_fill_114 : decode cX12_fill 114 = .ok (.invokevirtual 457, 3) := by decide +kernel
theorem dX12_fill_117 : decode cX12_fill 117 = .ok (.invokevirtual 493, 3) := by decide +kernel
theorem dX12_fill_120 : decode cX12_fill 120 = .ok (.iinc 4 1, 3) := by decide +kernel
theorem dX12_fill_123 : decode cX12_fill 123 = .ok (.goto (-39), 3) := by decide +kernel
theorem dX12_fill_126 : decode cX12_fill 126 = .ok (.return_, 1) := by decide +kernel
theorem dX12_areIn_0 : decode cX12_areIn 0 = .ok (.iload_n 1, 1) := by decide +kernel
theorem dX12_areIn_1 : decode cX12_areIn 1 = .ok (.ifCond .lt 31, 3) := by decide +kernel
theorem dX12_areIn_4 : decode cX12_areIn 4 = .ok (.iload_n 1, 1) := by decide +kernel
theorem dX12_areIn_5 : decode cX12_areIn 5 = .ok (.sipush 256, 3) := by decide +kernel
theorem dX12_areIn_8 : decode cX12_areIn 8 = .ok (.if_icmp .gt 24, 3) := by decide +kernel
theorem dX12_areIn_11 : decode cX12_areIn 11 = .ok (.iload_n 1, 1) := by decide +kernel
theorem dX12_areIn_12 : decode cX12_areIn 12 = .ok (.ifCond .eq 16, 3) := by decide +kernel
theorem dX12_areIn_15 : decode cX12_areIn 15 = .ok (.iload_n 0, 1) := by decide +kernel
theorem dX12_areIn_16 : decode cX12_areIn 16 = .ok (.ifCond .lt 16, 3) := by decide +kernel
theorem dX12_areIn_19 : decode cX12_areIn 19 = .ok (.iload_n 0, 1) := by decide +kernel
theorem dX12_areIn_20 : decode cX12_areIn 20 = .ok (.sipush 4096, 3) := by decide +kernel
theorem dX12_areIn_23 : decode cX12_areIn 23 = .ok (.iload_n 1, 1) := by decide +kernel
theorem dX12_areIn_24 : decode cX12_areIn 24 = .ok (.isub, 1) := by decide +kernel
theorem dX12_areIn_25 : decode cX12_areIn 25 = .ok (.if_icmp .gt 7, 3) := by decide +kernel
theorem dX12_areIn_28 : decode cX12_areIn 28 = .ok (.iconst 1, 1) := by decide +kernel
theorem dX12_areIn_29 : decode cX12_areIn 29 = .ok (.goto 4, 3) := by decide +kernel
theorem dX12_areIn_32 : decode cX12_areIn 32 = .ok (.iconst 0, 1) := by decide +kernel
theorem dX12_areIn_33 : decode cX12_areIn 33 = .ok (.ireturn, 1) := by decide +kernel
theorem dX12_marked_0 : decode cX12_marked 0 = .ok (.aload_n 0, 1) := by decide +kernel
theorem dX12_marked_1 : decode cX12_marked 1 = .ok (.iload_n 1, 1) := by decide +kernel
theorem dX12_marked_2 : decode cX12_marked 2 = .ok (.invokevirtual 451, 3) := by decide +kernel
theorem dX12_marked_5 : decode cX12_marked 5 = .ok (.istore_n 2, 1) := by decide +kernel
theorem dX12_marked_6 : decode cX12_marked 6 = .ok (.aload_n 0, 1) := by decide +kernel
theorem dX12_marked_7 : decode cX12_marked 7 = .ok (.iload_n 1, 1) := by decide +kernel
theorem dX12_marked_8 : decode cX12_marked 8 = .ok (.iconst 1, 1) := by decide +kernel
theorem dX12_marked_9 : decode cX12_marked 9 = .ok (.iadd, 1) := by decide +kernel
theorem dX12_marked_10 : decode cX12_marked 10 = .ok (.invokevirtual 451, 3) := by decide +kernel
theorem dX12_marked_13 : decode cX12_marked 13 = .ok (.istore_n 3, 1) := by decide +kernel
theorem dX12_marked_14 : decode cX12_marked 14 = .ok (.aload_n 0, 1) := by decide +kernel
theorem dX12_marked_15 : decode cX12_marked 15 = .ok (.getfield 24, 3) := by decide +kernel
theorem dX12_marked_18 : decode cX12_marked 18 = .ok (.iload_n 1, 1) := by decide +kernel
theorem dX12_marked_19 : decode cX12_marked 19 = .ok (.iconst 2, 1) := by decide +kernel
theorem dX12_marked_20 : decode cX12_marked 20 = .ok (.iadd, 1) := by decide +kernel
theorem dX12_marked_21 : decode cX12_marked 21 = .ok (.iaload, 1) := by decide +kernel
theorem dX12_marked_22 : decode cX12_marked 22 = .ok (.istore 4, 2) := by decide +kernel
theorem dX12_marked_24 : decode cX12_marked 24 = .ok (.aload_n 0, 1) := by decide +kernel
theorem dX12_marked_25 : decode cX12_marked 25 = .ok (.iload_n 1, 1) := by decide +kernel
theorem dX12_marked_26 : decode cX12_marked 26 = .ok (.invokevirtual 454, 3) := by decide +kernel
theorem dX12_marked_29 : decode cX12_marked 29 = .ok (.ifCond .eq 13, 3) := by decide +kernel
theorem dX12_marked_32 : decode cX12_marked 32 = .ok (.aload_n 0, 1) := by decide +kernel
theorem dX12_marked_33 : decode cX12_marked 33 = .ok (.iconst 2, 1) := by decide +kernel
theorem dX12_marked_34 : decode cX12_marked 34 = .ok (.aload_n 0, 1) := by decide +kernel
theorem dX12_marked_35 : decode cX12_marked 35 = .ok (.iload_n 1, 1) := by decide +kernel
theorem dX12_marked_36 : decode cX12_marked 36 = .ok (.invokevirtual 457, 3) := by decide +kernel
theorem dX12_marked_39 : decode cX12_marked 39 = .ok (.invokevirtual 460, 3) := by decide +kernel
theorem dX12_marked_42 : decode cX12_marked 42 = .ok (.aload_n 0, 1) := by decide +kernel
theorem dX12_marked_43 : decode cX12_marked 43 = .ok (.iload_n 1, 1) := by decide +kernel
theorem dX12_marked_44 : decode cX12_marked 44 = .ok (.iconst 1, 1) := by decide +kernel
theorem dX12_marked_45 : decode cX12_marked 45 = .ok (.iadd, 1) := by decide +kernel
theorem dX12_marked_46 : decode cX12_marked 46 = .ok (.invokevirtual 454, 3) := by decide +kernel
theorem dX12_marked_49 : decode cX12_marked 49 = .ok (.ifCond .eq 15, 3) := by decide +kernel
theorem dX12_marked_52 : decode cX12_marked 52 = .ok (.aload_n 0, 1) := by decide +kernel
theorem dX12_marked_53 : decode cX12_marked 53 = .ok (.iconst 5, 1) := by decide +kernel
theorem dX12_marked_54 : decode cX12_marked 54 = .ok (.aload_n 0, 1) := by decide +kernel
theorem dX12_marked_55 : decode cX12_marked 55 = .ok (.iload_n 1, 1) := by decide +kernel
theorem dX12_marked_56 : decode cX12_marked 56 = .ok (.iconst 1, 1) := by decide +kernel
theorem dX12_marked_57 : decode cX12_marked 57 = .ok (.iadd, 1) := by decide +kernel
theorem dX12_marked_58 : decode cX12_marked 58 = .ok (.invokevirtual 457, 3) := by decide +kernel
theorem dX12_marked_61 : decode cX12_marked 61 = .ok (.invokevirtual 460, 3) := by decide +kernel
theorem dX12_marked_64 : decode cX12_marked 64 = .ok (.iload 4, 2) := by decide +kernel
theorem dX12_marked_66 : decode cX12_marked 66 = .ok (.ifCond .lt 17, 3) := by decide +kernel
theorem dX12_marked_69 : decode cX12_marked 69 = .ok (.iload 4, 2) := by decide +kernel
theorem dX12_marked_71 : decode cX12_marked 71 = .ok (.iconst 2, 1) := by decide +kernel
theorem dX12_marked_72 : decode cX12_marked 72 = .ok (.if_icmp .gt 11, 3) := by decide +kernel
theorem dX12_marked_75 : decode cX12_marked 75 = .ok (.iload_n 2, 1) := by decide +kernel
theorem dX12_marked_76 : decode cX12_marked 76 = .ok (.iload_n 3, 1) := by decide +kernel
theorem dX12_marked_77 : decode cX12_marked 77 = .ok (.invokestatic 500, 3) := by decide +kernel
theorem dX12_marked_80 : decode cX12_marked 80 = .ok (.ifCond .ne 9, 3) := by decide +kernel
theorem dX12_marked_83 : decode cX12_marked 83 = .ok (.aload_n 0, 1) := by decide +kernel
theorem dX12_marked_84 : decode cX12_marked 84 = .ok (.iconst 4, 1) := by decide +kernel
theorem dX12_marked_85 : decode cX12_marked 85 = .ok (.invokevirtual 423, 3) := by decide +kernel
theorem dX12_marked_88 : decode cX12_marked 88 = .ok (.return_, 1) := by decide +kernel
theorem dX12_marked_89 : decode cX12_marked 89 = .ok (.iconst 0, 1) := by decide +kernel
theorem dX12_marked_90 : decode cX12_marked 90 = .ok (.istore 5, 2) := by decide +kernel
theorem dX12_marked_92 : decode cX12_marked 92 = .ok (.iload 5, 2) := by decide +kernel
theorem dX12_marked_94 : decode cX12_marked 94 = .ok (.iload_n 3, 1) := by decide +kernel
theorem dX12_marked_95 : decode cX12_marked 95 = .ok (.if_icmp .ge 111, 3) := by decide +kernel
theorem dX12_marked_98 : decode cX12_marked 98 = .ok (.sipush 4096, 3) := by decide +kernel
theorem dX12_marked_101 : decode cX12_marked 101 = .ok (.aload_n 0, 1) := by decide +kernel
theorem dX12_marked_102 : decode cX12_marked 102 = .ok (.getfield 394, 3) := by decide +kernel
theorem dX12_marked_105 : decode cX12_marked 105 = .ok (.imul, 1) := by decide +kernel
theorem dX12_marked_106 : decode cX12_marked 106 = .ok (.iload_n 2, 1) := by decide +kernel
theorem dX12_marked_107 : decode cX12_marked 107 = .ok (.iadd, 1) := by decide +kernel
theorem dX12_marked_108 : decode cX12_marked 108 = .ok (.iload 5, 2) := by decide +kernel
theorem dX12_marked_110 : decode cX12_marked 110 = .ok (.iadd, 1) := by decide +kernel
theorem dX12_marked_111 : decode cX12_marked 111 = .ok (.istore 6, 2) := by decide +kernel
theorem dX12_marked_113 : decode cX12_marked 113 = .ok (.iload 4, 2) := by decide +kernel
theorem dX12_marked_115 : decode cX12_marked 115 = .ok (.iconst 1, 1) := by decide +kernel
theorem dX12_marked_116 : decode cX12_marked 116 = .ok (.if_icmp .ne 38, 3) := by decide +kernel
theorem dX12_marked_119 : decode cX12_marked 119 = .ok (.aload_n 0, 1) := by decide +kernel
theorem dX12_marked_120 : decode cX12_marked 120 = .ok (.iload_n 2, 1) := by decide +kernel
theorem dX12_marked_121 : decode cX12_marked 121 = .ok (.iload 5, 2) := by decide +kernel
theorem dX12_marked_123 : decode cX12_marked 123 = .ok (.iadd, 1) := by decide +kernel
theorem dX12_marked_124 : decode cX12_marked 124 = .ok (.aload_n 0, 1) := by decide +kernel
theorem dX12_marked_125 : decode cX12_marked 125 = .ok (.getfield 420, 3) := by decide +kernel
theorem dX12_marked_128 : decode cX12_marked 128 = .ok (.sipush 256, 3) := by decide +kernel
theorem dX12_marked_131 : decode cX12_marked 131 = .ok (.if_icmp .ge 14, 3) := by decide +kernel
theorem dX12_marked_134 : decode cX12_marked 134 = .ok (.sipush 256, 3) := by decide +kernel
theorem dX12_marked_137 : decode cX12_marked 137 = .ok (.aload_n 0, 1) := by decide +kernel
theorem dX12_marked_138 : decode cX12_marked 138 = .ok (.getfield 420, 3) := by decide +kernel
theorem dX12_marked_141 : decode cX12_marked 141 = .ok (.iadd, 1) := by decide +kernel
theorem dX12_marked_142 : decode cX12_marked 142 = .ok (.goto 6, 3) := by decide +kernel
theorem dX12_marked_145 : decode cX12_marked 145 = .ok (.sipush 511, 3) := by decide +kernel
theorem dX12_marked_148 : decode cX12_marked 148 = .ok (.invokevirtual 426, 3) := by decide +kernel
theorem dX12_marked_151 : decode cX12_marked 151 = .ok (.goto 49, 3) := by decide +kernel
theorem dX12_marked_154 : decode cX12_marked 154 = .ok (.aload_n 0, 1) := by decide +kernel
theorem dX12_marked_155 : decode cX12_marked 155 = .ok (.getfield 73, 3) := by decide +kernel
theorem dX12_marked_158 : decode cX12_marked 158 = .ok (.iload 6, 2) := by decide +kernel
theorem dX12_marked_160 : decode cX12_marked 160 = .ok (.iload 4, 2) := by decide +kernel
theorem dX12_marked_162 : decode cX12_marked 162 = .ok (.iconst 2, 1) := by decide +kernel
theorem dX12_marked_163 : decode cX12_marked 163 = .ok (.if_icmp .ne 7, 3) := by decide +kernel
theorem dX12_marked_166 : decode cX12_marked 166 = .ok (.iconst 1, 1) := by decide +kernel
theorem dX12_marked_167 : decode cX12_marked 167 = .ok (.goto 4, 3) := by decide +kernel
theorem dX12_marked_170 : decode cX12_marked 170 = .ok (.iconst 0, 1) := by decide +kernel
theorem dX12_marked_171 : decode cX12_marked 171 = .ok (.bastore, 1) := by decide +kernel
theorem dX12_marked_172 : decode cX12_marked 172 = .ok (.iload 4, 2) := by decide +kernel
theorem dX12_marked_174 : decode cX12_marked 174 = .ok (.iconst 2, 1) := by decide +kernel
theorem dX12_marked_175 : decode cX12_marked 175 = .ok (.if_icmp .ne 11, 3) := by decide +kernel
theorem dX12_marked_178 : decode cX12_marked 178 = .ok (.aload_n 0, 1) := by decide +kernel
theorem dX12_marked_179 : decode cX12_marked 179 = .ok (.getfield 67, 3) := by decide +kernel
theorem dX12_marked_182 : decode cX12_marked 182 = .ok (.iload 6, 2) := by decide +kernel
theorem dX12_marked_184 : decode cX12_marked 184 = .ok (.iconst 0, 1) := by decide +kernel
theorem dX12_marked_185 : decode cX12_marked 185 = .ok (.iastore, 1) := by decide +kernel
theorem dX12_marked_186 : decode cX12_marked 186 = .ok (.iload 4, 2) := by decide +kernel
theorem dX12_marked_188 : decode cX12_marked 188 = .ok (.iconst 2, 1) := by decide +kernel
theorem dX12_marked_189 : decode cX12_marked 189 = .ok (.if_icmp .ne 11, 3) := by decide +kernel
theorem dX12_marked_192 : decode cX12_marked 192 = .ok (.aload_n 0, 1) := by decide +kernel
theorem dX12_marked_193 : decode cX12_marked 193 = .ok (.getfield 70, 3) := by decide +kernel
theorem dX12_marked_196 : decode cX12_marked 196 = .ok (.iload 6, 2) := by decide +kernel
theorem dX12_marked_198 : decode cX12_marked 198 = .ok (.iconst 0, 1) := by decide +kernel
theorem dX12_marked_199 : decode cX12_marked 199 = .ok (.iastore, 1) := by decide +kernel
theorem dX12_marked_200 : decode cX12_marked 200 = .ok (.iinc 5 1, 3) := by decide +kernel
theorem dX12_marked_203 : decode cX12_marked 203 = .ok (.goto (-111), 3) := by decide +kernel
theorem dX12_marked_206 : decode cX12_marked 206 = .ok (.return_, 1) := by decide +kernel
theorem dX12_look_0 : decode cX12_look 0 = .ok (.aload_n 0, 1) := by decide +kernel
theorem dX12_look_1 : decode cX12_look 1 = .ok (.iload_n 1, 1) := by decide +kernel
theorem dX12_look_2 : decode cX12_look 2 = .ok (.iconst 1, 1) := by decide +kernel
theorem dX12_look_3 : decode cX12_look 3 = .ok (.iadd, 1) := by decide +kernel
theorem dX12_look_4 : decode cX12_look 4 = .ok (.invokevirtual 451, 3) := by decide +kernel
theorem dX12_look_7 : decode cX12_look 7 = .ok (.istore_n 2, 1) := by decide +kernel
theorem dX12_look_8 : decode cX12_look 8 = .ok (.aload_n 0, 1) := by decide +kernel
theorem dX12_look_9 : decode cX12_look 9 = .ok (.iload_n 1, 1) := by decide +kernel
theorem dX12_look_10 : decode cX12_look 10 = .ok (.iconst 2, 1) := by decide +kernel
theorem dX12_look_11 : decode cX12_look 11 = .ok (.iadd, 1) := by decide +kernel
theorem dX12_look_12 : decode cX12_look 12 = .ok (.invokevirtual 451, 3) := by decide +kernel
theorem dX12_look_15 : decode cX12_look 15 = .ok (.istore_n 3, 1) := by decide +kernel
theorem dX12_look_16 : decode cX12_look 16 = .ok (.aload_n 0, 1) := by decide +kernel
theorem dX12_look_17 : decode cX12_look 17 = .ok (.iload_n 1, 1) := by decide +kernel
theorem dX12_look_18 : decode cX12_look 18 = .ok (.iconst 1, 1) := by decide +kernel
theorem dX12_look_19 : decode cX12_look 19 = .ok (.iadd, 1) := by decide +kernel
theorem dX12_look_20 : decode cX12_look 20 = .ok (.invokevirtual 454, 3) := by decide +kernel
theorem dX12_look_23 : decode cX12_look 23 = .ok (.ifCond .eq 15, 3) := by decide +kernel
theorem dX12_look_26 : decode cX12_look 26 = .ok (.aload_n 0, 1) := by decide +kernel
theorem dX12_look_27 : decode cX12_look 27 = .ok (.iconst 2, 1) := by decide +kernel
theorem dX12_look_28 : decode cX12_look 28 = .ok (.aload_n 0, 1) := by decide +kernel
theorem dX12_look_29 : decode cX12_look 29 = .ok (.iload_n 1, 1) := by decide +kernel
theorem dX12_look_30 : decode cX12_look 30 = .ok (.iconst 1, 1) := by decide +kernel
theorem dX12_look_31 : decode cX12_look 31 = .ok (.iadd, 1) := by decide +kernel
theorem dX12_look_32 : decode cX12_look 32 = .ok (.invokevirtual 457, 3) := by decide +kernel
theorem dX12_look_35 : decode cX12_look 35 = .ok (.invokevirtual 460, 3) := by decide +kernel
theorem dX12_look_38 : decode cX12_look 38 = .ok (.aload_n 0, 1) := by decide +kernel
theorem dX12_look_39 : decode cX12_look 39 = .ok (.iload_n 1, 1) := by decide +kernel
theorem dX12_look_40 : decode cX12_look 40 = .ok (.iconst 2, 1) := by decide +kernel
theorem dX12_look_41 : decode cX12_look 41 = .ok (.iadd, 1) := by decide +kernel
theorem dX12_look_42 : decode cX12_look 42 = .ok (.invokevirtual 454, 3) := by decide +kernel
theorem dX12_look_45 : decode cX12_look 45 = .ok (.ifCond .eq 15, 3) := by decide +kernel
theorem dX12_look_48 : decode cX12_look 48 = .ok (.aload_n 0, 1) := by decide +kernel
theorem dX12_look_49 : decode cX12_look 49 = .ok (.iconst 5, 1) := by decide +kernel
theorem dX12_look_50 : decode cX12_look 50 = .ok (.aload_n 0, 1) := by decide +kernel
theorem dX12_look_51 : decode cX12_look 51 = .ok (.iload_n 1, 1) := by decide +kernel
theorem dX12_look_52 : decode cX12_look 52 = .ok (.iconst 2, 1) := by decide +kernel
theorem dX12_look_53 : decode cX12_look 53 = .ok (.iadd, 1) := by decide +kernel
theorem dX12_look_54 : decode cX12_look 54 = .ok (.invokevirtual 457, 3) := by decide +kernel
theorem dX12_look_57 : decode cX12_look 57 = .ok (.invokevirtual 460, 3) := by decide +kernel
theorem dX12_look_60 : decode cX12_look 60 = .ok (.iload_n 2, 1) := by decide +kernel
theorem dX12_look_61 : decode cX12_look 61 = .ok (.iload_n 3, 1) := by decide +kernel
theorem dX12_look_62 : decode cX12_look 62 = .ok (.invokestatic 500, 3) := by decide +kernel
theorem dX12_look_65 : decode cX12_look 65 = .ok (.ifCond .ne 9, 3) := by decide +kernel
theorem dX12_look_68 : decode cX12_look 68 = .ok (.aload_n 0, 1) := by decide +kernel
theorem dX12_look_69 : decode cX12_look 69 = .ok (.iconst 4, 1) := by decide +kernel
theorem dX12_look_70 : decode cX12_look 70 = .ok (.invokevirtual 423, 3) := by decide +kernel
theorem dX12_look_73 : decode cX12_look 73 = .ok (.return_, 1) := by decide +kernel
theorem dX12_look_74 : decode cX12_look 74 = .ok (.iconst (-1), 1) := by decide +kernel
theorem dX12_look_75 : decode cX12_look 75 = .ok (.istore 4, 2) := by decide +kernel
theorem dX12_look_77 : decode cX12_look 77 = .ok (.iload_n 3, 1) := by decide +kernel
theorem dX12_look_78 : decode cX12_look 78 = .ok (.iconst 1, 1) := by decide +kernel
theorem dX12_look_79 : decode cX12_look 79 = .ok (.isub, 1) := by decide +kernel
theorem dX12_look_80 : decode cX12_look 80 = .ok (.istore 5, 2) := by decide +kernel
theorem dX12_look_82 : decode cX12_look 82 = .ok (.iload 5, 2) := by decide +kernel
theorem dX12_look_84 : decode cX12_look 84 = .ok (.ifCond .lt 57, 3) := by decide +kernel
theorem dX12_look_87 : decode cX12_look 87 = .ok (.aload_n 0, 1) := by decide +kernel
theorem dX12_look_88 : decode cX12_look 88 = .ok (.getfield 73, 3) := by decide +kernel
theorem dX12_look_91 : decode cX12_look 91 = .ok (.sipush 4096, 3) := by decide +kernel
theorem dX12_look_94 : decode cX12_look 94 = .ok (.aload_n 0, 1) := by decide +kernel
theorem dX12_look_95 : decode cX12_look 95 = .ok (.getfield 394, 3) := by decide +kernel
theorem dX12_look_98 : decode cX12_look 98 = .ok (.imul, 1) := by decide +kernel
theorem dX12_look_99 : decode cX12_look 99 = .ok (.iload_n 2, 1) := by decide +kernel
theorem dX12_look_100 : decode cX12_look 100 = .ok (.iadd, 1) := by decide +kernel
theorem dX12_look_101 : decode cX12_look 101 = .ok (.iload 5, 2) := by decide +kernel
theorem dX12_look_103 : decode cX12_look 103 = .ok (.iadd, 1) := by decide +kernel
theorem dX12_look_104 : decode cX12_look 104 = .ok (.baload, 1) := by decide +kernel
theorem dX12_look_105 : decode cX12_look 105 = .ok (.ifCond .eq 24, 3) := by decide +kernel
theorem dX12_look_108 : decode cX12_look 108 = .ok (.aload_n 0, 1) := by decide +kernel
theorem dX12_look_109 : decode cX12_look 109 = .ok (.getfield 67, 3) := by decide +kernel
theorem dX12_look_112 : decode cX12_look 112 = .ok (.sipush 4096, 3) := by decide +kernel
theorem dX12_look_115 : decode cX12_look 115 = .ok (.aload_n 0, 1) := by decide +kernel
theorem dX12_look_116 : decode cX12_look 116 = .ok (.getfield 394, 3) := by decide +kernel
theorem dX12_look_119 : decode cX12_look 119 = .ok (.imul, 1) := by decide +kernel
theorem dX12_look_120 : decode cX12_look 120 = .ok (.iload_n 2, 1) := by decide +kernel
theorem dX12_look_121 : decode cX12_look 121 = .ok (.iadd, 1) := by decide +kernel
theorem dX12_look_122 : decode cX12_look 122 = .ok (.iload 5, 2) := by decide +kernel
theorem dX12_look_124 : decode cX12_look 124 = .ok (.iadd, 1) := by decide +kernel
theorem dX12_look_125 : decode cX12_look 125 = .ok (.iaload, 1) := by decide +kernel
theorem dX12_look_126 : decode cX12_look 126 = .ok (.ifCond .eq 9, 3) := by decide +kernel
theorem dX12_look_129 : decode cX12_look 129 = .ok (.iload_n 2, 1) := by decide +kernel
theorem dX12_look_130 : decode cX12_look 130 = .ok (.iload 5, 2) := by decide +kernel
theorem dX12_look_132 : decode cX12_look 132 = .ok (.iadd, 1) := by decide +kernel
theorem dX12_look_133 : decode cX12_look 133 = .ok (.istore 4, 2) := by decide +kernel
theorem dX12_look_135 : decode cX12_look 135 = .ok (.iinc 5 (-1), 3) := by decide +kernel
theorem dX12_look_138 : decode cX12_look 138 = .ok (.goto (-56), 3) := by decide +kernel
theorem dX12_look_141 : decode cX12_look 141 = .ok (.aload_n 0, 1) := by decide +kernel
theorem dX12_look_142 : decode cX12_look 142 = .ok (.aload_n 0, 1) := by decide +kernel
theorem dX12_look_143 : decode cX12_look 143 = .ok (.getfield 24, 3) := by decide +kernel
theorem dX12_look_146 : decode cX12_look 146 = .ok (.iload_n 1, 1) := by decide +kernel
theorem dX12_look_147 : decode cX12_look 147 = .ok (.iaload, 1) := by decide +kernel
theorem dX12_look_148 : decode cX12_look 148 = .ok (.iload 4, 2) := by decide +kernel
theorem dX12_look_150 : decode cX12_look 150 = .ok (.iconst 0, 1) := by decide +kernel
theorem dX12_look_151 : decode cX12_look 151 = .ok (.iconst 0, 1) := by decide +kernel
theorem dX12_look_152 : decode cX12_look 152 = .ok (.invokevirtual 473, 3) := by decide +kernel
theorem dX12_look_155 : decode cX12_look 155 = .ok (.return_, 1) := by decide +kernel
theorem dX12_blockOf_0 : decode cX12_blockOf 0 = .ok (.iload_n 1, 1) := by decide +kernel
theorem dX12_blockOf_1 : decode cX12_blockOf 1 = .ok (.ifCond .lt 24, 3) := by decide +kernel
theorem dX12_blockOf_4 : decode cX12_blockOf 4 = .ok (.iload_n 1, 1) := by decide +kernel
theorem dX12_blockOf_5 : decode cX12_blockOf 5 = .ok (.sipush 512, 3) := by decide +kernel
theorem dX12_blockOf_8 : decode cX12_blockOf 8 = .ok (.if_icmp .gt 17, 3) := by decide +kernel
theorem dX12_blockOf_11 : decode cX12_blockOf 11 = .ok (.aload_n 0, 1) := by decide +kernel
theorem dX12_blockOf_12 : decode cX12_blockOf 12 = .ok (.getfield 118, 3) := by decide +kernel
theorem dX12_blockOf_15 : decode cX12_blockOf 15 = .ok (.aload_n 0, 1) := by decide +kernel
theorem dX12_blockOf_16 : decode cX12_blockOf 16 = .ok (.getfield 394, 3) := by decide +kernel
theorem dX12_blockOf_19 : decode cX12_blockOf 19 = .ok (.iaload, 1) := by decide +kernel
theorem dX12_blockOf_20 : decode cX12_blockOf 20 = .ok (.bipush 100, 2) := by decide +kernel
theorem dX12_blockOf_22 : decode cX12_blockOf 22 = .ok (.if_icmp .ne 5, 3) := by decide +kernel
theorem dX12_blockOf_25 : decode cX12_blockOf 25 = .ok (.iconst 0, 1) := by decide +kernel
theorem dX12_blockOf_26 : decode cX12_blockOf 26 = .ok (.ireturn, 1) := by decide +kernel
theorem dX12_blockOf_27 : decode cX12_blockOf 27 = .ok (.sipush 1032, 3) := by decide +kernel
theorem dX12_blockOf_30 : decode cX12_blockOf 30 = .ok (.istore_n 2, 1) := by decide +kernel
theorem dX12_blockOf_31 : decode cX12_blockOf 31 = .ok (.iload_n 2, 1) := by decide +kernel
theorem dX12_blockOf_32 : decode cX12_blockOf 32 = .ok (.iload_n 1, 1) := by decide +kernel
theorem dX12_blockOf_33 : decode cX12_blockOf 33 = .ok (.iadd, 1) := by decide +kernel
theorem dX12_blockOf_34 : decode cX12_blockOf 34 = .ok (.invokestatic 477, 3) := by decide +kernel
theorem dX12_blockOf_37 : decode cX12_blockOf 37 = .ok (.bipush 8, 2) := by decide +kernel
theorem dX12_blockOf_39 : decode cX12_blockOf 39 = .ok (.iadd, 1) := by decide +kernel
theorem dX12_blockOf_40 : decode cX12_blockOf 40 = .ok (.sipush 3072, 3) := by decide +kernel
theorem dX12_blockOf_43 : decode cX12_blockOf 43 = .ok (.if_icmp .gt 247, 3) := by decide +kernel
theorem dX12_blockOf_46 : decode cX12_blockOf 46 = .ok (.iconst 1, 1) := by decide +kernel
theorem dX12_blockOf_47 : decode cX12_blockOf 47 = .ok (.istore_n 3, 1) := by decide +kernel
theorem dX12_blockOf_48 : decode cX12_blockOf 48 = .ok (.bipush 101, 2) := by decide +kernel
theorem dX12_blockOf_50 : decode cX12_blockOf 50 = .ok (.aload_n 0, 1) := by decide +kernel
theorem dX12_blockOf_51 : decode cX12_blockOf 51 = .ok (.getfield 394, 3) := by decide +kernel
theorem dX12_blockOf_54 : decode cX12_blockOf 54 = .ok (.imul, 1) := by decide +kernel
theorem dX12_blockOf_55 : decode cX12_blockOf 55 = .ok (.iconst 1, 1) := by decide +kernel
theorem dX12_blockOf_56 : decode cX12_blockOf 56 = .ok (.iadd, 1) := by decide +kernel
theorem dX12_blockOf_57 : decode cX12_blockOf 57 = .ok (.istore 4, 2) := by decide +kernel
theorem dX12_blockOf_59 : decode cX12_blockOf 59 = .ok (.iload_n 3, 1) := by decide +kernel
theorem dX12_blockOf_60 : decode cX12_blockOf 60 = .ok (.ifCond .eq 97, 3) := by decide +kernel
theorem dX12_blockOf_63 : decode cX12_blockOf 63 = .ok (.iload 4, 2) := by decide +kernel
theorem dX12_blockOf_65 : decode cX12_blockOf 65 = .ok (.bipush 101, 2) := by decide +kernel
theorem dX12_blockOf_67 : decode cX12_blockOf 67 = .ok (.aload_n 0, 1) := by decide +kernel
theorem dX12_blockOf_68 : decode cX12_blockOf 68 = .ok (.getfield 394, 3) := by decide +kernel
theorem dX12_blockOf_71 : decode cX12_blockOf 71 = .ok (.imul, 1) := by decide +kernel
theorem dX12_blockOf_72 : decode cX12_blockOf 72 = .ok (.aload_n 0, 1) := by decide +kernel
theorem dX12_blockOf_73 : decode cX12_blockOf 73 = .ok (.getfield 118, 3) := by decide +kernel
theorem dX12_blockOf_76 : decode cX12_blockOf 76 = .ok (.aload_n 0, 1) := by decide +kernel
theorem dX12_blockOf_77 : decode cX12_blockOf 77 = .ok (.getfield 394, 3) := by decide +kernel
theorem dX12_blockOf_80 : decode cX12_blockOf 80 = .ok (.iaload, 1) := by decide +kernel
theorem dX12_blockOf_81 : decode cX12_blockOf 81 = .ok (.iadd, 1) := by decide +kernel
theorem dX12_blockOf_82 : decode cX12_blockOf 82 = .ok (.if_icmp .gt 75, 3) := by decide +kernel
theorem dX12_blockOf_85 : decode cX12_blockOf 85 = .ok (.aload_n 0, 1) := by decide +kernel
theorem dX12_blockOf_86 : decode cX12_blockOf 86 = .ok (.getfield 106, 3) := by decide +kernel
theorem dX12_blockOf_89 : decode cX12_blockOf 89 = .ok (.iload 4, 2) := by decide +kernel
theorem dX12_blockOf_91 : decode cX12_blockOf 91 = .ok (.iaload, 1) := by decide +kernel
theorem dX12_blockOf_92 : decode cX12_blockOf 92 = .ok (.ifCond .eq 53, 3) := by decide +kernel
theorem dX12_blockOf_95 : decode cX12_blockOf 95 = .ok (.iload_n 2, 1) := by decide +kernel
theorem dX12_blockOf_96 : decode cX12_blockOf 96 = .ok (.iload_n 1, 1) := by decide +kernel
theorem dX12_blockOf_97 : decode cX12_blockOf 97 = .ok (.iadd, 1) := by decide +kernel
theorem dX12_blockOf_98 : decode cX12_blockOf 98 = .ok (.invokestatic 477, 3) := by decide +kernel
theorem dX12_blockOf_101 : decode cX12_blockOf 101 = .ok (.bipush 8, 2) := by decide +kernel
theorem dX12_blockOf_103 : decode cX12_blockOf 103 = .ok (.iadd, 1) := by decide +kernel
theorem dX12_blockOf_104 : decode cX12_blockOf 104 = .ok (.aload_n 0, 1) := by decide +kernel
theorem dX12_blockOf_105 : decode cX12_blockOf 105 = .ok (.getfield 100, 3) := by decide +kernel
theorem dX12_blockOf_108 : decode cX12_blockOf 108 = .ok (.iload 4, 2) := by decide +kernel
theorem dX12_blockOf_110 : decode cX12_blockOf 110 = .ok (.iaload, 1) := by decide +kernel
theorem dX12_blockOf_111 : decode cX12_blockOf 111 = .ok (.bipush 8, 2) := by decide +kernel
theorem dX12_blockOf_113 : decode cX12_blockOf 113 = .ok (.isub, 1) := by decide +kernel
theorem dX12_blockOf_114 : decode cX12_blockOf 114 = .ok (.if_icmp .le 31, 3) := by decide +kernel
theorem dX12_blockOf_117 : decode cX12_blockOf 117 = .ok (.aload_n 0, 1) := by decide +kernel
theorem dX12_blockOf_118 : decode cX12_blockOf 118 = .ok (.getfield 100, 3) := by decide +kernel
theorem dX12_blockOf_121 : decode cX12_blockOf 121 = .ok (.iload 4, 2) := by decide +kernel
theorem dX12_blockOf_123 : decode cX12_blockOf 123 = .ok (.iaload, 1) := by decide +kernel
theorem dX12_blockOf_124 : decode cX12_blockOf 124 = .ok (.aload_n 0, 1) := by decide +kernel
theorem dX12_blockOf_125 : decode cX12_blockOf 125 = .ok (.getfield 103, 3) := by decide +kernel
theorem dX12_blockOf_128 : decode cX12_blockOf 128 = .ok (.iload 4, 2) := by decide +kernel
theorem dX12_blockOf_130 : decode cX12_blockOf 130 = .ok (.iaload, 1) := by decide +kernel
theorem dX12_blockOf_131 : decode cX12_blockOf 131 = .ok (.iadd, 1) := by decide +kernel
theorem dX12_blockOf_132 : decode cX12_blockOf 132 = .ok (.invokestatic 477, 3) := by decide +kernel
theorem dX12_blockOf_135 : decode cX12_blockOf 135 = .ok (.bipush 8, 2) := by decide +kernel
theorem dX12_blockOf_137 : decode cX12_blockOf 137 = .ok (.iadd, 1) := by decide +kernel
theorem dX12_blockOf_138 : decode cX12_blockOf 138 = .ok (.iload_n 2, 1) := by decide +kernel
theorem dX12_blockOf_139 : decode cX12_blockOf 139 = .ok (.bipush 8, 2) := by decide +kernel
theorem dX12_blockOf_141 : decode cX12_blockOf 141 = .ok (.isub, 1) := by decide +kernel
theorem dX12_blockOf_142 : decode cX12_blockOf 142 = .ok (.if_icmp .gt 7, 3) := by decide +kernel
theorem dX12_blockOf_145 : decode cX12_blockOf 145 = .ok (.iconst 1, 1) := by decide +kernel
theorem dX12_blockOf_146 : decode cX12_blockOf 146 = .ok (.goto 4, 3) := by decide +kernel
theorem dX12_blockOf_149 : decode cX12_blockOf 149 = .ok (.iconst 0, 1) := by decide +kernel
theorem dX12_blockOf_150 : decode cX12_blockOf 150 = .ok (.istore_n 3, 1) := by decide +kernel
theorem dX12_blockOf_151 : decode cX12_blockOf 151 = .ok (.iinc 4 1, 3) := by decide +kernel
theorem dX12_blockOf_154 : decode cX12_blockOf 154 = .ok (.goto (-95), 3) := by decide +kernel
theorem dX12_blockOf_157 : decode cX12_blockOf 157 = .ok (.iload_n 3, 1) := by decide +kernel
theorem dX12_blockOf_158 : decode cX12_blockOf 158 = .ok (.ifCond .ne 6, 3) := by decide +kernel
theorem dX12_blockOf_161 : decode cX12_blockOf 161 = .ok (.goto 123, 3) := by decide +kernel
theorem dX12_blockOf_164 : decode cX12_blockOf 164 = .ok (.aload_n 0, 1) := by decide +kernel
theorem dX12_blockOf_165 : decode cX12_blockOf 165 = .ok (.getfield 118, 3) := by decide +kernel
theorem dX12_blockOf_168 : decode cX12_blockOf 168 = .ok (.aload_n 0, 1) := by decide +kernel
theorem dX12_blockOf_169 : decode cX12_blockOf 169 = .ok (.getfield 394, 3) := by decide +kernel
theorem dX12_blockOf_172 : decode cX12_blockOf 172 = .ok (.dup2, 1) := by decide +kernel
theorem dX12_blockOf_173 : decode cX12_blockOf 173 = .ok (.iaload, 1) := by decide +kernel
theorem dX12_blockOf_174 : decode cX12_blockOf 174 = .ok (.iconst 1, 1) := by decide +kernel
theorem dX12_blockOf_175 : decode cX12_blockOf 175 = .ok (.iadd, 1) := by decide +kernel
theorem dX12_blockOf_176 : decode cX12_blockOf 176 = .ok (.iastore, 1) := by decide +kernel
theorem dX12_blockOf_177 : decode cX12_blockOf 177 = .ok (.bipush 101, 2) := by decide +kernel
theorem dX12_blockOf_179 : decode cX12_blockOf 179 = .ok (.aload_n 0, 1) := by decide +kernel
theorem dX12_blockOf_180 : decode cX12_blockOf 180 = .ok (.getfield 394, 3) := by decide +kernel
theorem dX12_blockOf_183 : decode cX12_blockOf 183 = .ok (.imul, 1) := by decide +kernel
theorem dX12_blockOf_184 : decode cX12_blockOf 184 = .ok (.aload_n 0, 1) := by decide +kernel
theorem dX12_blockOf_185 : decode cX12_blockOf 185 = .ok (.getfield 118, 3) := by decide +kernel
theorem dX12_blockOf_188 : decode cX12_blockOf 188 = .ok (.aload_n 0, 1) := by decide +kernel
theorem dX12_blockOf_189 : decode cX12_blockOf 189 = .ok (.getfield 394, 3) := by decide +kernel
theorem dX12_blockOf_192 : decode cX12_blockOf 192 = .ok (.iaload, 1) := by decide +kernel
theorem dX12_blockOf_193 : decode cX12_blockOf 193 = .ok (.iadd, 1) := by decide +kernel
theorem dX12_blockOf_194 : decode cX12_blockOf 194 = .ok (.istore 4, 2) := by decide +kernel
theorem dX12_blockOf_196 : decode cX12_blockOf 196 = .ok (.aload_n 0, 1) := by decide +kernel
theorem dX12_blockOf_197 : decode cX12_blockOf 197 = .ok (.getfield 100, 3) := by decide +kernel
theorem dX12_blockOf_200 : decode cX12_blockOf 200 = .ok (.iload 4, 2) := by decide +kernel
theorem dX12_blockOf_202 : decode cX12_blockOf 202 = .ok (.iload_n 2, 1) := by decide +kernel
theorem dX12_blockOf_203 : decode cX12_blockOf 203 = .ok (.iastore, 1) := by decide +kernel
theorem dX12_blockOf_204 : decode cX12_blockOf 204 = .ok (.aload_n 0, 1) := by decide +kernel
theorem dX12_blockOf_205 : decode cX12_blockOf 205 = .ok (.getfield 103, 3) := by decide +kernel
theorem dX12_blockOf_208 : decode cX12_blockOf 208 = .ok (.iload 4, 2) := by decide +kernel
theorem dX12_blockOf_210 : decode cX12_blockOf 210 = .ok (.iload_n 1, 1) := by decide +kernel
theorem dX12_blockOf_211 : decode cX12_blockOf 211 = .ok (.iastore, 1) := by decide +kernel
theorem dX12_blockOf_212 : decode cX12_blockOf 212 = .ok (.aload_n 0, 1) := by decide +kernel
theorem dX12_blockOf_213 : decode cX12_blockOf 213 = .ok (.getfield 106, 3) := by decide +kernel
theorem dX12_blockOf_216 : decode cX12_blockOf 216 = .ok (.iload 4, 2) := by decide +kernel
theorem dX12_blockOf_218 : decode cX12_blockOf 218 = .ok (.iconst 2, 1) := by decide +kernel
theorem dX12_blockOf_219 : decode cX12_blockOf 219 = .ok (.iastore, 1) := by decide +kernel
theorem dX12_blockOf_220 : decode cX12_blockOf 220 = .ok (.aload_n 0, 1) := by decide +kernel
theorem dX12_blockOf_221 : decode cX12_blockOf 221 = .ok (.getfield 109, 3) := by decide +kernel
theorem dX12_blockOf_224 : decode cX12_blockOf 224 = .ok (.iload 4, 2) := by decide +kernel
theorem dX12_blockOf_226 : decode cX12_blockOf 226 = .ok (.aload_n 0, 1) := by decide +kernel
theorem dX12_blockOf_227 : decode cX12_blockOf 227 = .ok (.getfield 420, 3) := by decide +kernel
theorem dX12_blockOf_230 : decode cX12_blockOf 230 = .ok (.iastore, 1) := by decide +kernel
theorem dX12_blockOf_231 : decode cX12_blockOf 231 = .ok (.aload_n 0, 1) := by decide +kernel
theorem dX12_blockOf_232 : decode cX12_blockOf 232 = .ok (.getfield 112, 3) := by decide +kernel
theorem dX12_blockOf_235 : decode cX12_blockOf 235 = .ok (.iload 4, 2) := by decide +kernel
theorem dX12_blockOf_237 : decode cX12_blockOf 237 = .ok (.iconst (-1), 1) := by decide +kernel
theorem dX12_blockOf_238 : decode cX12_blockOf 238 = .ok (.iastore, 1) := by decide +kernel
theorem dX12_blockOf_239 : decode cX12_blockOf 239 = .ok (.iconst 0, 1) := by decide +kernel
theorem dX12_blockOf_240 : decode cX12_blockOf 240 = .ok (.istore 5, 2) := by decide +kernel
theorem dX12_blockOf_242 : decode cX12_blockOf 242 = .ok (.iload 5, 2) := by decide +kernel
theorem dX12_blockOf_244 : decode cX12_blockOf 244 = .ok (.iload_n 1, 1) := by decide +kernel
theorem dX12_blockOf_245 : decode cX12_blockOf 245 = .ok (.if_icmp .ge 29, 3) := by decide +kernel
theorem dX12_blockOf_248 : decode cX12_blockOf 248 = .ok (.aload_n 0, 1) := by decide +kernel
theorem dX12_blockOf_249 : decode cX12_blockOf 249 = .ok (.iload_n 2, 1) := by decide +kernel
theorem dX12_blockOf_250 : decode cX12_blockOf 250 = .ok (.iload 5, 2) := by decide +kernel
theorem dX12_blockOf_252 : decode cX12_blockOf 252 = .ok (.iadd, 1) := by decide +kernel
theorem dX12_blockOf_253 : decode cX12_blockOf 253 = .ok (.bipush 8, 2) := by decide +kernel
theorem dX12_blockOf_255 : decode cX12_blockOf 255 = .ok (.aload_n 0, 1) := by decide +kernel
theorem dX12_blockOf_256 : decode cX12_blockOf 256 = .ok (.getfield 118, 3) := by decide +kernel
theorem dX12_blockOf_259 : decode cX12_blockOf 259 = .ok (.aload_n 0, 1) := by decide +kernel
theorem dX12_blockOf_260 : decode cX12_blockOf 260 = .ok (.getfield 394, 3) := by decide +kernel
theorem dX12_blockOf_263 : decode cX12_blockOf 263 = .ok (.iaload, 1) := by decide +kernel
theorem dX12_blockOf_264 : decode cX12_blockOf 264 = .ok (.iadd, 1) := by decide +kernel
theorem dX12_blockOf_265 : decode cX12_blockOf 265 = .ok (.invokevirtual 426, 3) := by decide +kernel
theorem dX12_blockOf_268 : decode cX12_blockOf 268 = .ok (.iinc 5 1, 3) := by decide +kernel
theorem dX12_blockOf_271 : decode cX12_blockOf 271 = .ok (.goto (-29), 3) := by decide +kernel
theorem dX12_blockOf_274 : decode cX12_blockOf 274 = .ok (.aload_n 0, 1) := by decide +kernel
theorem dX12_blockOf_275 : decode cX12_blockOf 275 = .ok (.getfield 118, 3) := by decide +kernel
theorem dX12_blockOf_278 : decode cX12_blockOf 278 = .ok (.aload_n 0, 1) := by decide +kernel
theorem dX12_blockOf_279 : decode cX12_blockOf 279 = .ok (.getfield 394, 3) := by decide +kernel
theorem dX12_blockOf_282 : decode cX12_blockOf 282 = .ok (.iaload, 1) := by decide +kernel
theorem dX12_blockOf_283 : decode cX12_blockOf 283 = .ok (.ireturn, 1) := by decide +kernel
theorem dX12_blockOf_284 : decode cX12_blockOf 284 = .ok (.iinc 2 8, 3) := by decide +kernel
theorem dX12_blockOf_287 : decode cX12_blockOf 287 = .ok (.goto (-256), 3) := by decide +kernel
theorem dX12_blockOf_290 : decode cX12_blockOf 290 = .ok (.iconst 0, 1) := by decide +kernel
theorem dX12_blockOf_291 : decode cX12_blockOf 291 = .ok (.ireturn, 1) := by decide +kernel
theorem dX12_newBlock_0 : decode cX12_newBlock 0 = .ok (.aload_n 0, 1) := by decide +kernel
theorem dX12_newBlock_1 : decode cX12_newBlock 1 = .ok (.iload_n 1, 1) := by decide +kernel
theorem dX12_newBlock_2 : decode cX12_newBlock 2 = .ok (.iconst 1, 1) := by decide +kernel
theorem dX12_newBlock_3 : decode cX12_newBlock 3 = .ok (.iadd, 1) := by decide +kernel
theorem dX12_newBlock_4 : decode cX12_newBlock 4 = .ok (.invokevirtual 454, 3) := by decide +kernel
theorem dX12_newBlock_7 : decode cX12_newBlock 7 = .ok (.ifCond .eq 15, 3) := by decide +kernel
theorem dX12_newBlock_10 : decode cX12_newBlock 10 = .ok (.aload_n 0, 1) := by decide +kernel
theorem dX12_newBlock_11 : decode cX12_newBlock 11 = .ok (.iconst 5, 1) := by decide +kernel
theorem dX12_newBlock_12 : decode cX12_newBlock 12 = .ok (.aload_n 0, 1) := by decide +kernel
theorem dX12_newBlock_13 : decode cX12_newBlock 13 = .ok (.iload_n 1, 1) := by decide +kernel
theorem dX12_newBlock_14 : decode cX12_newBlock 14 = .ok (.iconst 1, 1) := by decide +kernel
theorem dX12_newBlock_15 : decode cX12_newBlock 15 = .ok (.iadd, 1) := by decide +kernel
theorem dX12_newBlock_16 : decode cX12_newBlock 16 = .ok (.invokevirtual 457, 3) := by decide +kernel
theorem dX12_newBlock_19 : decode cX12_newBlock 19 = .ok (.invokevirtual 460, 3) := by decide +kernel
theorem dX12_newBlock_22 : decode cX12_newBlock 22 = .ok (.aload_n 0, 1) := by decide +kernel
theorem dX12_newBlock_23 : decode cX12_newBlock 23 = .ok (.getfield 88, 3) := by decide +kernel
theorem dX12_newBlock_26 : decode cX12_newBlock 26 = .ok (.aload_n 0, 1) := by decide +kernel
theorem dX12_newBlock_27 : decode cX12_newBlock 27 = .ok (.getfield 394, 3) := by decide +kernel
theorem dX12_newBlock_30 : decode cX12_newBlock 30 = .ok (.iaload, 1) := by decide +kernel
theorem dX12_newBlock_31 : decode cX12_newBlock 31 = .ok (.istore_n 3, 1) := by decide +kernel
theorem dX12_newBlock_32 : decode cX12_newBlock 32 = .ok (.aload_n 0, 1) := by decide +kernel
theorem dX12_newBlock_33 : decode cX12_newBlock 33 = .ok (.iload_n 1, 1) := by decide +kernel
theorem dX12_newBlock_34 : decode cX12_newBlock 34 = .ok (.iconst 1, 1) := by decide +kernel
theorem dX12_newBlock_35 : decode cX12_newBlock 35 = .ok (.iadd, 1) := by decide +kernel
theorem dX12_newBlock_36 : decode cX12_newBlock 36 = .ok (.invokevirtual 451, 3) := by decide +kernel
theorem dX12_newBlock_39 : decode cX12_newBlock 39 = .ok (.istore 4, 2) := by decide +kernel
theorem dX12_newBlock_41 : decode cX12_newBlock 41 = .ok (.aload_n 0, 1) := by decide +kernel
theorem dX12_newBlock_42 : decode cX12_newBlock 42 = .ok (.iload 4, 2) := by decide +kernel
theorem dX12_newBlock_44 : decode cX12_newBlock 44 = .ok (.invokevirtual 503, 3) := by decide +kernel
theorem dX12_newBlock_47 : decode cX12_newBlock 47 = .ok (.istore 5, 2) := by decide +kernel
theorem dX12_newBlock_49 : decode cX12_newBlock 49 = .ok (.iload 5, 2) := by decide +kernel
theorem dX12_newBlock_51 : decode cX12_newBlock 51 = .ok (.ifCond .le 86, 3) := by decide +kernel
theorem dX12_newBlock_54 : decode cX12_newBlock 54 = .ok (.iload_n 2, 1) := by decide +kernel
theorem dX12_newBlock_55 : decode cX12_newBlock 55 = .ok (.ifCond .eq 82, 3) := by decide +kernel
theorem dX12_newBlock_58 : decode cX12_newBlock 58 = .ok (.aload_n 0, 1) := by decide +kernel
theorem dX12_newBlock_59 : decode cX12_newBlock 59 = .ok (.getfield 88, 3) := by decide +kernel
theorem dX12_newBlock_62 : decode cX12_newBlock 62 = .ok (.aload_n 0, 1) := by decide +kernel
theorem dX12_newBlock_63 : decode cX12_newBlock 63 = .ok (.getfield 394, 3) := by decide +kernel
theorem dX12_newBlock_66 : decode cX12_newBlock 66 = .ok (.iload_n 3, 1) := by decide +kernel
theorem dX12_newBlock_67 : decode cX12_newBlock 67 = .ok (.iastore, 1) := by decide +kernel
theorem dX12_newBlock_68 : decode cX12_newBlock 68 = .ok (.iconst 0, 1) := by decide +kernel
theorem dX12_newBlock_69 : decode cX12_newBlock 69 = .ok (.istore 6, 2) := by decide +kernel
theorem dX12_newBlock_71 : decode cX12_newBlock 71 = .ok (.iload 6, 2) := by decide +kernel
theorem dX12_newBlock_73 : decode cX12_newBlock 73 = .ok (.iload 4, 2) := by decide +kernel
theorem dX12_newBlock_75 : decode cX12_newBlock 75 = .ok (.if_icmp .ge 62, 3) := by decide +kernel
theorem dX12_newBlock_78 : decode cX12_newBlock 78 = .ok (.sipush 4096, 3) := by decide +kernel
theorem dX12_newBlock_81 : decode cX12_newBlock 81 = .ok (.aload_n 0, 1) := by decide +kernel
theorem dX12_newBlock_82 : decode cX12_newBlock 82 = .ok (.getfield 394, 3) := by decide +kernel
theorem dX12_newBlock_85 : decode cX12_newBlock 85 = .ok (.imul, 1) := by decide +kernel
theorem dX12_newBlock_86 : decode cX12_newBlock 86 = .ok (.aload_n 0, 1) := by decide +kernel
theorem dX12_newBlock_87 : decode cX12_newBlock 87 = .ok (.getfield 100, 3) := by decide +kernel
theorem dX12_newBlock_90 : decode cX12_newBlock 90 = .ok (.bipush 101, 2) := by decide +kernel
theorem dX12_newBlock_92 : decode cX12_newBlock 92 = .ok (.aload_n 0, 1) := by decide +kernel
theorem dX12_newBlock_93 : decode cX12_newBlock 93 = .ok (.getfield 394, 3) := by decide +kernel
theorem dX12_newBlock_96 : decode cX12_newBlock 96 = .ok (.imul, 1) := by decide +kernel
theorem dX12_newBlock_97 : decode cX12_newBlock 97 = .ok (.iload 5, 2) := by decide +kernel
theorem dX12_newBlock_99 : decode cX12_newBlock 99 = .ok (.iadd, 1) := by decide +kernel
theorem dX12_newBlock_100 : decode cX12_newBlock 100 = .ok (.iaload, 1) := by decide +kernel
theorem dX12_newBlock_101 : decode cX12_newBlock 101 = .ok (.iadd, 1) := by decide +kernel
theorem dX12_newBlock_102 : decode cX12_newBlock 102 = .ok (.iload 6, 2) := by decide +kernel
theorem dX12_newBlock_104 : decode cX12_newBlock 104 = .ok (.iadd, 1) := by decide +kernel
theorem dX12_newBlock_105 : decode cX12_newBlock 105 = .ok (.istore 7, 2) := by decide +kernel
theorem dX12_newBlock_107 : decode cX12_newBlock 107 = .ok (.aload_n 0, 1) := by decide +kernel
theorem dX12_newBlock_108 : decode cX12_newBlock 108 = .ok (.getfield 64, 3) := by decide +kernel
theorem dX12_newBlock_111 : decode cX12_newBlock 111 = .ok (.iload 7, 2) := by decide +kernel
theorem dX12_newBlock_113 : decode cX12_newBlock 113 = .ok (.iconst 0, 1) := by decide +kernel
theorem dX12_newBlock_114 : decode cX12_newBlock 114 = .ok (.iastore, 1) := by decide +kernel
theorem dX12_newBlock_115 : decode cX12_newBlock 115 = .ok (.aload_n 0, 1) := by decide +kernel
theorem dX12_newBlock_116 : decode cX12_newBlock 116 = .ok (.getfield 67, 3) := by decide +kernel
theorem dX12_newBlock_119 : decode cX12_newBlock 119 = .ok (.iload 7, 2) := by decide +kernel
theorem dX12_newBlock_121 : decode cX12_newBlock 121 = .ok (.iconst 0, 1) := by decide +kernel
theorem dX12_newBlock_122 : decode cX12_newBlock 122 = .ok (.iastore, 1) := by decide +kernel
theorem dX12_newBlock_123 : decode cX12_newBlock 123 = .ok (.aload_n 0, 1) := by decide +kernel
theorem dX12_newBlock_124 : decode cX12_newBlock 124 = .ok (.getfield 70, 3) := by decide +kernel
theorem dX12_newBlock_127 : decode cX12_newBlock 127 = .ok (.iload 7, 2) := by decide +kernel
theorem dX12_newBlock_129 : decode cX12_newBlock 129 = .ok (.iconst 0, 1) := by decide +kernel
theorem dX12_newBlock_130 : decode cX12_newBlock 130 = .ok (.iastore, 1) := by decide +kernel
theorem dX12_newBlock_131 : decode cX12_newBlock 131 = .ok (.iinc 6 1, 3) := by decide +kernel
theorem dX12_newBlock_134 : decode cX12_newBlock 134 = .ok (.goto (-63), 3) := by decide +kernel
theorem dX12_newBlock_137 : decode cX12_newBlock 137 = .ok (.aload_n 0, 1) := by decide +kernel
theorem dX12_newBlock_138 : decode cX12_newBlock 138 = .ok (.aload_n 0, 1) := by decide +kernel
theorem dX12_newBlock_139 : decode cX12_newBlock 139 = .ok (.getfield 24, 3) := by decide +kernel
theorem dX12_newBlock_142 : decode cX12_newBlock 142 = .ok (.iload_n 1, 1) := by decide +kernel
theorem dX12_newBlock_143 : decode cX12_newBlock 143 = .ok (.iaload, 1) := by decide +kernel
theorem dX12_newBlock_144 : decode cX12_newBlock 144 = .ok (.iload 5, 2) := by decide +kernel
theorem dX12_newBlock_146 : decode cX12_newBlock 146 = .ok (.ifCond .le 21, 3) := by decide +kernel
theorem dX12_newBlock_149 : decode cX12_newBlock 149 = .ok (.aload_n 0, 1) := by decide +kernel
theorem dX12_newBlock_150 : decode cX12_newBlock 150 = .ok (.getfield 100, 3) := by decide +kernel
theorem dX12_newBlock_153 : decode cX12_newBlock 153 = .ok (.bipush 101, 2) := by decide +kernel
theorem dX12_newBlock_155 : decode cX12_newBlock 155 = .ok (.aload_n 0, 1) := by decide +kernel
theorem dX12_newBlock_156 : decode cX12_newBlock 156 = .ok (.getfield 394, 3) := by decide +kernel
theorem dX12_newBlock_159 : decode cX12_newBlock 159 = .ok (.imul, 1) := by decide +kernel
theorem dX12_newBlock_160 : decode cX12_newBlock 160 = .ok (.iload 5, 2) := by decide +kernel
theorem dX12_newBlock_162 : decode cX12_newBlock 162 = .ok (.iadd, 1) := by decide +kernel
theorem dX12_newBlock_163 : decode cX12_newBlock 163 = .ok (.iaload, 1) := by decide +kernel
theorem dX12_newBlock_164 : decode cX12_newBlock 164 = .ok (.goto 4, 3) := by decide +kernel
theorem dX12_newBlock_167 : decode cX12_newBlock 167 = .ok (.iconst 0, 1) := by decide +kernel
theorem dX12_newBlock_168 : decode cX12_newBlock 168 = .ok (.iconst 0, 1) := by decide +kernel
theorem dX12_newBlock_169 : decode cX12_newBlock 169 = .ok (.iconst 0, 1) := by decide +kernel
theorem dX12_newBlock_170 : decode cX12_newBlock 170 = .ok (.invokevirtual 473, 3) := by decide +kernel
theorem dX12_newBlock_173 : decode cX12_newBlock 173 = .ok (.return_, 1) := by decide +kernel
theorem dX12_inUse_0 : decode cX12_inUse 0 = .ok (.iconst 1, 1) := by decide +kernel
theorem dX12_inUse_1 : decode cX12_inUse 1 = .ok (.istore_n 2, 1) := by decide +kernel
theorem dX12_inUse_2 : decode cX12_inUse 2 = .ok (.iload_n 2, 1) := by decide +kernel
theorem dX12_inUse_3 : decode cX12_inUse 3 = .ok (.aload_n 0, 1) := by decide +kernel
theorem dX12_inUse_4 : decode cX12_inUse 4 = .ok (.getfield 118, 3) := by decide +kernel
theorem dX12_inUse_7 : decode cX12_inUse 7 = .ok (.aload_n 0, 1) := by decide +kernel
theorem dX12_inUse_8 : decode cX12_inUse 8 = .ok (.getfield 394, 3) := by decide +kernel
theorem dX12_inUse_11 : decode cX12_inUse 11 = .ok (.iaload, 1) := by decide +kernel
theorem dX12_inUse_12 : decode cX12_inUse 12 = .ok (.if_icmp .gt 47, 3) := by decide +kernel
theorem dX12_inUse_15 : decode cX12_inUse 15 = .ok (.aload_n 0, 1) := by decide +kernel
theorem dX12_inUse_16 : decode cX12_inUse 16 = .ok (.getfield 106, 3) := by decide +kernel
theorem dX12_inUse_19 : decode cX12_inUse 19 = .ok (.bipush 101, 2) := by decide +kernel
theorem dX12_inUse_21 : decode cX12_inUse 21 = .ok (.aload_n 0, 1) := by decide +kernel
theorem dX12_inUse_22 : decode cX12_inUse 22 = .ok (.getfield 394, 3) := by decide +kernel
theorem dX12_inUse_25 : decode cX12_inUse 25 = .ok (.imul, 1) := by decide +kernel
theorem dX12_inUse_26 : decode cX12_inUse 26 = .ok (.iload_n 2, 1) := by decide +kernel
theorem dX12_inUse_27 : decode cX12_inUse 27 = .ok (.iadd, 1) := by decide +kernel
theorem dX12_inUse_28 : decode cX12_inUse 28 = .ok (.iaload, 1) := by decide +kernel
theorem dX12_inUse_29 : decode cX12_inUse 29 = .ok (.iconst 2, 1) := by decide +kernel
theorem dX12_inUse_30 : decode cX12_inUse 30 = .ok (.if_icmp .ne 23, 3) := by decide +kernel
theorem dX12_inUse_33 : decode cX12_inUse 33 = .ok (.aload_n 0, 1) := by decide +kernel
theorem dX12_inUse_34 : decode cX12_inUse 34 = .ok (.getfield 100, 3) := by decide +kernel
theorem dX12_inUse_37 : decode cX12_inUse 37 = .ok (.bipush 101, 2) := by decide +kernel
theorem dX12_inUse_39 : decode cX12_inUse 39 = .ok (.aload_n 0, 1) := by decide +kernel
theorem dX12_inUse_40 : decode cX12_inUse 40 = .ok (.getfield 394, 3) := by decide +kernel
theorem dX12_inUse_43 : decode cX12_inUse 43 = .ok (.imul, 1) := by decide +kernel
theorem dX12_inUse_44 : decode cX12_inUse 44 = .ok (.iload_n 2, 1) := by decide +kernel
theorem dX12_inUse_45 : decode cX12_inUse 45 = .ok (.iadd, 1) := by decide +kernel
theorem dX12_inUse_46 : decode cX12_inUse 46 = .ok (.iaload, 1) := by decide +kernel
theorem dX12_inUse_47 : decode cX12_inUse 47 = .ok (.iload_n 1, 1) := by decide +kernel
theorem dX12_inUse_48 : decode cX12_inUse 48 = .ok (.if_icmp .ne 5, 3) := by decide +kernel
theorem dX12_inUse_51 : decode cX12_inUse 51 = .ok (.iload_n 2, 1) := by decide +kernel
theorem dX12_inUse_52 : decode cX12_inUse 52 = .ok (.ireturn, 1) := by decide +kernel
theorem dX12_inUse_53 : decode cX12_inUse 53 = .ok (.iinc 2 1, 3) := by decide +kernel
theorem dX12_inUse_56 : decode cX12_inUse 56 = .ok (.goto (-54), 3) := by decide +kernel
theorem dX12_inUse_59 : decode cX12_inUse 59 = .ok (.iconst 0, 1) := by decide +kernel
theorem dX12_inUse_60 : decode cX12_inUse 60 = .ok (.ireturn, 1) := by decide +kernel
theorem dX12_freed_0 : decode cX12_freed 0 = .ok (.bipush 101, 2) := by decide +kernel
theorem dX12_freed_2 : decode cX12_freed 2 = .ok (.aload_n 0, 1) := by decide +kernel
theorem dX12_freed_3 : decode cX12_freed 3 = .ok (.getfield 394, 3) := by decide +kernel
theorem dX12_freed_6 : decode cX12_freed 6 = .ok (.imul, 1) := by decide +kernel
theorem dX12_freed_7 : decode cX12_freed 7 = .ok (.iload_n 1, 1) := by decide +kernel
theorem dX12_freed_8 : decode cX12_freed 8 = .ok (.iadd, 1) := by decide +kernel
theorem dX12_freed_9 : decode cX12_freed 9 = .ok (.istore_n 2, 1) := by decide +kernel
theorem dX12_freed_10 : decode cX12_freed 10 = .ok (.iconst 0, 1) := by decide +kernel
theorem dX12_freed_11 : decode cX12_freed 11 = .ok (.istore_n 3, 1) := by decide +kernel
theorem dX12_freed_12 : decode cX12_freed 12 = .ok (.iload_n 3, 1) := by decide +kernel
theorem dX12_freed_13 : decode cX12_freed 13 = .ok (.aload_n 0, 1) := by decide +kernel
theorem dX12_freed_14 : decode cX12_freed 14 = .ok (.getfield 103, 3) := by decide +kernel
theorem dX12_freed_17 : decode cX12_freed 17 = .ok (.iload_n 2, 1) := by decide +kernel
theorem dX12_freed_18 : decode cX12_freed 18 = .ok (.iaload, 1) := by decide +kernel
theorem dX12_freed_19 : decode cX12_freed 19 = .ok (.if_icmp .ge 32, 3) := by decide +kernel
theorem dX12_freed_22 : decode cX12_freed 22 = .ok (.aload_n 0, 1) := by decide +kernel
theorem dX12_freed_23 : decode cX12_freed 23 = .ok (.getfield 73, 3) := by decide +kernel
theorem dX12_freed_26 : decode cX12_freed 26 = .ok (.sipush 4096, 3) := by decide +kernel
theorem dX12_freed_29 : decode cX12_freed 29 = .ok (.aload_n 0, 1) := by decide +kernel
theorem dX12_freed_30 : decode cX12_freed 30 = .ok (.getfield 394, 3) := by decide +kernel
theorem dX12_freed_33 : decode cX12_freed 33 = .ok (.imul, 1) := by decide +kernel
theorem dX12_freed_34 : decode cX12_freed 34 = .ok (.aload_n 0, 1) := by decide +kernel
theorem dX12_freed_35 : decode cX12_freed 35 = .ok (.getfield 100, 3) := by decide +kernel
theorem dX12_freed_38 : decode cX12_freed 38 = .ok (.iload_n 2, 1) := by decide +kernel
theorem dX12_freed_39 : decode cX12_freed 39 = .ok (.iaload, 1) := by decide +kernel
theorem dX12_freed_40 : decode cX12_freed 40 = .ok (.iadd, 1) := by decide +kernel
theorem dX12_freed_41 : decode cX12_freed 41 = .ok (.iload_n 3, 1) := by decide +kernel
theorem dX12_freed_42 : decode cX12_freed 42 = .ok (.iadd, 1) := by decide +kernel
theorem dX12_freed_43 : decode cX12_freed 43 = .ok (.iconst 0, 1) := by decide +kernel
theorem dX12_freed_44 : decode cX12_freed 44 = .ok (.bastore, 1) := by decide +kernel
theorem dX12_freed_45 : decode cX12_freed 45 = .ok (.iinc 3 1, 3) := by decide +kernel
theorem dX12_freed_48 : decode cX12_freed 48 = .ok (.goto (-36), 3) := by decide +kernel
theorem dX12_freed_51 : decode cX12_freed 51 = .ok (.aload_n 0, 1) := by decide +kernel
theorem dX12_freed_52 : decode cX12_freed 52 = .ok (.getfield 106, 3) := by decide +kernel
theorem dX12_freed_55 : decode cX12_freed 55 = .ok (.iload_n 2, 1) := by decide +kernel
theorem dX12_freed_56 : decode cX12_freed 56 = .ok (.iconst 1, 1) := by decide +kernel
theorem dX12_freed_57 : decode cX12_freed 57 = .ok (.iastore, 1) := by decide +kernel
theorem dX12_freed_58 : decode cX12_freed 58 = .ok (.aload_n 0, 1) := by decide +kernel
theorem dX12_freed_59 : decode cX12_freed 59 = .ok (.getfield 112, 3) := by decide +kernel
theorem dX12_freed_62 : decode cX12_freed 62 = .ok (.iload_n 2, 1) := by decide +kernel
theorem dX12_freed_63 : decode cX12_freed 63 = .ok (.aload_n 0, 1) := by decide +kernel
theorem dX12_freed_64 : decode cX12_freed 64 = .ok (.getfield 420, 3) := by decide +kernel
theorem dX12_freed_67 : decode cX12_freed 67 = .ok (.iastore, 1) := by decide +kernel
theorem dX12_freed_68 : decode cX12_freed 68 = .ok (.aload_n 0, 1) := by decide +kernel
theorem dX12_freed_69 : decode cX12_freed 69 = .ok (.getfield 121, 3) := by decide +kernel
theorem dX12_freed_72 : decode cX12_freed 72 = .ok (.aload_n 0, 1) := by decide +kernel
theorem dX12_freed_73 : decode cX12_freed 73 = .ok (.getfield 394, 3) := by decide +kernel
theorem dX12_freed_76 : decode cX12_freed 76 = .ok (.dup2, 1) := by decide +kernel
theorem dX12_freed_77 : decode cX12_freed 77 = .ok (.iaload, 1) := by decide +kernel
theorem dX12_freed_78 : decode cX12_freed 78 = .ok (.iconst 1, 1) := by decide +kernel
theorem dX12_freed_79 : decode cX12_freed 79 = .ok (.iadd, 1) := by decide +kernel
theorem dX12_freed_80 : decode cX12_freed 80 = .ok (.iastore, 1) := by decide +kernel
theorem dX12_freed_81 : decode cX12_freed 81 = .ok (.aload_n 0, 1) := by decide +kernel
theorem dX12_freed_82 : decode cX12_freed 82 = .ok (.getfield 115, 3) := by decide +kernel
theorem dX12_freed_85 : decode cX12_freed 85 = .ok (.iload_n 2, 1) := by decide +kernel
theorem dX12_freed_86 : decode cX12_freed 86 = .ok (.aload_n 0, 1) := by decide +kernel
theorem dX12_freed_87 : decode cX12_freed 87 = .ok (.getfield 121, 3) := by decide +kernel
theorem dX12_freed_90 : decode cX12_freed 90 = .ok (.aload_n 0, 1) := by decide +kernel
theorem dX12_freed_91 : decode cX12_freed 91 = .ok (.getfield 394, 3) := by decide +kernel
theorem dX12_freed_94 : decode cX12_freed 94 = .ok (.iaload, 1) := by decide +kernel
theorem dX12_freed_95 : decode cX12_freed 95 = .ok (.iastore, 1) := by decide +kernel
theorem dX12_freed_96 : decode cX12_freed 96 = .ok (.iconst 1, 1) := by decide +kernel
theorem dX12_freed_97 : decode cX12_freed 97 = .ok (.istore_n 3, 1) := by decide +kernel
theorem dX12_freed_98 : decode cX12_freed 98 = .ok (.iload_n 3, 1) := by decide +kernel
theorem dX12_freed_99 : decode cX12_freed 99 = .ok (.ifCond .eq 141, 3) := by decide +kernel
theorem dX12_freed_102 : decode cX12_freed 102 = .ok (.iconst 0, 1) := by decide +kernel
theorem dX12_freed_103 : decode cX12_freed 103 = .ok (.istore 4, 2) := by decide +kernel
theorem dX12_freed_105 : decode cX12_freed 105 = .ok (.iconst 0, 1) := by decide +kernel
theorem dX12_freed_106 : decode cX12_freed 106 = .ok (.istore 5, 2) := by decide +kernel
theorem dX12_freed_108 : decode cX12_freed 108 = .ok (.iconst 1, 1) := by decide +kernel
theorem dX12_freed_109 : decode cX12_freed 109 = .ok (.istore 6, 2) := by decide +kernel
theorem dX12_freed_111 : decode cX12_freed 111 = .ok (.iload 6, 2) := by decide +kernel
theorem dX12_freed_113 : decode cX12_freed 113 = .ok (.aload_n 0, 1) := by decide +kernel
theorem dX12_freed_114 : decode cX12_freed 114 = .ok (.getfield 118, 3) := by decide +kernel
theorem dX12_freed_117 : decode cX12_freed 117 = .ok (.aload_n 0, 1) := by decide +kernel
theorem dX12_freed_118 : decode cX12_freed 118 = .ok (.getfield 394, 3) := by decide +kernel
theorem dX12_freed_121 : decode cX12_freed 121 = .ok (.iaload, 1) := by decide +kernel
theorem dX12_freed_122 : decode cX12_freed 122 = .ok (.if_icmp .gt 81, 3) := by decide +kernel
theorem dX12_freed_125 : decode cX12_freed 125 = .ok (.bipush 101, 2) := by decide +kernel
theorem dX12_freed_127 : decode cX12_freed 127 = .ok (.aload_n 0, 1) := by decide +kernel
theorem dX12_freed_128 : decode cX12_freed 128 = .ok (.getfield 394, 3) := by decide +kernel
theorem dX12_freed_131 : decode cX12_freed 131 = .ok (.imul, 1) := by decide +kernel
theorem dX12_freed_132 : decode cX12_freed 132 = .ok (.iload 6, 2) := by decide +kernel
theorem dX12_freed_134 : decode cX12_freed 134 = .ok (.iadd, 1) := by decide +kernel
theorem dX12_freed_135 : decode cX12_freed 135 = .ok (.istore 7, 2) := by decide +kernel
theorem dX12_freed_137 : decode cX12_freed 137 = .ok (.aload_n 0, 1) := by decide +kernel
theorem dX12_freed_138 : decode cX12_freed 138 = .ok (.getfield 106, 3) := by decide +kernel
theorem dX12_freed_141 : decode cX12_freed 141 = .ok (.iload 7, 2) := by decide +kernel
theorem dX12_freed_143 : decode cX12_freed 143 = .ok (.iaload, 1) := by decide +kernel
theorem dX12_freed_144 : decode cX12_freed 144 = .ok (.iconst 1, 1) := by decide +kernel
theorem dX12_freed_145 : decode cX12_freed 145 = .ok (.if_icmp .eq 6, 3) := by decide +kernel
theorem dX12_freed_148 : decode cX12_freed 148 = .ok (.goto 49, 3) := by decide +kernel
theorem dX12_freed_151 : decode cX12_freed 151 = .ok (.iload 4, 2) := by decide +kernel
theorem dX12_freed_153 : decode cX12_freed 153 = .ok (.aload_n 0, 1) := by decide +kernel
theorem dX12_freed_154 : decode cX12_freed 154 = .ok (.getfield 103, 3) := by decide +kernel
theorem dX12_freed_157 : decode cX12_freed 157 = .ok (.iload 7, 2) := by decide +kernel
theorem dX12_freed_159 : decode cX12_freed 159 = .ok (.iaload, 1) := by decide +kernel
theorem dX12_freed_160 : decode cX12_freed 160 = .ok (.iadd, 1) := by decide +kernel
theorem dX12_freed_161 : decode cX12_freed 161 = .ok (.istore 4, 2) := by decide +kernel
theorem dX12_freed_163 : decode cX12_freed 163 = .ok (.iload 5, 2) := by decide +kernel
theorem dX12_freed_165 : decode cX12_freed 165 = .ok (.ifCond .eq 28, 3) := by decide +kernel
theorem dX12_freed_168 : decode cX12_freed 168 = .ok (.aload_n 0, 1) := by decide +kernel
theorem dX12_freed_169 : decode cX12_freed 169 = .ok (.getfield 115, 3) := by decide +kernel
theorem dX12_freed_172 : decode cX12_freed 172 = .ok (.iload 7, 2) := by decide +kernel
theorem dX12_freed_174 : decode cX12_freed 174 = .ok (.iaload, 1) := by decide +kernel
theorem dX12_freed_175 : decode cX12_freed 175 = .ok (.aload_n 0, 1) := by decide +kernel
theorem dX12_freed_176 : decode cX12_freed 176 = .ok (.getfield 115, 3) := by decide +kernel
theorem dX12_freed_179 : decode cX12_freed 179 = .ok (.bipush 101, 2) := by decide +kernel
theorem dX12_freed_181 : decode cX12_freed 181 = .ok (.aload_n 0, 1) := by decide +kernel
theorem dX12_freed_182 : decode cX12_freed 182 = .ok (.getfield 394, 3) := by decide +kernel
theorem dX12_freed_185 : decode cX12_freed 185 = .ok (.imul, 1) := by decide +kernel
theorem dX12_freed_186 : decode cX12_freed 186 = .ok (.iload 5, 2) := by decide +kernel
theorem dX12_freed_188 : decode cX12_freed 188 = .ok (.iadd, 1) := by decide +kernel
theorem dX12_freed_189 : decode cX12_freed 189 = .ok (.iaload, 1) := by decide +kernel
theorem dX12_freed_190 : decode cX12_freed 190 = .ok (.if_icmp .ge 7, 3) := by decide +kernel
theorem dX12_freed_193 : decode cX12_freed 193 = .ok (.iload 6, 2) := by decide +kernel
theorem dX12_freed_195 : decode cX12_freed 195 = .ok (.istore 5, 2) := by decide +kernel
theorem dX12_freed_197 : decode cX12_freed 197 = .ok (.iinc 6 1, 3) := by decide +kernel
theorem dX12_freed_200 : decode cX12_freed 200 = .ok (.goto (-89), 3) := by decide +kernel
theorem dX12_freed_203 : decode cX12_freed 203 = .ok (.iload 4, 2) := by decide +kernel
theorem dX12_freed_205 : decode cX12_freed 205 = .ok (.sipush 512, 3) := by decide +kernel
theorem dX12_freed_208 : decode cX12_freed 208 = .ok (.if_icmp .le 7, 3) := by decide +kernel
theorem dX12_freed_211 : decode cX12_freed 211 = .ok (.iconst 1, 1) := by decide +kernel
theorem dX12_freed_212 : decode cX12_freed 212 = .ok (.goto 4, 3) := by decide +kernel
theorem dX12_freed_215 : decode cX12_freed 215 = .ok (.iconst 0, 1) := by decide +kernel
theorem dX12_freed_216 : decode cX12_freed 216 = .ok (.istore_n 3, 1) := by decide +kernel
theorem dX12_freed_217 : decode cX12_freed 217 = .ok (.iload_n 3, 1) := by decide +kernel
theorem dX12_freed_218 : decode cX12_freed 218 = .ok (.ifCond .eq 19, 3) := by decide +kernel
theorem dX12_freed_221 : decode cX12_freed 221 = .ok (.aload_n 0, 1) := by decide +kernel
theorem dX12_freed_222 : decode cX12_freed 222 = .ok (.getfield 106, 3) := by decide +kernel
theorem dX12_freed_225 : decode cX12_freed 225 = .ok (.bipush 101, 2) := by decide +kernel
theorem dX12_freed_227 : decode cX12_freed 227 = .ok (.aload_n 0, 1) := by decide +kernel
theorem dX12_freed_228 : decode cX12_freed 228 = .ok (.getfield 394, 3) := by decide +kernel
theorem dX12_freed_231 : decode cX12_freed 231 = .ok (.imul, 1) := by decide +kernel
theorem dX12_freed_232 : decode cX12_freed 232 = .ok (.iload 5, 2) := by decide +kernel
theorem dX12_freed_234 : decode cX12_freed 234 = .ok (.iadd, 1) := by decide +kernel
theorem dX12_freed_235 : decode cX12_freed 235 = .ok (.iconst 0, 1) := by decide +kernel
theorem dX12_freed_236 : decode cX12_freed 236 = .ok (.iastore, 1) := by decide +kernel
theorem dX12_freed_237 : decode cX12_freed 237 = .ok (.goto (-139), 3) := by decide +kernel
theorem dX12_freed_240 : decode cX12_freed 240 = .ok (.return_, 1) := by decide +kernel
theorem dX12_free_0 : decode cX12_free 0 = .ok (.aload_n 0, 1) := by decide +kernel
theorem dX12_free_1 : decode cX12_free 1 = .ok (.iload_n 1, 1) := by decide +kernel
theorem dX12_free_2 : decode cX12_free 2 = .ok (.invokevirtual 454, 3) := by decide +kernel
theorem dX12_free_5 : decode cX12_free 5 = .ok (.ifCond .eq 13, 3) := by decide +kernel
theorem dX12_free_8 : decode cX12_free 8 = .ok (.aload_n 0, 1) := by decide +kernel
theorem dX12_free_9 : decode cX12_free 9 = .ok (.iconst 2, 1) := by decide +kernel
theorem dX12_free_10 : decode cX12_free 10 = .ok (.aload_n 0, 1) := by decide +kernel
theorem dX12_free_11 : decode cX12_free 11 = .ok (.iload_n 1, 1) := by decide +kernel
theorem dX12_free_12 : decode cX12_free 12 = .ok (.invokevirtual 457, 3) := by decide +kernel
theorem dX12_free_15 : decode cX12_free 15 = .ok (.invokevirtual 460, 3) := by decide +kernel
theorem dX12_free_18 : decode cX12_free 18 = .ok (.aload_n 0, 1) := by decide +kernel
theorem dX12_free_19 : decode cX12_free 19 = .ok (.iload_n 1, 1) := by decide +kernel
theorem dX12_free_20 : decode cX12_free 20 = .ok (.invokevirtual 451, 3) := by decide +kernel
theorem dX12_free_23 : decode cX12_free 23 = .ok (.istore_n 2, 1) := by decide +kernel
theorem dX12_free_24 : decode cX12_free 24 = .ok (.iload_n 2, 1) := by decide +kernel
theorem dX12_free_25 : decode cX12_free 25 = .ok (.ifCond .ne 4, 3) := by decide +kernel
theorem dX12_free_28 : decode cX12_free 28 = .ok (.return_, 1) := by decide +kernel
theorem dX12_free_29 : decode cX12_free 29 = .ok (.aload_n 0, 1) := by decide +kernel
theorem dX12_free_30 : decode cX12_free 30 = .ok (.iload_n 2, 1) := by decide +kernel
theorem dX12_free_31 : decode cX12_free 31 = .ok (.invokevirtual 506, 3) := by decide +kernel
theorem dX12_free_34 : decode cX12_free 34 = .ok (.istore_n 3, 1) := by decide +kernel
theorem dX12_free_35 : decode cX12_free 35 = .ok (.iload_n 3, 1) := by decide +kernel
theorem dX12_free_36 : decode cX12_free 36 = .ok (.ifCond .ne 17, 3) := by decide +kernel
theorem dX12_free_39 : decode cX12_free 39 = .ok (.aload_n 0, 1) := by decide +kernel
theorem dX12_free_40 : decode cX12_free 40 = .ok (.bipush 7, 2) := by decide +kernel
theorem dX12_free_42 : decode cX12_free 42 = .ok (.aload_n 0, 1) := by decide +kernel
theorem dX12_free_43 : decode cX12_free 43 = .ok (.iload_n 2, 1) := by decide +kernel
theorem dX12_free_44 : decode cX12_free 44 = .ok (.invokevirtual 483, 3) := by decide +kernel
theorem dX12_free_47 : decode cX12_free 47 = .ok (.invokevirtual 460, 3) := by decide +kernel
theorem dX12_free_50 : decode cX12_free 50 = .ok (.goto 8, 3) := by decide +kernel
theorem dX12_free_53 : decode cX12_free 53 = .ok (.aload_n 0, 1) := by decide +kernel
theorem dX12_free_54 : decode cX12_free 54 = .ok (.iload_n 3, 1) := by decide +kernel
theorem dX12_free_55 : decode cX12_free 55 = .ok (.invokevirtual 509, 3) := by decide +kernel
theorem dX12_free_58 : decode cX12_free 58 = .ok (.return_, 1) := by decide +kernel
theorem dX12_grow_0 : decode cX12_grow 0 = .ok (.aload_n 0, 1) := by decide +kernel
theorem dX12_grow_1 : decode cX12_grow 1 = .ok (.iload_n 1, 1) := by decide +kernel
theorem dX12_grow_2 : decode cX12_grow 2 = .ok (.iconst 1, 1) := by decide +kernel
theorem dX12_grow_3 : decode cX12_grow 3 = .ok (.iadd, 1) := by decide +kernel
theorem dX12_grow_4 : decode cX12_grow 4 = .ok (.invokevirtual 451, 3) := by decide +kernel
theorem dX12_grow_7 : decode cX12_grow 7 = .ok (.istore_n 2, 1) := by decide +kernel
theorem dX12_grow_8 : decode cX12_grow 8 = .ok (.aload_n 0, 1) := by decide +kernel
theorem dX12_grow_9 : decode cX12_grow 9 = .ok (.iload_n 1, 1) := by decide +kernel
theorem dX12_grow_10 : decode cX12_grow 10 = .ok (.iconst 2, 1) := by decide +kernel
theorem dX12_grow_11 : decode cX12_grow 11 = .ok (.iadd, 1) := by decide +kernel
theorem dX12_grow_12 : decode cX12_grow 12 = .ok (.invokevirtual 451, 3) := by decide +kernel
theorem dX12_grow_15 : decode cX12_grow 15 = .ok (.istore_n 3, 1) := by decide +kernel
theorem dX12_grow_16 : decode cX12_grow 16 = .ok (.aload_n 0, 1) := by decide +kernel
theorem dX12_grow_17 : decode cX12_grow 17 = .ok (.iload_n 1, 1) := by decide +kernel
theorem dX12_grow_18 : decode cX12_grow 18 = .ok (.iconst 1, 1) := by decide +kernel
theorem dX12_grow_19 : decode cX12_grow 19 = .ok (.iadd, 1) := by decide +kernel
theorem dX12_grow_20 : decode cX12_grow 20 = .ok (.invokevirtual 454, 3) := by decide +kernel
theorem dX12_grow_23 : decode cX12_grow 23 = .ok (.ifCond .eq 15, 3) := by decide +kernel
theorem dX12_grow_26 : decode cX12_grow 26 = .ok (.aload_n 0, 1) := by decide +kernel
theorem dX12_grow_27 : decode cX12_grow 27 = .ok (.iconst 2, 1) := by decide +kernel
theorem dX12_grow_28 : decode cX12_grow 28 = .ok (.aload_n 0, 1) := by decide +kernel
theorem dX12_grow_29 : decode cX12_grow 29 = .ok (.iload_n 1, 1) := by decide +kernel
theorem dX12_grow_30 : decode cX12_grow 30 = .ok (.iconst 1, 1) := by decide +kernel
theorem dX12_grow_31 : decode cX12_grow 31 = .ok (.iadd, 1) := by decide +kernel
theorem dX12_grow_32 : decode cX12_grow 32 = .ok (.invokevirtual 457, 3) := by decide +kernel
theorem dX12_grow_35 : decode cX12_grow 35 = .ok (.invokevirtual 460, 3) := by decide +kernel
theorem dX12_grow_38 : decode cX12_grow 38 = .ok (.aload_n 0, 1) := by decide +kernel
theorem dX12_grow_39 : decode cX12_grow 39 = .ok (.iload_n 1, 1) := by decide +kernel
theorem dX12_grow_40 : decode cX12_grow 40 = .ok (.iconst 2, 1) := by decide +kernel
theorem dX12_grow_41 : decode cX12_grow 41 = .ok (.iadd, 1) := by decide +kernel
theorem dX12_grow_42 : decode cX12_grow 42 = .ok (.invokevirtual 454, 3) := by decide +kernel
theorem dX12_grow_45 : decode cX12_grow 45 = .ok (.ifCond .eq 15, 3) := by decide +kernel
theorem dX12_grow_48 : decode cX12_grow 48 = .ok (.aload_n 0, 1) := by decide +kernel
theorem dX12_grow_49 : decode cX12_grow 49 = .ok (.iconst 5, 1) := by decide +kernel
theorem dX12_grow_50 : decode cX12_grow 50 = .ok (.aload_n 0, 1) := by decide +kernel
theorem dX12_grow_51 : decode cX12_grow 51 = .ok (.iload_n 1, 1) := by decide +kernel
theorem dX12_grow_52 : decode cX12_grow 52 = .ok (.iconst 2, 1) := by decide +kernel
theorem dX12_grow_53 : decode cX12_grow 53 = .ok (.iadd, 1) := by decide +kernel
theorem dX12_grow_54 : decode cX12_grow 54 = .ok (.invokevirtual 457, 3) := by decide +kernel
theorem dX12_grow_57 : decode cX12_grow 57 = .ok (.invokevirtual 460, 3) := by decide +kernel
theorem dX12_grow_60 : decode cX12_grow 60 = .ok (.iload_n 2, 1) := by decide +kernel
theorem dX12_grow_61 : decode cX12_grow 61 = .ok (.ifCond .ne 7, 3) := by decide +kernel
theorem dX12_grow_64 : decode cX12_grow 64 = .ok (.iconst 0, 1) := by decide +kernel
theorem dX12_grow_65 : decode cX12_grow 65 = .ok (.goto 8, 3) := by decide +kernel
theorem dX12_grow_68 : decode cX12_grow 68 = .ok (.aload_n 0, 1) := by decide +kernel
theorem dX12_grow_69 : decode cX12_grow 69 = .ok (.iload_n 2, 1) := by decide +kernel
theorem dX12_grow_70 : decode cX12_grow 70 = .ok (.invokevirtual 506, 3) := by decide +kernel
theorem dX12_grow_73 : decode cX12_grow 73 = .ok (.istore 4, 2) := by decide +kernel
theorem dX12_grow_75 : decode cX12_grow 75 = .ok (.iload_n 2, 1) := by decide +kernel
theorem dX12_grow_76 : decode cX12_grow 76 = .ok (.ifCond .eq 33, 3) := by decide +kernel
theorem dX12_grow_79 : decode cX12_grow 79 = .ok (.iload 4, 2) := by decide +kernel
theorem dX12_grow_81 : decode cX12_grow 81 = .ok (.ifCond .ne 28, 3) := by decide +kernel
theorem dX12_grow_84 : decode cX12_grow 84 = .ok (.aload_n 0, 1) := by decide +kernel
theorem dX12_grow_85 : decode cX12_grow 85 = .ok (.bipush 7, 2) := by decide +kernel
theorem dX12_grow_87 : decode cX12_grow 87 = .ok (.aload_n 0, 1) := by decide +kernel
theorem dX12_grow_88 : decode cX12_grow 88 = .ok (.iload_n 2, 1) := by decide +kernel
theorem dX12_grow_89 : decode cX12_grow 89 = .ok (.invokevirtual 483, 3) := by decide +kernel
theorem dX12_grow_92 : decode cX12_grow 92 = .ok (.invokevirtual 460, 3) := by decide +kernel
theorem dX12_grow_95 : decode cX12_grow 95 = .ok (.aload_n 0, 1) := by decide +kernel
theorem dX12_grow_96 : decode cX12_grow 96 = .ok (.aload_n 0, 1) := by decide +kernel
theorem dX12_grow_97 : decode cX12_grow 97 = .ok (.getfield 24, 3) := by decide +kernel
theorem dX12_grow_100 : decode cX12_grow 100 = .ok (.iload_n 1, 1) := by decide +kernel
theorem dX12_grow_101 : decode cX12_grow 101 = .ok (.iaload, 1) := by decide +kernel
theorem dX12_grow_102 : decode cX12_grow 102 = .ok (.iconst 0, 1) := by decide +kernel
theorem dX12_grow_103 : decode cX12_grow 103 = .ok (.iconst 0, 1) := by decide +kernel
theorem dX12_grow_104 : decode cX12_grow 104 = .ok (.iconst 0, 1) := by decide +kernel
theorem dX12_grow_105 : decode cX12_grow 105 = .ok (.invokevirtual 473, 3) := by decide +kernel
theorem dX12_grow_108 : decode cX12_grow 108 = .ok (.return_, 1) := by decide +kernel
theorem dX12_grow_109 : decode cX12_grow 109 = .ok (.aload_n 0, 1) := by decide +kernel
theorem dX12_grow_110 : decode cX12_grow 110 = .ok (.iload_n 3, 1) := by decide +kernel
theorem dX12_grow_111 : decode cX12_grow 111 = .ok (.invokevirtual 503, 3) := by decide +kernel
theorem dX12_grow_114 : decode cX12_grow 114 = .ok (.istore 5, 2) := by decide +kernel
theorem dX12_grow_116 : decode cX12_grow 116 = .ok (.iload 5, 2) := by decide +kernel
theorem dX12_grow_118 : decode cX12_grow 118 = .ok (.ifCond .le 244, 3) := by decide +kernel
theorem dX12_grow_121 : decode cX12_grow 121 = .ok (.iload 4, 2) := by decide +kernel
theorem dX12_grow_123 : decode cX12_grow 123 = .ok (.ifCond .le 239, 3) := by decide +kernel
theorem dX12_grow_126 : decode cX12_grow 126 = .ok (.aload_n 0, 1) := by decide +kernel
theorem dX12_grow_127 : decode cX12_grow 127 = .ok (.getfield 103, 3) := by decide +kernel
theorem dX12_grow_130 : decode cX12_grow 130 = .ok (.bipush 101, 2) := by decide +kernel
theorem dX12_grow_132 : decode cX12_grow 132 = .ok (.aload_n 0, 1) := by decide +kernel
theorem dX12_grow_133 : decode cX12_grow 133 = .ok (.getfield 394, 3) := by decide +kernel
theorem dX12_grow_136 : decode cX12_grow 136 = .ok (.imul, 1) := by decide +kernel
theorem dX12_grow_137 : decode cX12_grow 137 = .ok (.iload 4, 2) := by decide +kernel
theorem dX12_grow_139 : decode cX12_grow 139 = .ok (.iadd, 1) := by decide +kernel
theorem dX12_grow_140 : decode cX12_grow 140 = .ok (.iaload, 1) := by decide +kernel
theorem dX12_grow_141 : decode cX12_grow 141 = .ok (.iload_n 3, 1) := by decide +kernel
theorem dX12_grow_142 : decode cX12_grow 142 = .ok (.if_icmp .ge 21, 3) := by decide +kernel
theorem dX12_grow_145 : decode cX12_grow 145 = .ok (.aload_n 0, 1) := by decide +kernel
theorem dX12_grow_146 : decode cX12_grow 146 = .ok (.getfield 103, 3) := by decide +kernel
theorem dX12_grow_149 : decode cX12_grow 149 = .ok (.bipush 101, 2) := by decide +kernel
theorem dX12_grow_151 : decode cX12_grow 151 = .ok (.aload_n 0, 1) := by decide +kernel
theorem dX12_grow_152 : decode cX12_grow 152 = .ok (.getfield 394, 3) := by decide +kernel
theorem dX12_grow_155 : decode cX12_grow 155 = .ok (.imul, 1) := by decide +kernel
theorem dX12_grow_156 : decode cX12_grow 156 = .ok (.iload 4, 2) := by decide +kernel
theorem dX12_grow_158 : decode cX12_grow 158 = .ok (.iadd, 1) := by decide +kernel
theorem dX12_grow_159 : decode cX12_grow 159 = .ok (.iaload, 1) := by decide +kernel
theorem dX12_grow_160 : decode cX12_grow 160 = .ok (.goto 4, 3) := by decide +kernel
theorem dX12_grow_163 : decode cX12_grow 163 = .ok (.iload_n 3, 1) := by decide +kernel
theorem dX12_grow_164 : decode cX12_grow 164 = .ok (.istore 6, 2) := by decide +kernel
theorem dX12_grow_166 : decode cX12_grow 166 = .ok (.aload_n 0, 1) := by decide +kernel
theorem dX12_grow_167 : decode cX12_grow 167 = .ok (.getfield 100, 3) := by decide +kernel
theorem dX12_grow_170 : decode cX12_grow 170 = .ok (.bipush 101, 2) := by decide +kernel
theorem dX12_grow_172 : decode cX12_grow 172 = .ok (.aload_n 0, 1) := by decide +kernel
theorem dX12_grow_173 : decode cX12_grow 173 = .ok (.getfield 394, 3) := by decide +kernel
theorem dX12_grow_176 : decode cX12_grow 176 = .ok (.imul, 1) := by decide +kernel
theorem dX12_grow_177 : decode cX12_grow 177 = .ok (.iload 4, 2) := by decide +kernel
theorem dX12_grow_179 : decode cX12_grow 179 = .ok (.iadd, 1) := by decide +kernel
theorem dX12_grow_180 : decode cX12_grow 180 = .ok (.iaload, 1) := by decide +kernel
theorem dX12_grow_181 : decode cX12_grow 181 = .ok (.istore 7, 2) := by decide +kernel
theorem dX12_grow_183 : decode cX12_grow 183 = .ok (.aload_n 0, 1) := by decide +kernel
theorem dX12_grow_184 : decode cX12_grow 184 = .ok (.getfield 100, 3) := by decide +kernel
theorem dX12_grow_187 : decode cX12_grow 187 = .ok (.bipush 101, 2) := by decide +kernel
theorem dX12_grow_189 : decode cX12_grow 189 = .ok (.aload_n 0, 1) := by decide +kernel
theorem dX12_grow_190 : decode cX12_grow 190 = .ok (.getfield 394, 3) := by decide +kernel
theorem dX12_grow_193 : decode cX12_grow 193 = .ok (.imul, 1) := by decide +kernel
theorem dX12_grow_194 : decode cX12_grow 194 = .ok (.iload 5, 2) := by decide +kernel
theorem dX12_grow_196 : decode cX12_grow 196 = .ok (.iadd, 1) := by decide +kernel
theorem dX12_grow_197 : decode cX12_grow 197 = .ok (.iaload, 1) := by decide +kernel
theorem dX12_grow_198 : decode cX12_grow 198 = .ok (.istore 8, 2) := by decide +kernel
theorem dX12_grow_200 : decode cX12_grow 200 = .ok (.iconst 0, 1) := by decide +kernel
theorem dX12_grow_201 : decode cX12_grow 201 = .ok (.istore 9, 2) := by decide +kernel
theorem dX12_grow_203 : decode cX12_grow 203 = .ok (.iload 9, 2) := by decide +kernel
theorem dX12_grow_205 : decode cX12_grow 205 = .ok (.iload 6, 2) := by decide +kernel
theorem dX12_grow_207 : decode cX12_grow 207 = .ok (.if_icmp .ge 149, 3) := by decide +kernel
theorem dX12_grow_210 : decode cX12_grow 210 = .ok (.aload_n 0, 1) := by decide +kernel
theorem dX12_grow_211 : decode cX12_grow 211 = .ok (.getfield 64, 3) := by decide +kernel
theorem dX12_grow_214 : decode cX12_grow 214 = .ok (.sipush 4096, 3) := by decide +kernel
theorem dX12_grow_217 : decode cX12_grow 217 = .ok (.aload_n 0, 1) := by decide +kernel
theorem dX12_grow_218 : decode cX12_grow 218 = .ok (.getfield 394, 3) := by decide +kernel
theorem dX12_grow_221 : decode cX12_grow 221 = .ok (.imul, 1) := by decide +kernel
theorem dX12_grow_222 : decode cX12_grow 222 = .ok (.iload 8, 2) := by decide +kernel
theorem dX12_grow_224 : decode cX12_grow 224 = .ok (.iadd, 1) := by decide +kernel
theorem dX12_grow_225 : decode cX12_grow 225 = .ok (.iload 9, 2) := by decide +kernel
theorem dX12_grow_227 : decode cX12_grow 227 = .ok (.iadd, 1) := by decide +kernel
theorem dX12_grow_228 : decode cX12_grow 228 = .ok (.aload_n 0, 1) := by decide +kernel
theorem dX12_grow_229 : decode cX12_grow 229 = .ok (.getfield 64, 3) := by decide +kernel
theorem dX12_grow_232 : decode cX12_grow 232 = .ok (.sipush 4096, 3) := by decide +kernel
theorem dX12_grow_235 : decode cX12_grow 235 = .ok (.aload_n 0, 1) := by decide +kernel
theorem dX12_grow_236 : decode cX12_grow 236 = .ok (.getfield 394, 3) := by decide +kernel
theorem dX12_grow_239 : decode cX12_grow 239 = .ok (.imul, 1) := by decide +kernel
theorem dX12_grow_240 : decode cX12_grow 240 = .ok (.iload 7, 2) := by decide +kernel
theorem dX12_grow_242 : decode cX12_grow 242 = .ok (.iadd, 1) := by decide +kernel
theorem dX12_grow_243 : decode cX12_grow 243 = .ok (.iload 9, 2) := by decide +kernel
theorem dX12_grow_245 : decode cX12_grow 245 = .ok (.iadd, 1) := by decide +kernel
theorem dX12_grow_246 : decode cX12_grow 246 = .ok (.iaload, 1) := by decide +kernel
theorem dX12_grow_247 : decode cX12_grow 247 = .ok (.iastore, 1) := by decide +kernel
theorem dX12_grow_248 : decode cX12_grow 248 = .ok (.aload_n 0, 1) := by decide +kernel
theorem dX12_grow_249 : decode cX12_grow 249 = .ok (.getfield 67, 3) := by decide +kernel
theorem dX12_grow_252 : decode cX12_grow 252 = .ok (.sipush 4096, 3) := by decide +kernel
theorem dX12_grow_255 : decode cX12_grow 255 = .ok (.aload_n 0, 1) := by decide +kernel
theorem dX12_grow_256 : decode cX12_grow 256 = .ok (.getfield 394, 3) := by decide +kernel
theorem dX12_grow_259 : decode cX12_grow 259 = .ok (.imul, 1) := by decide +kernel
theorem dX12_grow_260 : decode cX12_grow 260 = .ok (.iload 8, 2) := by decide +kernel
theorem dX12_grow_262 : decode cX12_grow 262 = .ok (.iadd, 1) := by decide +kernel
theorem dX12_grow_263 : decode cX12_grow 263 = .ok (.iload 9, 2) := by decide +kernel
theorem dX12_grow_265 : decode cX12_grow 265 = .ok (.iadd, 1) := by decide +kernel
theorem dX12_grow_266 : decode cX12_grow 266 = .ok (.aload_n 0, 1) := by decide +kernel
theorem dX12_grow_267 : decode cX12_grow 267 = .ok (.getfield 67, 3) := by decide +kernel
theorem dX12_grow_270 : decode cX12_grow 270 = .ok (.sipush 4096, 3) := by decide +kernel
theorem dX12_grow_273 : decode cX12_grow 273 = .ok (.aload_n 0, 1) := by decide +kernel
theorem dX12_grow_274 : decode cX12_grow 274 = .ok (.getfield 394, 3) := by decide +kernel
theorem dX12_grow_277 : decode cX12_grow 277 = .ok (.imul, 1) := by decide +kernel
theorem dX12_grow_278 : decode cX12_grow 278 = .ok (.iload 7, 2) := by decide +kernel
theorem dX12_grow_280 : decode cX12_grow 280 = .ok (.iadd, 1) := by decide +kernel
theorem dX12_grow_281 : decode cX12_grow 281 = .ok (.iload 9, 2) := by decide +kernel
theorem dX12_grow_283 : decode cX12_grow 283 = .ok (.iadd, 1) := by decide +kernel
theorem dX12_grow_284 : decode cX12_grow 284 = .ok (.iaload, 1) := by decide +kernel
theorem dX12_grow_285 : decode cX12_grow 285 = .ok (.iastore, 1) := by decide +kernel
theorem dX12_grow_286 : decode cX12_grow 286 = .ok (.aload_n 0, 1) := by decide +kernel
theorem dX12_grow_287 : decode cX12_grow 287 = .ok (.getfield 70, 3) := by decide +kernel
theorem dX12_grow_290 : decode cX12_grow 290 = .ok (.sipush 4096, 3) := by decide +kernel
theorem dX12_grow_293 : decode cX12_grow 293 = .ok (.aload_n 0, 1) := by decide +kernel
theorem dX12_grow_294 : decode cX12_grow 294 = .ok (.getfield 394, 3) := by decide +kernel
theorem dX12_grow_297 : decode cX12_grow 297 = .ok (.imul, 1) := by decide +kernel
theorem dX12_grow_298 : decode cX12_grow 298 = .ok (.iload 8, 2) := by decide +kernel
theorem dX12_grow_300 : decode cX12_grow 300 = .ok (.iadd, 1) := by decide +kernel
theorem dX12_grow_301 : decode cX12_grow 301 = .ok (.iload 9, 2) := by decide +kernel
theorem dX12_grow_303 : decode cX12_grow 303 = .ok (.iadd, 1) := by decide +kernel
theorem dX12_grow_304 : decode cX12_grow 304 = .ok (.aload_n 0, 1) := by decide +kernel
theorem dX12_grow_305 : decode cX12_grow 305 = .ok (.getfield 67, 3) := by decide +kernel
theorem dX12_grow_308 : decode cX12_grow 308 = .ok (.sipush 4096, 3) := by decide +kernel
theorem dX12_grow_311 : decode cX12_grow 311 = .ok (.aload_n 0, 1) := by decide +kernel
theorem dX12_grow_312 : decode cX12_grow 312 = .ok (.getfield 394, 3) := by decide +kernel
theorem dX12_grow_315 : decode cX12_grow 315 = .ok (.imul, 1) := by decide +kernel
theorem dX12_grow_316 : decode cX12_grow 316 = .ok (.iload 7, 2) := by decide +kernel
theorem dX12_grow_318 : decode cX12_grow 318 = .ok (.iadd, 1) := by decide +kernel
theorem dX12_grow_319 : decode cX12_grow 319 = .ok (.iload 9, 2) := by decide +kernel
theorem dX12_grow_321 : decode cX12_grow 321 = .ok (.iadd, 1) := by decide +kernel
theorem dX12_grow_322 : decode cX12_grow 322 = .ok (.iaload, 1) := by decide +kernel
theorem dX12_grow_323 : decode cX12_grow 323 = .ok (.ifCond .eq 25, 3) := by decide +kernel
theorem dX12_grow_326 : decode cX12_grow 326 = .ok (.aload_n 0, 1) := by decide +kernel
theorem dX12_grow_327 : decode cX12_grow 327 = .ok (.getfield 70, 3) := by decide +kernel
theorem dX12_grow_330 : decode cX12_grow 330 = .ok (.sipush 4096, 3) := by decide +kernel
theorem dX12_grow_333 : decode cX12_grow 333 = .ok (.aload_n 0, 1) := by decide +kernel
theorem dX12_grow_334 : decode cX12_grow 334 = .ok (.getfield 394, 3) := by decide +kernel
theorem dX12_grow_337 : decode cX12_grow 337 = .ok (.imul, 1) := by decide +kernel
theorem dX12_grow_338 : decode cX12_grow 338 = .ok (.iload 7, 2) := by decide +kernel
theorem dX12_grow_340 : decode cX12_grow 340 = .ok (.iadd, 1) := by decide +kernel
theorem dX12_grow_341 : decode cX12_grow 341 = .ok (.iload 9, 2) := by decide +kernel
theorem dX12_grow_343 : decode cX12_grow 343 = .ok (.iadd, 1) := by decide +kernel
theorem dX12_grow_344 : decode cX12_grow 344 = .ok (.iaload, 1) := by decide +kernel
theorem dX12_grow_345 : decode cX12_grow 345 = .ok (.goto 4, 3) := by decide +kernel
theorem dX12_grow_348 : decode cX12_grow 348 = .ok (.iconst 0, 1) := by decide +kernel
theorem dX12_grow_349 : decode cX12_grow 349 = .ok (.iastore, 1) := by decide +kernel
theorem dX12_grow_350 : decode cX12_grow 350 = .ok (.iinc 9 1, 3) := by decide +kernel
theorem dX12_grow_353 : decode cX12_grow 353 = .ok (.goto (-150), 3) := by decide +kernel
theorem dX12_grow_356 : decode cX12_grow 356 = .ok (.aload_n 0, 1) := by decide +kernel
theorem dX12_grow_357 : decode cX12_grow 357 = .ok (.iload 4, 2) := by decide +kernel
theorem dX12_grow_359 : decode cX12_grow 359 = .ok (.invokevirtual 509, 3) := by decide +kernel
theorem dX12_grow_362 : decode cX12_grow 362 = .ok (.aload_n 0, 1) := by decide +kernel
theorem dX12_grow_363 : decode cX12_grow 363 = .ok (.aload_n 0, 1) := by decide +kernel
theorem dX12_grow_364 : decode cX12_grow 364 = .ok (.getfield 24, 3) := by decide +kernel
theorem dX12_grow_367 : decode cX12_grow 367 = .ok (.iload_n 1, 1) := by decide +kernel
theorem dX12_grow_368 : decode cX12_grow 368 = .ok (.iaload, 1) := by decide +kernel
theorem dX12_grow_369 : decode cX12_grow 369 = .ok (.iload 5, 2) := by decide +kernel
theorem dX12_grow_371 : decode cX12_grow 371 = .ok (.ifCond .le 21, 3) := by decide +kernel
theorem dX12_grow_374 : decode cX12_grow 374 = .ok (.aload_n 0, 1) := by decide +kernel
theorem dX12_grow_375 : decode cX12_grow 375 = .ok (.getfield 100, 3) := by decide +kernel
theorem dX12_grow_378 : decode cX12_grow 378 = .ok (.bipush 101, 2) := by decide +kernel
theorem dX12_grow_380 : decode cX12_grow 380 = .ok (.aload_n 0, 1) := by decide +kernel
theorem dX12_grow_381 : decode cX12_grow 381 = .ok (.getfield 394, 3) := by decide +kernel
theorem dX12_grow_384 : decode cX12_grow 384 = .ok (.imul, 1) := by decide +kernel
theorem dX12_grow_385 : decode cX12_grow 385 = .ok (.iload 5, 2) := by decide +kernel
theorem dX12_grow_387 : decode cX12_grow 387 = .ok (.iadd, 1) := by decide +kernel
theorem dX12_grow_388 : decode cX12_grow 388 = .ok (.iaload, 1) := by decide +kernel
theorem dX12_grow_389 : decode cX12_grow 389 = .ok (.goto 4, 3) := by decide +kernel
theorem dX12_grow_392 : decode cX12_grow 392 = .ok (.iconst 0, 1) := by decide +kernel
theorem dX12_grow_393 : decode cX12_grow 393 = .ok (.iconst 0, 1) := by decide +kernel
theorem dX12_grow_394 : decode cX12_grow 394 = .ok (.iconst 0, 1) := by decide +kernel
theorem dX12_grow_395 : decode cX12_grow 395 = .ok (.invokevirtual 473, 3) := by decide +kernel
theorem dX12_grow_398 : decode cX12_grow 398 = .ok (.return_, 1) := by decide +kernel
theorem dX12_step_0 : decode cX12_step 0 = .ok (.aload_n 0, 1) := by decide +kernel
theorem dX12_step_1 : decode cX12_step 1 = .ok (.aload_n 0, 1) := by decide +kernel
theorem dX12_step_2 : decode cX12_step 2 = .ok (.getfield 76, 3) := by decide +kernel
theorem dX12_step_5 : decode cX12_step 5 = .ok (.aload_n 0, 1) := by decide +kernel
theorem dX12_step_6 : decode cX12_step 6 = .ok (.getfield 394, 3) := by decide +kernel
theorem dX12_step_9 : decode cX12_step 9 = .ok (.iaload, 1) := by decide +kernel
theorem dX12_step_10 : decode cX12_step 10 = .ok (.putfield 420, 3) := by decide +kernel
theorem dX12_step_13 : decode cX12_step 13 = .ok (.aload_n 0, 1) := by decide +kernel
theorem dX12_step_14 : decode cX12_step 14 = .ok (.getfield 82, 3) := by decide +kernel
theorem dX12_step_17 : decode cX12_step 17 = .ok (.aload_n 0, 1) := by decide +kernel
theorem dX12_step_18 : decode cX12_step 18 = .ok (.getfield 394, 3) := by decide +kernel
theorem dX12_step_21 : decode cX12_step 21 = .ok (.dup2, 1) := by decide +kernel
theorem dX12_step_22 : decode cX12_step 22 = .ok (.iaload, 1) := by decide +kernel
theorem dX12_step_23 : decode cX12_step 23 = .ok (.iconst 1, 1) := by decide +kernel
theorem dX12_step_24 : decode cX12_step 24 = .ok (.iadd, 1) := by decide +kernel
theorem dX12_step_25 : decode cX12_step 25 = .ok (.iastore, 1) := by decide +kernel
theorem dX12_step_26 : decode cX12_step 26 = .ok (.aload_n 0, 1) := by decide +kernel
theorem dX12_step_27 : decode cX12_step 27 = .ok (.getfield 76, 3) := by decide +kernel
theorem dX12_step_30 : decode cX12_step 30 = .ok (.aload_n 0, 1) := by decide +kernel
theorem dX12_step_31 : decode cX12_step 31 = .ok (.getfield 394, 3) := by decide +kernel
theorem dX12_step_34 : decode cX12_step 34 = .ok (.dup2, 1) := by decide +kernel
theorem dX12_step_35 : decode cX12_step 35 = .ok (.iaload, 1) := by decide +kernel
theorem dX12_step_36 : decode cX12_step 36 = .ok (.iconst 1, 1) := by decide +kernel
theorem dX12_step_37 : decode cX12_step 37 = .ok (.iadd, 1) := by decide +kernel
theorem dX12_step_38 : decode cX12_step 38 = .ok (.iastore, 1) := by decide +kernel
theorem dX12_step_39 : decode cX12_step 39 = .ok (.aload_n 0, 1) := by decide +kernel
theorem dX12_step_40 : decode cX12_step 40 = .ok (.getfield 16, 3) := by decide +kernel
theorem dX12_step_43 : decode cX12_step 43 = .ok (.sipush 200, 3) := by decide +kernel
theorem dX12_step_46 : decode cX12_step 46 = .ok (.aload_n 0, 1) := by decide +kernel
theorem dX12_step_47 : decode cX12_step 47 = .ok (.getfield 355, 3) := by decide +kernel
theorem dX12_step_50 : decode cX12_step 50 = .ok (.imul, 1) := by decide +kernel
theorem dX12_step_51 : decode cX12_step 51 = .ok (.aload_n 0, 1) := by decide +kernel
theorem dX12_step_52 : decode cX12_step 52 = .ok (.getfield 420, 3) := by decide +kernel
theorem dX12_step_55 : decode cX12_step 55 = .ok (.iadd, 1) := by decide +kernel
theorem dX12_step_56 : decode cX12_step 56 = .ok (.iaload, 1) := by decide +kernel
theorem dX12_step_57 : decode cX12_step 57 = .ok (.istore_n 1, 1) := by decide +kernel
theorem dX12_step_58 : decode cX12_step 58 = .ok (.sipush 600, 3) := by decide +kernel
theorem dX12_step_61 : decode cX12_step 61 = .ok (.aload_n 0, 1) := by decide +kernel
theorem dX12_step_62 : decode cX12_step 62 = .ok (.getfield 355, 3) := by decide +kernel
theorem dX12_step_65 : decode cX12_step 65 = .ok (.imul, 1) := by decide +kernel
theorem dX12_step_66 : decode cX12_step 66 = .ok (.iconst 3, 1) := by decide +kernel
theorem dX12_step_67 : decode cX12_step 67 = .ok (.aload_n 0, 1) := by decide +kernel
theorem dX12_step_68 : decode cX12_step 68 = .ok (.getfield 420, 3) := by decide +kernel
theorem dX12_step_71 : decode cX12_step 71 = .ok (.imul, 1) := by decide +kernel
theorem dX12_step_72 : decode cX12_step 72 = .ok (.iadd, 1) := by decide +kernel
theorem dX12_step_73 : decode cX12_step 73 = .ok (.istore_n 2, 1) := by decide +kernel
theorem dX12_step_74 : decode cX12_step 74 = .ok (.iload_n 1, 1) := by decide +kernel
theorem dX12_step_75 : decode cX12_step 75 = .ok (.iconst 4, 1) := by decide +kernel
theorem dX12_step_76 : decode cX12_step 76 = .ok (.if_icmp .lt 15, 3) := by decide +kernel
theorem dX12_step_79 : decode cX12_step 79 = .ok (.iload_n 1, 1) := by decide +kernel
theorem dX12_step_80 : decode cX12_step 80 = .ok (.bipush 19, 2) := by decide +kernel
theorem dX12_step_82 : decode cX12_step 82 = .ok (.if_icmp .eq 9, 3) := by decide +kernel
theorem dX12_step_85 : decode cX12_step 85 = .ok (.iload_n 1, 1) := by decide +kernel
theorem dX12_step_86 : decode cX12_step 86 = .ok (.bipush 20, 2) := by decide +kernel
theorem dX12_step_88 : decode cX12_step 88 = .ok (.if_icmp .ne 12, 3) := by decide +kernel
theorem dX12_step_91 : decode cX12_step 91 = .ok (.aload_n 0, 1) := by decide +kernel
theorem dX12_step_92 : decode cX12_step 92 = .ok (.iload_n 1, 1) := by decide +kernel
theorem dX12_step_93 : decode cX12_step 93 = .ok (.iload_n 2, 1) := by decide +kernel
theorem dX12_step_94 : decode cX12_step 94 = .ok (.invokevirtual 512, 3) := by decide +kernel
theorem dX12_step_97 : decode cX12_step 97 = .ok (.goto 54, 3) := by decide +kernel
theorem dX12_step_100 : decode cX12_step 100 = .ok (.iload_n 1, 1) := by decide +kernel
theorem dX12_step_101 : decode cX12_step 101 = .ok (.bipush 19, 2) := by decide +kernel
theorem dX12_step_103 : decode cX12_step 103 = .ok (.if_icmp .ge 12, 3) := by decide +kernel
theorem dX12_step_106 : decode cX12_step 106 = .ok (.aload_n 0, 1) := by decide +kernel
theorem dX12_step_107 : decode cX12_step 107 = .ok (.iload_n 1, 1) := by decide +kernel
theorem dX12_step_108 : decode cX12_step 108 = .ok (.iload_n 2, 1) := by decide +kernel
theorem dX12_step_109 : decode cX12_step 109 = .ok (.invokevirtual 515, 3) := by decide +kernel
theorem dX12_step_112 : decode cX12_step 112 = .ok (.goto 39, 3) := by decide +kernel
theorem dX12_step_115 : decode cX12_step 115 = .ok (.iload_n 1, 1) := by decide +kernel
theorem dX12_step_116 : decode cX12_step 116 = .ok (.bipush 29, 2) := by decide +kernel
theorem dX12_step_118 : decode cX12_step 118 = .ok (.if_icmp .ge 12, 3) := by decide +kernel
theorem dX12_step_121 : decode cX12_step 121 = .ok (.aload_n 0, 1) := by decide +kernel
theorem dX12_step_122 : decode cX12_step 122 = .ok (.iload_n 1, 1) := by decide +kernel
theorem dX12_step_123 : decode cX12_step 123 = .ok (.iload_n 2, 1) := by decide +kernel
theorem dX12_step_124 : decode cX12_step 124 = .ok (.invokevirtual 518, 3) := by decide +kernel
theorem dX12_step_127 : decode cX12_step 127 = .ok (.goto 24, 3) := by decide +kernel
theorem dX12_step_130 : decode cX12_step 130 = .ok (.iload_n 1, 1) := by decide +kernel
theorem dX12_step_131 : decode cX12_step 131 = .ok (.bipush 35, 2) := by decide +kernel
theorem dX12_step_133 : decode cX12_step 133 = .ok (.if_icmp .ge 12, 3) := by decide +kernel
theorem dX12_step_136 : decode cX12_step 136 = .ok (.aload_n 0, 1) := by decide +kernel
theorem dX12_step_137 : decode cX12_step 137 = .ok (.iload_n 1, 1) := by decide +kernel
theorem dX12_step_138 : decode cX12_step 138 = .ok (.iload_n 2, 1) := by decide +kernel
theorem dX12_step_139 : decode cX12_step 139 = .ok (.invokevirtual 521, 3) := by decide +kernel
theorem dX12_step_142 : decode cX12_step 142 = .ok (.goto 9, 3) := by decide +kernel
theorem dX12_step_145 : decode cX12_step 145 = .ok (.aload_n 0, 1) := by decide +kernel
theorem dX12_step_146 : decode cX12_step 146 = .ok (.iload_n 1, 1) := by decide +kernel
theorem dX12_step_147 : decode cX12_step 147 = .ok (.iload_n 2, 1) := by decide +kernel
theorem dX12_step_148 : decode cX12_step 148 = .ok (.invokevirtual 524, 3) := by decide +kernel
theorem dX12_step_151 : decode cX12_step 151 = .ok (.aload_n 0, 1) := by decide +kernel
theorem dX12_step_152 : decode cX12_step 152 = .ok (.getfield 79, 3) := by decide +kernel
theorem dX12_step_155 : decode cX12_step 155 = .ok (.aload_n 0, 1) := by decide +kernel
theorem dX12_step_156 : decode cX12_step 156 = .ok (.getfield 394, 3) := by decide +kernel
theorem dX12_step_159 : decode cX12_step 159 = .ok (.iaload, 1) := by decide +kernel
theorem dX12_step_160 : decode cX12_step 160 = .ok (.ifCond .le 19, 3) := by decide +kernel
theorem dX12_step_163 : decode cX12_step 163 = .ok (.aload_n 0, 1) := by decide +kernel
theorem dX12_step_164 : decode cX12_step 164 = .ok (.getfield 76, 3) := by decide +kernel
theorem dX12_step_167 : decode cX12_step 167 = .ok (.aload_n 0, 1) := by decide +kernel
theorem dX12_step_168 : decode cX12_step 168 = .ok (.getfield 394, 3) := by decide +kernel
theorem dX12_step_171 : decode cX12_step 171 = .ok (.aload_n 0, 1) := by decide +kernel
theorem dX12_step_172 : decode cX12_step 172 = .ok (.getfield 420, 3) := by decide +kernel
theorem dX12_step_175 : decode cX12_step 175 = .ok (.iastore, 1) := by decide +kernel
theorem dX12_step_176 : decode cX12_step 176 = .ok (.goto 29, 3) := by decide +kernel
theorem dX12_step_179 : decode cX12_step 179 = .ok (.aload_n 0, 1) := by decide +kernel
theorem dX12_step_180 : decode cX12_step 180 = .ok (.getfield 76, 3) := by decide +kernel
theorem dX12_step_183 : decode cX12_step 183 = .ok (.aload_n 0, 1) := by decide +kernel
theorem dX12_step_184 : decode cX12_step 184 = .ok (.getfield 394, 3) := by decide +kernel
theorem dX12_step_187 : decode cX12_step 187 = .ok (.iaload, 1) := by decide +kernel
theorem dX12_step_188 : decode cX12_step 188 = .ok (.aload_n 0, 1) := by decide +kernel
theorem dX12_step_189 : decode cX12_step 189 = .ok (.getfield 377, 3) := by decide +kernel
theorem dX12_step_192 : decode cX12_step 192 = .ok (.if_icmp .lt 13, 3) := by decide +kernel
theorem dX12_step_195 : decode cX12_step 195 = .ok (.aload_n 0, 1) := by decide +kernel
theorem dX12_step_196 : decode cX12_step 196 = .ok (.getfield 79, 3) := by decide +kernel
theorem dX12_step_199 : decode cX12_step 199 = .ok (.aload_n 0, 1) := by decide +kernel
theorem dX12_step_200 : decode cX12_step 200 = .ok (.getfield 394, 3) := by decide +kernel
theorem dX12_step_203 : decode cX12_step 203 = .ok (.iconst 1, 1) := by decide +kernel
theorem dX12_step_204 : decode cX12_step 204 = .ok (.iastore, 1) := by decide +kernel
theorem dX12_step_205 : decode cX12_step 205 = .ok (.return_, 1) := by decide +kernel
theorem dX12_act_0 : decode cX12_act 0 = .ok (.iload_n 1, 1) := by decide +kernel
theorem dX12_act_1 : decode cX12_act 1 = .ok (.tableswitch 411 35 49 #[75, 91, 102, 170, 181, 187, 193, 193, 210, 216, 222, 228, 234, 312, 405], 75) := by decide +kernel
theorem dX12_act_76 : decode cX12_act 76 = .ok (.aload_n 0, 1) := by decide +kernel
theorem dX12_act_77 : decode cX12_act 77 = .ok (.getfield 76, 3) := by decide +kernel
theorem dX12_act_80 : decode cX12_act 80 = .ok (.aload_n 0, 1) := by decide +kernel
theorem dX12_act_81 : decode cX12_act 81 = .ok (.getfield 394, 3) := by decide +kernel
theorem dX12_act_84 : decode cX12_act 84 = .ok (.aload_n 0, 1) := by decide +kernel
theorem dX12_act_85 : decode cX12_act 85 = .ok (.getfield 24, 3) := by decide +kernel
theorem dX12_act_88 : decode cX12_act 88 = .ok (.iload_n 2, 1) := by decide +kernel
theorem dX12_act_89 : decode cX12_act 89 = .ok (.iaload, 1) := by decide +kernel
theorem dX12_act_90 : decode cX12_act 90 = .ok (.iastore, 1) := by decide +kernel
theorem dX12_act_91 : decode cX12_act 91 = .ok (.return_, 1) := by decide +kernel
theorem dX12_act_92 : decode cX12_act 92 = .ok (.aload_n 0, 1) := by decide +kernel
theorem dX12_act_93 : decode cX12_act 93 = .ok (.aload_n 0, 1) := by decide +kernel
theorem dX12_act_94 : decode cX12_act 94 = .ok (.getfield 24, 3) := by decide +kernel
theorem dX12_act_97 : decode cX12_act 97 = .ok (.iload_n 2, 1) := by decide +kernel
theorem dX12_act_98 : decode cX12_act 98 = .ok (.iaload, 1) := by decide +kernel
theorem dX12_act_99 : decode cX12_act 99 = .ok (.invokevirtual 527, 3) := by decide +kernel
theorem dX12_act_102 : decode cX12_act 102 = .ok (.return_, 1) := by decide +kernel
theorem dX12_act_103 : decode cX12_act 103 = .ok (.aload_n 0, 1) := by decide +kernel
theorem dX12_act_104 : decode cX12_act 104 = .ok (.getfield 94, 3) := by decide +kernel
theorem dX12_act_107 : decode cX12_act 107 = .ok (.aload_n 0, 1) := by decide +kernel
theorem dX12_act_108 : decode cX12_act 108 = .ok (.getfield 394, 3) := by decide +kernel
theorem dX12_act_111 : decode cX12_act 111 = .ok (.iaload, 1) := by decide +kernel
theorem dX12_act_112 : decode cX12_act 112 = .ok (.ifCond .ne 14, 3) := by decide +kernel
theorem dX12_act_115 : decode cX12_act 115 = .ok (.aload_n 0, 1) := by decide +kernel
theorem dX12_act_116 : decode cX12_act 116 = .ok (.getfield 79, 3) := by decide +kernel
theorem dX12_act_119 : decode cX12_act 119 = .ok (.aload_n 0, 1) := by decide +kernel
theorem dX12_act_120 : decode cX12_act 120 = .ok (.getfield 394, 3) := by decide +kernel
theorem dX12_act_123 : decode cX12_act 123 = .ok (.iconst 1, 1) := by decide +kernel
theorem dX12_act_124 : decode cX12_act 124 = .ok (.iastore, 1) := by decide +kernel
theorem dX12_act_125 : decode cX12_act 125 = .ok (.return_, 1) := by decide +kernel
theorem dX12_act_126 : decode cX12_act 126 = .ok (.aload_n 0, 1) := by decide +kernel
theorem dX12_act_127 : decode cX12_act 127 = .ok (.getfield 94, 3) := by decide +kernel
theorem dX12_act_130 : decode cX12_act 130 = .ok (.aload_n 0, 1) := by decide +kernel
theorem dX12_act_131 : decode cX12_act 131 = .ok (.getfield 394, 3) := by decide +kernel
theorem dX12_act_134 : decode cX12_act 134 = .ok (.dup2, 1) := by decide +kernel
theorem dX12_act_135 : decode cX12_act 135 = .ok (.iaload, 1) := by decide +kernel
theorem dX12_act_136 : decode cX12_act 136 = .ok (.iconst 1, 1) := by decide +kernel
theorem dX12_act_137 : decode cX12_act 137 = .ok (.isub, 1) := by decide +kernel
theorem dX12_act_138 : decode cX12_act 138 = .ok (.iastore, 1) := by decide +kernel
theorem dX12_act_139 : decode cX12_act 139 = .ok (.aload_n 0, 1) := by decide +kernel
theorem dX12_act_140 : decode cX12_act 140 = .ok (.getfield 76, 3) := by decide +kernel
theorem dX12_act_143 : decode cX12_act 143 = .ok (.aload_n 0, 1) := by decide +kernel
theorem dX12_act_144 : decode cX12_act 144 = .ok (.getfield 394, 3) := by decide +kernel
theorem dX12_act_147 : decode cX12_act 147 = .ok (.aload_n 0, 1) := by decide +kernel
theorem dX12_act_148 : decode cX12_act 148 = .ok (.getfield 91, 3) := by decide +kernel
theorem dX12_act_151 : decode cX12_act 151 = .ok (.bipush 32, 2) := by decide +kernel
theorem dX12_act_153 : decode cX12_act 153 = .ok (.aload_n 0, 1) := by decide +kernel
theorem dX12_act_154 : decode cX12_act 154 = .ok (.getfield 394, 3) := by decide +kernel
theorem dX12_act_157 : decode cX12_act 157 = .ok (.imul, 1) := by decide +kernel
theorem dX12_act_158 : decode cX12_act 158 = .ok (.aload_n 0, 1) := by decide +kernel
theorem dX12_act_159 : decode cX12_act 159 = .ok (.getfield 94, 3) := by decide +kernel
theorem dX12_act_162 : decode cX12_act 162 = .ok (.aload_n 0, 1) := by decide +kernel
theorem dX12_act_163 : decode cX12_act 163 = .ok (.getfield 394, 3) := by decide +kernel
theorem dX12_act_166 : decode cX12_act 166 = .ok (.iaload, 1) := by decide +kernel
theorem dX12_act_167 : decode cX12_act 167 = .ok (.iadd, 1) := by decide +kernel
theorem dX12_act_168 : decode cX12_act 168 = .ok (.iaload, 1) := by decide +kernel
theorem dX12_act_169 : decode cX12_act 169 = .ok (.iastore, 1) := by decide +kernel
theorem dX12_act_170 : decode cX12_act 170 = .ok (.return_, 1) := by decide +kernel
theorem dX12_act_171 : decode cX12_act 171 = .ok (.aload_n 0, 1) := by decide +kernel
theorem dX12_act_172 : decode cX12_act 172 = .ok (.getfield 79, 3) := by decide +kernel
theorem dX12_act_175 : decode cX12_act 175 = .ok (.aload_n 0, 1) := by decide +kernel
theorem dX12_act_176 : decode cX12_act 176 = .ok (.getfield 394, 3) := by decide +kernel
theorem dX12_act_179 : decode cX12_act 179 = .ok (.iconst 1, 1) := by decide +kernel
theorem dX12_act_180 : decode cX12_act 180 = .ok (.iastore, 1) := by decide +kernel
theorem dX12_act_181 : decode cX12_act 181 = .ok (.return_, 1) := by decide +kernel
theorem dX12_act_182 : decode cX12_act 182 = .ok (.aload_n 0, 1) := by decide +kernel
theorem dX12_act_183 : decode cX12_act 183 = .ok (.iload_n 2, 1) := by decide +kernel
theorem dX12_act_184 : decode cX12_act 184 = .ok (.invokevirtual 530, 3) := by decide +kernel
theorem dX12_act_187 : decode cX12_act 187 = .ok (.return_, 1) := by decide +kernel
theorem dX12_act_188 : decode cX12_act 188 = .ok (.aload_n 0, 1) := by decide +kernel
theorem dX12_act_189 : decode cX12_act 189 = .ok (.iload_n 2, 1) := by decide +kernel
theorem dX12_act_190 : decode cX12_act 190 = .ok (.invokevirtual 533, 3) := by decide +kernel
theorem dX12_act_193 : decode cX12_act 193 = .ok (.return_, 1) := by decide +kernel
theorem dX12_act_194 : decode cX12_act 194 = .ok (.aload_n 0, 1) := by decide +kernel
theorem dX12_act_195 : decode cX12_act 195 = .ok (.iload_n 2, 1) := by decide +kernel
theorem dX12_act_196 : decode cX12_act 196 = .ok (.iload_n 1, 1) := by decide +kernel
theorem dX12_act_197 : decode cX12_act 197 = .ok (.bipush 42, 2) := by decide +kernel
theorem dX12_act_199 : decode cX12_act 199 = .ok (.if_icmp .ne 7, 3) := by decide +kernel
theorem dX12_act_202 : decode cX12_act 202 = .ok (.iconst 1, 1) := by decide +kernel
theorem dX12_act_203 : decode cX12_act 203 = .ok (.goto 4, 3) := by decide +kernel
theorem dX12_act_206 : decode cX12_act 206 = .ok (.iconst 0, 1) := by decide +kernel
theorem dX12_act_207 : decode cX12_act 207 = .ok (.invokevirtual 536, 3) := by decide +kernel
theorem dX12_act_210 : decode cX12_act 210 = .ok (.return_, 1) := by decide +kernel
theorem dX12_act_211 : decode cX12_act 211 = .ok (.aload_n 0, 1) := by decide +kernel
theorem dX12_act_212 : decode cX12_act 212 = .ok (.iload_n 2, 1) := by decide +kernel
theorem dX12_act_213 : decode cX12_act 213 = .ok (.invokevirtual 540, 3) := by decide +kernel
theorem dX12_act_216 : decode cX12_act 216 = .ok (.return_, 1) := by decide +kernel
theorem dX12_act_217 : decode cX12_act 217 = .ok (.aload_n 0, 1) := by decide +kernel
theorem dX12_act_218 : decode cX12_act 218 = .ok (.iload_n 2, 1) := by decide +kernel
theorem dX12_act_219 : decode cX12_act 219 = .ok (.invokevirtual 543, 3) := by decide +kernel
theorem dX12_act_222 : decode cX12_act 222 = .ok (.return_, 1) := by decide +kernel
theorem dX12_act_223 : decode cX12_act 223 = .ok (.aload_n 0, 1) := by decide +kernel
theorem dX12_act_224 : decode cX12_act 224 = .ok (.iload_n 2, 1) := by decide +kernel
theorem dX12_act_225 : decode cX12_act 225 = .ok (.invokevirtual 546, 3) := by decide +kernel
theorem dX12_act_228 : decode cX12_act 228 = .ok (.return_, 1) := by decide +kernel
theorem dX12_act_229 : decode cX12_act 229 = .ok (.aload_n 0, 1) := by decide +kernel
theorem dX12_act_230 : decode cX12_act 230 = .ok (.iload_n 2, 1) := by decide +kernel
theorem dX12_act_231 : decode cX12_act 231 = .ok (.invokevirtual 549, 3) := by decide +kernel
theorem dX12_act_234 : decode cX12_act 234 = .ok (.return_, 1) := by decide +kernel
theorem dX12_act_235 : decode cX12_act 235 = .ok (.aload_n 0, 1) := by decide +kernel
theorem dX12_act_236 : decode cX12_act 236 = .ok (.getfield 97, 3) := by decide +kernel
theorem dX12_act_239 : decode cX12_act 239 = .ok (.aload_n 0, 1) := by decide +kernel
theorem dX12_act_240 : decode cX12_act 240 = .ok (.getfield 394, 3) := by decide +kernel
theorem dX12_act_243 : decode cX12_act 243 = .ok (.iaload, 1) := by decide +kernel
theorem dX12_act_244 : decode cX12_act 244 = .ok (.aload_n 0, 1) := by decide +kernel
theorem dX12_act_245 : decode cX12_act 245 = .ok (.getfield 384, 3) := by decide +kernel
theorem dX12_act_248 : decode cX12_act 248 = .ok (.if_icmp .ge 20, 3) := by decide +kernel
theorem dX12_act_251 : decode cX12_act 251 = .ok (.aload_n 0, 1) := by decide +kernel
theorem dX12_act_252 : decode cX12_act 252 = .ok (.getfield 124, 3) := by decide +kernel
theorem dX12_act_255 : decode cX12_act 255 = .ok (.aload_n 0, 1) := by decide +kernel
theorem dX12_act_256 : decode cX12_act 256 = .ok (.getfield 97, 3) := by decide +kernel
theorem dX12_act_259 : decode cX12_act 259 = .ok (.aload_n 0, 1) := by decide +kernel
theorem dX12_act_260 : decode cX12_act 260 = .ok (.getfield 394, 3) := by decide +kernel
theorem dX12_act_263 : decode cX12_act 263 = .ok (.iaload, 1) := by decide +kernel
theorem dX12_act_264 : decode cX12_act 264 = .ok (.iaload, 1) := by decide +kernel
theorem dX12_act_265 : decode cX12_act 265 = .ok (.goto 4, 3) := by decide +kernel
theorem dX12_act_268 : decode cX12_act 268 = .ok (.iconst (-1), 1) := by decide +kernel
theorem dX12_act_269 : decode cX12_act 269 = .ok (.istore_n 3, 1) := by decide +kernel
theorem dX12_act_270 : decode cX12_act 270 = .ok (.aload_n 0, 1) := by decide +kernel
theorem dX12_act_271 : decode cX12_act 271 = .ok (.getfield 97, 3) := by decide +kernel
theorem dX12_act_274 : decode cX12_act 274 = .ok (.aload_n 0, 1) := by decide +kernel
theorem dX12_act_275 : decode cX12_act 275 = .ok (.getfield 394, 3) := by decide +kernel
theorem dX12_act_278 : decode cX12_act 278 = .ok (.iaload, 1) := by decide +kernel
theorem dX12_act_279 : decode cX12_act 279 = .ok (.aload_n 0, 1) := by decide +kernel
theorem dX12_act_280 : decode cX12_act 280 = .ok (.getfield 384, 3) := by decide +kernel
theorem dX12_act_283 : decode cX12_act 283 = .ok (.if_icmp .ge 16, 3) := by decide +kernel
theorem dX12_act_286 : decode cX12_act 286 = .ok (.aload_n 0, 1) := by decide +kernel
theorem dX12_act_287 : decode cX12_act 287 = .ok (.getfield 97, 3) := by decide +kernel
theorem dX12_act_290 : decode cX12_act 290 = .ok (.aload_n 0, 1) := by decide +kernel
theorem dX12_act_291 : decode cX12_act 291 = .ok (.getfield 394, 3) := by decide +kernel
theorem dX12_act_294 : decode cX12_act 294 = .ok (.dup2, 1) := by decide +kernel
theorem dX12_act_295 : decode cX12_act 295 = .ok (.iaload, 1) := by decide +kernel
theorem dX12_act_296 : decode cX12_act 296 = .ok (.iconst 1, 1) := by decide +kernel
theorem dX12_act_297 : decode cX12_act 297 = .ok (.iadd, 1) := by decide +kernel
theorem dX12_act_298 : decode cX12_act 298 = .ok (.iastore, 1) := by decide +kernel
theorem dX12_act_299 : decode cX12_act 299 = .ok (.aload_n 0, 1) := by decide +kernel
theorem dX12_act_300 : decode cX12_act 300 = .ok (.aload_n 0, 1) := by decide +kernel
theorem dX12_act_301 : decode cX12_act 301 = .ok (.getfield 24, 3) := by decide +kernel
theorem dX12_act_304 : decode cX12_act 304 = .ok (.iload_n 2, 1) := by decide +kernel
theorem dX12_act_305 : decode cX12_act 305 = .ok (.iaload, 1) := by decide +kernel
theorem dX12_act_306 : decode cX12_act 306 = .ok (.iload_n 3, 1) := by decide +kernel
theorem dX12_act_307 : decode cX12_act 307 = .ok (.iconst 0, 1) := by decide +kernel
theorem dX12_act_308 : decode cX12_act 308 = .ok (.iconst 0, 1) := by decide +kernel
theorem dX12_act_309 : decode cX12_act 309 = .ok (.invokevirtual 473, 3) := by decide +kernel
theorem dX12_act_312 : decode cX12_act 312 = .ok (.return_, 1) := by decide +kernel
theorem dX12_act_313 : decode cX12_act 313 = .ok (.aload_n 0, 1) := by decide +kernel
theorem dX12_act_314 : decode cX12_act 314 = .ok (.iload_n 2, 1) := by decide +kernel
theorem dX12_act_315 : decode cX12_act 315 = .ok (.invokevirtual 454, 3) := by decide +kernel
theorem dX12_act_318 : decode cX12_act 318 = .ok (.ifCond .eq 13, 3) := by decide +kernel
theorem dX12_act_321 : decode cX12_act 321 = .ok (.aload_n 0, 1) := by decide +kernel
theorem dX12_act_322 : decode cX12_act 322 = .ok (.iconst 3, 1) := by decide +kernel
theorem dX12_act_323 : decode cX12_act 323 = .ok (.aload_n 0, 1) := by decide +kernel
theorem dX12_act_324 : decode cX12_act 324 = .ok (.iload_n 2, 1) := by decide +kernel
theorem dX12_act_325 : decode cX12_act 325 = .ok (.invokevirtual 457, 3) := by decide +kernel
theorem dX12_act_328 : decode cX12_act 328 = .ok (.invokevirtual 460, 3) := by decide +kernel
theorem dX12_act_331 : decode cX12_act 331 = .ok (.aload_n 0, 1) := by decide +kernel
theorem dX12_act_332 : decode cX12_act 332 = .ok (.getfield 85, 3) := by decide +kernel
theorem dX12_act_335 : decode cX12_act 335 = .ok (.aload_n 0, 1) := by decide +kernel
theorem dX12_act_336 : decode cX12_act 336 = .ok (.getfield 394, 3) := by decide +kernel
theorem dX12_act_339 : decode cX12_act 339 = .ok (.aload_n 0, 1) := by decide +kernel
theorem dX12_act_340 : decode cX12_act 340 = .ok (.getfield 85, 3) := by decide +kernel
theorem dX12_act_343 : decode cX12_act 343 = .ok (.aload_n 0, 1) := by decide +kernel
theorem dX12_act_344 : decode cX12_act 344 = .ok (.getfield 394, 3) := by decide +kernel
theorem dX12_act_347 : decode cX12_act 347 = .ok (.iaload, 1) := by decide +kernel
theorem dX12_act_348 : decode cX12_act 348 = .ok (.bipush 31, 2) := by decide +kernel
theorem dX12_act_350 : decode cX12_act 350 = .ok (.imul, 1) := by decide +kernel
theorem dX12_act_351 : decode cX12_act 351 = .ok (.iconst 3, 1) := by decide +kernel
theorem dX12_act_352 : decode cX12_act 352 = .ok (.iadd, 1) := by decide +kernel
theorem dX12_act_353 : decode cX12_act 353 = .ok (.bipush 31, 2) := by decide +kernel
theorem dX12_act_355 : decode cX12_act 355 = .ok (.imul, 1) := by decide +kernel
theorem dX12_act_356 : decode cX12_act 356 = .ok (.aload_n 0, 1) := by decide +kernel
theorem dX12_act_357 : decode cX12_act 357 = .ok (.iload_n 2, 1) := by decide +kernel
theorem dX12_act_358 : decode cX12_act 358 = .ok (.invokevirtual 451, 3) := by decide +kernel
theorem dX12_act_361 : decode cX12_act 361 = .ok (.iadd, 1) := by decide +kernel
theorem dX12_act_362 : decode cX12_act 362 = .ok (.iastore, 1) := by decide +kernel
theorem dX12_act_363 : decode cX12_act 363 = .ok (.aload_n 0, 1) := by decide +kernel
theorem dX12_act_364 : decode cX12_act 364 = .ok (.getfield 394, 3) := by decide +kernel
theorem dX12_act_367 : decode cX12_act 367 = .ok (.iconst 1, 1) := by decide +kernel
theorem dX12_act_368 : decode cX12_act 368 = .ok (.if_icmp .ne 4, 3) := by decide +kernel
theorem dX12_act_371 : decode cX12_act 371 = .ok (.return_, 1) := by decide +kernel
theorem dX12_act_372 : decode cX12_act 372 = .ok (.aload_n 0, 1) := by decide +kernel
theorem dX12_act_373 : decode cX12_act 373 = .ok (.getfield 409, 3) := by decide +kernel
theorem dX12_act_376 : decode cX12_act 376 = .ok (.bipush 100, 2) := by decide +kernel
theorem dX12_act_378 : decode cX12_act 378 = .ok (.if_icmp .ge 17, 3) := by decide +kernel
theorem dX12_act_381 : decode cX12_act 381 = .ok (.aload_n 0, 1) := by decide +kernel
theorem dX12_act_382 : decode cX12_act 382 = .ok (.getfield 127, 3) := by decide +kernel
theorem dX12_act_385 : decode cX12_act 385 = .ok (.aload_n 0, 1) := by decide +kernel
theorem dX12_act_386 : decode cX12_act 386 = .ok (.getfield 409, 3) := by decide +kernel
theorem dX12_act_389 : decode cX12_act 389 = .ok (.aload_n 0, 1) := by decide +kernel
theorem dX12_act_390 : decode cX12_act 390 = .ok (.iload_n 2, 1) := by decide +kernel
theorem dX12_act_391 : decode cX12_act 391 = .ok (.invokevirtual 451, 3) := by decide +kernel
theorem dX12_act_394 : decode cX12_act 394 = .ok (.iastore, 1) := by decide +kernel
theorem dX12_act_395 : decode cX12_act 395 = .ok (.aload_n 0, 1) := by decide +kernel
theorem dX12_act_396 : decode cX12_act 396 = .ok (.dup, 1) := by decide +kernel
theorem dX12_act_397 : decode cX12_act 397 = .ok (.getfield 409, 3) := by decide +kernel
theorem dX12_act_400 : decode cX12_act 400 = .ok (.iconst 1, 1) := by decide +kernel
theorem dX12_act_401 : decode cX12_act 401 = .ok (.iadd, 1) := by decide +kernel
theorem dX12_act_402 : decode cX12_act 402 = .ok (.putfield 409, 3) := by decide +kernel
theorem dX12_act_405 : decode cX12_act 405 = .ok (.return_, 1) := by decide +kernel
theorem dX12_act_406 : decode cX12_act 406 = .ok (.aload_n 0, 1) := by decide +kernel
theorem dX12_act_407 : decode cX12_act 407 = .ok (.iload_n 2, 1) := by decide +kernel
theorem dX12_act_408 : decode cX12_act 408 = .ok (.invokevirtual 552, 3) := by decide +kernel
theorem dX12_act_411 : decode cX12_act 411 = .ok (.return_, 1) := by decide +kernel
theorem dX12_act_412 : decode cX12_act 412 = .ok (.aload_n 0, 1) := by decide +kernel
theorem dX12_act_413 : decode cX12_act 413 = .ok (.iload_n 2, 1) := by decide +kernel
theorem dX12_act_414 : decode cX12_act 414 = .ok (.invokevirtual 555, 3) := by decide +kernel
theorem dX12_act_417 : decode cX12_act 417 = .ok (.return_, 1) := by decide +kernel
theorem dX12_spend_0 : decode cX12_spend 0 = .ok (.aload_n 0, 1) := by decide +kernel
theorem dX12_spend_1 : decode cX12_spend 1 = .ok (.iload_n 1, 1) := by decide +kernel
theorem dX12_spend_2 : decode cX12_spend 2 = .ok (.ldc_w 558, 3) := by decide +kernel
theorem dX12_spend_5 : decode cX12_spend 5 = .ok (.aload_n 0, 1) := by decide +kernel
theorem dX12_spend_6 : decode cX12_spend 6 = .ok (.getfield 559, 3) := by decide +kernel
theorem dX12_spend_9 : decode cX12_spend 9 = .ok (.isub, 1) := by decide +kernel
theorem dX12_spend_10 : decode cX12_spend 10 = .ok (.if_icmp .ge 7, 3) := by decide +kernel
theorem dX12_spend_13 : decode cX12_spend 13 = .ok (.iload_n 1, 1) := by decide +kernel
theorem dX12_spend_14 : decode cX12_spend 14 = .ok (.goto 11, 3) := by decide +kernel
theorem dX12_spend_17 : decode cX12_spend 17 = .ok (.ldc_w 558, 3) := by decide +kernel
theorem dX12_spend_20 : decode cX12_spend 20 = .ok (.aload_n 0, 1) := by decide +kernel
theorem dX12_spend_21 : decode cX12_spend 21 = .ok (.getfield 559, 3) := by decide +kernel
theorem dX12_spend_24 : decode cX12_spend 24 = .ok (.isub, 1) := by decide +kernel
theorem dX12_spend_25 : decode cX12_spend 25 = .ok (.invokevirtual 562, 3) := by decide +kernel
theorem dX12_spend_28 : decode cX12_spend 28 = .ok (.istore_n 2, 1) := by decide +kernel
theorem dX12_spend_29 : decode cX12_spend 29 = .ok (.aload_n 0, 1) := by decide +kernel
theorem dX12_spend_30 : decode cX12_spend 30 = .ok (.dup, 1) := by decide +kernel
theorem dX12_spend_31 : decode cX12_spend 31 = .ok (.getfield 559, 3) := by decide +kernel
theorem dX12_spend_34 : decode cX12_spend 34 = .ok (.iload_n 2, 1) := by decide +kernel
theorem dX12_spend_35 : decode cX12_spend 35 = .ok (.iadd, 1) := by decide +kernel
theorem dX12_spend_36 : decode cX12_spend 36 = .ok (.putfield 559, 3) := by decide +kernel
theorem dX12_spend_39 : decode cX12_spend 39 = .ok (.iload_n 2, 1) := by decide +kernel
theorem dX12_spend_40 : decode cX12_spend 40 = .ok (.ireturn, 1) := by decide +kernel
theorem dX12_go_0 : decode cX12_go 0 = .ok (.aload_n 0, 1) := by decide +kernel
theorem dX12_go_1 : decode cX12_go 1 = .ok (.getfield 82, 3) := by decide +kernel
theorem dX12_go_4 : decode cX12_go 4 = .ok (.aload_n 0, 1) := by decide +kernel
theorem dX12_go_5 : decode cX12_go 5 = .ok (.getfield 394, 3) := by decide +kernel
theorem dX12_go_8 : decode cX12_go 8 = .ok (.iaload, 1) := by decide +kernel
theorem dX12_go_9 : decode cX12_go 9 = .ok (.istore_n 2, 1) := by decide +kernel
theorem dX12_go_10 : decode cX12_go 10 = .ok (.aload_n 0, 1) := by decide +kernel
theorem dX12_go_11 : decode cX12_go 11 = .ok (.getfield 79, 3) := by decide +kernel
theorem dX12_go_14 : decode cX12_go 14 = .ok (.aload_n 0, 1) := by decide +kernel
theorem dX12_go_15 : decode cX12_go 15 = .ok (.getfield 394, 3) := by decide +kernel
theorem dX12_go_18 : decode cX12_go 18 = .ok (.iaload, 1) := by decide +kernel
theorem dX12_go_19 : decode cX12_go 19 = .ok (.ifCond .ne 25, 3) := by decide +kernel
theorem dX12_go_22 : decode cX12_go 22 = .ok (.aload_n 0, 1) := by decide +kernel
theorem dX12_go_23 : decode cX12_go 23 = .ok (.getfield 82, 3) := by decide +kernel
theorem dX12_go_26 : decode cX12_go 26 = .ok (.aload_n 0, 1) := by decide +kernel
theorem dX12_go_27 : decode cX12_go 27 = .ok (.getfield 394, 3) := by decide +kernel
theorem dX12_go_30 : decode cX12_go 30 = .ok (.iaload, 1) := by decide +kernel
theorem dX12_go_31 : decode cX12_go 31 = .ok (.iload_n 2, 1) := by decide +kernel
theorem dX12_go_32 : decode cX12_go 32 = .ok (.isub, 1) := by decide +kernel
theorem dX12_go_33 : decode cX12_go 33 = .ok (.iload_n 1, 1) := by decide +kernel
theorem dX12_go_34 : decode cX12_go 34 = .ok (.if_icmp .ge 10, 3) := by decide +kernel
theorem dX12_go_37 : decode cX12_go 37 = .ok (.aload_n 0, 1) := by decide +kernel
theorem dX12_go_38 : decode cX12_go 38 = .ok (.invokevirtual 565, 3) := by decide +kernel
theorem dX12_go_41 : decode cX12_go 41 = .ok (.goto (-31), 3) := by decide +kernel
theorem dX12_go_44 : decode cX12_go 44 = .ok (.aload_n 0, 1) := by decide +kernel
theorem dX12_go_45 : decode cX12_go 45 = .ok (.getfield 82, 3) := by decide +kernel
theorem dX12_go_48 : decode cX12_go 48 = .ok (.aload_n 0, 1) := by decide +kernel
theorem dX12_go_49 : decode cX12_go 49 = .ok (.getfield 394, 3) := by decide +kernel
theorem dX12_go_52 : decode cX12_go 52 = .ok (.iaload, 1) := by decide +kernel
theorem dX12_go_53 : decode cX12_go 53 = .ok (.iload_n 2, 1) := by decide +kernel
theorem dX12_go_54 : decode cX12_go 54 = .ok (.isub, 1) := by decide +kernel
theorem dX12_go_55 : decode cX12_go 55 = .ok (.ireturn, 1) := by decide +kernel
theorem dX12_isPointer_0 : decode cX12_isPointer 0 = .ok (.iconst 1, 1) := by decide +kernel
theorem dX12_isPointer_1 : decode cX12_isPointer 1 = .ok (.istore_n 2, 1) := by decide +kernel
theorem dX12_isPointer_2 : decode cX12_isPointer 2 = .ok (.iconst 0, 1) := by decide +kernel
theorem dX12_isPointer_3 : decode cX12_isPointer 3 = .ok (.istore_n 3, 1) := by decide +kernel
theorem dX12_isPointer_4 : decode cX12_isPointer 4 = .ok (.iload_n 3, 1) := by decide +kernel
theorem dX12_isPointer_5 : decode cX12_isPointer 5 = .ok (.iconst 4, 1) := by decide +kernel
theorem dX12_isPointer_6 : decode cX12_isPointer 6 = .ok (.if_icmp .ge 41, 3) := by decide +kernel
theorem dX12_isPointer_9 : decode cX12_isPointer 9 = .ok (.iload_n 2, 1) := by decide +kernel
theorem dX12_isPointer_10 : decode cX12_isPointer 10 = .ok (.ifCond .eq 29, 3) := by decide +kernel
theorem dX12_isPointer_13 : decode cX12_isPointer 13 = .ok (.aload_n 0, 1) := by decide +kernel
theorem dX12_isPointer_14 : decode cX12_isPointer 14 = .ok (.getfield 73, 3) := by decide +kernel
theorem dX12_isPointer_17 : decode cX12_isPointer 17 = .ok (.iload_n 1, 1) := by decide +kernel
theorem dX12_isPointer_18 : decode cX12_isPointer 18 = .ok (.iload_n 3, 1) := by decide +kernel
theorem dX12_isPointer_19 : decode cX12_isPointer 19 = .ok (.iadd, 1) := by decide +kernel
theorem dX12_isPointer_20 : decode cX12_isPointer 20 = .ok (.baload, 1) := by decide +kernel
theorem dX12_isPointer_21 : decode cX12_isPointer 21 = .ok (.ifCond .eq 18, 3) := by decide +kernel
theorem dX12_isPointer_24 : decode cX12_isPointer 24 = .ok (.aload_n 0, 1) := by decide +kernel
theorem dX12_isPointer_25 : decode cX12_isPointer 25 = .ok (.getfield 67, 3) := by decide +kernel
theorem dX12_isPointer_28 : decode cX12_isPointer 28 = .ok (.iload_n 1, 1) := by decide +kernel
theorem dX12_isPointer_29 : decode cX12_isPointer 29 = .ok (.iload_n 3, 1) := by decide +kernel
theorem dX12_isPointer_30 : decode cX12_isPointer 30 = .ok (.iadd, 1) := by decide +kernel
theorem dX12_isPointer_31 : decode cX12_isPointer 31 = .ok (.iaload, 1) := by decide +kernel
theorem dX12_isPointer_32 : decode cX12_isPointer 32 = .ok (.ifCond .ne 7, 3) := by decide +kernel
theorem dX12_isPointer_35 : decode cX12_isPointer 35 = .ok (.iconst 1, 1) := by decide +kernel
theorem dX12_isPointer_36 : decode cX12_isPointer 36 = .ok (.goto 4, 3) := by decide +kernel
theorem dX12_isPointer_39 : decode cX12_isPointer 39 = .ok (.iconst 0, 1) := by decide +kernel
theorem dX12_isPointer_40 : decode cX12_isPointer 40 = .ok (.istore_n 2, 1) := by decide +kernel
theorem dX12_isPointer_41 : decode cX12_isPointer 41 = .ok (.iinc 3 1, 3) := by decide +kernel
theorem dX12_isPointer_44 : decode cX12_isPointer 44 = .ok (.goto (-40), 3) := by decide +kernel
theorem dX12_isPointer_47 : decode cX12_isPointer 47 = .ok (.iload_n 2, 1) := by decide +kernel
theorem dX12_isPointer_48 : decode cX12_isPointer 48 = .ok (.ireturn, 1) := by decide +kernel
theorem dX12_word_0 : decode cX12_word 0 = .ok (.aload_n 0, 1) := by decide +kernel
theorem dX12_word_1 : decode cX12_word 1 = .ok (.getfield 64, 3) := by decide +kernel
theorem dX12_word_4 : decode cX12_word 4 = .ok (.iload_n 1, 1) := by decide +kernel
theorem dX12_word_5 : decode cX12_word 5 = .ok (.iaload, 1) := by decide +kernel
theorem dX12_word_6 : decode cX12_word 6 = .ok (.aload_n 0, 1) := by decide +kernel
theorem dX12_word_7 : decode cX12_word 7 = .ok (.getfield 64, 3) := by decide +kernel
theorem dX12_word_10 : decode cX12_word 10 = .ok (.iload_n 1, 1) := by decide +kernel
theorem dX12_word_11 : decode cX12_word 11 = .ok (.iconst 1, 1) := by decide +kernel
theorem dX12_word_12 : decode cX12_word 12 = .ok (.iadd, 1) := by decide +kernel
theorem dX12_word_13 : decode cX12_word 13 = .ok (.iaload, 1) := by decide +kernel
theorem dX12_word_14 : decode cX12_word 14 = .ok (.bipush 8, 2) := by decide +kernel
theorem dX12_word_16 : decode cX12_word 16 = .ok (.ishl, 1) := by decide +kernel
theorem dX12_word_17 : decode cX12_word 17 = .ok (.ior, 1) := by decide +kernel
theorem dX12_word_18 : decode cX12_word 18 = .ok (.aload_n 0, 1) := by decide +kernel
theorem dX12_word_19 : decode cX12_word 19 = .ok (.getfield 64, 3) := by decide +kernel
theorem dX12_word_22 : decode cX12_word 22 = .ok (.iload_n 1, 1) := by decide +kernel
theorem dX12_word_23 : decode cX12_word 23 = .ok (.iconst 2, 1) := by decide +kernel
theorem dX12_word_24 : decode cX12_word 24 = .ok (.iadd, 1) := by decide +kernel
theorem dX12_word_25 : decode cX12_word 25 = .ok (.iaload, 1) := by decide +kernel
theorem dX12_word_26 : decode cX12_word 26 = .ok (.bipush 16, 2) := by decide +kernel
theorem dX12_word_28 : decode cX12_word 28 = .ok (.ishl, 1) := by decide +kernel
theorem dX12_word_29 : decode cX12_word 29 = .ok (.ior, 1) := by decide +kernel
theorem dX12_word_30 : decode cX12_word 30 = .ok (.aload_n 0, 1) := by decide +kernel
theorem dX12_word_31 : decode cX12_word 31 = .ok (.getfield 64, 3) := by decide +kernel
theorem dX12_word_34 : decode cX12_word 34 = .ok (.iload_n 1, 1) := by decide +kernel
theorem dX12_word_35 : decode cX12_word 35 = .ok (.iconst 3, 1) := by decide +kernel
theorem dX12_word_36 : decode cX12_word 36 = .ok (.iadd, 1) := by decide +kernel
theorem dX12_word_37 : decode cX12_word 37 = .ok (.iaload, 1) := by decide +kernel
theorem dX12_word_38 : decode cX12_word 38 = .ok (.bipush 24, 2) := by decide +kernel
theorem dX12_word_40 : decode cX12_word 40 = .ok (.ishl, 1) := by decide +kernel
theorem dX12_word_41 : decode cX12_word 41 = .ok (.ior, 1) := by decide +kernel
theorem dX12_word_42 : decode cX12_word 42 = .ok (.ireturn, 1) := by decide +kernel
theorem dX12_leads_0 : decode cX12_leads 0 = .ok (.iload_n 3, 1) := by decide +kernel
theorem dX12_leads_1 : decode cX12_leads 1 = .ok (.ifCond .eq 38, 3) := by decide +kernel
theorem dX12_leads_4 : decode cX12_leads 4 = .ok (.iload_n 1, 1) := by decide +kernel
theorem dX12_leads_5 : decode cX12_leads 5 = .ok (.aload_n 0, 1) := by decide +kernel
theorem dX12_leads_6 : decode cX12_leads 6 = .ok (.getfield 100, 3) := by decide +kernel
theorem dX12_leads_9 : decode cX12_leads 9 = .ok (.iload_n 2, 1) := by decide +kernel
theorem dX12_leads_10 : decode cX12_leads 10 = .ok (.iaload, 1) := by decide +kernel
theorem dX12_leads_11 : decode cX12_leads 11 = .ok (.if_icmp .le 24, 3) := by decide +kernel
theorem dX12_leads_14 : decode cX12_leads 14 = .ok (.iload_n 1, 1) := by decide +kernel
theorem dX12_leads_15 : decode cX12_leads 15 = .ok (.aload_n 0, 1) := by decide +kernel
theorem dX12_leads_16 : decode cX12_leads 16 = .ok (.getfield 100, 3) := by decide +kernel
theorem dX12_leads_19 : decode cX12_leads 19 = .ok (.iload_n 2, 1) := by decide +kernel
theorem dX12_leads_20 : decode cX12_leads 20 = .ok (.iaload, 1) := by decide +kernel
theorem dX12_leads_21 : decode cX12_leads 21 = .ok (.aload_n 0, 1) := by decide +kernel
theorem dX12_leads_22 : decode cX12_leads 22 = .ok (.getfield 103, 3) := by decide +kernel
theorem dX12_leads_25 : decode cX12_leads 25 = .ok (.iload_n 2, 1) := by decide +kernel
theorem dX12_leads_26 : decode cX12_leads 26 = .ok (.iaload, 1) := by decide +kernel
theorem dX12_leads_27 : decode cX12_leads 27 = .ok (.iadd, 1) := by decide +kernel
theorem dX12_leads_28 : decode cX12_leads 28 = .ok (.if_icmp .ge 7, 3) := by decide +kernel
theorem dX12_leads_31 : decode cX12_leads 31 = .ok (.iconst 1, 1) := by decide +kernel
theorem dX12_leads_32 : decode cX12_leads 32 = .ok (.goto 22, 3) := by decide +kernel
theorem dX12_leads_35 : decode cX12_leads 35 = .ok (.iconst 0, 1) := by decide +kernel
theorem dX12_leads_36 : decode cX12_leads 36 = .ok (.goto 18, 3) := by decide +kernel
theorem dX12_leads_39 : decode cX12_leads 39 = .ok (.iload_n 1, 1) := by decide +kernel
theorem dX12_leads_40 : decode cX12_leads 40 = .ok (.aload_n 0, 1) := by decide +kernel
theorem dX12_leads_41 : decode cX12_leads 41 = .ok (.getfield 100, 3) := by decide +kernel
theorem dX12_leads_44 : decode cX12_leads 44 = .ok (.iload_n 2, 1) := by decide +kernel
theorem dX12_leads_45 : decode cX12_leads 45 = .ok (.iaload, 1) := by decide +kernel
theorem dX12_leads_46 : decode cX12_leads 46 = .ok (.if_icmp .ne 7, 3) := by decide +kernel
theorem dX12_leads_49 : decode cX12_leads 49 = .ok (.iconst 1, 1) := by decide +kernel
theorem dX12_leads_50 : decode cX12_leads 50 = .ok (.goto 4, 3) := by decide +kernel
theorem dX12_leads_53 : decode cX12_leads 53 = .ok (.iconst 0, 1) := by decide +kernel
theorem dX12_leads_54 : decode cX12_leads 54 = .ok (.ireturn, 1) := by decide +kernel
theorem dX12_leadsFromRange_0 : decode cX12_leadsFromRange 0 = .ok (.iconst 0, 1) := by decide +kernel
theorem dX12_leadsFromRange_1 : decode cX12_leadsFromRange 1 = .ok (.istore 5, 2) := by decide +kernel
theorem dX12_leadsFromRange_3 : decode cX12_leadsFromRange 3 = .ok (.iload_n 1, 1) := by decide +kernel
theorem dX12_leadsFromRange_4 : decode cX12_leadsFromRange 4 = .ok (.iconst 3, 1) := by decide +kernel
theorem dX12_leadsFromRange_5 : decode cX12_leadsFromRange 5 = .ok (.iadd, 1) := by decide +kernel
theorem dX12_leadsFromRange_6 : decode cX12_leadsFromRange 6 = .ok (.bipush (-4), 2) := by decide +kernel
theorem dX12_leadsFromRange_8 : decode cX12_leadsFromRange 8 = .ok (.iand, 1) := by decide +kernel
theorem dX12_leadsFromRange_9 : decode cX12_leadsFromRange 9 = .ok (.istore 6, 2) := by decide +kernel
theorem dX12_leadsFromRange_11 : decode cX12_leadsFromRange 11 = .ok (.iload 5, 2) := by decide +kernel
theorem dX12_leadsFromRange_13 : decode cX12_leadsFromRange 13 = .ok (.ifCond .ne 49, 3) := by decide +kernel
theorem dX12_leadsFromRange_16 : decode cX12_leadsFromRange 16 = .ok (.iload 6, 2) := by decide +kernel
theorem dX12_leadsFromRange_18 : decode cX12_leadsFromRange 18 = .ok (.iconst 4, 1) := by decide +kernel
theorem dX12_leadsFromRange_19 : decode cX12_leadsFromRange 19 = .ok (.iadd, 1) := by decide +kernel
theorem dX12_leadsFromRange_20 : decode cX12_leadsFromRange 20 = .ok (.iload_n 2, 1) := by decide +kernel
theorem dX12_leadsFromRange_21 : decode cX12_leadsFromRange 21 = .ok (.if_icmp .gt 41, 3) := by decide +kernel
theorem dX12_leadsFromRange_24 : decode cX12_leadsFromRange 24 = .ok (.aload_n 0, 1) := by decide +kernel
theorem dX12_leadsFromRange_25 : decode cX12_leadsFromRange 25 = .ok (.iload 6, 2) := by decide +kernel
theorem dX12_leadsFromRange_27 : decode cX12_leadsFromRange 27 = .ok (.invokevirtual 568, 3) := by decide +kernel
theorem dX12_leadsFromRange_30 : decode cX12_leadsFromRange 30 = .ok (.ifCond .eq 23, 3) := by decide +kernel
theorem dX12_leadsFromRange_33 : decode cX12_leadsFromRange 33 = .ok (.aload_n 0, 1) := by decide +kernel
theorem dX12_leadsFromRange_34 : decode cX12_leadsFromRange 34 = .ok (.aload_n 0, 1) := by decide +kernel
theorem dX12_leadsFromRange_35 : decode cX12_leadsFromRange 35 = .ok (.iload 6, 2) := by decide +kernel
theorem dX12_leadsFromRange_37 : decode cX12_leadsFromRange 37 = .ok (.invokevirtual 571, 3) := by decide +kernel
theorem dX12_leadsFromRange_40 : decode cX12_leadsFromRange 40 = .ok (.iload_n 3, 1) := by decide +kernel
theorem dX12_leadsFromRange_41 : decode cX12_leadsFromRange 41 = .ok (.iload 4, 2) := by decide +kernel
theorem dX12_leadsFromRange_43 : decode cX12_leadsFromRange 43 = .ok (.invokevirtual 574, 3) := by decide +kernel
theorem dX12_leadsFromRange_46 : decode cX12_leadsFromRange 46 = .ok (.ifCond .eq 7, 3) := by decide +kernel
theorem dX12_leadsFromRange_49 : decode cX12_leadsFromRange 49 = .ok (.iconst 1, 1) := by decide +kernel
theorem dX12_leadsFromRange_50 : decode cX12_leadsFromRange 50 = .ok (.goto 4, 3) := by decide +kernel
theorem dX12_leadsFromRange_53 : decode cX12_leadsFromRange 53 = .ok (.iconst 0, 1) := by decide +kernel
theorem dX12_leadsFromRange_54 : decode cX12_leadsFromRange 54 = .ok (.istore 5, 2) := by decide +kernel
theorem dX12_leadsFromRange_56 : decode cX12_leadsFromRange 56 = .ok (.iinc 6 4, 3) := by decide +kernel
theorem dX12_leadsFromRange_59 : decode cX12_leadsFromRange 59 = .ok (.goto (-48), 3) := by decide +kernel
theorem dX12_leadsFromRange_62 : decode cX12_leadsFromRange 62 = .ok (.iload 5, 2) := by decide +kernel
theorem dX12_leadsFromRange_64 : decode cX12_leadsFromRange 64 = .ok (.ireturn, 1) := by decide +kernel
theorem dX12_leadsFromRoots_0 : decode cX12_leadsFromRoots 0 = .ok (.aload_n 0, 1) := by decide +kernel
theorem dX12_leadsFromRoots_1 : decode cX12_leadsFromRoots 1 = .ok (.sipush 256, 3) := by decide +kernel
theorem dX12_leadsFromRoots_4 : decode cX12_leadsFromRoots 4 = .ok (.sipush 512, 3) := by decide +kernel
theorem dX12_leadsFromRoots_7 : decode cX12_leadsFromRoots 7 = .ok (.iload_n 1, 1) := by decide +kernel
theorem dX12_leadsFromRoots_8 : decode cX12_leadsFromRoots 8 = .ok (.iload_n 2, 1) := by decide +kernel
theorem dX12_leadsFromRoots_9 : decode cX12_leadsFromRoots 9 = .ok (.invokevirtual 578, 3) := by decide +kernel
theorem dX12_leadsFromRoots_12 : decode cX12_leadsFromRoots 12 = .ok (.ifCond .ne 18, 3) := by decide +kernel
theorem dX12_leadsFromRoots_15 : decode cX12_leadsFromRoots 15 = .ok (.aload_n 0, 1) := by decide +kernel
theorem dX12_leadsFromRoots_16 : decode cX12_leadsFromRoots 16 = .ok (.sipush 3072, 3) := by decide +kernel
theorem dX12_leadsFromRoots_19 : decode cX12_leadsFromRoots 19 = .ok (.sipush 4096, 3) := by decide +kernel
theorem dX12_leadsFromRoots_22 : decode cX12_leadsFromRoots 22 = .ok (.iload_n 1, 1) := by decide +kernel
theorem dX12_leadsFromRoots_23 : decode cX12_leadsFromRoots 23 = .ok (.iload_n 2, 1) := by decide +kernel
theorem dX12_leadsFromRoots_24 : decode cX12_leadsFromRoots 24 = .ok (.invokevirtual 578, 3) := by decide +kernel
theorem dX12_leadsFromRoots_27 : decode cX12_leadsFromRoots 27 = .ok (.ifCond .eq 7, 3) := by decide +kernel
theorem dX12_leadsFromRoots_30 : decode cX12_leadsFromRoots 30 = .ok (.iconst 1, 1) := by decide +kernel
theorem dX12_leadsFromRoots_31 : decode cX12_leadsFromRoots 31 = .ok (.goto 4, 3) := by decide +kernel
theorem dX12_leadsFromRoots_34 : decode cX12_leadsFromRoots 34 = .ok (.iconst 0, 1) := by decide +kernel
theorem dX12_leadsFromRoots_35 : decode cX12_leadsFromRoots 35 = .ok (.istore_n 3, 1) := by decide +kernel
theorem dX12_leadsFromRoots_36 : decode cX12_leadsFromRoots 36 = .ok (.iconst 0, 1) := by decide +kernel
theorem dX12_leadsFromRoots_37 : decode cX12_leadsFromRoots 37 = .ok (.istore 4, 2) := by decide +kernel
theorem dX12_leadsFromRoots_39 : decode cX12_leadsFromRoots 39 = .ok (.iload 4, 2) := by decide +kernel
theorem dX12_leadsFromRoots_41 : decode cX12_leadsFromRoots 41 = .ok (.bipush 8, 2) := by decide +kernel
theorem dX12_leadsFromRoots_43 : decode cX12_leadsFromRoots 43 = .ok (.if_icmp .ge 45, 3) := by decide +kernel
theorem dX12_leadsFromRoots_46 : decode cX12_leadsFromRoots 46 = .ok (.iload_n 3, 1) := by decide +kernel
theorem dX12_leadsFromRoots_47 : decode cX12_leadsFromRoots 47 = .ok (.ifCond .ne 29, 3) := by decide +kernel
theorem dX12_leadsFromRoots_50 : decode cX12_leadsFromRoots 50 = .ok (.aload_n 0, 1) := by decide +kernel
theorem dX12_leadsFromRoots_51 : decode cX12_leadsFromRoots 51 = .ok (.getfield 58, 3) := by decide +kernel
theorem dX12_leadsFromRoots_54 : decode cX12_leadsFromRoots 54 = .ok (.iload 4, 2) := by decide +kernel
theorem dX12_leadsFromRoots_56 : decode cX12_leadsFromRoots 56 = .ok (.iaload, 1) := by decide +kernel
theorem dX12_leadsFromRoots_57 : decode cX12_leadsFromRoots 57 = .ok (.ifCond .ne 23, 3) := by decide +kernel
theorem dX12_leadsFromRoots_60 : decode cX12_leadsFromRoots 60 = .ok (.aload_n 0, 1) := by decide +kernel
theorem dX12_leadsFromRoots_61 : decode cX12_leadsFromRoots 61 = .ok (.aload_n 0, 1) := by decide +kernel
theorem dX12_leadsFromRoots_62 : decode cX12_leadsFromRoots 62 = .ok (.getfield 55, 3) := by decide +kernel
theorem dX12_leadsFromRoots_65 : decode cX12_leadsFromRoots 65 = .ok (.iload 4, 2) := by decide +kernel
theorem dX12_leadsFromRoots_67 : decode cX12_leadsFromRoots 67 = .ok (.iaload, 1) := by decide +kernel
theorem dX12_leadsFromRoots_68 : decode cX12_leadsFromRoots 68 = .ok (.iload_n 1, 1) := by decide +kernel
theorem dX12_leadsFromRoots_69 : decode cX12_leadsFromRoots 69 = .ok (.iload_n 2, 1) := by decide +kernel
theorem dX12_leadsFromRoots_70 : decode cX12_leadsFromRoots 70 = .ok (.invokevirtual 574, 3) := by decide +kernel
theorem dX12_leadsFromRoots_73 : decode cX12_leadsFromRoots 73 = .ok (.ifCond .eq 7, 3) := by decide +kernel
theorem dX12_leadsFromRoots_76 : decode cX12_leadsFromRoots 76 = .ok (.iconst 1, 1) := by decide +kernel
theorem dX12_leadsFromRoots_77 : decode cX12_leadsFromRoots 77 = .ok (.goto 4, 3) := by decide +kernel
theorem dX12_leadsFromRoots_80 : decode cX12_leadsFromRoots 80 = .ok (.iconst 0, 1) := by decide +kernel
theorem dX12_leadsFromRoots_81 : decode cX12_leadsFromRoots 81 = .ok (.istore_n 3, 1) := by decide +kernel
theorem dX12_leadsFromRoots_82 : decode cX12_leadsFromRoots 82 = .ok (.iinc 4 1, 3) := by decide +kernel
theorem dX12_leadsFromRoots_85 : decode cX12_leadsFromRoots 85 = .ok (.goto (-46), 3) := by decide +kernel
theorem dX12_leadsFromRoots_88 : decode cX12_leadsFromRoots 88 = .ok (.iload_n 3, 1) := by decide +kernel
theorem dX12_leadsFromRoots_89 : decode cX12_leadsFromRoots 89 = .ok (.ireturn, 1) := by decide +kernel
theorem dX12_leadsFromBlock_0 : decode cX12_leadsFromBlock 0 = .ok (.aload_n 0, 1) := by decide +kernel
theorem dX12_leadsFromBlock_1 : decode cX12_leadsFromBlock 1 = .ok (.aload_n 0, 1) := by decide +kernel
theorem dX12_leadsFromBlock_2 : decode cX12_leadsFromBlock 2 = .ok (.getfield 100, 3) := by decide +kernel
theorem dX12_leadsFromBlock_5 : decode cX12_leadsFromBlock 5 = .ok (.iload_n 1, 1) := by decide +kernel
theorem dX12_leadsFromBlock_6 : decode cX12_leadsFromBlock 6 = .ok (.iaload, 1) := by decide +kernel
theorem dX12_leadsFromBlock_7 : decode cX12_leadsFromBlock 7 = .ok (.aload_n 0, 1) := by decide +kernel
theorem dX12_leadsFromBlock_8 : decode cX12_leadsFromBlock 8 = .ok (.getfield 100, 3) := by decide +kernel
theorem dX12_leadsFromBlock_11 : decode cX12_leadsFromBlock 11 = .ok (.iload_n 1, 1) := by decide +kernel
theorem dX12_leadsFromBlock_12 : decode cX12_leadsFromBlock 12 = .ok (.iaload, 1) := by decide +kernel
theorem dX12_leadsFromBlock_13 : decode cX12_leadsFromBlock 13 = .ok (.aload_n 0, 1) := by decide +kernel
theorem dX12_leadsFromBlock_14 : decode cX12_leadsFromBlock 14 = .ok (.getfield 103, 3) := by decide +kernel
theorem dX12_leadsFromBlock_17 : decode cX12_leadsFromBlock 17 = .ok (.iload_n 1, 1) := by decide +kernel
theorem dX12_leadsFromBlock_18 : decode cX12_leadsFromBlock 18 = .ok (.iaload, 1) := by decide +kernel
theorem dX12_leadsFromBlock_19 : decode cX12_leadsFromBlock 19 = .ok (.iadd, 1) := by decide +kernel
theorem dX12_leadsFromBlock_20 : decode cX12_leadsFromBlock 20 = .ok (.iload_n 2, 1) := by decide +kernel
theorem dX12_leadsFromBlock_21 : decode cX12_leadsFromBlock 21 = .ok (.iload_n 3, 1) := by decide +kernel
theorem dX12_leadsFromBlock_22 : decode cX12_leadsFromBlock 22 = .ok (.invokevirtual 578, 3) := by decide +kernel
theorem dX12_leadsFromBlock_25 : decode cX12_leadsFromBlock 25 = .ok (.ireturn, 1) := by decide +kernel
theorem dX12_findLost_0 : decode cX12_findLost 0 = .ok (.iconst 1, 1) := by decide +kernel
theorem dX12_findLost_1 : decode cX12_findLost 1 = .ok (.istore_n 1, 1) := by decide +kernel
theorem dX12_findLost_2 : decode cX12_findLost 2 = .ok (.iload_n 1, 1) := by decide +kernel
theorem dX12_findLost_3 : decode cX12_findLost 3 = .ok (.aload_n 0, 1) := by decide +kernel
theorem dX12_findLost_4 : decode cX12_findLost 4 = .ok (.getfield 118, 3) := by decide +kernel
theorem dX12_findLost_7 : decode cX12_findLost 7 = .ok (.iconst 0, 1) := by decide +kernel
theorem dX12_findLost_8 : decode cX12_findLost 8 = .ok (.iaload, 1) := by decide +kernel
theorem dX12_findLost_9 : decode cX12_findLost 9 = .ok (.if_icmp .gt 43, 3) := by decide +kernel
theorem dX12_findLost_12 : decode cX12_findLost 12 = .ok (.aload_n 0, 1) := by decide +kernel
theorem dX12_findLost_13 : decode cX12_findLost 13 = .ok (.getfield 160, 3) := by decide +kernel
theorem dX12_findLost_16 : decode cX12_findLost 16 = .ok (.iload_n 1, 1) := by decide +kernel
theorem dX12_findLost_17 : decode cX12_findLost 17 = .ok (.aload_n 0, 1) := by decide +kernel
theorem dX12_findLost_18 : decode cX12_findLost 18 = .ok (.getfield 106, 3) := by decide +kernel
theorem dX12_findLost_21 : decode cX12_findLost 21 = .ok (.iload_n 1, 1) := by decide +kernel
theorem dX12_findLost_22 : decode cX12_findLost 22 = .ok (.iaload, 1) := by decide +kernel
theorem dX12_findLost_23 : decode cX12_findLost 23 = .ok (.iconst 2, 1) := by decide +kernel
theorem dX12_findLost_24 : decode cX12_findLost 24 = .ok (.if_icmp .eq 7, 3) := by decide +kernel
theorem dX12_findLost_27 : decode cX12_findLost 27 = .ok (.iconst (-1), 1) := by decide +kernel
theorem dX12_findLost_28 : decode cX12_findLost 28 = .ok (.goto 17, 3) := by decide +kernel
theorem dX12_findLost_31 : decode cX12_findLost 31 = .ok (.aload_n 0, 1) := by decide +kernel
theorem dX12_findLost_32 : decode cX12_findLost 32 = .ok (.iload_n 1, 1) := by decide +kernel
theorem dX12_findLost_33 : decode cX12_findLost 33 = .ok (.iconst 0, 1) := by decide +kernel
theorem dX12_findLost_34 : decode cX12_findLost 34 = .ok (.invokevirtual 582, 3) := by decide +kernel
theorem dX12_findLost_37 : decode cX12_findLost 37 = .ok (.ifCond .eq 7, 3) := by decide +kernel
theorem dX12_findLost_40 : decode cX12_findLost 40 = .ok (.iconst 3, 1) := by decide +kernel
theorem dX12_findLost_41 : decode cX12_findLost 41 = .ok (.goto 4, 3) := by decide +kernel
theorem dX12_findLost_44 : decode cX12_findLost 44 = .ok (.iconst 0, 1) := by decide +kernel
theorem dX12_findLost_45 : decode cX12_findLost 45 = .ok (.iastore, 1) := by decide +kernel
theorem dX12_findLost_46 : decode cX12_findLost 46 = .ok (.iinc 1 1, 3) := by decide +kernel
theorem dX12_findLost_49 : decode cX12_findLost 49 = .ok (.goto (-47), 3) := by decide +kernel
theorem dX12_findLost_52 : decode cX12_findLost 52 = .ok (.iconst 1, 1) := by decide +kernel
theorem dX12_findLost_53 : decode cX12_findLost 53 = .ok (.istore_n 1, 1) := by decide +kernel
theorem dX12_findLost_54 : decode cX12_findLost 54 = .ok (.iload_n 1, 1) := by decide +kernel
theorem dX12_findLost_55 : decode cX12_findLost 55 = .ok (.ifCond .eq 80, 3) := by decide +kernel
theorem dX12_findLost_58 : decode cX12_findLost 58 = .ok (.iconst 0, 1) := by decide +kernel
theorem dX12_findLost_59 : decode cX12_findLost 59 = .ok (.istore_n 1, 1) := by decide +kernel
theorem dX12_findLost_60 : decode cX12_findLost 60 = .ok (.iconst 1, 1) := by decide +kernel
theorem dX12_findLost_61 : decode cX12_findLost 61 = .ok (.istore_n 2, 1) := by decide +kernel
theorem dX12_findLost_62 : decode cX12_findLost 62 = .ok (.iload_n 2, 1) := by decide +kernel
theorem dX12_findLost_63 : decode cX12_findLost 63 = .ok (.aload_n 0, 1) := by decide +kernel
theorem dX12_findLost_64 : decode cX12_findLost 64 = .ok (.getfield 118, 3) := by decide +kernel
theorem dX12_findLost_67 : decode cX12_findLost 67 = .ok (.iconst 0, 1) := by decide +kernel
theorem dX12_findLost_68 : decode cX12_findLost 68 = .ok (.iaload, 1) := by decide +kernel
theorem dX12_findLost_69 : decode cX12_findLost 69 = .ok (.if_icmp .gt 63, 3) := by decide +kernel
theorem dX12_findLost_72 : decode cX12_findLost 72 = .ok (.iconst 1, 1) := by decide +kernel
theorem dX12_findLost_73 : decode cX12_findLost 73 = .ok (.istore_n 3, 1) := by decide +kernel
theorem dX12_findLost_74 : decode cX12_findLost 74 = .ok (.iload_n 3, 1) := by decide +kernel
theorem dX12_findLost_75 : decode cX12_findLost 75 = .ok (.aload_n 0, 1) := by decide +kernel
theorem dX12_findLost_76 : decode cX12_findLost 76 = .ok (.getfield 118, 3) := by decide +kernel
theorem dX12_findLost_79 : decode cX12_findLost 79 = .ok (.iconst 0, 1) := by decide +kernel
theorem dX12_findLost_80 : decode cX12_findLost 80 = .ok (.iaload, 1) := by decide +kernel
theorem dX12_findLost_81 : decode cX12_findLost 81 = .ok (.if_icmp .gt 45, 3) := by decide +kernel
theorem dX12_findLost_84 : decode cX12_findLost 84 = .ok (.aload_n 0, 1) := by decide +kernel
theorem dX12_findLost_85 : decode cX12_findLost 85 = .ok (.getfield 160, 3) := by decide +kernel
theorem dX12_findLost_88 : decode cX12_findLost 88 = .ok (.iload_n 2, 1) := by decide +kernel
theorem dX12_findLost_89 : decode cX12_findLost 89 = .ok (.iaload, 1) := by decide +kernel
theorem dX12_findLost_90 : decode cX12_findLost 90 = .ok (.ifCond .ne 36, 3) := by decide +kernel
theorem dX12_findLost_93 : decode cX12_findLost 93 = .ok (.aload_n 0, 1) := by decide +kernel
theorem dX12_findLost_94 : decode cX12_findLost 94 = .ok (.getfield 160, 3) := by decide +kernel
theorem dX12_findLost_97 : decode cX12_findLost 97 = .ok (.iload_n 3, 1) := by decide +kernel
theorem dX12_findLost_98 : decode cX12_findLost 98 = .ok (.iaload, 1) := by decide +kernel
theorem dX12_findLost_99 : decode cX12_findLost 99 = .ok (.iconst 3, 1) := by decide +kernel
theorem dX12_findLost_100 : decode cX12_findLost 100 = .ok (.if_icmp .ne 20, 3) := by decide +kernel
theorem dX12_findLost_103 : decode cX12_findLost 103 = .ok (.aload_n 0, 1) := by decide +kernel
theorem dX12_findLost_104 : decode cX12_findLost 104 = .ok (.iload_n 3, 1) := by decide +kernel
theorem dX12_findLost_105 : decode cX12_findLost 105 = .ok (.iload_n 2, 1) := by decide +kernel
theorem dX12_findLost_106 : decode cX12_findLost 106 = .ok (.iconst 0, 1) := by decide +kernel
theorem dX12_findLost_107 : decode cX12_findLost 107 = .ok (.invokevirtual 586, 3) := by decide +kernel
theorem dX12_findLost_110 : decode cX12_findLost 110 = .ok (.ifCond .eq 10, 3) := by decide +kernel
theorem dX12_findLost_113 : decode cX12_findLost 113 = .ok (.aload_n 0, 1) := by decide +kernel
theorem dX12_findLost_114 : decode cX12_findLost 114 = .ok (.iload_n 2, 1) := by decide +kernel
theorem dX12_findLost_115 : decode cX12_findLost 115 = .ok (.iconst 3, 1) := by decide +kernel
theorem dX12_findLost_116 : decode cX12_findLost 116 = .ok (.invokevirtual 589, 3) := by decide +kernel
theorem dX12_findLost_119 : decode cX12_findLost 119 = .ok (.istore_n 1, 1) := by decide +kernel
theorem dX12_findLost_120 : decode cX12_findLost 120 = .ok (.iinc 3 1, 3) := by decide +kernel
theorem dX12_findLost_123 : decode cX12_findLost 123 = .ok (.goto (-49), 3) := by decide +kernel
theorem dX12_findLost_126 : decode cX12_findLost 126 = .ok (.iinc 2 1, 3) := by decide +kernel
theorem dX12_findLost_129 : decode cX12_findLost 129 = .ok (.goto (-67), 3) := by decide +kernel
theorem dX12_findLost_132 : decode cX12_findLost 132 = .ok (.goto (-78), 3) := by decide +kernel
theorem dX12_findLost_135 : decode cX12_findLost 135 = .ok (.iconst 1, 1) := by decide +kernel
theorem dX12_findLost_136 : decode cX12_findLost 136 = .ok (.istore_n 2, 1) := by decide +kernel
theorem dX12_findLost_137 : decode cX12_findLost 137 = .ok (.iload_n 2, 1) := by decide +kernel
theorem dX12_findLost_138 : decode cX12_findLost 138 = .ok (.aload_n 0, 1) := by decide +kernel
theorem dX12_findLost_139 : decode cX12_findLost 139 = .ok (.getfield 118, 3) := by decide +kernel
theorem dX12_findLost_142 : decode cX12_findLost 142 = .ok (.iconst 0, 1) := by decide +kernel
theorem dX12_findLost_143 : decode cX12_findLost 143 = .ok (.iaload, 1) := by decide +kernel
theorem dX12_findLost_144 : decode cX12_findLost 144 = .ok (.if_icmp .gt 34, 3) := by decide +kernel
theorem dX12_findLost_147 : decode cX12_findLost 147 = .ok (.aload_n 0, 1) := by decide +kernel
theorem dX12_findLost_148 : decode cX12_findLost 148 = .ok (.getfield 160, 3) := by decide +kernel
theorem dX12_findLost_151 : decode cX12_findLost 151 = .ok (.iload_n 2, 1) := by decide +kernel
theorem dX12_findLost_152 : decode cX12_findLost 152 = .ok (.iaload, 1) := by decide +kernel
theorem dX12_findLost_153 : decode cX12_findLost 153 = .ok (.ifCond .ne 19, 3) := by decide +kernel
theorem dX12_findLost_156 : decode cX12_findLost 156 = .ok (.aload_n 0, 1) := by decide +kernel
theorem dX12_findLost_157 : decode cX12_findLost 157 = .ok (.iload_n 2, 1) := by decide +kernel
theorem dX12_findLost_158 : decode cX12_findLost 158 = .ok (.iconst 1, 1) := by decide +kernel
theorem dX12_findLost_159 : decode cX12_findLost 159 = .ok (.invokevirtual 582, 3) := by decide +kernel
theorem dX12_findLost_162 : decode cX12_findLost 162 = .ok (.ifCond .eq 10, 3) := by decide +kernel
theorem dX12_findLost_165 : decode cX12_findLost 165 = .ok (.aload_n 0, 1) := by decide +kernel
theorem dX12_findLost_166 : decode cX12_findLost 166 = .ok (.getfield 160, 3) := by decide +kernel
theorem dX12_findLost_169 : decode cX12_findLost 169 = .ok (.iload_n 2, 1) := by decide +kernel
theorem dX12_findLost_170 : decode cX12_findLost 170 = .ok (.iconst 2, 1) := by decide +kernel
theorem dX12_findLost_171 : decode cX12_findLost 171 = .ok (.iastore, 1) := by decide +kernel
theorem dX12_findLost_172 : decode cX12_findLost 172 = .ok (.iinc 2 1, 3) := by decide +kernel
theorem dX12_findLost_175 : decode cX12_findLost 175 = .ok (.goto (-38), 3) := by decide +kernel
theorem dX12_findLost_178 : decode cX12_findLost 178 = .ok (.iconst 1, 1) := by decide +kernel
theorem dX12_findLost_179 : decode cX12_findLost 179 = .ok (.istore_n 1, 1) := by decide +kernel
theorem dX12_findLost_180 : decode cX12_findLost 180 = .ok (.iload_n 1, 1) := by decide +kernel
theorem dX12_findLost_181 : decode cX12_findLost 181 = .ok (.ifCond .eq 103, 3) := by decide +kernel
theorem dX12_findLost_184 : decode cX12_findLost 184 = .ok (.iconst 0, 1) := by decide +kernel
theorem dX12_findLost_185 : decode cX12_findLost 185 = .ok (.istore_n 1, 1) := by decide +kernel
theorem dX12_findLost_186 : decode cX12_findLost 186 = .ok (.iconst 1, 1) := by decide +kernel
theorem dX12_findLost_187 : decode cX12_findLost 187 = .ok (.istore_n 2, 1) := by decide +kernel
theorem dX12_findLost_188 : decode cX12_findLost 188 = .ok (.iload_n 2, 1) := by decide +kernel
theorem dX12_findLost_189 : decode cX12_findLost 189 = .ok (.aload_n 0, 1) := by decide +kernel
theorem dX12_findLost_190 : decode cX12_findLost 190 = .ok (.getfield 118, 3) := by decide +kernel
theorem dX12_findLost_193 : decode cX12_findLost 193 = .ok (.iconst 0, 1) := by decide +kernel
theorem dX12_findLost_194 : decode cX12_findLost 194 = .ok (.iaload, 1) := by decide +kernel
theorem dX12_findLost_195 : decode cX12_findLost 195 = .ok (.if_icmp .gt 86, 3) := by decide +kernel
theorem dX12_findLost_198 : decode cX12_findLost 198 = .ok (.iconst 1, 1) := by decide +kernel
theorem dX12_findLost_199 : decode cX12_findLost 199 = .ok (.istore_n 3, 1) := by decide +kernel
theorem dX12_findLost_200 : decode cX12_findLost 200 = .ok (.iload_n 3, 1) := by decide +kernel
theorem dX12_findLost_201 : decode cX12_findLost 201 = .ok (.aload_n 0, 1) := by decide +kernel
theorem dX12_findLost_202 : decode cX12_findLost 202 = .ok (.getfield 118, 3) := by decide +kernel
theorem dX12_findLost_205 : decode cX12_findLost 205 = .ok (.iconst 0, 1) := by decide +kernel
theorem dX12_findLost_206 : decode cX12_findLost 206 = .ok (.iaload, 1) := by decide +kernel
theorem dX12_findLost_207 : decode cX12_findLost 207 = .ok (.if_icmp .gt 68, 3) := by decide +kernel
theorem dX12_findLost_210 : decode cX12_findLost 210 = .ok (.aload_n 0, 1) := by decide +kernel
theorem dX12_findLost_211 : decode cX12_findLost 211 = .ok (.getfield 160, 3) := by decide +kernel
theorem dX12_findLost_214 : decode cX12_findLost 214 = .ok (.iload_n 2, 1) := by decide +kernel
theorem dX12_findLost_215 : decode cX12_findLost 215 = .ok (.iaload, 1) := by decide +kernel
theorem dX12_findLost_216 : decode cX12_findLost 216 = .ok (.ifCond .ne 59, 3) := by decide +kernel
theorem dX12_findLost_219 : decode cX12_findLost 219 = .ok (.aload_n 0, 1) := by decide +kernel
theorem dX12_findLost_220 : decode cX12_findLost 220 = .ok (.getfield 160, 3) := by decide +kernel
theorem dX12_findLost_223 : decode cX12_findLost 223 = .ok (.iload_n 3, 1) := by decide +kernel
theorem dX12_findLost_224 : decode cX12_findLost 224 = .ok (.iaload, 1) := by decide +kernel
theorem dX12_findLost_225 : decode cX12_findLost 225 = .ok (.iconst 2, 1) := by decide +kernel
theorem dX12_findLost_226 : decode cX12_findLost 226 = .ok (.if_icmp .ge 6, 3) := by decide +kernel
theorem dX12_findLost_229 : decode cX12_findLost 229 = .ok (.goto 40, 3) := by decide +kernel
theorem dX12_findLost_232 : decode cX12_findLost 232 = .ok (.aload_n 0, 1) := by decide +kernel
theorem dX12_findLost_233 : decode cX12_findLost 233 = .ok (.iload_n 3, 1) := by decide +kernel
theorem dX12_findLost_234 : decode cX12_findLost 234 = .ok (.iload_n 2, 1) := by decide +kernel
theorem dX12_findLost_235 : decode cX12_findLost 235 = .ok (.iconst 1, 1) := by decide +kernel
theorem dX12_findLost_236 : decode cX12_findLost 236 = .ok (.invokevirtual 586, 3) := by decide +kernel
theorem dX12_findLost_239 : decode cX12_findLost 239 = .ok (.ifCond .ne 23, 3) := by decide +kernel
theorem dX12_findLost_242 : decode cX12_findLost 242 = .ok (.aload_n 0, 1) := by decide +kernel
theorem dX12_findLost_243 : decode cX12_findLost 243 = .ok (.getfield 160, 3) := by decide +kernel
theorem dX12_findLost_246 : decode cX12_findLost 246 = .ok (.iload_n 3, 1) := by decide +kernel
theorem dX12_findLost_247 : decode cX12_findLost 247 = .ok (.iaload, 1) := by decide +kernel
theorem dX12_findLost_248 : decode cX12_findLost 248 = .ok (.iconst 2, 1) := by decide +kernel
theorem dX12_findLost_249 : decode cX12_findLost 249 = .ok (.if_icmp .ne 20, 3) := by decide +kernel
theorem dX12_findLost_252 : decode cX12_findLost 252 = .ok (.aload_n 0, 1) := by decide +kernel
theorem dX12_findLost_253 : decode cX12_findLost 253 = .ok (.iload_n 3, 1) := by decide +kernel
theorem dX12_findLost_254 : decode cX12_findLost 254 = .ok (.iload_n 2, 1) := by decide +kernel
theorem dX12_findLost_255 : decode cX12_findLost 255 = .ok (.iconst 0, 1) := by decide +kernel
theorem dX12_findLost_256 : decode cX12_findLost 256 = .ok (.invokevirtual 586, 3) := by decide +kernel
theorem dX12_findLost_259 : decode cX12_findLost 259 = .ok (.ifCond .eq 10, 3) := by decide +kernel
theorem dX12_findLost_262 : decode cX12_findLost 262 = .ok (.aload_n 0, 1) := by decide +kernel
theorem dX12_findLost_263 : decode cX12_findLost 263 = .ok (.iload_n 2, 1) := by decide +kernel
theorem dX12_findLost_264 : decode cX12_findLost 264 = .ok (.iconst 2, 1) := by decide +kernel
theorem dX12_findLost_265 : decode cX12_findLost 265 = .ok (.invokevirtual 589, 3) := by decide +kernel
theorem dX12_findLost_268 : decode cX12_findLost 268 = .ok (.istore_n 1, 1) := by decide +kernel
theorem dX12_findLost_269 : decode cX12_findLost 269 = .ok (.iinc 3 1, 3) := by decide +kernel
theorem dX12_findLost_272 : decode cX12_findLost 272 = .ok (.goto (-72), 3) := by decide +kernel
theorem dX12_findLost_275 : decode cX12_findLost 275 = .ok (.iinc 2 1, 3) := by decide +kernel
theorem dX12_findLost_278 : decode cX12_findLost 278 = .ok (.goto (-90), 3) := by decide +kernel
theorem dX12_findLost_281 : decode cX12_findLost 281 = .ok (.goto (-101), 3) := by decide +kernel
theorem dX12_findLost_284 : decode cX12_findLost 284 = .ok (.iconst 1, 1) := by decide +kernel
theorem dX12_findLost_285 : decode cX12_findLost 285 = .ok (.istore_n 2, 1) := by decide +kernel
theorem dX12_findLost_286 : decode cX12_findLost 286 = .ok (.iload_n 2, 1) := by decide +kernel
theorem dX12_findLost_287 : decode cX12_findLost 287 = .ok (.aload_n 0, 1) := by decide +kernel
theorem dX12_findLost_288 : decode cX12_findLost 288 = .ok (.getfield 118, 3) := by decide +kernel
theorem dX12_findLost_291 : decode cX12_findLost 291 = .ok (.iconst 0, 1) := by decide +kernel
theorem dX12_findLost_292 : decode cX12_findLost 292 = .ok (.iaload, 1) := by decide +kernel
theorem dX12_findLost_293 : decode cX12_findLost 293 = .ok (.if_icmp .gt 77, 3) := by decide +kernel
theorem dX12_findLost_296 : decode cX12_findLost 296 = .ok (.iconst 1, 1) := by decide +kernel
theorem dX12_findLost_297 : decode cX12_findLost 297 = .ok (.istore_n 3, 1) := by decide +kernel
theorem dX12_findLost_298 : decode cX12_findLost 298 = .ok (.iload_n 3, 1) := by decide +kernel
theorem dX12_findLost_299 : decode cX12_findLost 299 = .ok (.aload_n 0, 1) := by decide +kernel
theorem dX12_findLost_300 : decode cX12_findLost 300 = .ok (.getfield 118, 3) := by decide +kernel
theorem dX12_findLost_303 : decode cX12_findLost 303 = .ok (.iconst 0, 1) := by decide +kernel
theorem dX12_findLost_304 : decode cX12_findLost 304 = .ok (.iaload, 1) := by decide +kernel
theorem dX12_findLost_305 : decode cX12_findLost 305 = .ok (.if_icmp .gt 59, 3) := by decide +kernel
theorem dX12_findLost_308 : decode cX12_findLost 308 = .ok (.aload_n 0, 1) := by decide +kernel
theorem dX12_findLost_309 : decode cX12_findLost 309 = .ok (.getfield 160, 3) := by decide +kernel
theorem dX12_findLost_312 : decode cX12_findLost 312 = .ok (.iload_n 2, 1) := by decide +kernel
theorem dX12_findLost_313 : decode cX12_findLost 313 = .ok (.iaload, 1) := by decide +kernel
theorem dX12_findLost_314 : decode cX12_findLost 314 = .ok (.ifCond .ne 50, 3) := by decide +kernel
theorem dX12_findLost_317 : decode cX12_findLost 317 = .ok (.iload_n 3, 1) := by decide +kernel
theorem dX12_findLost_318 : decode cX12_findLost 318 = .ok (.iload_n 2, 1) := by decide +kernel
theorem dX12_findLost_319 : decode cX12_findLost 319 = .ok (.if_icmp .eq 39, 3) := by decide +kernel
theorem dX12_findLost_322 : decode cX12_findLost 322 = .ok (.aload_n 0, 1) := by decide +kernel
theorem dX12_findLost_323 : decode cX12_findLost 323 = .ok (.getfield 160, 3) := by decide +kernel
theorem dX12_findLost_326 : decode cX12_findLost 326 = .ok (.iload_n 3, 1) := by decide +kernel
theorem dX12_findLost_327 : decode cX12_findLost 327 = .ok (.iaload, 1) := by decide +kernel
theorem dX12_findLost_328 : decode cX12_findLost 328 = .ok (.ifCond .eq 13, 3) := by decide +kernel
theorem dX12_findLost_331 : decode cX12_findLost 331 = .ok (.aload_n 0, 1) := by decide +kernel
theorem dX12_findLost_332 : decode cX12_findLost 332 = .ok (.getfield 160, 3) := by decide +kernel
theorem dX12_findLost_335 : decode cX12_findLost 335 = .ok (.iload_n 3, 1) := by decide +kernel
theorem dX12_findLost_336 : decode cX12_findLost 336 = .ok (.iaload, 1) := by decide +kernel
theorem dX12_findLost_337 : decode cX12_findLost 337 = .ok (.iconst 1, 1) := by decide +kernel
theorem dX12_findLost_338 : decode cX12_findLost 338 = .ok (.if_icmp .ne 20, 3) := by decide +kernel
theorem dX12_findLost_341 : decode cX12_findLost 341 = .ok (.aload_n 0, 1) := by decide +kernel
theorem dX12_findLost_342 : decode cX12_findLost 342 = .ok (.iload_n 3, 1) := by decide +kernel
theorem dX12_findLost_343 : decode cX12_findLost 343 = .ok (.iload_n 2, 1) := by decide +kernel
theorem dX12_findLost_344 : decode cX12_findLost 344 = .ok (.iconst 0, 1) := by decide +kernel
theorem dX12_findLost_345 : decode cX12_findLost 345 = .ok (.invokevirtual 586, 3) := by decide +kernel
theorem dX12_findLost_348 : decode cX12_findLost 348 = .ok (.ifCond .eq 10, 3) := by decide +kernel
theorem dX12_findLost_351 : decode cX12_findLost 351 = .ok (.aload_n 0, 1) := by decide +kernel
theorem dX12_findLost_352 : decode cX12_findLost 352 = .ok (.getfield 160, 3) := by decide +kernel
theorem dX12_findLost_355 : decode cX12_findLost 355 = .ok (.iload_n 2, 1) := by decide +kernel
theorem dX12_findLost_356 : decode cX12_findLost 356 = .ok (.iconst 1, 1) := by decide +kernel
theorem dX12_findLost_357 : decode cX12_findLost 357 = .ok (.iastore, 1) := by decide +kernel
theorem dX12_findLost_358 : decode cX12_findLost 358 = .ok (.iinc 3 1, 3) := by decide +kernel
theorem dX12_findLost_361 : decode cX12_findLost 361 = .ok (.goto (-63), 3) := by decide +kernel
theorem dX12_findLost_364 : decode cX12_findLost 364 = .ok (.iinc 2 1, 3) := by decide +kernel
theorem dX12_findLost_367 : decode cX12_findLost 367 = .ok (.goto (-81), 3) := by decide +kernel
theorem dX12_findLost_370 : decode cX12_findLost 370 = .ok (.return_, 1) := by decide +kernel
theorem dX12_reached_0 : decode cX12_reached 0 = .ok (.aload_n 0, 1) := by decide +kernel
theorem dX12_reached_1 : decode cX12_reached 1 = .ok (.getfield 160, 3) := by decide +kernel
theorem dX12_reached_4 : decode cX12_reached 4 = .ok (.iload_n 1, 1) := by decide +kernel
theorem dX12_reached_5 : decode cX12_reached 5 = .ok (.iload_n 2, 1) := by decide +kernel
theorem dX12_reached_6 : decode cX12_reached 6 = .ok (.iastore, 1) := by decide +kernel
theorem dX12_reached_7 : decode cX12_reached 7 = .ok (.iconst 1, 1) := by decide +kernel
theorem dX12_reached_8 : decode cX12_reached 8 = .ok (.ireturn, 1) := by decide +kernel
theorem dX12_feed_0 : decode cX12_feed 0 = .ok (.aload_n 0, 1) := by decide +kernel
theorem dX12_feed_1 : decode cX12_feed 1 = .ok (.getfield 368, 3) := by decide +kernel
theorem dX12_feed_4 : decode cX12_feed 4 = .ok (.bipush 20, 2) := by decide +kernel
theorem dX12_feed_6 : decode cX12_feed 6 = .ok (.iadd, 1) := by decide +kernel
theorem dX12_feed_7 : decode cX12_feed 7 = .ok (.sipush 4000, 3) := by decide +kernel
theorem dX12_feed_10 : decode cX12_feed 10 = .ok (.if_icmp .le 5, 3) := by decide +kernel
theorem dX12_feed_13 : decode cX12_feed 13 = .ok (.iconst (-1), 1) := by decide +kernel
theorem dX12_feed_14 : decode cX12_feed 14 = .ok (.ireturn, 1) := by decide +kernel
theorem dX12_feed_15 : decode cX12_feed 15 = .ok (.iconst 0, 1) := by decide +kernel
theorem dX12_feed_16 : decode cX12_feed 16 = .ok (.istore 6, 2) := by decide +kernel
theorem dX12_feed_18 : decode cX12_feed 18 = .ok (.iload 6, 2) := by decide +kernel
theorem dX12_feed_20 : decode cX12_feed 20 = .ok (.bipush 20, 2) := by decide +kernel
theorem dX12_feed_22 : decode cX12_feed 22 = .ok (.if_icmp .ge 83, 3) := by decide +kernel
theorem dX12_feed_25 : decode cX12_feed 25 = .ok (.iload 6, 2) := by decide +kernel
theorem dX12_feed_27 : decode cX12_feed 27 = .ok (.iconst 4, 1) := by decide +kernel
theorem dX12_feed_28 : decode cX12_feed 28 = .ok (.if_icmp .ge 7, 3) := by decide +kernel
theorem dX12_feed_31 : decode cX12_feed 31 = .ok (.iload_n 1, 1) := by decide +kernel
theorem dX12_feed_32 : decode cX12_feed 32 = .ok (.goto 39, 3) := by decide +kernel
theorem dX12_feed_35 : decode cX12_feed 35 = .ok (.iload 6, 2) := by decide +kernel
theorem dX12_feed_37 : decode cX12_feed 37 = .ok (.bipush 8, 2) := by decide +kernel
theorem dX12_feed_39 : decode cX12_feed 39 = .ok (.if_icmp .ge 7, 3) := by decide +kernel
theorem dX12_feed_42 : decode cX12_feed 42 = .ok (.iload_n 2, 1) := by decide +kernel
theorem dX12_feed_43 : decode cX12_feed 43 = .ok (.goto 28, 3) := by decide +kernel
theorem dX12_feed_46 : decode cX12_feed 46 = .ok (.iload 6, 2) := by decide +kernel
theorem dX12_feed_48 : decode cX12_feed 48 = .ok (.bipush 12, 2) := by decide +kernel
theorem dX12_feed_50 : decode cX12_feed 50 = .ok (.if_icmp .ge 7, 3) := by decide +kernel
theorem dX12_feed_53 : decode cX12_feed 53 = .ok (.iload_n 3, 1) := by decide +kernel
theorem dX12_feed_54 : decode cX12_feed 54 = .ok (.goto 17, 3) := by decide +kernel
theorem dX12_feed_57 : decode cX12_feed 57 = .ok (.iload 6, 2) := by decide +kernel
theorem dX12_feed_59 : decode cX12_feed 59 = .ok (.bipush 16, 2) := by decide +kernel
theorem dX12_feed_61 : decode cX12_feed 61 = .ok (.if_icmp .ge 8, 3) := by decide +kernel
theorem dX12_feed_64 : decode cX12_feed 64 = .ok (.iload 4, 2) := by decide +kernel
theorem dX12_feed_66 : decode cX12_feed 66 = .ok (.goto 5, 3) := by decide +kernel
theorem dX12_feed_69 : decode cX12_feed 69 = .ok (.iload 5, 2) := by decide +kernel
theorem dX12_feed_71 : decode cX12_feed 71 = .ok (.istore 7, 2) := by decide +kernel
theorem dX12_feed_73 : decode cX12_feed 73 = .ok (.aload_n 0, 1) := by decide +kernel
theorem dX12_feed_74 : decode cX12_feed 74 = .ok (.getfield 7, 3) := by decide +kernel
theorem dX12_feed_77 : decode cX12_feed 77 = .ok (.aload_n 0, 1) := by decide +kernel
theorem dX12_feed_78 : decode cX12_feed 78 = .ok (.getfield 368, 3) := by decide +kernel
theorem dX12_feed_81 : decode cX12_feed 81 = .ok (.iload 6, 2) := by decide +kernel
theorem dX12_feed_83 : decode cX12_feed 83 = .ok (.iadd, 1) := by decide +kernel
theorem dX12_feed_84 : decode cX12_feed 84 = .ok (.iload 7, 2) := by decide +kernel
theorem dX12_feed_86 : decode cX12_feed 86 = .ok (.bipush 24, 2) := by decide +kernel
theorem dX12_feed_88 : decode cX12_feed 88 = .ok (.bipush 8, 2) := by decide +kernel
theorem dX12_feed_90 : decode cX12_feed 90 = .ok (.iload 6, 2) := by decide +kernel
theorem dX12_feed_92 : decode cX12_feed 92 = .ok (.iconst 3, 1) := by decide +kernel
theorem dX12_feed_93 : decode cX12_feed 93 = .ok (.iand, 1) := by decide +kernel
theorem dX12_feed_94 : decode cX12_feed 94 = .ok (.imul, 1) := by decide +kernel
theorem dX12_feed_95 : decode cX12_feed 95 = .ok (.isub, 1) := by decide +kernel
theorem dX12_feed_96 : decode cX12_feed 96 = .ok (.ishr, 1) := by decide +kernel
theorem dX12_feed_97 : decode cX12_feed 97 = .ok (.i2b, 1) := by decide +kernel
theorem dX12_feed_98 : decode cX12_feed 98 = .ok (.bastore, 1) := by decide +kernel
theorem dX12_feed_99 : decode cX12_feed 99 = .ok (.iinc 6 1, 3) := by decide +kernel
theorem dX12_feed_102 : decode cX12_feed 102 = .ok (.goto (-84), 3) := by decide +kernel
theorem dX12_feed_105 : decode cX12_feed 105 = .ok (.aload_n 0, 1) := by decide +kernel
theorem dX12_feed_106 : decode cX12_feed 106 = .ok (.dup, 1) := by decide +kernel
theorem dX12_feed_107 : decode cX12_feed 107 = .ok (.getfield 368, 3) := by decide +kernel
theorem dX12_feed_110 : decode cX12_feed 110 = .ok (.bipush 20, 2) := by decide +kernel
theorem dX12_feed_112 : decode cX12_feed 112 = .ok (.iadd, 1) := by decide +kernel
theorem dX12_feed_113 : decode cX12_feed 113 = .ok (.putfield 368, 3) := by decide +kernel
theorem dX12_feed_116 : decode cX12_feed 116 = .ok (.aload_n 0, 1) := by decide +kernel
theorem dX12_feed_117 : decode cX12_feed 117 = .ok (.getfield 368, 3) := by decide +kernel
theorem dX12_feed_120 : decode cX12_feed 120 = .ok (.ireturn, 1) := by decide +kernel
theorem dX12_end_0 : decode cX12_end 0 = .ok (.iload_n 1, 1) := by decide +kernel
theorem dX12_end_1 : decode cX12_end 1 = .ok (.ifCond .lt 11, 3) := by decide +kernel
theorem dX12_end_4 : decode cX12_end 4 = .ok (.iload_n 1, 1) := by decide +kernel
theorem dX12_end_5 : decode cX12_end 5 = .ok (.aload_n 0, 1) := by decide +kernel
theorem dX12_end_6 : decode cX12_end 6 = .ok (.getfield 368, 3) := by decide +kernel
theorem dX12_end_9 : decode cX12_end 9 = .ok (.if_icmp .le 5, 3) := by decide +kernel
theorem dX12_end_12 : decode cX12_end 12 = .ok (.iconst (-1), 1) := by decide +kernel
theorem dX12_end_13 : decode cX12_end 13 = .ok (.ireturn, 1) := by decide +kernel
theorem dX12_end_14 : decode cX12_end 14 = .ok (.aload_n 0, 1) := by decide +kernel
theorem dX12_end_15 : decode cX12_end 15 = .ok (.iload_n 1, 1) := by decide +kernel
theorem dX12_end_16 : decode cX12_end 16 = .ok (.putfield 368, 3) := by decide +kernel
theorem dX12_end_19 : decode cX12_end 19 = .ok (.iload_n 1, 1) := by decide +kernel
theorem dX12_end_20 : decode cX12_end 20 = .ok (.ireturn, 1) := by decide +kernel
theorem dX12_begin_0 : decode cX12_begin 0 = .ok (.aload_n 0, 1) := by decide +kernel
theorem dX12_begin_1 : decode cX12_begin 1 = .ok (.getfield 380, 3) := by decide +kernel
theorem dX12_begin_4 : decode cX12_begin 4 = .ok (.ifCond .eq 12, 3) := by decide +kernel
theorem dX12_begin_7 : decode cX12_begin 7 = .ok (.iload_n 2, 1) := by decide +kernel
theorem dX12_begin_8 : decode cX12_begin 8 = .ok (.ifCond .lt 8, 3) := by decide +kernel
theorem dX12_begin_11 : decode cX12_begin 11 = .ok (.iload_n 2, 1) := by decide +kernel
theorem dX12_begin_12 : decode cX12_begin 12 = .ok (.iconst 1, 1) := by decide +kernel
theorem dX12_begin_13 : decode cX12_begin 13 = .ok (.if_icmp .le 5, 3) := by decide +kernel
theorem dX12_begin_16 : decode cX12_begin 16 = .ok (.iconst 0, 1) := by decide +kernel
theorem dX12_begin_17 : decode cX12_begin 17 = .ok (.ireturn, 1) := by decide +kernel
theorem dX12_begin_18 : decode cX12_begin 18 = .ok (.aload_n 0, 1) := by decide +kernel
theorem dX12_begin_19 : decode cX12_begin 19 = .ok (.iconst 0, 1) := by decide +kernel
theorem dX12_begin_20 : decode cX12_begin 20 = .ok (.iload_n 1, 1) := by decide +kernel
theorem dX12_begin_21 : decode cX12_begin 21 = .ok (.iload_n 2, 1) := by decide +kernel
theorem dX12_begin_22 : decode cX12_begin 22 = .ok (.invokevirtual 390, 3) := by decide +kernel
theorem dX12_begin_25 : decode cX12_begin 25 = .ok (.iconst 1, 1) := by decide +kernel
theorem dX12_begin_26 : decode cX12_begin 26 = .ok (.ireturn, 1) := by decide +kernel
theorem dX12_input_0 : decode cX12_input 0 = .ok (.aload_n 0, 1) := by decide +kernel
theorem dX12_input_1 : decode cX12_input 1 = .ok (.getfield 380, 3) := by decide +kernel
theorem dX12_input_4 : decode cX12_input 4 = .ok (.ifCond .eq 12, 3) := by decide +kernel
theorem dX12_input_7 : decode cX12_input 7 = .ok (.aload_n 0, 1) := by decide +kernel
theorem dX12_input_8 : decode cX12_input 8 = .ok (.getfield 384, 3) := by decide +kernel
theorem dX12_input_11 : decode cX12_input 11 = .ok (.bipush 100, 2) := by decide +kernel
theorem dX12_input_13 : decode cX12_input 13 = .ok (.if_icmp .ne 5, 3) := by decide +kernel
theorem dX12_input_16 : decode cX12_input 16 = .ok (.iconst (-1), 1) := by decide +kernel
theorem dX12_input_17 : decode cX12_input 17 = .ok (.ireturn, 1) := by decide +kernel
theorem dX12_input_18 : decode cX12_input 18 = .ok (.aload_n 0, 1) := by decide +kernel
theorem dX12_input_19 : decode cX12_input 19 = .ok (.getfield 124, 3) := by decide +kernel
theorem dX12_input_22 : decode cX12_input 22 = .ok (.aload_n 0, 1) := by decide +kernel
theorem dX12_input_23 : decode cX12_input 23 = .ok (.getfield 384, 3) := by decide +kernel
theorem dX12_input_26 : decode cX12_input 26 = .ok (.iload_n 1, 1) := by decide +kernel
theorem dX12_input_27 : decode cX12_input 27 = .ok (.iastore, 1) := by decide +kernel
theorem dX12_input_28 : decode cX12_input 28 = .ok (.aload_n 0, 1) := by decide +kernel
theorem dX12_input_29 : decode cX12_input 29 = .ok (.dup, 1) := by decide +kernel
theorem dX12_input_30 : decode cX12_input 30 = .ok (.getfield 384, 3) := by decide +kernel
theorem dX12_input_33 : decode cX12_input 33 = .ok (.iconst 1, 1) := by decide +kernel
theorem dX12_input_34 : decode cX12_input 34 = .ok (.iadd, 1) := by decide +kernel
theorem dX12_input_35 : decode cX12_input 35 = .ok (.putfield 384, 3) := by decide +kernel
theorem dX12_input_38 : decode cX12_input 38 = .ok (.aload_n 0, 1) := by decide +kernel
theorem dX12_input_39 : decode cX12_input 39 = .ok (.getfield 384, 3) := by decide +kernel
theorem dX12_input_42 : decode cX12_input 42 = .ok (.ireturn, 1) := by decide +kernel
theorem dX12_suppress_0 : decode cX12_suppress 0 = .ok (.aload_n 0, 1) := by decide +kernel
theorem dX12_suppress_1 : decode cX12_suppress 1 = .ok (.getfield 380, 3) := by decide +kernel
theorem dX12_suppress_4 : decode cX12_suppress 4 = .ok (.ifCond .eq 31, 3) := by decide +kernel
theorem dX12_suppress_7 : decode cX12_suppress 7 = .ok (.aload_n 0, 1) := by decide +kernel
theorem dX12_suppress_8 : decode cX12_suppress 8 = .ok (.getfield 387, 3) := by decide +kernel
theorem dX12_suppress_11 : decode cX12_suppress 11 = .ok (.bipush 20, 2) := by decide +kernel
theorem dX12_suppress_13 : decode cX12_suppress 13 = .ok (.if_icmp .eq 22, 3) := by decide +kernel
theorem dX12_suppress_16 : decode cX12_suppress 16 = .ok (.iload_n 1, 1) := by decide +kernel
theorem dX12_suppress_17 : decode cX12_suppress 17 = .ok (.ifCond .lt 18, 3) := by decide +kernel
theorem dX12_suppress_20 : decode cX12_suppress 20 = .ok (.iload_n 1, 1) := by decide +kernel
theorem dX12_suppress_21 : decode cX12_suppress 21 = .ok (.bipush 7, 2) := by decide +kernel
theorem dX12_suppress_23 : decode cX12_suppress 23 = .ok (.if_icmp .gt 12, 3) := by decide +kernel
theorem dX12_suppress_26 : decode cX12_suppress 26 = .ok (.iload_n 2, 1) := by decide +kernel
theorem dX12_suppress_27 : decode cX12_suppress 27 = .ok (.ifCond .lt 8, 3) := by decide +kernel
theorem dX12_suppress_30 : decode cX12_suppress 30 = .ok (.iload_n 2, 1) := by decide +kernel
theorem dX12_suppress_31 : decode cX12_suppress 31 = .ok (.iload_n 3, 1) := by decide +kernel
theorem dX12_suppress_32 : decode cX12_suppress 32 = .ok (.if_icmp .le 5, 3) := by decide +kernel
theorem dX12_suppress_35 : decode cX12_suppress 35 = .ok (.iconst (-1), 1) := by decide +kernel
theorem dX12_suppress_36 : decode cX12_suppress 36 = .ok (.ireturn, 1) := by decide +kernel
theorem dX12_suppress_37 : decode cX12_suppress 37 = .ok (.aload_n 0, 1) := by decide +kernel
theorem dX12_suppress_38 : decode cX12_suppress 38 = .ok (.getfield 142, 3) := by decide +kernel
theorem dX12_suppress_41 : decode cX12_suppress 41 = .ok (.aload_n 0, 1) := by decide +kernel
theorem dX12_suppress_42 : decode cX12_suppress 42 = .ok (.getfield 387, 3) := by decide +kernel
theorem dX12_suppress_45 : decode cX12_suppress 45 = .ok (.iload_n 1, 1) := by decide +kernel
theorem dX12_suppress_46 : decode cX12_suppress 46 = .ok (.iastore, 1) := by decide +kernel
theorem dX12_suppress_47 : decode cX12_suppress 47 = .ok (.aload_n 0, 1) := by decide +kernel
theorem dX12_suppress_48 : decode cX12_suppress 48 = .ok (.getfield 145, 3) := by decide +kernel
theorem dX12_suppress_51 : decode cX12_suppress 51 = .ok (.aload_n 0, 1) := by decide +kernel
theorem dX12_suppress_52 : decode cX12_suppress 52 = .ok (.getfield 387, 3) := by decide +kernel
theorem dX12_suppress_55 : decode cX12_suppress 55 = .ok (.iload_n 2, 1) := by decide +kernel
theorem dX12_suppress_56 : decode cX12_suppress 56 = .ok (.iastore, 1) := by decide +kernel
theorem dX12_suppress_57 : decode cX12_suppress 57 = .ok (.aload_n 0, 1) := by decide +kernel
theorem dX12_suppress_58 : decode cX12_suppress 58 = .ok (.getfield 148, 3) := by decide +kernel
theorem dX12_suppress_61 : decode cX12_suppress 61 = .ok (.aload_n 0, 1) := by decide +kernel
theorem dX12_suppress_62 : decode cX12_suppress 62 = .ok (.getfield 387, 3) := by decide +kernel
theorem dX12_suppress_65 : decode cX12_suppress 65 = .ok (.iload_n 3, 1) := by decide +kernel
theorem dX12_suppress_66 : decode cX12_suppress 66 = .ok (.iastore, 1) := by decide +kernel
theorem dX12_suppress_67 : decode cX12_suppress 67 = .ok (.aload_n 0, 1) := by decide +kernel
theorem dX12_suppress_68 : decode cX12_suppress 68 = .ok (.dup, 1) := by decide +kernel
theorem dX12_suppress_69 : decode cX12_suppress 69 = .ok (.getfield 387, 3) := by decide +kernel
theorem dX12_suppress_72 : decode cX12_suppress 72 = .ok (.iconst 1, 1) := by decide +kernel
theorem dX12_suppress_73 : decode cX12_suppress 73 = .ok (.iadd, 1) := by decide +kernel
theorem dX12_suppress_74 : decode cX12_suppress 74 = .ok (.putfield 387, 3) := by decide +kernel
theorem dX12_suppress_77 : decode cX12_suppress 77 = .ok (.aload_n 0, 1) := by decide +kernel
theorem dX12_suppress_78 : decode cX12_suppress 78 = .ok (.getfield 387, 3) := by decide +kernel
theorem dX12_suppress_81 : decode cX12_suppress 81 = .ok (.ireturn, 1) := by decide +kernel
theorem dX12_run_0 : decode cX12_run 0 = .ok (.aload_n 0, 1) := by decide +kernel
theorem dX12_run_1 : decode cX12_run 1 = .ok (.getfield 380, 3) := by decide +kernel
theorem dX12_run_4 : decode cX12_run 4 = .ok (.ifCond .eq 14, 3) := by decide +kernel
theorem dX12_run_7 : decode cX12_run 7 = .ok (.iload_n 1, 1) := by decide +kernel
theorem dX12_run_8 : decode cX12_run 8 = .ok (.ifCond .lt 10, 3) := by decide +kernel
theorem dX12_run_11 : decode cX12_run 11 = .ok (.iload_n 1, 1) := by decide +kernel
theorem dX12_run_12 : decode cX12_run 12 = .ok (.sipush 20000, 3) := by decide +kernel
theorem dX12_run_15 : decode cX12_run 15 = .ok (.if_icmp .le 5, 3) := by decide +kernel
theorem dX12_run_18 : decode cX12_run 18 = .ok (.iconst (-1), 1) := by decide +kernel
theorem dX12_run_19 : decode cX12_run 19 = .ok (.ireturn, 1) := by decide +kernel
theorem dX12_run_20 : decode cX12_run 20 = .ok (.aload_n 0, 1) := by decide +kernel
theorem dX12_run_21 : decode cX12_run 21 = .ok (.iconst 0, 1) := by decide +kernel
theorem dX12_run_22 : decode cX12_run 22 = .ok (.putfield 394, 3) := by decide +kernel
theorem dX12_run_25 : decode cX12_run 25 = .ok (.aload_n 0, 1) := by decide +kernel
theorem dX12_run_26 : decode cX12_run 26 = .ok (.iload_n 1, 1) := by decide +kernel
theorem dX12_run_27 : decode cX12_run 27 = .ok (.invokevirtual 592, 3) := by decide +kernel
theorem dX12_run_30 : decode cX12_run 30 = .ok (.ireturn, 1) := by decide +kernel
theorem dX12_state_0 : decode cX12_state 0 = .ok (.aload_n 0, 1) := by decide +kernel
theorem dX12_state_1 : decode cX12_state 1 = .ok (.getfield 380, 3) := by decide +kernel
theorem dX12_state_4 : decode cX12_state 4 = .ok (.ifCond .ne 5, 3) := by decide +kernel
theorem dX12_state_7 : decode cX12_state 7 = .ok (.iconst (-1), 1) := by decide +kernel
theorem dX12_state_8 : decode cX12_state 8 = .ok (.ireturn, 1) := by decide +kernel
theorem dX12_state_9 : decode cX12_state 9 = .ok (.iload_n 1, 1) := by decide +kernel
theorem dX12_state_10 : decode cX12_state 10 = .ok (.tableswitch 122 0 9 #[54, 61, 68, 75, 80, 85, 90, 95, 102, 109], 54) := by decide +kernel
theorem dX12_state_64 : decode cX12_state 64 = .ok (.aload_n 0, 1) := by decide +kernel
theorem dX12_state_65 : decode cX12_state 65 = .ok (.getfield 76, 3) := by decide +kernel
theorem dX12_state_68 : decode cX12_state 68 = .ok (.iconst 0, 1) := by decide +kernel
theorem dX12_state_69 : decode cX12_state 69 = .ok (.iaload, 1) := by decide +kernel
theorem dX12_state_70 : decode cX12_state 70 = .ok (.ireturn, 1) := by decide +kernel
theorem dX12_state_71 : decode cX12_state 71 = .ok (.aload_n 0, 1) := by decide +kernel
theorem dX12_state_72 : decode cX12_state 72 = .ok (.getfield 79, 3) := by decide +kernel
theorem dX12_state_75 : decode cX12_state 75 = .ok (.iconst 0, 1) := by decide +kernel
theorem dX12_state_76 : decode cX12_state 76 = .ok (.iaload, 1) := by decide +kernel
theorem dX12_state_77 : decode cX12_state 77 = .ok (.ireturn, 1) := by decide +kernel
theorem dX12_state_78 : decode cX12_state 78 = .ok (.aload_n 0, 1) := by decide +kernel
theorem dX12_state_79 : decode cX12_state 79 = .ok (.getfield 82, 3) := by decide +kernel
theorem dX12_state_82 : decode cX12_state 82 = .ok (.iconst 0, 1) := by decide +kernel
theorem dX12_state_83 : decode cX12_state 83 = .ok (.iaload, 1) := by decide +kernel
theorem dX12_state_84 : decode cX12_state 84 = .ok (.ireturn, 1) := by decide +kernel
theorem dX12_state_85 : decode cX12_state 85 = .ok (.aload_n 0, 1) := by decide +kernel
theorem dX12_state_86 : decode cX12_state 86 = .ok (.getfield 400, 3) := by decide +kernel
theorem dX12_state_89 : decode cX12_state 89 = .ok (.ireturn, 1) := by decide +kernel
theorem dX12_state_90 : decode cX12_state 90 = .ok (.aload_n 0, 1) := by decide +kernel
theorem dX12_state_91 : decode cX12_state 91 = .ok (.getfield 403, 3) := by decide +kernel
theorem dX12_state_94 : decode cX12_state 94 = .ok (.ireturn, 1) := by decide +kernel
theorem dX12_state_95 : decode cX12_state 95 = .ok (.aload_n 0, 1) := by decide +kernel
theorem dX12_state_96 : decode cX12_state 96 = .ok (.getfield 406, 3) := by decide +kernel
theorem dX12_state_99 : decode cX12_state 99 = .ok (.ireturn, 1) := by decide +kernel
theorem dX12_state_100 : decode cX12_state 100 = .ok (.aload_n 0, 1) := by decide +kernel
theorem dX12_state_101 : decode cX12_state 101 = .ok (.getfield 409, 3) := by decide +kernel
theorem dX12_state_104 : decode cX12_state 104 = .ok (.ireturn, 1) := by decide +kernel
theorem dX12_state_105 : decode cX12_state 105 = .ok (.aload_n 0, 1) := by decide +kernel
theorem dX12_state_106 : decode cX12_state 106 = .ok (.getfield 118, 3) := by decide +kernel
theorem dX12_state_109 : decode cX12_state 109 = .ok (.iconst 0, 1) := by decide +kernel
theorem dX12_state_110 : decode cX12_state 110 = .ok (.iaload, 1) := by decide +kernel
theorem dX12_state_111 : decode cX12_state 111 = .ok (.ireturn, 1) := by decide +kernel
theorem dX12_state_112 : decode cX12_state 112 = .ok (.aload_n 0, 1) := by decide +kernel
theorem dX12_state_113 : decode cX12_state 113 = .ok (.getfield 85, 3) := by decide +kernel
theorem dX12_state_116 : decode cX12_state 116 = .ok (.iconst 0, 1) := by decide +kernel
theorem dX12_state_117 : decode cX12_state 117 = .ok (.iaload, 1) := by decide +kernel
theorem dX12_state_118 : decode cX12_state 118 = .ok (.ireturn, 1) := by decide +kernel
theorem dX12_state_119 : decode cX12_state 119 = .ok (.aload_n 0, 1) := by decide +kernel
theorem dX12_state_120 : decode cX12_state 120 = .ok (.getfield 412, 3) := by decide +kernel
theorem dX12_state_123 : decode cX12_state 123 = .ok (.ifCond .eq 7, 3) := by decide +kernel
theorem dX12_state_126 : decode cX12_state 126 = .ok (.iconst 1, 1) := by decide +kernel
theorem dX12_state_127 : decode cX12_state 127 = .ok (.goto 4, 3) := by decide +kernel
theorem dX12_state_130 : decode cX12_state 130 = .ok (.iconst 0, 1) := by decide +kernel
theorem dX12_state_131 : decode cX12_state 131 = .ok (.ireturn, 1) := by decide +kernel
theorem dX12_state_132 : decode cX12_state 132 = .ok (.iconst (-1), 1) := by decide +kernel
theorem dX12_state_133 : decode cX12_state 133 = .ok (.ireturn, 1) := by decide +kernel
theorem dX12_register_0 : decode cX12_register 0 = .ok (.aload_n 0, 1) := by decide +kernel
theorem dX12_register_1 : decode cX12_register 1 = .ok (.getfield 380, 3) := by decide +kernel
theorem dX12_register_4 : decode cX12_register 4 = .ok (.ifCond .eq 13, 3) := by decide +kernel
theorem dX12_register_7 : decode cX12_register 7 = .ok (.iload_n 1, 1) := by decide +kernel
theorem dX12_register_8 : decode cX12_register 8 = .ok (.ifCond .lt 9, 3) := by decide +kernel
theorem dX12_register_11 : decode cX12_register 11 = .ok (.iload_n 1, 1) := by decide +kernel
theorem dX12_register_12 : decode cX12_register 12 = .ok (.bipush 7, 2) := by decide +kernel
theorem dX12_register_14 : decode cX12_register 14 = .ok (.if_icmp .le 5, 3) := by decide +kernel
theorem dX12_register_17 : decode cX12_register 17 = .ok (.iconst (-1), 1) := by decide +kernel
theorem dX12_register_18 : decode cX12_register 18 = .ok (.ireturn, 1) := by decide +kernel
theorem dX12_register_19 : decode cX12_register 19 = .ok (.iload_n 2, 1) := by decide +kernel
theorem dX12_register_20 : decode cX12_register 20 = .ok (.ifCond .ne 12, 3) := by decide +kernel
theorem dX12_register_23 : decode cX12_register 23 = .ok (.aload_n 0, 1) := by decide +kernel
theorem dX12_register_24 : decode cX12_register 24 = .ok (.getfield 55, 3) := by decide +kernel
theorem dX12_register_27 : decode cX12_register 27 = .ok (.iload_n 1, 1) := by decide +kernel
theorem dX12_register_28 : decode cX12_register 28 = .ok (.iaload, 1) := by decide +kernel
theorem dX12_register_29 : decode cX12_register 29 = .ok (.goto 32, 3) := by decide +kernel
theorem dX12_register_32 : decode cX12_register 32 = .ok (.iload_n 2, 1) := by decide +kernel
theorem dX12_register_33 : decode cX12_register 33 = .ok (.iconst 1, 1) := by decide +kernel
theorem dX12_register_34 : decode cX12_register 34 = .ok (.if_icmp .ne 12, 3) := by decide +kernel
theorem dX12_register_37 : decode cX12_register 37 = .ok (.aload_n 0, 1) := by decide +kernel
theorem dX12_register_38 : decode cX12_register 38 = .ok (.getfield 58, 3) := by decide +kernel
theorem dX12_register_41 : decode cX12_register 41 = .ok (.iload_n 1, 1) := by decide +kernel
theorem dX12_register_42 : decode cX12_register 42 = .ok (.iaload, 1) := by decide +kernel
theorem dX12_register_43 : decode cX12_register 43 = .ok (.goto 18, 3) := by decide +kernel
theorem dX12_register_46 : decode cX12_register 46 = .ok (.iload_n 2, 1) := by decide +kernel
theorem dX12_register_47 : decode cX12_register 47 = .ok (.iconst 2, 1) := by decide +kernel
theorem dX12_register_48 : decode cX12_register 48 = .ok (.if_icmp .ne 12, 3) := by decide +kernel
theorem dX12_register_51 : decode cX12_register 51 = .ok (.aload_n 0, 1) := by decide +kernel
theorem dX12_register_52 : decode cX12_register 52 = .ok (.getfield 61, 3) := by decide +kernel
theorem dX12_register_55 : decode cX12_register 55 = .ok (.iload_n 1, 1) := by decide +kernel
theorem dX12_register_56 : decode cX12_register 56 = .ok (.iaload, 1) := by decide +kernel
theorem dX12_register_57 : decode cX12_register 57 = .ok (.goto 4, 3) := by decide +kernel
theorem dX12_register_60 : decode cX12_register 60 = .ok (.iconst (-1), 1) := by decide +kernel
theorem dX12_register_61 : decode cX12_register 61 = .ok (.ireturn, 1) := by decide +kernel
theorem dX12_memory_0 : decode cX12_memory 0 = .ok (.aload_n 0, 1) := by decide +kernel
theorem dX12_memory_1 : decode cX12_memory 1 = .ok (.getfield 380, 3) := by decide +kernel
theorem dX12_memory_4 : decode cX12_memory 4 = .ok (.ifCond .eq 14, 3) := by decide +kernel
theorem dX12_memory_7 : decode cX12_memory 7 = .ok (.iload_n 1, 1) := by decide +kernel
theorem dX12_memory_8 : decode cX12_memory 8 = .ok (.ifCond .lt 10, 3) := by decide +kernel
theorem dX12_memory_11 : decode cX12_memory 11 = .ok (.iload_n 1, 1) := by decide +kernel
theorem dX12_memory_12 : decode cX12_memory 12 = .ok (.sipush 4096, 3) := by decide +kernel
theorem dX12_memory_15 : decode cX12_memory 15 = .ok (.if_icmp .lt 5, 3) := by decide +kernel
theorem dX12_memory_18 : decode cX12_memory 18 = .ok (.iconst (-1), 1) := by decide +kernel
theorem dX12_memory_19 : decode cX12_memory 19 = .ok (.ireturn, 1) := by decide +kernel
theorem dX12_memory_20 : decode cX12_memory 20 = .ok (.iload_n 2, 1) := by decide +kernel
theorem dX12_memory_21 : decode cX12_memory 21 = .ok (.ifCond .ne 12, 3) := by decide +kernel
theorem dX12_memory_24 : decode cX12_memory 24 = .ok (.aload_n 0, 1) := by decide +kernel
theorem dX12_memory_25 : decode cX12_memory 25 = .ok (.getfield 64, 3) := by decide +kernel
theorem dX12_memory_28 : decode cX12_memory 28 = .ok (.iload_n 1, 1) := by decide +kernel
theorem dX12_memory_29 : decode cX12_memory 29 = .ok (.iaload, 1) := by decide +kernel
theorem dX12_memory_30 : decode cX12_memory 30 = .ok (.goto 54, 3) := by decide +kernel
theorem dX12_memory_33 : decode cX12_memory 33 = .ok (.iload_n 2, 1) := by decide +kernel
theorem dX12_memory_34 : decode cX12_memory 34 = .ok (.iconst 1, 1) := by decide +kernel
theorem dX12_memory_35 : decode cX12_memory 35 = .ok (.if_icmp .ne 12, 3) := by decide +kernel
theorem dX12_memory_38 : decode cX12_memory 38 = .ok (.aload_n 0, 1) := by decide +kernel
theorem dX12_memory_39 : decode cX12_memory 39 = .ok (.getfield 67, 3) := by decide +kernel
theorem dX12_memory_42 : decode cX12_memory 42 = .ok (.iload_n 1, 1) := by decide +kernel
theorem dX12_memory_43 : decode cX12_memory 43 = .ok (.iaload, 1) := by decide +kernel
theorem dX12_memory_44 : decode cX12_memory 44 = .ok (.goto 40, 3) := by decide +kernel
theorem dX12_memory_47 : decode cX12_memory 47 = .ok (.iload_n 2, 1) := by decide +kernel
theorem dX12_memory_48 : decode cX12_memory 48 = .ok (.iconst 2, 1) := by decide +kernel
theorem dX12_memory_49 : decode cX12_memory 49 = .ok (.if_icmp .ne 12, 3) := by decide +kernel
theorem dX12_memory_52 : decode cX12_memory 52 = .ok (.aload_n 0, 1) := by decide +kernel
theorem dX12_memory_53 : decode cX12_memory 53 = .ok (.getfield 70, 3) := by decide +kernel
theorem dX12_memory_56 : decode cX12_memory 56 = .ok (.iload_n 1, 1) := by decide +kernel
theorem dX12_memory_57 : decode cX12_memory 57 = .ok (.iaload, 1) := by decide +kernel
theorem dX12_memory_58 : decode cX12_memory 58 = .ok (.goto 26, 3) := by decide +kernel
theorem dX12_memory_61 : decode cX12_memory 61 = .ok (.iload_n 2, 1) := by decide +kernel
theorem dX12_memory_62 : decode cX12_memory 62 = .ok (.iconst 3, 1) := by decide +kernel
theorem dX12_memory_63 : decode cX12_memory 63 = .ok (.if_icmp .ne 20, 3) := by decide +kernel
theorem dX12_memory_66 : decode cX12_memory 66 = .ok (.aload_n 0, 1) := by decide +kernel
theorem dX12_memory_67 : decode cX12_memory 67 = .ok (.getfield 73, 3) := by decide +kernel
theorem dX12_memory_70 : decode cX12_memory 70 = .ok (.iload_n 1, 1) := by decide +kernel
theorem dX12_memory_71 : decode cX12_memory 71 = .ok (.baload, 1) := by decide +kernel
theorem dX12_memory_72 : decode cX12_memory 72 = .ok (.ifCond .eq 7, 3) := by decide +kernel
theorem dX12_memory_75 : decode cX12_memory 75 = .ok (.iconst 1, 1) := by decide +kernel
theorem dX12_memory_76 : decode cX12_memory 76 = .ok (.goto 8, 3) := by decide +kernel
theorem dX12_memory_79 : decode cX12_memory 79 = .ok (.iconst 0, 1) := by decide +kernel
theorem dX12_memory_80 : decode cX12_memory 80 = .ok (.goto 4, 3) := by decide +kernel
theorem dX12_memory_83 : decode cX12_memory 83 = .ok (.iconst (-1), 1) := by decide +kernel
theorem dX12_memory_84 : decode cX12_memory 84 = .ok (.ireturn, 1) := by decide +kernel
theorem dX12_report_0 : decode cX12_report 0 = .ok (.iload_n 1, 1) := by decide +kernel
theorem dX12_report_1 : decode cX12_report 1 = .ok (.ifCond .lt 11, 3) := by decide +kernel
theorem dX12_report_4 : decode cX12_report 4 = .ok (.iload_n 1, 1) := by decide +kernel
theorem dX12_report_5 : decode cX12_report 5 = .ok (.aload_n 0, 1) := by decide +kernel
theorem dX12_report_6 : decode cX12_report 6 = .ok (.getfield 400, 3) := by decide +kernel
theorem dX12_report_9 : decode cX12_report 9 = .ok (.if_icmp .lt 5, 3) := by decide +kernel
theorem dX12_report_12 : decode cX12_report 12 = .ok (.iconst (-1), 1) := by decide +kernel
theorem dX12_report_13 : decode cX12_report 13 = .ok (.ireturn, 1) := by decide +kernel
theorem dX12_report_14 : decode cX12_report 14 = .ok (.iload_n 2, 1) := by decide +kernel
theorem dX12_report_15 : decode cX12_report 15 = .ok (.ifCond .ne 12, 3) := by decide +kernel
theorem dX12_report_18 : decode cX12_report 18 = .ok (.aload_n 0, 1) := by decide +kernel
theorem dX12_report_19 : decode cX12_report 19 = .ok (.getfield 130, 3) := by decide +kernel
theorem dX12_report_22 : decode cX12_report 22 = .ok (.iload_n 1, 1) := by decide +kernel
theorem dX12_report_23 : decode cX12_report 23 = .ok (.iaload, 1) := by decide +kernel
theorem dX12_report_24 : decode cX12_report 24 = .ok (.goto 46, 3) := by decide +kernel
theorem dX12_report_27 : decode cX12_report 27 = .ok (.iload_n 2, 1) := by decide +kernel
theorem dX12_report_28 : decode cX12_report 28 = .ok (.iconst 1, 1) := by decide +kernel
theorem dX12_report_29 : decode cX12_report 29 = .ok (.if_icmp .ne 12, 3) := by decide +kernel
theorem dX12_report_32 : decode cX12_report 32 = .ok (.aload_n 0, 1) := by decide +kernel
theorem dX12_report_33 : decode cX12_report 33 = .ok (.getfield 133, 3) := by decide +kernel
theorem dX12_report_36 : decode cX12_report 36 = .ok (.iload_n 1, 1) := by decide +kernel
theorem dX12_report_37 : decode cX12_report 37 = .ok (.iaload, 1) := by decide +kernel
theorem dX12_report_38 : decode cX12_report 38 = .ok (.goto 32, 3) := by decide +kernel
theorem dX12_report_41 : decode cX12_report 41 = .ok (.iload_n 2, 1) := by decide +kernel
theorem dX12_report_42 : decode cX12_report 42 = .ok (.iconst 2, 1) := by decide +kernel
theorem dX12_report_43 : decode cX12_report 43 = .ok (.if_icmp .ne 12, 3) := by decide +kernel
theorem dX12_report_46 : decode cX12_report 46 = .ok (.aload_n 0, 1) := by decide +kernel
theorem dX12_report_47 : decode cX12_report 47 = .ok (.getfield 136, 3) := by decide +kernel
theorem dX12_report_50 : decode cX12_report 50 = .ok (.iload_n 1, 1) := by decide +kernel
theorem dX12_report_51 : decode cX12_report 51 = .ok (.iaload, 1) := by decide +kernel
theorem dX12_report_52 : decode cX12_report 52 = .ok (.goto 18, 3) := by decide +kernel
theorem dX12_report_55 : decode cX12_report 55 = .ok (.iload_n 2, 1) := by decide +kernel
theorem dX12_report_56 : decode cX12_report 56 = .ok (.iconst 3, 1) := by decide +kernel
theorem dX12_report_57 : decode cX12_report 57 = .ok (.if_icmp .ne 12, 3) := by decide +kernel
theorem dX12_report_60 : decode cX12_report 60 = .ok (.aload_n 0, 1) := by decide +kernel
theorem dX12_report_61 : decode cX12_report 61 = .ok (.getfield 139, 3) := by decide +kernel
theorem dX12_report_64 : decode cX12_report 64 = .ok (.iload_n 1, 1) := by decide +kernel
theorem dX12_report_65 : decode cX12_report 65 = .ok (.iaload, 1) := by decide +kernel
theorem dX12_report_66 : decode cX12_report 66 = .ok (.goto 4, 3) := by decide +kernel
theorem dX12_report_69 : decode cX12_report 69 = .ok (.iconst (-1), 1) := by decide +kernel
theorem dX12_report_70 : decode cX12_report 70 = .ok (.ireturn, 1) := by decide +kernel
theorem dX12_output_0 : decode cX12_output 0 = .ok (.iload_n 1, 1) := by decide +kernel
theorem dX12_output_1 : decode cX12_output 1 = .ok (.ifCond .lt 17, 3) := by decide +kernel
theorem dX12_output_4 : decode cX12_output 4 = .ok (.iload_n 1, 1) := by decide +kernel
theorem dX12_output_5 : decode cX12_output 5 = .ok (.bipush 100, 2) := by decide +kernel
theorem dX12_output_7 : decode cX12_output 7 = .ok (.if_icmp .ge 11, 3) := by decide +kernel
theorem dX12_output_10 : decode cX12_output 10 = .ok (.iload_n 1, 1) := by decide +kernel
theorem dX12_output_11 : decode cX12_output 11 = .ok (.aload_n 0, 1) := by decide +kernel
theorem dX12_output_12 : decode cX12_output 12 = .ok (.getfield 409, 3) := by decide +kernel
theorem dX12_output_15 : decode cX12_output 15 = .ok (.if_icmp .lt 7, 3) := by decide +kernel
theorem dX12_output_18 : decode cX12_output 18 = .ok (.iconst (-1), 1) := by decide +kernel
theorem dX12_output_19 : decode cX12_output 19 = .ok (.goto 9, 3) := by decide +kernel
theorem dX12_output_22 : decode cX12_output 22 = .ok (.aload_n 0, 1) := by decide +kernel
theorem dX12_output_23 : decode cX12_output 23 = .ok (.getfield 127, 3) := by decide +kernel
theorem dX12_output_26 : decode cX12_output 26 = .ok (.iload_n 1, 1) := by decide +kernel
theorem dX12_output_27 : decode cX12_output 27 = .ok (.iaload, 1) := by decide +kernel
theorem dX12_output_28 : decode cX12_output 28 = .ok (.ireturn, 1) := by decide +kernel
theorem dX12_block_0 : decode cX12_block 0 = .ok (.aload_n 0, 1) := by decide +kernel
theorem dX12_block_1 : decode cX12_block 1 = .ok (.getfield 380, 3) := by decide +kernel
theorem dX12_block_4 : decode cX12_block 4 = .ok (.ifCond .eq 18, 3) := by decide +kernel
theorem dX12_block_7 : decode cX12_block 7 = .ok (.iload_n 1, 1) := by decide +kernel
theorem dX12_block_8 : decode cX12_block 8 = .ok (.iconst 1, 1) := by decide +kernel
theorem dX12_block_9 : decode cX12_block 9 = .ok (.if_icmp .lt 13, 3) := by decide +kernel
theorem dX12_block_12 : decode cX12_block 12 = .ok (.iload_n 1, 1) := by decide +kernel
theorem dX12_block_13 : decode cX12_block 13 = .ok (.aload_n 0, 1) := by decide +kernel
theorem dX12_block_14 : decode cX12_block 14 = .ok (.getfield 118, 3) := by decide +kernel
theorem dX12_block_17 : decode cX12_block 17 = .ok (.iconst 0, 1) := by decide +kernel
theorem dX12_block_18 : decode cX12_block 18 = .ok (.iaload, 1) := by decide +kernel
theorem dX12_block_19 : decode cX12_block 19 = .ok (.if_icmp .le 5, 3) := by decide +kernel
theorem dX12_block_22 : decode cX12_block 22 = .ok (.iconst (-1), 1) := by decide +kernel
theorem dX12_block_23 : decode cX12_block 23 = .ok (.ireturn, 1) := by decide +kernel
theorem dX12_block_24 : decode cX12_block 24 = .ok (.iload_n 2, 1) := by decide +kernel
theorem dX12_block_25 : decode cX12_block 25 = .ok (.tableswitch 85 0 5 #[39, 46, 53, 60, 67, 74], 39) := by decide +kernel
theorem dX12_block_64 : decode cX12_block 64 = .ok (.aload_n 0, 1) := by decide +kernel
theorem dX12_block_65 : decode cX12_block 65 = .ok (.getfield 100, 3) := by decide +kernel
theorem dX12_block_68 : decode cX12_block 68 = .ok (.iload_n 1, 1) := by decide +kernel
theorem dX12_block_69 : decode cX12_block 69 = .ok (.iaload, 1) := by decide +kernel
theorem dX12_block_70 : decode cX12_block 70 = .ok (.ireturn, 1) := by decide +kernel
theorem dX12_block_71 : decode cX12_block 71 = .ok (.aload_n 0, 1) := by decide +kernel
theorem dX12_block_72 : decode cX12_block 72 = .ok (.getfield 103, 3) := by decide +kernel
theorem dX12_block_75 : decode cX12_block 75 = .ok (.iload_n 1, 1) := by decide +kernel
theorem dX12_block_76 : decode cX12_block 76 = .ok (.iaload, 1) := by decide +kernel
theorem dX12_block_77 : decode cX12_block 77 = .ok (.ireturn, 1) := by decide +kernel
theorem dX12_block_78 : decode cX12_block 78 = .ok (.aload_n 0, 1) := by decide +kernel
theorem dX12_block_79 : decode cX12_block 79 = .ok (.getfield 106, 3) := by decide +kernel
theorem dX12_block_82 : decode cX12_block 82 = .ok (.iload_n 1, 1) := by decide +kernel
theorem dX12_block_83 : decode cX12_block 83 = .ok (.iaload, 1) := by decide +kernel
theorem dX12_block_84 : decode cX12_block 84 = .ok (.ireturn, 1) := by decide +kernel
theorem dX12_block_85 : decode cX12_block 85 = .ok (.aload_n 0, 1) := by decide +kernel
theorem dX12_block_86 : decode cX12_block 86 = .ok (.getfield 109, 3) := by decide +kernel
theorem dX12_block_89 : decode cX12_block 89 = .ok (.iload_n 1, 1) := by decide +kernel
theorem dX12_block_90 : decode cX12_block 90 = .ok (.iaload, 1) := by decide +kernel
theorem dX12_block_91 : decode cX12_block 91 = .ok (.ireturn, 1) := by decide +kernel
theorem dX12_block_92 : decode cX12_block 92 = .ok (.aload_n 0, 1) := by decide +kernel
theorem dX12_block_93 : decode cX12_block 93 = .ok (.getfield 112, 3) := by decide +kernel
theorem dX12_block_96 : decode cX12_block 96 = .ok (.iload_n 1, 1) := by decide +kernel
theorem dX12_block_97 : decode cX12_block 97 = .ok (.iaload, 1) := by decide +kernel
theorem dX12_block_98 : decode cX12_block 98 = .ok (.ireturn, 1) := by decide +kernel
theorem dX12_block_99 : decode cX12_block 99 = .ok (.aload_n 0, 1) := by decide +kernel
theorem dX12_block_100 : decode cX12_block 100 = .ok (.invokevirtual 595, 3) := by decide +kernel
theorem dX12_block_103 : decode cX12_block 103 = .ok (.aload_n 0, 1) := by decide +kernel
theorem dX12_block_104 : decode cX12_block 104 = .ok (.getfield 160, 3) := by decide +kernel
theorem dX12_block_107 : decode cX12_block 107 = .ok (.iload_n 1, 1) := by decide +kernel
theorem dX12_block_108 : decode cX12_block 108 = .ok (.iaload, 1) := by decide +kernel
theorem dX12_block_109 : decode cX12_block 109 = .ok (.ireturn, 1) := by decide +kernel
theorem dX12_block_110 : decode cX12_block 110 = .ok (.iconst (-1), 1) := by decide +kernel
theorem dX12_block_111 : decode cX12_block 111 = .ok (.ireturn, 1) := by decide +kernel
theorem dX12_twin_0 : decode cX12_twin 0 = .ok (.aload_n 0, 1) := by decide +kernel
theorem dX12_twin_1 : decode cX12_twin 1 = .ok (.getfield 380, 3) := by decide +kernel
theorem dX12_twin_4 : decode cX12_twin 4 = .ok (.ifCond .ne 5, 3) := by decide +kernel
theorem dX12_twin_7 : decode cX12_twin 7 = .ok (.iconst (-1), 1) := by decide +kernel
theorem dX12_twin_8 : decode cX12_twin 8 = .ok (.ireturn, 1) := by decide +kernel
theorem dX12_twin_9 : decode cX12_twin 9 = .ok (.aload_n 0, 1) := by decide +kernel
theorem dX12_twin_10 : decode cX12_twin 10 = .ok (.getfield 82, 3) := by decide +kernel
theorem dX12_twin_13 : decode cX12_twin 13 = .ok (.iconst 0, 1) := by decide +kernel
theorem dX12_twin_14 : decode cX12_twin 14 = .ok (.iaload, 1) := by decide +kernel
theorem dX12_twin_15 : decode cX12_twin 15 = .ok (.istore_n 2, 1) := by decide +kernel
theorem dX12_twin_16 : decode cX12_twin 16 = .ok (.aload_n 0, 1) := by decide +kernel
theorem dX12_twin_17 : decode cX12_twin 17 = .ok (.iconst 1, 1) := by decide +kernel
theorem dX12_twin_18 : decode cX12_twin 18 = .ok (.iload_n 1, 1) := by decide +kernel
theorem dX12_twin_19 : decode cX12_twin 19 = .ok (.aload_n 0, 1) := by decide +kernel
theorem dX12_twin_20 : decode cX12_twin 20 = .ok (.getfield 397, 3) := by decide +kernel
theorem dX12_twin_23 : decode cX12_twin 23 = .ok (.invokevirtual 390, 3) := by decide +kernel
theorem dX12_twin_26 : decode cX12_twin 26 = .ok (.aload_n 0, 1) := by decide +kernel
theorem dX12_twin_27 : decode cX12_twin 27 = .ok (.iload_n 2, 1) := by decide +kernel
theorem dX12_twin_28 : decode cX12_twin 28 = .ok (.invokevirtual 592, 3) := by decide +kernel
theorem dX12_twin_31 : decode cX12_twin 31 = .ok (.istore_n 3, 1) := by decide +kernel
theorem dX12_twin_32 : decode cX12_twin 32 = .ok (.aload_n 0, 1) := by decide +kernel
theorem dX12_twin_33 : decode cX12_twin 33 = .ok (.iconst 0, 1) := by decide +kernel
theorem dX12_twin_34 : decode cX12_twin 34 = .ok (.putfield 394, 3) := by decide +kernel
theorem dX12_twin_37 : decode cX12_twin 37 = .ok (.aload_n 0, 1) := by decide +kernel
theorem dX12_twin_38 : decode cX12_twin 38 = .ok (.getfield 85, 3) := by decide +kernel
theorem dX12_twin_41 : decode cX12_twin 41 = .ok (.iconst 1, 1) := by decide +kernel
theorem dX12_twin_42 : decode cX12_twin 42 = .ok (.iaload, 1) := by decide +kernel
theorem dX12_twin_43 : decode cX12_twin 43 = .ok (.ireturn, 1) := by decide +kernel
theorem dJ9_max_7cf53_0 : decode cJ9_max_7cf53 0 = .ok (.iload_n 0, 1) := by decide +kernel
theorem dJ9_max_7cf53_1 : decode cJ9_max_7cf53 1 = .ok (.iload_n 1, 1) := by decide +kernel
theorem dJ9_max_7cf53_2 : decode cJ9_max_7cf53 2 = .ok (.if_icmp .lt 7, 3) := by decide +kernel
theorem dJ9_max_7cf53_5 : decode cJ9_max_7cf53 5 = .ok (.iload_n 0, 1) := by decide +kernel
theorem dJ9_max_7cf53_6 : decode cJ9_max_7cf53 6 = .ok (.goto 4, 3) := by decide +kernel
theorem dJ9_max_7cf53_9 : decode cJ9_max_7cf53 9 = .ok (.iload_n 1, 1) := by decide +kernel
theorem dJ9_max_7cf53_10 : decode cJ9_max_7cf53 10 = .ok (.ireturn, 1) := by decide +kernel
theorem dJ9_min_7cf53_0 : decode cJ9_min_7cf53 0 = .ok (.iload_n 0, 1) := by decide +kernel
theorem dJ9_min_7cf53_1 : decode cJ9_min_7cf53 1 = .ok (.iload_n 1, 1) := by decide +kernel
theorem dJ9_min_7cf53_2 : decode cJ9_min_7cf53 2 = .ok (.if_icmp .gt 7, 3) := by decide +kernel
theorem dJ9_min_7cf53_5 : decode cJ9_min_7cf53 5 = .ok (.iload_n 0, 1) := by decide +kernel
theorem dJ9_min_7cf53_6 : decode cJ9_min_7cf53 6 = .ok (.goto 4, 3) := by decide +kernel
theorem dJ9_min_7cf53_9 : decode cJ9_min_7cf53 9 = .ok (.iload_n 1, 1) := by decide +kernel
theorem dJ9_min_7cf53_10 : decode cJ9_min_7cf53 10 = .ok (.ireturn, 1) := by decide +kernel
theorem dJ0_length_8abf5_0 : decode cJ0_length_8abf5 0 = .ok (.aload_n 0, 1) := by decide +kernel
theorem dJ0_length_8abf5_1 : decode cJ0_length_8abf5 1 = .ok (.getfield 9, 3) := by decide +kernel
theorem dJ0_length_8abf5_4 : decode cJ0_length_8abf5 4 = .ok (.arraylength, 1) := by decide +kernel
theorem dJ0_length_8abf5_5 : decode cJ0_length_8abf5 5 = .ok (.aload_n 0, 1) := by decide +kernel
theorem dJ0_length_8abf5_6 : decode cJ0_length_8abf5 6 = .ok (.invokevirtual 335, 3) := by decide +kernel
theorem dJ0_length_8abf5_9 : decode cJ0_length_8abf5 9 = .ok (.ishr, 1) := by decide +kernel
theorem dJ0_length_8abf5_10 : decode cJ0_length_8abf5 10 = .ok (.ireturn, 1) := by decide +kernel
theorem dJ0_charAt_5068e_0 : decode cJ0_charAt_5068e 0 = .ok (.aload_n 0, 1) := by decide +kernel
theorem dJ0_charAt_5068e_1 : decode cJ0_charAt_5068e 1 = .ok (.invokevirtual 492, 3) := by decide +kernel
theorem dJ0_charAt_5068e_4 : decode cJ0_charAt_5068e 4 = .ok (.ifCond .eq 12, 3) := by decide +kernel
theorem dJ0_charAt_5068e_7 : decode cJ0_charAt_5068e 7 = .ok (.aload_n 0, 1) := by decide +kernel
theorem dJ0_charAt_5068e_8 : decode cJ0_charAt_5068e 8 = .ok (.getfield 9, 3) := by decide +kernel
theorem dJ0_charAt_5068e_11 : decode cJ0_charAt_5068e 11 = .ok (.iload_n 1, 1) := by decide +kernel
theorem dJ0_charAt_5068e_12 : decode cJ0_charAt_5068e 12 = .ok (.invokestatic 495, 3) := by decide +kernel
theorem dJ0_charAt_5068e_15 : decode cJ0_charAt_5068e 15 = .ok (.ireturn, 1) := by decide +kernel
theorem dJ0_charAt_5068e_16 : decode cJ0_charAt_5068e 16 = .ok (.aload_n 0, 1) := by decide +kernel
theorem dJ0_charAt_5068e_17 : decode cJ0_charAt_5068e 17 = .ok (.getfield 9, 3) := by decide +kernel
theorem dJ0_charAt_5068e_20 : decode cJ0_charAt_5068e 20 = .ok (.iload_n 1, 1) := by decide +kernel
theorem dJ0_charAt_5068e_21 : decode cJ0_charAt_5068e 21 = .ok (.invokestatic 498, 3) := by decide +kernel
theorem dJ0_charAt_5068e_24 : decode cJ0_charAt_5068e 24 = .ok (.ireturn, 1) := by decide +kernel
theorem dJ0_coder_7d493_0 : decode cJ0_coder_7d493 0 = .ok (.getstatic 38, 3) := by decide +kernel
theorem dJ0_coder_7d493_3 : decode cJ0_coder_7d493 3 = .ok (.ifCond .eq 10, 3) := by decide +kernel
theorem dJ0_coder_7d493_6 : decode cJ0_coder_7d493 6 = .ok (.aload_n 0, 1) := by decide +kernel
theorem dJ0_coder_7d493_7 : decode cJ0_coder_7d493 7 = .ok (.getfield 15, 3) := by decide +kernel
theorem dJ0_coder_7d493_10 : decode cJ0_coder_7d493 10 = .ok (.goto 4, 3) := by decide +kernel
theorem dJ0_coder_7d493_13 : decode cJ0_coder_7d493 13 = .ok (.iconst 1, 1) := by decide +kernel
theorem dJ0_coder_7d493_14 : decode cJ0_coder_7d493 14 = .ok (.ireturn, 1) := by decide +kernel
theorem dJ0_isLatin1_aae02_0 : decode cJ0_isLatin1_aae02 0 = .ok (.getstatic 38, 3) := by decide +kernel
theorem dJ0_isLatin1_aae02_3 : decode cJ0_isLatin1_aae02 3 = .ok (.ifCond .eq 14, 3) := by decide +kernel
theorem dJ0_isLatin1_aae02_6 : decode cJ0_isLatin1_aae02 6 = .ok (.aload_n 0, 1) := by decide +kernel
theorem dJ0_isLatin1_aae02_7 : decode cJ0_isLatin1_aae02 7 = .ok (.getfield 15, 3) := by decide +kernel
theorem dJ0_isLatin1_aae02_10 : decode cJ0_isLatin1_aae02 10 = .ok (.ifCond .ne 7, 3) := by decide +kernel
theorem dJ0_isLatin1_aae02_13 : decode cJ0_isLatin1_aae02 13 = .ok (.iconst 1, 1) := by decide +kernel
theorem dJ0_isLatin1_aae02_14 : decode cJ0_isLatin1_aae02 14 = .ok (.goto 4, 3) := by decide +kernel
theorem dJ0_isLatin1_aae02_17 : decode cJ0_isLatin1_aae02 17 = .ok (.iconst 0, 1) := by decide +kernel
theorem dJ0_isLatin1_aae02_18 : decode cJ0_isLatin1_aae02 18 = .ok (.ireturn, 1) := by decide +kernel
theorem dJ0_checkIndex_df160_0 : decode cJ0_checkIndex_df160 0 = .ok (.iload_n 0, 1) := by decide +kernel
theorem dJ0_checkIndex_df160_1 : decode cJ0_checkIndex_df160 1 = .ok (.iload_n 1, 1) := by decide +kernel
theorem dJ0_checkIndex_df160_2 : decode cJ0_checkIndex_df160 2 = .ok (.getstatic 1053, 3) := by decide +kernel
theorem dJ0_checkIndex_df160_5 : decode cJ0_checkIndex_df160 5 = .ok (.invokestatic 1059, 3) := by decide +kernel
theorem dJ0_checkIndex_df160_8 : decode cJ0_checkIndex_df160 8 = .ok (.pop, 1) := by decide +kernel
theorem dJ0_checkIndex_df160_9 : decode cJ0_checkIndex_df160 9 = .ok (.return_, 1) := by decide +kernel
theorem dJ1_charAt_3b067_0 : decode cJ1_charAt_3b067 0 = .ok (.iload_n 1, 1) := by decide +kernel
theorem dJ1_charAt_3b067_1 : decode cJ1_charAt_3b067 1 = .ok (.aload_n 0, 1) := by decide +kernel
theorem dJ1_charAt_3b067_2 : decode cJ1_charAt_3b067 2 = .ok (.arraylength, 1) := by decide +kernel
theorem dJ1_charAt_3b067_3 : decode cJ1_charAt_3b067 3 = .ok (.invokestatic 9, 3) := by decide +kernel
theorem dJ1_charAt_3b067_6 : decode cJ1_charAt_3b067 6 = .ok (.aload_n 0, 1) := by decide +kernel
theorem dJ1_charAt_3b067_7 : decode cJ1_charAt_3b067 7 = .ok (.iload_n 1, 1) := by decide +kernel
theorem dJ1_charAt_3b067_8 : decode cJ1_charAt_3b067 8 = .ok (.baload, 1) := by decide +kernel
theorem dJ1_charAt_3b067_9 : decode cJ1_charAt_3b067 9 = .ok (.sipush 255, 3) := by decide +kernel
theorem dJ1_charAt_3b067_12 : decode cJ1_charAt_3b067 12 = .ok (.iand, 1) := by decide +kernel
theorem dJ1_charAt_3b067_13 : decode cJ1_charAt_3b067 13 = .ok (.i2c, 1) := by decide +kernel
theorem dJ1_charAt_3b067_14 : decode cJ1_charAt_3b067 14 = .ok (.ireturn, 1) := by decide +kernel
theorem dJ3_checkIndex_8e157_0 : decode cJ3_checkIndex_8e157 0 = .ok (.iload_n 0, 1) := by decide +kernel
theorem dJ3_checkIndex_8e157_1 : decode cJ3_checkIndex_8e157 1 = .ok (.ifCond .lt 8, 3) := by decide +kernel
theorem dJ3_checkIndex_8e157_4 : decode cJ3_checkIndex_8e157 4 = .ok (.iload_n 0, 1) := by decide +kernel
theorem dJ3_checkIndex_8e157_5 : decode cJ3_checkIndex_8e157 5 = .ok (.iload_n 1, 1) := by decide +kernel
theorem dJ3_checkIndex_8e157_6 : decode cJ3_checkIndex_8e157 6 = .ok (.if_icmp .lt 10, 3) := by decide +kernel
theorem dJ3_checkIndex_8e157_9 : decode cJ3_checkIndex_8e157 9 = .ok (.aload_n 2, 1) := by decide +kernel
theorem dJ3_checkIndex_8e157_10 : decode cJ3_checkIndex_8e157 10 = .ok (.iload_n 0, 1) := by decide +kernel
theorem dJ3_checkIndex_8e157_11 : decode cJ3_checkIndex_8e157 11 = .ok (.iload_n 1, 1) := by decide +kernel
theorem dJ3_checkIndex_8e157_12 : decode cJ3_checkIndex_8e157 12 = .ok (.invokestatic 95, 3) := by decide +kernel
theorem dJ3_checkIndex_8e157_15 : decode cJ3_checkIndex_8e157 15 = .ok (.athrow, 1) := by decide +kernel
theorem dJ3_checkIndex_8e157_16 : decode cJ3_checkIndex_8e157 16 = .ok (.iload_n 0, 1) := by decide +kernel
theorem dJ3_checkIndex_8e157_17 : decode cJ3_checkIndex_8e157 17 = .ok (.ireturn, 1) := by decide +kernel
theorem dL_law_0 : decode cL_law 0 = .ok (.new 7, 3) := by decide +kernel
theorem dL_law_3 : decode cL_law 3 = .ok (.dup, 1) := by decide +kernel
theorem dL_law_4 : decode cL_law 4 = .ok (.invokespecial 9, 3) := by decide +kernel
theorem dL_law_7 : decode cL_law 7 = .ok (.astore_n 1, 1) := by decide +kernel
theorem dL_law_8 : decode cL_law 8 = .ok (.new 10, 3) := by decide +kernel
theorem dL_law_11 : decode cL_law 11 = .ok (.dup, 1) := by decide +kernel
theorem dL_law_12 : decode cL_law 12 = .ok (.invokespecial 12, 3) := by decide +kernel
theorem dL_law_15 : decode cL_law 15 = .ok (.astore_n 2, 1) := by decide +kernel
theorem dL_law_16 : decode cL_law 16 = .ok (.iconst 0, 1) := by decide +kernel
theorem dL_law_17 : decode cL_law 17 = .ok (.istore_n 3, 1) := by decide +kernel
theorem dL_law_18 : decode cL_law 18 = .ok (.iload_n 3, 1) := by decide +kernel
theorem dL_law_19 : decode cL_law 19 = .ok (.aload_n 0, 1) := by decide +kernel
theorem dL_law_20 : decode cL_law 20 = .ok (.arraylength, 1) := by decide +kernel
theorem dL_law_21 : decode cL_law 21 = .ok (.bipush 6, 2) := by decide +kernel
theorem dL_law_23 : decode cL_law 23 = .ok (.isub, 1) := by decide +kernel
theorem dL_law_24 : decode cL_law 24 = .ok (.if_icmp .gt 535, 3) := by decide +kernel
theorem dL_law_27 : decode cL_law 27 = .ok (.aload_n 0, 1) := by decide +kernel
theorem dL_law_28 : decode cL_law 28 = .ok (.iload_n 3, 1) := by decide +kernel
theorem dL_law_29 : decode cL_law 29 = .ok (.iaload, 1) := by decide +kernel
theorem dL_law_30 : decode cL_law 30 = .ok (.bipush 15, 2) := by decide +kernel
theorem dL_law_32 : decode cL_law 32 = .ok (.iand, 1) := by decide +kernel
theorem dL_law_33 : decode cL_law 33 = .ok (.tableswitch 520 0 14 #[75, 138, 161, 174, 197, 230, 253, 296, 319, 342, 375, 408, 441, 464, 497], 75) := by decide +kernel
theorem dL_law_108 : decode cL_law 108 = .ok (.aload_n 1, 1) := by decide +kernel
theorem dL_law_109 : decode cL_law 109 = .ok (.aload_n 0, 1) := by decide +kernel
theorem dL_law_110 : decode cL_law 110 = .ok (.iload_n 3, 1) := by decide +kernel
theorem dL_law_111 : decode cL_law 111 = .ok (.iconst 1, 1) := by decide +kernel
theorem dL_law_112 : decode cL_law 112 = .ok (.iadd, 1) := by decide +kernel
theorem dL_law_113 : decode cL_law 113 = .ok (.iaload, 1) := by decide +kernel
theorem dL_law_114 : decode cL_law 114 = .ok (.aload_n 0, 1) := by decide +kernel
theorem dL_law_115 : decode cL_law 115 = .ok (.iload_n 3, 1) := by decide +kernel
theorem dL_law_116 : decode cL_law 116 = .ok (.iconst 2, 1) := by decide +kernel
theorem dL_law_117 : decode cL_law 117 = .ok (.iadd, 1) := by decide +kernel
theorem dL_law_118 : decode cL_law 118 = .ok (.iaload, 1) := by decide +kernel
theorem dL_law_119 : decode cL_law 119 = .ok (.aload_n 0, 1) := by decide +kernel
theorem dL_law_120 : decode cL_law 120 = .ok (.iload_n 3, 1) := by decide +kernel
theorem dL_law_121 : decode cL_law 121 = .ok (.iconst 3, 1) := by decide +kernel
theorem dL_law_122 : decode cL_law 122 = .ok (.iadd, 1) := by decide +kernel
theorem dL_law_123 : decode cL_law 123 = .ok (.iaload, 1) := by decide +kernel
theorem dL_law_124 : decode cL_law 124 = .ok (.aload_n 0, 1) := by decide +kernel
theorem dL_law_125 : decode cL_law 125 = .ok (.iload_n 3, 1) := by decide +kernel
theorem dL_law_126 : decode cL_law 126 = .ok (.iconst 4, 1) := by decide +kernel
theorem dL_law_127 : decode cL_law 127 = .ok (.iadd, 1) := by decide +kernel
theorem dL_law_128 : decode cL_law 128 = .ok (.iaload, 1) := by decide +kernel
theorem dL_law_129 : decode cL_law 129 = .ok (.aload_n 0, 1) := by decide +kernel
theorem dL_law_130 : decode cL_law 130 = .ok (.iload_n 3, 1) := by decide +kernel
theorem dL_law_131 : decode cL_law 131 = .ok (.iconst 5, 1) := by decide +kernel
theorem dL_law_132 : decode cL_law 132 = .ok (.iadd, 1) := by decide +kernel
theorem dL_law_133 : decode cL_law 133 = .ok (.iaload, 1) := by decide +kernel
theorem dL_law_134 : decode cL_law 134 = .ok (.invokevirtual 13, 3) := by decide +kernel
theorem dL_law_137 : decode cL_law 137 = .ok (.aload_n 2, 1) := by decide +kernel
theorem dL_law_138 : decode cL_law 138 = .ok (.aload_n 0, 1) := by decide +kernel
theorem dL_law_139 : decode cL_law 139 = .ok (.iload_n 3, 1) := by decide +kernel
theorem dL_law_140 : decode cL_law 140 = .ok (.iconst 1, 1) := by decide +kernel
theorem dL_law_141 : decode cL_law 141 = .ok (.iadd, 1) := by decide +kernel
theorem dL_law_142 : decode cL_law 142 = .ok (.iaload, 1) := by decide +kernel
theorem dL_law_143 : decode cL_law 143 = .ok (.aload_n 0, 1) := by decide +kernel
theorem dL_law_144 : decode cL_law 144 = .ok (.iload_n 3, 1) := by decide +kernel
theorem dL_law_145 : decode cL_law 145 = .ok (.iconst 2, 1) := by decide +kernel
theorem dL_law_146 : decode cL_law 146 = .ok (.iadd, 1) := by decide +kernel
theorem dL_law_147 : decode cL_law 147 = .ok (.iaload, 1) := by decide +kernel
theorem dL_law_148 : decode cL_law 148 = .ok (.aload_n 0, 1) := by decide +kernel
theorem dL_law_149 : decode cL_law 149 = .ok (.iload_n 3, 1) := by decide +kernel
theorem dL_law_150 : decode cL_law 150 = .ok (.iconst 3, 1) := by decide +kernel
theorem dL_law_151 : decode cL_law 151 = .ok (.iadd, 1) := by decide +kernel
theorem dL_law_152 : decode cL_law 152 = .ok (.iaload, 1) := by decide +kernel
theorem dL_law_153 : decode cL_law 153 = .ok (.aload_n 0, 1) := by decide +kernel
theorem dL_law_154 : decode cL_law 154 = .ok (.iload_n 3, 1) := by decide +kernel
theorem dL_law_155 : decode cL_law 155 = .ok (.iconst 4, 1) := by decide +kernel
theorem dL_law_156 : decode cL_law 156 = .ok (.iadd, 1) := by decide +kernel
theorem dL_law_157 : decode cL_law 157 = .ok (.iaload, 1) := by decide +kernel
theorem dL_law_158 : decode cL_law 158 = .ok (.aload_n 0, 1) := by decide +kernel
theorem dL_law_159 : decode cL_law 159 = .ok (.iload_n 3, 1) := by decide +kernel
theorem dL_law_160 : decode cL_law 160 = .ok (.iconst 5, 1) := by decide +kernel
theorem dL_law_161 : decode cL_law 161 = .ok (.iadd, 1) := by decide +kernel
theorem dL_law_162 : decode cL_law 162 = .ok (.iaload, 1) := by decide +kernel
theorem dL_law_163 : decode cL_law 163 = .ok (.invokevirtual 17, 3) := by decide +kernel
theorem dL_law_166 : decode cL_law 166 = .ok (.if_icmp .eq 387, 3) := by decide +kernel
theorem dL_law_169 : decode cL_law 169 = .ok (.iconst 0, 1) := by decide +kernel
theorem dL_law_170 : decode cL_law 170 = .ok (.ireturn, 1) := by decide +kernel
theorem dL_law_171 : decode cL_law 171 = .ok (.aload_n 1, 1) := by decide +kernel
theorem dL_law_172 : decode cL_law 172 = .ok (.aload_n 0, 1) := by decide +kernel
theorem dL_law_173 : decode cL_law 173 = .ok (.iload_n 3, 1) := by decide +kernel
theorem dL_law_174 : decode cL_law 174 = .ok (.iconst 1, 1) := by decide +kernel
theorem dL_law_175 : decode cL_law 175 = .ok (.iadd, 1) := by decide +kernel
theorem dL_law_176 : decode cL_law 176 = .ok (.iaload, 1) := by decide +kernel
theorem dL_law_177 : decode cL_law 177 = .ok (.invokevirtual 18, 3) := by decide +kernel
theorem dL_law_180 : decode cL_law 180 = .ok (.aload_n 2, 1) := by decide +kernel
theorem dL_law_181 : decode cL_law 181 = .ok (.aload_n 0, 1) := by decide +kernel
theorem dL_law_182 : decode cL_law 182 = .ok (.iload_n 3, 1) := by decide +kernel
theorem dL_law_183 : decode cL_law 183 = .ok (.iconst 1, 1) := by decide +kernel
theorem dL_law_184 : decode cL_law 184 = .ok (.iadd, 1) := by decide +kernel
theorem dL_law_185 : decode cL_law 185 = .ok (.iaload, 1) := by decide +kernel
theorem dL_law_186 : decode cL_law 186 = .ok (.invokevirtual 22, 3) := by decide +kernel
theorem dL_law_189 : decode cL_law 189 = .ok (.if_icmp .eq 364, 3) := by decide +kernel
theorem dL_law_192 : decode cL_law 192 = .ok (.iconst 0, 1) := by decide +kernel
theorem dL_law_193 : decode cL_law 193 = .ok (.ireturn, 1) := by decide +kernel
theorem dL_law_194 : decode cL_law 194 = .ok (.aload_n 1, 1) := by decide +kernel
theorem dL_law_195 : decode cL_law 195 = .ok (.invokevirtual 23, 3) := by decide +kernel
theorem dL_law_198 : decode cL_law 198 = .ok (.aload_n 2, 1) := by decide +kernel
theorem dL_law_199 : decode cL_law 199 = .ok (.invokevirtual 27, 3) := by decide +kernel
theorem dL_law_202 : decode cL_law 202 = .ok (.if_icmp .eq 351, 3) := by decide +kernel
theorem dL_law_205 : decode cL_law 205 = .ok (.iconst 0, 1) := by decide +kernel
theorem dL_law_206 : decode cL_law 206 = .ok (.ireturn, 1) := by decide +kernel
theorem dL_law_207 : decode cL_law 207 = .ok (.aload_n 1, 1) := by decide +kernel
theorem dL_law_208 : decode cL_law 208 = .ok (.aload_n 0, 1) := by decide +kernel
theorem dL_law_209 : decode cL_law 209 = .ok (.iload_n 3, 1) := by decide +kernel
theorem dL_law_210 : decode cL_law 210 = .ok (.iconst 1, 1) := by decide +kernel
theorem dL_law_211 : decode cL_law 211 = .ok (.iadd, 1) := by decide +kernel
theorem dL_law_212 : decode cL_law 212 = .ok (.iaload, 1) := by decide +kernel
theorem dL_law_213 : decode cL_law 213 = .ok (.invokevirtual 28, 3) := by decide +kernel
theorem dL_law_216 : decode cL_law 216 = .ok (.aload_n 2, 1) := by decide +kernel
theorem dL_law_217 : decode cL_law 217 = .ok (.aload_n 0, 1) := by decide +kernel
theorem dL_law_218 : decode cL_law 218 = .ok (.iload_n 3, 1) := by decide +kernel
theorem dL_law_219 : decode cL_law 219 = .ok (.iconst 1, 1) := by decide +kernel
theorem dL_law_220 : decode cL_law 220 = .ok (.iadd, 1) := by decide +kernel
theorem dL_law_221 : decode cL_law 221 = .ok (.iaload, 1) := by decide +kernel
theorem dL_law_222 : decode cL_law 222 = .ok (.invokevirtual 31, 3) := by decide +kernel
theorem dL_law_225 : decode cL_law 225 = .ok (.if_icmp .eq 328, 3) := by decide +kernel
theorem dL_law_228 : decode cL_law 228 = .ok (.iconst 0, 1) := by decide +kernel
theorem dL_law_229 : decode cL_law 229 = .ok (.ireturn, 1) := by decide +kernel
theorem dL_law_230 : decode cL_law 230 = .ok (.aload_n 1, 1) := by decide +kernel
theorem dL_law_231 : decode cL_law 231 = .ok (.aload_n 0, 1) := by decide +kernel
theorem dL_law_232 : decode cL_law 232 = .ok (.iload_n 3, 1) := by decide +kernel
theorem dL_law_233 : decode cL_law 233 = .ok (.iconst 1, 1) := by decide +kernel
theorem dL_law_234 : decode cL_law 234 = .ok (.iadd, 1) := by decide +kernel
theorem dL_law_235 : decode cL_law 235 = .ok (.iaload, 1) := by decide +kernel
theorem dL_law_236 : decode cL_law 236 = .ok (.aload_n 0, 1) := by decide +kernel
theorem dL_law_237 : decode cL_law 237 = .ok (.iload_n 3, 1) := by decide +kernel
theorem dL_law_238 : decode cL_law 238 = .ok (.iconst 2, 1) := by decide +kernel
theorem dL_law_239 : decode cL_law 239 = .ok (.iadd, 1) := by decide +kernel
theorem dL_law_240 : decode cL_law 240 = .ok (.iaload, 1) := by decide +kernel
theorem dL_law_241 : decode cL_law 241 = .ok (.invokevirtual 32, 3) := by decide +kernel
theorem dL_law_244 : decode cL_law 244 = .ok (.aload_n 2, 1) := by decide +kernel
theorem dL_law_245 : decode cL_law 245 = .ok (.aload_n 0, 1) := by decide +kernel
theorem dL_law_246 : decode cL_law 246 = .ok (.iload_n 3, 1) := by decide +kernel
theorem dL_law_247 : decode cL_law 247 = .ok (.iconst 1, 1) := by decide +kernel
theorem dL_law_248 : decode cL_law 248 = .ok (.iadd, 1) := by decide +kernel
theorem dL_law_249 : decode cL_law 249 = .ok (.iaload, 1) := by decide +kernel
theorem dL_law_250 : decode cL_law 250 = .ok (.aload_n 0, 1) := by decide +kernel
theorem dL_law_251 : decode cL_law 251 = .ok (.iload_n 3, 1) := by decide +kernel
theorem dL_law_252 : decode cL_law 252 = .ok (.iconst 2, 1) := by decide +kernel
theorem dL_law_253 : decode cL_law 253 = .ok (.iadd, 1) := by decide +kernel
theorem dL_law_254 : decode cL_law 254 = .ok (.iaload, 1) := by decide +kernel
theorem dL_law_255 : decode cL_law 255 = .ok (.invokevirtual 36, 3) := by decide +kernel
theorem dL_law_258 : decode cL_law 258 = .ok (.if_icmp .eq 295, 3) := by decide +kernel
theorem dL_law_261 : decode cL_law 261 = .ok (.iconst 0, 1) := by decide +kernel
theorem dL_law_262 : decode cL_law 262 = .ok (.ireturn, 1) := by decide +kernel
theorem dL_law_263 : decode cL_law 263 = .ok (.aload_n 1, 1) := by decide +kernel
theorem dL_law_264 : decode cL_law 264 = .ok (.aload_n 0, 1) := by decide +kernel
theorem dL_law_265 : decode cL_law 265 = .ok (.iload_n 3, 1) := by decide +kernel
theorem dL_law_266 : decode cL_law 266 = .ok (.iconst 1, 1) := by decide +kernel
theorem dL_law_267 : decode cL_law 267 = .ok (.iadd, 1) := by decide +kernel
theorem dL_law_268 : decode cL_law 268 = .ok (.iaload, 1) := by decide +kernel
theorem dL_law_269 : decode cL_law 269 = .ok (.invokevirtual 37, 3) := by decide +kernel
theorem dL_law_272 : decode cL_law 272 = .ok (.aload_n 2, 1) := by decide +kernel
theorem dL_law_273 : decode cL_law 273 = .ok (.aload_n 0, 1) := by decide +kernel
theorem dL_law_274 : decode cL_law 274 = .ok (.iload_n 3, 1) := by decide +kernel
theorem dL_law_275 : decode cL_law 275 = .ok (.iconst 1, 1) := by decide +kernel
theorem dL_law_276 : decode cL_law 276 = .ok (.iadd, 1) := by decide +kernel
theorem dL_law_277 : decode cL_law 277 = .ok (.iaload, 1) := by decide +kernel
theorem dL_law_278 : decode cL_law 278 = .ok (.invokevirtual 40, 3) := by decide +kernel
theorem dL_law_281 : decode cL_law 281 = .ok (.if_icmp .eq 272, 3) := by decide +kernel
theorem dL_law_284 : decode cL_law 284 = .ok (.iconst 0, 1) := by decide +kernel
theorem dL_law_285 : decode cL_law 285 = .ok (.ireturn, 1) := by decide +kernel
theorem dL_law_286 : decode cL_law 286 = .ok (.aload_n 1, 1) := by decide +kernel
theorem dL_law_287 : decode cL_law 287 = .ok (.aload_n 0, 1) := by decide +kernel
theorem dL_law_288 : decode cL_law 288 = .ok (.iload_n 3, 1) := by decide +kernel
theorem dL_law_289 : decode cL_law 289 = .ok (.iconst 1, 1) := by decide +kernel
theorem dL_law_290 : decode cL_law 290 = .ok (.iadd, 1) := by decide +kernel
theorem dL_law_291 : decode cL_law 291 = .ok (.iaload, 1) := by decide +kernel
theorem dL_law_292 : decode cL_law 292 = .ok (.aload_n 0, 1) := by decide +kernel
theorem dL_law_293 : decode cL_law 293 = .ok (.iload_n 3, 1) := by decide +kernel
theorem dL_law_294 : decode cL_law 294 = .ok (.iconst 2, 1) := by decide +kernel
theorem dL_law_295 : decode cL_law 295 = .ok (.iadd, 1) := by decide +kernel
theorem dL_law_296 : decode cL_law 296 = .ok (.iaload, 1) := by decide +kernel
theorem dL_law_297 : decode cL_law 297 = .ok (.aload_n 0, 1) := by decide +kernel
theorem dL_law_298 : decode cL_law 298 = .ok (.iload_n 3, 1) := by decide +kernel
theorem dL_law_299 : decode cL_law 299 = .ok (.iconst 3, 1) := by decide +kernel
theorem dL_law_300 : decode cL_law 300 = .ok (.iadd, 1) := by decide +kernel
theorem dL_law_301 : decode cL_law 301 = .ok (.iaload, 1) := by decide +kernel
theorem dL_law_302 : decode cL_law 302 = .ok (.invokevirtual 41, 3) := by decide +kernel
theorem dL_law_305 : decode cL_law 305 = .ok (.aload_n 2, 1) := by decide +kernel
theorem dL_law_306 : decode cL_law 306 = .ok (.aload_n 0, 1) := by decide +kernel
theorem dL_law_307 : decode cL_law 307 = .ok (.iload_n 3, 1) := by decide +kernel
theorem dL_law_308 : decode cL_law 308 = .ok (.iconst 1, 1) := by decide +kernel
theorem dL_law_309 : decode cL_law 309 = .ok (.iadd, 1) := by decide +kernel
theorem dL_law_310 : decode cL_law 310 = .ok (.iaload, 1) := by decide +kernel
theorem dL_law_311 : decode cL_law 311 = .ok (.aload_n 0, 1) := by decide +kernel
theorem dL_law_312 : decode cL_law 312 = .ok (.iload_n 3, 1) := by decide +kernel
theorem dL_law_313 : decode cL_law 313 = .ok (.iconst 2, 1) := by decide +kernel
theorem dL_law_314 : decode cL_law 314 = .ok (.iadd, 1) := by decide +kernel
theorem dL_law_315 : decode cL_law 315 = .ok (.iaload, 1) := by decide +kernel
theorem dL_law_316 : decode cL_law 316 = .ok (.aload_n 0, 1) := by decide +kernel
theorem dL_law_317 : decode cL_law 317 = .ok (.iload_n 3, 1) := by decide +kernel
theorem dL_law_318 : decode cL_law 318 = .ok (.iconst 3, 1) := by decide +kernel
theorem dL_law_319 : decode cL_law 319 = .ok (.iadd, 1) := by decide +kernel
theorem dL_law_320 : decode cL_law 320 = .ok (.iaload, 1) := by decide +kernel
theorem dL_law_321 : decode cL_law 321 = .ok (.invokevirtual 45, 3) := by decide +kernel
theorem dL_law_324 : decode cL_law 324 = .ok (.if_icmp .eq 229, 3) := by decide +kernel
theorem dL_law_327 : decode cL_law 327 = .ok (.iconst 0, 1) := by decide +kernel
theorem dL_law_328 : decode cL_law 328 = .ok (.ireturn, 1) := by decide +kernel
theorem dL_law_329 : decode cL_law 329 = .ok (.aload_n 1, 1) := by decide +kernel
theorem dL_law_330 : decode cL_law 330 = .ok (.aload_n 0, 1) := by decide +kernel
theorem dL_law_331 : decode cL_law 331 = .ok (.iload_n 3, 1) := by decide +kernel
theorem dL_law_332 : decode cL_law 332 = .ok (.iconst 1, 1) := by decide +kernel
theorem dL_law_333 : decode cL_law 333 = .ok (.iadd, 1) := by decide +kernel
theorem dL_law_334 : decode cL_law 334 = .ok (.iaload, 1) := by decide +kernel
theorem dL_law_335 : decode cL_law 335 = .ok (.invokevirtual 46, 3) := by decide +kernel
theorem dL_law_338 : decode cL_law 338 = .ok (.aload_n 2, 1) := by decide +kernel
theorem dL_law_339 : decode cL_law 339 = .ok (.aload_n 0, 1) := by decide +kernel
theorem dL_law_340 : decode cL_law 340 = .ok (.iload_n 3, 1) := by decide +kernel
theorem dL_law_341 : decode cL_law 341 = .ok (.iconst 1, 1) := by decide +kernel
theorem dL_law_342 : decode cL_law 342 = .ok (.iadd, 1) := by decide +kernel
theorem dL_law_343 : decode cL_law 343 = .ok (.iaload, 1) := by decide +kernel
theorem dL_law_344 : decode cL_law 344 = .ok (.invokevirtual 49, 3) := by decide +kernel
theorem dL_law_347 : decode cL_law 347 = .ok (.if_icmp .eq 206, 3) := by decide +kernel
theorem dL_law_350 : decode cL_law 350 = .ok (.iconst 0, 1) := by decide +kernel
theorem dL_law_351 : decode cL_law 351 = .ok (.ireturn, 1) := by decide +kernel
theorem dL_law_352 : decode cL_law 352 = .ok (.aload_n 1, 1) := by decide +kernel
theorem dL_law_353 : decode cL_law 353 = .ok (.aload_n 0, 1) := by decide +kernel
theorem dL_law_354 : decode cL_law 354 = .ok (.iload_n 3, 1) := by decide +kernel
theorem dL_law_355 : decode cL_law 355 = .ok (.iconst 1, 1) := by decide +kernel
theorem dL_law_356 : decode cL_law 356 = .ok (.iadd, 1) := by decide +kernel
theorem dL_law_357 : decode cL_law 357 = .ok (.iaload, 1) := by decide +kernel
theorem dL_law_358 : decode cL_law 358 = .ok (.invokevirtual 50, 3) := by decide +kernel
theorem dL_law_361 : decode cL_law 361 = .ok (.aload_n 2, 1) := by decide +kernel
theorem dL_law_362 : decode cL_law 362 = .ok (.aload_n 0, 1) := by decide +kernel
theorem dL_law_363 : decode cL_law 363 = .ok (.iload_n 3, 1) := by decide +kernel
theorem dL_law_364 : decode cL_law 364 = .ok (.iconst 1, 1) := by decide +kernel
theorem dL_law_365 : decode cL_law 365 = .ok (.iadd, 1) := by decide +kernel
theorem dL_law_366 : decode cL_law 366 = .ok (.iaload, 1) := by decide +kernel
theorem dL_law_367 : decode cL_law 367 = .ok (.invokevirtual 53, 3) := by decide +kernel
theorem dL_law_370 : decode cL_law 370 = .ok (.if_icmp .eq 183, 3) := by decide +kernel
theorem dL_law_373 : decode cL_law 373 = .ok (.iconst 0, 1) := by decide +kernel
theorem dL_law_374 : decode cL_law 374 = .ok (.ireturn, 1) := by decide +kernel
theorem dL_law_375 : decode cL_law 375 = .ok (.aload_n 1, 1) := by decide +kernel
theorem dL_law_376 : decode cL_law 376 = .ok (.aload_n 0, 1) := by decide +kernel
theorem dL_law_377 : decode cL_law 377 = .ok (.iload_n 3, 1) := by decide +kernel
theorem dL_law_378 : decode cL_law 378 = .ok (.iconst 1, 1) := by decide +kernel
theorem dL_law_379 : decode cL_law 379 = .ok (.iadd, 1) := by decide +kernel
theorem dL_law_380 : decode cL_law 380 = .ok (.iaload, 1) := by decide +kernel
theorem dL_law_381 : decode cL_law 381 = .ok (.aload_n 0, 1) := by decide +kernel
theorem dL_law_382 : decode cL_law 382 = .ok (.iload_n 3, 1) := by decide +kernel
theorem dL_law_383 : decode cL_law 383 = .ok (.iconst 2, 1) := by decide +kernel
theorem dL_law_384 : decode cL_law 384 = .ok (.iadd, 1) := by decide +kernel
theorem dL_law_385 : decode cL_law 385 = .ok (.iaload, 1) := by decide +kernel
theorem dL_law_386 : decode cL_law 386 = .ok (.invokevirtual 54, 3) := by decide +kernel
theorem dL_law_389 : decode cL_law 389 = .ok (.aload_n 2, 1) := by decide +kernel
theorem dL_law_390 : decode cL_law 390 = .ok (.aload_n 0, 1) := by decide +kernel
theorem dL_law_391 : decode cL_law 391 = .ok (.iload_n 3, 1) := by decide +kernel
theorem dL_law_392 : decode cL_law 392 = .ok (.iconst 1, 1) := by decide +kernel
theorem dL_law_393 : decode cL_law 393 = .ok (.iadd, 1) := by decide +kernel
theorem dL_law_394 : decode cL_law 394 = .ok (.iaload, 1) := by decide +kernel
theorem dL_law_395 : decode cL_law 395 = .ok (.aload_n 0, 1) := by decide +kernel
theorem dL_law_396 : decode cL_law 396 = .ok (.iload_n 3, 1) := by decide +kernel
theorem dL_law_397 : decode cL_law 397 = .ok (.iconst 2, 1) := by decide +kernel
theorem dL_law_398 : decode cL_law 398 = .ok (.iadd, 1) := by decide +kernel
theorem dL_law_399 : decode cL_law 399 = .ok (.iaload, 1) := by decide +kernel
theorem dL_law_400 : decode cL_law 400 = .ok (.invokevirtual 58, 3) := by decide +kernel
theorem dL_law_403 : decode cL_law 403 = .ok (.if_icmp .eq 150, 3) := by decide +kernel
theorem dL_law_406 : decode cL_law 406 = .ok (.iconst 0, 1) := by decide +kernel
theorem dL_law_407 : decode cL_law 407 = .ok (.ireturn, 1) := by decide +kernel
theorem dL_law_408 : decode cL_law 408 = .ok (.aload_n 1, 1) := by decide +kernel
theorem dL_law_409 : decode cL_law 409 = .ok (.aload_n 0, 1) := by decide +kernel
theorem dL_law_410 : decode cL_law 410 = .ok (.iload_n 3, 1) := by decide +kernel
theorem dL_law_411 : decode cL_law 411 = .ok (.iconst 1, 1) := by decide +kernel
theorem dL_law_412 : decode cL_law 412 = .ok (.iadd, 1) := by decide +kernel
theorem dL_law_413 : decode cL_law 413 = .ok (.iaload, 1) := by decide +kernel
theorem dL_law_414 : decode cL_law 414 = .ok (.aload_n 0, 1) := by decide +kernel
theorem dL_law_415 : decode cL_law 415 = .ok (.iload_n 3, 1) := by decide +kernel
theorem dL_law_416 : decode cL_law 416 = .ok (.iconst 2, 1) := by decide +kernel
theorem dL_law_417 : decode cL_law 417 = .ok (.iadd, 1) := by decide +kernel
theorem dL_law_418 : decode cL_law 418 = .ok (.iaload, 1) := by decide +kernel
theorem dL_law_419 : decode cL_law 419 = .ok (.invokevirtual 59, 3) := by decide +kernel
theorem dL_law_422 : decode cL_law 422 = .ok (.aload_n 2, 1) := by decide +kernel
theorem dL_law_423 : decode cL_law 423 = .ok (.aload_n 0, 1) := by decide +kernel
theorem dL_law_424 : decode cL_law 424 = .ok (.iload_n 3, 1) := by decide +kernel
theorem dL_law_425 : decode cL_law 425 = .ok (.iconst 1, 1) := by decide +kernel
theorem dL_law_426 : decode cL_law 426 = .ok (.iadd, 1) := by decide +kernel
theorem dL_law_427 : decode cL_law 427 = .ok (.iaload, 1) := by decide +kernel
theorem dL_law_428 : decode cL_law 428 = .ok (.aload_n 0, 1) := by decide +kernel
theorem dL_law_429 : decode cL_law 429 = .ok (.iload_n 3, 1) := by decide +kernel
theorem dL_law_430 : decode cL_law 430 = .ok (.iconst 2, 1) := by decide +kernel
theorem dL_law_431 : decode cL_law 431 = .ok (.iadd, 1) := by decide +kernel
theorem dL_law_432 : decode cL_law 432 = .ok (.iaload, 1) := by decide +kernel
theorem dL_law_433 : decode cL_law 433 = .ok (.invokevirtual 62, 3) := by decide +kernel
theorem dL_law_436 : decode cL_law 436 = .ok (.if_icmp .eq 117, 3) := by decide +kernel
theorem dL_law_439 : decode cL_law 439 = .ok (.iconst 0, 1) := by decide +kernel
theorem dL_law_440 : decode cL_law 440 = .ok (.ireturn, 1) := by decide +kernel
theorem dL_law_441 : decode cL_law 441 = .ok (.aload_n 1, 1) := by decide +kernel
theorem dL_law_442 : decode cL_law 442 = .ok (.aload_n 0, 1) := by decide +kernel
theorem dL_law_443 : decode cL_law 443 = .ok (.iload_n 3, 1) := by decide +kernel
theorem dL_law_444 : decode cL_law 444 = .ok (.iconst 1, 1) := by decide +kernel
theorem dL_law_445 : decode cL_law 445 = .ok (.iadd, 1) := by decide +kernel
theorem dL_law_446 : decode cL_law 446 = .ok (.iaload, 1) := by decide +kernel
theorem dL_law_447 : decode cL_law 447 = .ok (.aload_n 0, 1) := by decide +kernel
theorem dL_law_448 : decode cL_law 448 = .ok (.iload_n 3, 1) := by decide +kernel
theorem dL_law_449 : decode cL_law 449 = .ok (.iconst 2, 1) := by decide +kernel
theorem dL_law_450 : decode cL_law 450 = .ok (.iadd, 1) := by decide +kernel
theorem dL_law_451 : decode cL_law 451 = .ok (.iaload, 1) := by decide +kernel
theorem dL_law_452 : decode cL_law 452 = .ok (.invokevirtual 63, 3) := by decide +kernel
theorem dL_law_455 : decode cL_law 455 = .ok (.aload_n 2, 1) := by decide +kernel
theorem dL_law_456 : decode cL_law 456 = .ok (.aload_n 0, 1) := by decide +kernel
theorem dL_law_457 : decode cL_law 457 = .ok (.iload_n 3, 1) := by decide +kernel
theorem dL_law_458 : decode cL_law 458 = .ok (.iconst 1, 1) := by decide +kernel
theorem dL_law_459 : decode cL_law 459 = .ok (.iadd, 1) := by decide +kernel
theorem dL_law_460 : decode cL_law 460 = .ok (.iaload, 1) := by decide +kernel
theorem dL_law_461 : decode cL_law 461 = .ok (.aload_n 0, 1) := by decide +kernel
theorem dL_law_462 : decode cL_law 462 = .ok (.iload_n 3, 1) := by decide +kernel
theorem dL_law_463 : decode cL_law 463 = .ok (.iconst 2, 1) := by decide +kernel
theorem dL_law_464 : decode cL_law 464 = .ok (.iadd, 1) := by decide +kernel
theorem dL_law_465 : decode cL_law 465 = .ok (.iaload, 1) := by decide +kernel
theorem dL_law_466 : decode cL_law 466 = .ok (.invokevirtual 66, 3) := by decide +kernel
theorem dL_law_469 : decode cL_law 469 = .ok (.if_icmp .eq 84, 3) := by decide +kernel
theorem dL_law_472 : decode cL_law 472 = .ok (.iconst 0, 1) := by decide +kernel
theorem dL_law_473 : decode cL_law 473 = .ok (.ireturn, 1) := by decide +kernel
theorem dL_law_474 : decode cL_law 474 = .ok (.aload_n 1, 1) := by decide +kernel
theorem dL_law_475 : decode cL_law 475 = .ok (.aload_n 0, 1) := by decide +kernel
theorem dL_law_476 : decode cL_law 476 = .ok (.iload_n 3, 1) := by decide +kernel
theorem dL_law_477 : decode cL_law 477 = .ok (.iconst 1, 1) := by decide +kernel
theorem dL_law_478 : decode cL_law 478 = .ok (.iadd, 1) := by decide +kernel
theorem dL_law_479 : decode cL_law 479 = .ok (.iaload, 1) := by decide +kernel
theorem dL_law_480 : decode cL_law 480 = .ok (.invokevirtual 67, 3) := by decide +kernel
theorem dL_law_483 : decode cL_law 483 = .ok (.aload_n 2, 1) := by decide +kernel
theorem dL_law_484 : decode cL_law 484 = .ok (.aload_n 0, 1) := by decide +kernel
theorem dL_law_485 : decode cL_law 485 = .ok (.iload_n 3, 1) := by decide +kernel
theorem dL_law_486 : decode cL_law 486 = .ok (.iconst 1, 1) := by decide +kernel
theorem dL_law_487 : decode cL_law 487 = .ok (.iadd, 1) := by decide +kernel
theorem dL_law_488 : decode cL_law 488 = .ok (.iaload, 1) := by decide +kernel
theorem dL_law_489 : decode cL_law 489 = .ok (.invokevirtual 70, 3) := by decide +kernel
theorem dL_law_492 : decode cL_law 492 = .ok (.if_icmp .eq 61, 3) := by decide +kernel
theorem dL_law_495 : decode cL_law 495 = .ok (.iconst 0, 1) := by decide +kernel
theorem dL_law_496 : decode cL_law 496 = .ok (.ireturn, 1) := by decide +kernel
theorem dL_law_497 : decode cL_law 497 = .ok (.aload_n 1, 1) := by decide +kernel
theorem dL_law_498 : decode cL_law 498 = .ok (.aload_n 0, 1) := by decide +kernel
theorem dL_law_499 : decode cL_law 499 = .ok (.iload_n 3, 1) := by decide +kernel
theorem dL_law_500 : decode cL_law 500 = .ok (.iconst 1, 1) := by decide +kernel
theorem dL_law_501 : decode cL_law 501 = .ok (.iadd, 1) := by decide +kernel
theorem dL_law_502 : decode cL_law 502 = .ok (.iaload, 1) := by decide +kernel
theorem dL_law_503 : decode cL_law 503 = .ok (.aload_n 0, 1) := by decide +kernel
theorem dL_law_504 : decode cL_law 504 = .ok (.iload_n 3, 1) := by decide +kernel
theorem dL_law_505 : decode cL_law 505 = .ok (.iconst 2, 1) := by decide +kernel
theorem dL_law_506 : decode cL_law 506 = .ok (.iadd, 1) := by decide +kernel
theorem dL_law_507 : decode cL_law 507 = .ok (.iaload, 1) := by decide +kernel
theorem dL_law_508 : decode cL_law 508 = .ok (.invokevirtual 71, 3) := by decide +kernel
theorem dL_law_511 : decode cL_law 511 = .ok (.aload_n 2, 1) := by decide +kernel
theorem dL_law_512 : decode cL_law 512 = .ok (.aload_n 0, 1) := by decide +kernel
theorem dL_law_513 : decode cL_law 513 = .ok (.iload_n 3, 1) := by decide +kernel
theorem dL_law_514 : decode cL_law 514 = .ok (.iconst 1, 1) := by decide +kernel
theorem dL_law_515 : decode cL_law 515 = .ok (.iadd, 1) := by decide +kernel
theorem dL_law_516 : decode cL_law 516 = .ok (.iaload, 1) := by decide +kernel
theorem dL_law_517 : decode cL_law 517 = .ok (.aload_n 0, 1) := by decide +kernel
theorem dL_law_518 : decode cL_law 518 = .ok (.iload_n 3, 1) := by decide +kernel
theorem dL_law_519 : decode cL_law 519 = .ok (.iconst 2, 1) := by decide +kernel
theorem dL_law_520 : decode cL_law 520 = .ok (.iadd, 1) := by decide +kernel
theorem dL_law_521 : decode cL_law 521 = .ok (.iaload, 1) := by decide +kernel
theorem dL_law_522 : decode cL_law 522 = .ok (.invokevirtual 74, 3) := by decide +kernel
theorem dL_law_525 : decode cL_law 525 = .ok (.if_icmp .eq 28, 3) := by decide +kernel
theorem dL_law_528 : decode cL_law 528 = .ok (.iconst 0, 1) := by decide +kernel
theorem dL_law_529 : decode cL_law 529 = .ok (.ireturn, 1) := by decide +kernel
theorem dL_law_530 : decode cL_law 530 = .ok (.aload_n 1, 1) := by decide +kernel
theorem dL_law_531 : decode cL_law 531 = .ok (.aload_n 0, 1) := by decide +kernel
theorem dL_law_532 : decode cL_law 532 = .ok (.iload_n 3, 1) := by decide +kernel
theorem dL_law_533 : decode cL_law 533 = .ok (.iconst 1, 1) := by decide +kernel
theorem dL_law_534 : decode cL_law 534 = .ok (.iadd, 1) := by decide +kernel
theorem dL_law_535 : decode cL_law 535 = .ok (.iaload, 1) := by decide +kernel
theorem dL_law_536 : decode cL_law 536 = .ok (.invokevirtual 75, 3) := by decide +kernel
theorem dL_law_539 : decode cL_law 539 = .ok (.aload_n 2, 1) := by decide +kernel
theorem dL_law_540 : decode cL_law 540 = .ok (.aload_n 0, 1) := by decide +kernel
theorem dL_law_541 : decode cL_law 541 = .ok (.iload_n 3, 1) := by decide +kernel
theorem dL_law_542 : decode cL_law 542 = .ok (.iconst 1, 1) := by decide +kernel
theorem dL_law_543 : decode cL_law 543 = .ok (.iadd, 1) := by decide +kernel
theorem dL_law_544 : decode cL_law 544 = .ok (.iaload, 1) := by decide +kernel
theorem dL_law_545 : decode cL_law 545 = .ok (.invokevirtual 78, 3) := by decide +kernel
theorem dL_law_548 : decode cL_law 548 = .ok (.if_icmp .eq 5, 3) := by decide +kernel
theorem dL_law_551 : decode cL_law 551 = .ok (.iconst 0, 1) := by decide +kernel
theorem dL_law_552 : decode cL_law 552 = .ok (.ireturn, 1) := by decide +kernel
theorem dL_law_553 : decode cL_law 553 = .ok (.iinc 3 6, 3) := by decide +kernel
theorem dL_law_556 : decode cL_law 556 = .ok (.goto (-538), 3) := by decide +kernel
theorem dL_law_559 : decode cL_law 559 = .ok (.iconst 1, 1) := by decide +kernel
theorem dL_law_560 : decode cL_law 560 = .ok (.ireturn, 1) := by decide +kernel
