theorem dX0_init_0 : decode cX0_init 0 = .ok (.aload_n 0, 1) := by decide +kernel
theorem dX0_init_1 : decode cX0_init 1 = .ok (.invokespecial 3, 3) := by decide +kernel
theorem dX0_init_4 : decode cX0_init 4 = .ok (.aload_n 0, 1) := by decide +kernel
theorem dX0_init_5 : decode cX0_init 5 = .ok (.new 9, 3) := by decide +kernel
theorem dX0_init_8 : decode cX0_init 8 = .ok (.dup, 1) := by decide +kernel
theorem dX0_init_9 : decode cX0_init 9 = .ok (.invokespecial 11, 3) := by decide +kernel
theorem dX0_init_12 : decode cX0_init 12 = .ok (.putfield 12, 3) := by decide +kernel
theorem dX0_init_15 : decode cX0_init 15 = .ok (.aload_n 0, 1) := by decide +kernel
theorem dX0_init_16 : decode cX0_init 16 = .ok (.bipush 51, 2) := by decide +kernel
theorem dX0_init_18 : decode cX0_init 18 = .ok (.newarray .long, 2) := by decide +kernel
theorem dX0_init_20 : decode cX0_init 20 = .ok (.putfield 20, 3) := by decide +kernel
theorem dX0_init_23 : decode cX0_init 23 = .ok (.aload_n 0, 1) := by decide +kernel
theorem dX0_init_24 : decode cX0_init 24 = .ok (.sipush 200, 3) := by decide +kernel
theorem dX0_init_27 : decode cX0_init 27 = .ok (.newarray .long, 2) := by decide +kernel
theorem dX0_init_29 : decode cX0_init 29 = .ok (.putfield 24, 3) := by decide +kernel
theorem dX0_init_32 : decode cX0_init 32 = .ok (.aload_n 0, 1) := by decide +kernel
theorem dX0_init_33 : decode cX0_init 33 = .ok (.sipush 200, 3) := by decide +kernel
theorem dX0_init_36 : decode cX0_init 36 = .ok (.newarray .int, 2) := by decide +kernel
theorem dX0_init_38 : decode cX0_init 38 = .ok (.putfield 27, 3) := by decide +kernel
theorem dX0_init_41 : decode cX0_init 41 = .ok (.aload_n 0, 1) := by decide +kernel
theorem dX0_init_42 : decode cX0_init 42 = .ok (.sipush 200, 3) := by decide +kernel
theorem dX0_init_45 : decode cX0_init 45 = .ok (.newarray .long, 2) := by decide +kernel
theorem dX0_init_47 : decode cX0_init 47 = .ok (.putfield 33, 3) := by decide +kernel
theorem dX0_init_50 : decode cX0_init 50 = .ok (.aload_n 0, 1) := by decide +kernel
theorem dX0_init_51 : decode cX0_init 51 = .ok (.sipush 200, 3) := by decide +kernel
theorem dX0_init_54 : decode cX0_init 54 = .ok (.newarray .int, 2) := by decide +kernel
theorem dX0_init_56 : decode cX0_init 56 = .ok (.putfield 36, 3) := by decide +kernel
theorem dX0_init_59 : decode cX0_init 59 = .ok (.aload_n 0, 1) := by decide +kernel
theorem dX0_init_60 : decode cX0_init 60 = .ok (.sipush 200, 3) := by decide +kernel
theorem dX0_init_63 : decode cX0_init 63 = .ok (.newarray .int, 2) := by decide +kernel
theorem dX0_init_65 : decode cX0_init 65 = .ok (.putfield 39, 3) := by decide +kernel
theorem dX0_init_68 : decode cX0_init 68 = .ok (.aload_n 0, 1) := by decide +kernel
theorem dX0_init_69 : decode cX0_init 69 = .ok (.iconst (-1), 1) := by decide +kernel
theorem dX0_init_70 : decode cX0_init 70 = .ok (.putfield 42, 3) := by decide +kernel
theorem dX0_init_73 : decode cX0_init 73 = .ok (.aload_n 0, 1) := by decide +kernel
theorem dX0_init_74 : decode cX0_init 74 = .ok (.iconst (-1), 1) := by decide +kernel
theorem dX0_init_75 : decode cX0_init 75 = .ok (.putfield 46, 3) := by decide +kernel
theorem dX0_init_78 : decode cX0_init 78 = .ok (.iconst 0, 1) := by decide +kernel
theorem dX0_init_79 : decode cX0_init 79 = .ok (.istore_n 1, 1) := by decide +kernel
theorem dX0_init_80 : decode cX0_init 80 = .ok (.iconst 0, 1) := by decide +kernel
theorem dX0_init_81 : decode cX0_init 81 = .ok (.istore_n 2, 1) := by decide +kernel
theorem dX0_init_82 : decode cX0_init 82 = .ok (.iload_n 2, 1) := by decide +kernel
theorem dX0_init_83 : decode cX0_init 83 = .ok (.ldc 49, 2) := by decide +kernel
theorem dX0_init_85 : decode cX0_init 85 = .ok (.invokevirtual 51, 3) := by decide +kernel
theorem dX0_init_88 : decode cX0_init 88 = .ok (.if_icmp .ge 55, 3) := by decide +kernel
theorem dX0_init_91 : decode cX0_init 91 = .ok (.iload_n 1, 1) := by decide +kernel
theorem dX0_init_92 : decode cX0_init 92 = .ok (.bipush 51, 2) := by decide +kernel
theorem dX0_init_94 : decode cX0_init 94 = .ok (.if_icmp .ge 49, 3) := by decide +kernel
theorem dX0_init_97 : decode cX0_init 97 = .ok (.ldc 49, 2) := by decide +kernel
theorem dX0_init_99 : decode cX0_init 99 = .ok (.iload_n 2, 1) := by decide +kernel
theorem dX0_init_100 : decode cX0_init 100 = .ok (.invokevirtual 57, 3) := by decide +kernel
theorem dX0_init_103 : decode cX0_init 103 = .ok (.bipush 32, 2) := by decide +kernel
theorem dX0_init_105 : decode cX0_init 105 = .ok (.if_icmp .ne 9, 3) := by decide +kernel
theorem dX0_init_108 : decode cX0_init 108 = .ok (.iinc 1 1, 3) := by decide +kernel
theorem dX0_init_111 : decode cX0_init 111 = .ok (.goto 26, 3) := by decide +kernel
theorem dX0_init_114 : decode cX0_init 114 = .ok (.aload_n 0, 1) := by decide +kernel
theorem dX0_init_115 : decode cX0_init 115 = .ok (.getfield 20, 3) := by decide +kernel
theorem dX0_init_118 : decode cX0_init 118 = .ok (.iload_n 1, 1) := by decide +kernel
theorem dX0_init_119 : decode cX0_init 119 = .ok (.aload_n 0, 1) := by decide +kernel
theorem dX0_init_120 : decode cX0_init 120 = .ok (.getfield 20, 3) := by decide +kernel
theorem dX0_init_123 : decode cX0_init 123 = .ok (.iload_n 1, 1) := by decide +kernel
theorem dX0_init_124 : decode cX0_init 124 = .ok (.laload, 1) := by decide +kernel
theorem dX0_init_125 : decode cX0_init 125 = .ok (.bipush 8, 2) := by decide +kernel
theorem dX0_init_127 : decode cX0_init 127 = .ok (.lshl, 1) := by decide +kernel
theorem dX0_init_128 : decode cX0_init 128 = .ok (.ldc 49, 2) := by decide +kernel
theorem dX0_init_130 : decode cX0_init 130 = .ok (.iload_n 2, 1) := by decide +kernel
theorem dX0_init_131 : decode cX0_init 131 = .ok (.invokevirtual 57, 3) := by decide +kernel
theorem dX0_init_134 : decode cX0_init 134 = .ok (.i2l, 1) := by decide +kernel
theorem dX0_init_135 : decode cX0_init 135 = .ok (.lor, 1) := by decide +kernel
theorem dX0_init_136 : decode cX0_init 136 = .ok (.lastore, 1) := by decide +kernel
theorem dX0_init_137 : decode cX0_init 137 = .ok (.iinc 2 1, 3) := by decide +kernel
theorem dX0_init_140 : decode cX0_init 140 = .ok (.goto (-58), 3) := by decide +kernel
theorem dX0_init_143 : decode cX0_init 143 = .ok (.return_, 1) := by decide +kernel
theorem dX0_translate_0 : decode cX0_translate 0 = .ok (.aload_n 0, 1) := by decide +kernel
theorem dX0_translate_1 : decode cX0_translate 1 = .ok (.iconst 0, 1) := by decide +kernel
theorem dX0_translate_2 : decode cX0_translate 2 = .ok (.putfield 61, 3) := by decide +kernel
theorem dX0_translate_5 : decode cX0_translate 5 = .ok (.aload_n 0, 1) := by decide +kernel
theorem dX0_translate_6 : decode cX0_translate 6 = .ok (.iconst (-1), 1) := by decide +kernel
theorem dX0_translate_7 : decode cX0_translate 7 = .ok (.putfield 42, 3) := by decide +kernel
theorem dX0_translate_10 : decode cX0_translate 10 = .ok (.aload_n 0, 1) := by decide +kernel
theorem dX0_translate_11 : decode cX0_translate 11 = .ok (.iconst (-1), 1) := by decide +kernel
theorem dX0_translate_12 : decode cX0_translate 12 = .ok (.putfield 46, 3) := by decide +kernel
theorem dX0_translate_15 : decode cX0_translate 15 = .ok (.aload_n 0, 1) := by decide +kernel
theorem dX0_translate_16 : decode cX0_translate 16 = .ok (.iconst 0, 1) := by decide +kernel
theorem dX0_translate_17 : decode cX0_translate 17 = .ok (.putfield 64, 3) := by decide +kernel
theorem dX0_translate_20 : decode cX0_translate 20 = .ok (.aload_n 0, 1) := by decide +kernel
theorem dX0_translate_21 : decode cX0_translate 21 = .ok (.iconst 0, 1) := by decide +kernel
theorem dX0_translate_22 : decode cX0_translate 22 = .ok (.putfield 67, 3) := by decide +kernel
theorem dX0_translate_25 : decode cX0_translate 25 = .ok (.aload_n 0, 1) := by decide +kernel
theorem dX0_translate_26 : decode cX0_translate 26 = .ok (.aload_n 3, 1) := by decide +kernel
theorem dX0_translate_27 : decode cX0_translate 27 = .ok (.putfield 70, 3) := by decide +kernel
theorem dX0_translate_30 : decode cX0_translate 30 = .ok (.aload_n 0, 1) := by decide +kernel
theorem dX0_translate_31 : decode cX0_translate 31 = .ok (.getfield 70, 3) := by decide +kernel
theorem dX0_translate_34 : decode cX0_translate 34 = .ok (.invokevirtual 74, 3) := by decide +kernel
theorem dX0_translate_37 : decode cX0_translate 37 = .ok (.aload_n 0, 1) := by decide +kernel
theorem dX0_translate_38 : decode cX0_translate 38 = .ok (.aload_n 1, 1) := by decide +kernel
theorem dX0_translate_39 : decode cX0_translate 39 = .ok (.iload_n 2, 1) := by decide +kernel
theorem dX0_translate_40 : decode cX0_translate 40 = .ok (.invokevirtual 77, 3) := by decide +kernel
theorem dX0_translate_43 : decode cX0_translate 43 = .ok (.ifCond .eq 5, 3) := by decide +kernel
theorem dX0_translate_46 : decode cX0_translate 46 = .ok (.iconst 0, 1) := by decide +kernel
theorem dX0_translate_47 : decode cX0_translate 47 = .ok (.ireturn, 1) := by decide +kernel
theorem dX0_translate_48 : decode cX0_translate 48 = .ok (.iconst 0, 1) := by decide +kernel
theorem dX0_translate_49 : decode cX0_translate 49 = .ok (.istore 4, 2) := by decide +kernel
theorem dX0_translate_51 : decode cX0_translate 51 = .ok (.iload 4, 2) := by decide +kernel
theorem dX0_translate_53 : decode cX0_translate 53 = .ok (.iload_n 2, 1) := by decide +kernel
theorem dX0_translate_54 : decode cX0_translate 54 = .ok (.if_icmp .ge 62, 3) := by decide +kernel
theorem dX0_translate_57 : decode cX0_translate 57 = .ok (.aload_n 0, 1) := by decide +kernel
theorem dX0_translate_58 : decode cX0_translate 58 = .ok (.getfield 67, 3) := by decide +kernel
theorem dX0_translate_61 : decode cX0_translate 61 = .ok (.sipush 200, 3) := by decide +kernel
theorem dX0_translate_64 : decode cX0_translate 64 = .ok (.if_icmp .ge 52, 3) := by decide +kernel
theorem dX0_translate_67 : decode cX0_translate 67 = .ok (.aload_n 1, 1) := by decide +kernel
theorem dX0_translate_68 : decode cX0_translate 68 = .ok (.iload 4, 2) := by decide +kernel
theorem dX0_translate_70 : decode cX0_translate 70 = .ok (.iload_n 2, 1) := by decide +kernel
theorem dX0_translate_71 : decode cX0_translate 71 = .ok (.invokestatic 81, 3) := by decide +kernel
theorem dX0_translate_74 : decode cX0_translate 74 = .ok (.istore 5, 2) := by decide +kernel
theorem dX0_translate_76 : decode cX0_translate 76 = .ok (.aload_n 0, 1) := by decide +kernel
theorem dX0_translate_77 : decode cX0_translate 77 = .ok (.dup, 1) := by decide +kernel
theorem dX0_translate_78 : decode cX0_translate 78 = .ok (.getfield 67, 3) := by decide +kernel
theorem dX0_translate_81 : decode cX0_translate 81 = .ok (.iconst 1, 1) := by decide +kernel
theorem dX0_translate_82 : decode cX0_translate 82 = .ok (.iadd, 1) := by decide +kernel
theorem dX0_translate_83 : decode cX0_translate 83 = .ok (.putfield 67, 3) := by decide +kernel
theorem dX0_translate_86 : decode cX0_translate 86 = .ok (.aload_n 0, 1) := by decide +kernel
theorem dX0_translate_87 : decode cX0_translate 87 = .ok (.getfield 12, 3) := by decide +kernel
theorem dX0_translate_90 : decode cX0_translate 90 = .ok (.aload_n 1, 1) := by decide +kernel
theorem dX0_translate_91 : decode cX0_translate 91 = .ok (.iload 4, 2) := by decide +kernel
theorem dX0_translate_93 : decode cX0_translate 93 = .ok (.iload 5, 2) := by decide +kernel
theorem dX0_translate_95 : decode cX0_translate 95 = .ok (.invokevirtual 85, 3) := by decide +kernel
theorem dX0_translate_98 : decode cX0_translate 98 = .ok (.aload_n 0, 1) := by decide +kernel
theorem dX0_translate_99 : decode cX0_translate 99 = .ok (.invokevirtual 89, 3) := by decide +kernel
theorem dX0_translate_102 : decode cX0_translate 102 = .ok (.ifCond .ne 5, 3) := by decide +kernel
theorem dX0_translate_105 : decode cX0_translate 105 = .ok (.iconst 0, 1) := by decide +kernel
theorem dX0_translate_106 : decode cX0_translate 106 = .ok (.ireturn, 1) := by decide +kernel
theorem dX0_translate_107 : decode cX0_translate 107 = .ok (.iload 5, 2) := by decide +kernel
theorem dX0_translate_109 : decode cX0_translate 109 = .ok (.iconst 1, 1) := by decide +kernel
theorem dX0_translate_110 : decode cX0_translate 110 = .ok (.iadd, 1) := by decide +kernel
theorem dX0_translate_111 : decode cX0_translate 111 = .ok (.istore 4, 2) := by decide +kernel
theorem dX0_translate_113 : decode cX0_translate 113 = .ok (.goto (-62), 3) := by decide +kernel
theorem dX0_translate_116 : decode cX0_translate 116 = .ok (.aload_n 0, 1) := by decide +kernel
theorem dX0_translate_117 : decode cX0_translate 117 = .ok (.invokevirtual 93, 3) := by decide +kernel
theorem dX0_translate_120 : decode cX0_translate 120 = .ok (.ireturn, 1) := by decide +kernel
theorem dX0_isTooLong_0 : decode cX0_isTooLong 0 = .ok (.iconst 1, 1) := by decide +kernel
theorem dX0_isTooLong_1 : decode cX0_isTooLong 1 = .ok (.istore_n 3, 1) := by decide +kernel
theorem dX0_isTooLong_2 : decode cX0_isTooLong 2 = .ok (.iconst 0, 1) := by decide +kernel
theorem dX0_isTooLong_3 : decode cX0_isTooLong 3 = .ok (.istore 4, 2) := by decide +kernel
theorem dX0_isTooLong_5 : decode cX0_isTooLong 5 = .ok (.iload 4, 2) := by decide +kernel
theorem dX0_isTooLong_7 : decode cX0_isTooLong 7 = .ok (.iload_n 2, 1) := by decide +kernel
theorem dX0_isTooLong_8 : decode cX0_isTooLong 8 = .ok (.if_icmp .ge 46, 3) := by decide +kernel
theorem dX0_isTooLong_11 : decode cX0_isTooLong 11 = .ok (.iload_n 3, 1) := by decide +kernel
theorem dX0_isTooLong_12 : decode cX0_isTooLong 12 = .ok (.sipush 200, 3) := by decide +kernel
theorem dX0_isTooLong_15 : decode cX0_isTooLong 15 = .ok (.if_icmp .gt 11, 3) := by decide +kernel
theorem dX0_isTooLong_18 : decode cX0_isTooLong 18 = .ok (.iload 4, 2) := by decide +kernel
theorem dX0_isTooLong_20 : decode cX0_isTooLong 20 = .ok (.sipush 3000, 3) := by decide +kernel
theorem dX0_isTooLong_23 : decode cX0_isTooLong 23 = .ok (.if_icmp .ne 13, 3) := by decide +kernel
theorem dX0_isTooLong_26 : decode cX0_isTooLong 26 = .ok (.aload_n 0, 1) := by decide +kernel
theorem dX0_isTooLong_27 : decode cX0_isTooLong 27 = .ok (.iconst 5, 1) := by decide +kernel
theorem dX0_isTooLong_28 : decode cX0_isTooLong 28 = .ok (.iload 4, 2) := by decide +kernel
theorem dX0_isTooLong_30 : decode cX0_isTooLong 30 = .ok (.iload_n 3, 1) := by decide +kernel
theorem dX0_isTooLong_31 : decode cX0_isTooLong 31 = .ok (.invokevirtual 96, 3) := by decide +kernel
theorem dX0_isTooLong_34 : decode cX0_isTooLong 34 = .ok (.iconst 1, 1) := by decide +kernel
theorem dX0_isTooLong_35 : decode cX0_isTooLong 35 = .ok (.ireturn, 1) := by decide +kernel
theorem dX0_isTooLong_36 : decode cX0_isTooLong 36 = .ok (.aload_n 1, 1) := by decide +kernel
theorem dX0_isTooLong_37 : decode cX0_isTooLong 37 = .ok (.iload 4, 2) := by decide +kernel
theorem dX0_isTooLong_39 : decode cX0_isTooLong 39 = .ok (.iaload, 1) := by decide +kernel
theorem dX0_isTooLong_40 : decode cX0_isTooLong 40 = .ok (.bipush 10, 2) := by decide +kernel
theorem dX0_isTooLong_42 : decode cX0_isTooLong 42 = .ok (.if_icmp .ne 6, 3) := by decide +kernel
theorem dX0_isTooLong_45 : decode cX0_isTooLong 45 = .ok (.iinc 3 1, 3) := by decide +kernel
theorem dX0_isTooLong_48 : decode cX0_isTooLong 48 = .ok (.iinc 4 1, 3) := by decide +kernel
theorem dX0_isTooLong_51 : decode cX0_isTooLong 51 = .ok (.goto (-46), 3) := by decide +kernel
theorem dX0_isTooLong_54 : decode cX0_isTooLong 54 = .ok (.iconst 0, 1) := by decide +kernel
theorem dX0_isTooLong_55 : decode cX0_isTooLong 55 = .ok (.ireturn, 1) := by decide +kernel
theorem dX0_endOfLine_0 : decode cX0_endOfLine 0 = .ok (.iload_n 1, 1) := by decide +kernel
theorem dX0_endOfLine_1 : decode cX0_endOfLine 1 = .ok (.istore_n 3, 1) := by decide +kernel
theorem dX0_endOfLine_2 : decode cX0_endOfLine 2 = .ok (.iload_n 3, 1) := by decide +kernel
theorem dX0_endOfLine_3 : decode cX0_endOfLine 3 = .ok (.iload_n 2, 1) := by decide +kernel
theorem dX0_endOfLine_4 : decode cX0_endOfLine 4 = .ok (.if_icmp .ge 17, 3) := by decide +kernel
theorem dX0_endOfLine_7 : decode cX0_endOfLine 7 = .ok (.aload_n 0, 1) := by decide +kernel
theorem dX0_endOfLine_8 : decode cX0_endOfLine 8 = .ok (.iload_n 3, 1) := by decide +kernel
theorem dX0_endOfLine_9 : decode cX0_endOfLine 9 = .ok (.iaload, 1) := by decide +kernel
theorem dX0_endOfLine_10 : decode cX0_endOfLine 10 = .ok (.bipush 10, 2) := by decide +kernel
theorem dX0_endOfLine_12 : decode cX0_endOfLine 12 = .ok (.if_icmp .eq 9, 3) := by decide +kernel
theorem dX0_endOfLine_15 : decode cX0_endOfLine 15 = .ok (.iinc 3 1, 3) := by decide +kernel
theorem dX0_endOfLine_18 : decode cX0_endOfLine 18 = .ok (.goto (-16), 3) := by decide +kernel
theorem dX0_endOfLine_21 : decode cX0_endOfLine 21 = .ok (.iload_n 3, 1) := by decide +kernel
theorem dX0_endOfLine_22 : decode cX0_endOfLine 22 = .ok (.ireturn, 1) := by decide +kernel
theorem dX0_refuse_0 : decode cX0_refuse 0 = .ok (.aload_n 0, 1) := by decide +kernel
theorem dX0_refuse_1 : decode cX0_refuse 1 = .ok (.iload_n 1, 1) := by decide +kernel
theorem dX0_refuse_2 : decode cX0_refuse 2 = .ok (.putfield 61, 3) := by decide +kernel
theorem dX0_refuse_5 : decode cX0_refuse 5 = .ok (.aload_n 0, 1) := by decide +kernel
theorem dX0_refuse_6 : decode cX0_refuse 6 = .ok (.iload_n 2, 1) := by decide +kernel
theorem dX0_refuse_7 : decode cX0_refuse 7 = .ok (.putfield 42, 3) := by decide +kernel
theorem dX0_refuse_10 : decode cX0_refuse 10 = .ok (.aload_n 0, 1) := by decide +kernel
theorem dX0_refuse_11 : decode cX0_refuse 11 = .ok (.iload_n 3, 1) := by decide +kernel
theorem dX0_refuse_12 : decode cX0_refuse 12 = .ok (.putfield 46, 3) := by decide +kernel
theorem dX0_refuse_15 : decode cX0_refuse 15 = .ok (.return_, 1) := by decide +kernel
theorem dX0_refusePiece_0 : decode cX0_refusePiece 0 = .ok (.aload_n 0, 1) := by decide +kernel
theorem dX0_refusePiece_1 : decode cX0_refusePiece 1 = .ok (.aload_n 0, 1) := by decide +kernel
theorem dX0_refusePiece_2 : decode cX0_refusePiece 2 = .ok (.getfield 12, 3) := by decide +kernel
theorem dX0_refusePiece_5 : decode cX0_refusePiece 5 = .ok (.getfield 100, 3) := by decide +kernel
theorem dX0_refusePiece_8 : decode cX0_refusePiece 8 = .ok (.iconst 5, 1) := by decide +kernel
theorem dX0_refusePiece_9 : decode cX0_refusePiece 9 = .ok (.if_icmp .ne 7, 3) := by decide +kernel
theorem dX0_refusePiece_12 : decode cX0_refusePiece 12 = .ok (.iconst 1, 1) := by decide +kernel
theorem dX0_refusePiece_13 : decode cX0_refusePiece 13 = .ok (.goto 4, 3) := by decide +kernel
theorem dX0_refusePiece_16 : decode cX0_refusePiece 16 = .ok (.iconst 2, 1) := by decide +kernel
theorem dX0_refusePiece_17 : decode cX0_refusePiece 17 = .ok (.aload_n 0, 1) := by decide +kernel
theorem dX0_refusePiece_18 : decode cX0_refusePiece 18 = .ok (.getfield 12, 3) := by decide +kernel
theorem dX0_refusePiece_21 : decode cX0_refusePiece 21 = .ok (.getfield 103, 3) := by decide +kernel
theorem dX0_refusePiece_24 : decode cX0_refusePiece 24 = .ok (.aload_n 0, 1) := by decide +kernel
theorem dX0_refusePiece_25 : decode cX0_refusePiece 25 = .ok (.getfield 67, 3) := by decide +kernel
theorem dX0_refusePiece_28 : decode cX0_refusePiece 28 = .ok (.invokevirtual 96, 3) := by decide +kernel
theorem dX0_refusePiece_31 : decode cX0_refusePiece 31 = .ok (.iconst 0, 1) := by decide +kernel
theorem dX0_refusePiece_32 : decode cX0_refusePiece 32 = .ok (.ireturn, 1) := by decide +kernel
theorem dX0_readLine_0 : decode cX0_readLine 0 = .ok (.aload_n 0, 1) := by decide +kernel
theorem dX0_readLine_1 : decode cX0_readLine 1 = .ok (.getfield 12, 3) := by decide +kernel
theorem dX0_readLine_4 : decode cX0_readLine 4 = .ok (.invokevirtual 106, 3) := by decide +kernel
theorem dX0_readLine_7 : decode cX0_readLine 7 = .ok (.aload_n 0, 1) := by decide +kernel
theorem dX0_readLine_8 : decode cX0_readLine 8 = .ok (.invokevirtual 109, 3) := by decide +kernel
theorem dX0_readLine_11 : decode cX0_readLine 11 = .ok (.ifCond .eq 19, 3) := by decide +kernel
theorem dX0_readLine_14 : decode cX0_readLine 14 = .ok (.aload_n 0, 1) := by decide +kernel
theorem dX0_readLine_15 : decode cX0_readLine 15 = .ok (.invokevirtual 112, 3) := by decide +kernel
theorem dX0_readLine_18 : decode cX0_readLine 18 = .ok (.ifCond .ne 5, 3) := by decide +kernel
theorem dX0_readLine_21 : decode cX0_readLine 21 = .ok (.iconst 0, 1) := by decide +kernel
theorem dX0_readLine_22 : decode cX0_readLine 22 = .ok (.ireturn, 1) := by decide +kernel
theorem dX0_readLine_23 : decode cX0_readLine 23 = .ok (.aload_n 0, 1) := by decide +kernel
theorem dX0_readLine_24 : decode cX0_readLine 24 = .ok (.getfield 12, 3) := by decide +kernel
theorem dX0_readLine_27 : decode cX0_readLine 27 = .ok (.invokevirtual 106, 3) := by decide +kernel
theorem dX0_readLine_30 : decode cX0_readLine 30 = .ok (.aload_n 0, 1) := by decide +kernel
theorem dX0_readLine_31 : decode cX0_readLine 31 = .ok (.getfield 12, 3) := by decide +kernel
theorem dX0_readLine_34 : decode cX0_readLine 34 = .ok (.getfield 100, 3) := by decide +kernel
theorem dX0_readLine_37 : decode cX0_readLine 37 = .ok (.ifCond .ne 5, 3) := by decide +kernel
theorem dX0_readLine_40 : decode cX0_readLine 40 = .ok (.iconst 1, 1) := by decide +kernel
theorem dX0_readLine_41 : decode cX0_readLine 41 = .ok (.ireturn, 1) := by decide +kernel
theorem dX0_readLine_42 : decode cX0_readLine 42 = .ok (.aload_n 0, 1) := by decide +kernel
theorem dX0_readLine_43 : decode cX0_readLine 43 = .ok (.getfield 12, 3) := by decide +kernel
theorem dX0_readLine_46 : decode cX0_readLine 46 = .ok (.getfield 100, 3) := by decide +kernel
theorem dX0_readLine_49 : decode cX0_readLine 49 = .ok (.iconst 1, 1) := by decide +kernel
theorem dX0_readLine_50 : decode cX0_readLine 50 = .ok (.if_icmp .ne 17, 3) := by decide +kernel
theorem dX0_readLine_53 : decode cX0_readLine 53 = .ok (.aload_n 0, 1) := by decide +kernel
theorem dX0_readLine_54 : decode cX0_readLine 54 = .ok (.aload_n 0, 1) := by decide +kernel
theorem dX0_readLine_55 : decode cX0_readLine 55 = .ok (.getfield 12, 3) := by decide +kernel
theorem dX0_readLine_58 : decode cX0_readLine 58 = .ok (.getfield 115, 3) := by decide +kernel
theorem dX0_readLine_61 : decode cX0_readLine 61 = .ok (.invokevirtual 119, 3) := by decide +kernel
theorem dX0_readLine_64 : decode cX0_readLine 64 = .ok (.goto 4, 3) := by decide +kernel
theorem dX0_readLine_67 : decode cX0_readLine 67 = .ok (.iconst (-1), 1) := by decide +kernel
theorem dX0_readLine_68 : decode cX0_readLine 68 = .ok (.istore_n 1, 1) := by decide +kernel
theorem dX0_readLine_69 : decode cX0_readLine 69 = .ok (.iload_n 1, 1) := by decide +kernel
theorem dX0_readLine_70 : decode cX0_readLine 70 = .ok (.iconst (-1), 1) := by decide +kernel
theorem dX0_readLine_71 : decode cX0_readLine 71 = .ok (.if_icmp .ne 10, 3) := by decide +kernel
theorem dX0_readLine_74 : decode cX0_readLine 74 = .ok (.aload_n 0, 1) := by decide +kernel
theorem dX0_readLine_75 : decode cX0_readLine 75 = .ok (.invokevirtual 123, 3) := by decide +kernel
theorem dX0_readLine_78 : decode cX0_readLine 78 = .ok (.goto 8, 3) := by decide +kernel
theorem dX0_readLine_81 : decode cX0_readLine 81 = .ok (.aload_n 0, 1) := by decide +kernel
theorem dX0_readLine_82 : decode cX0_readLine 82 = .ok (.iload_n 1, 1) := by decide +kernel
theorem dX0_readLine_83 : decode cX0_readLine 83 = .ok (.invokevirtual 126, 3) := by decide +kernel
theorem dX0_readLine_86 : decode cX0_readLine 86 = .ok (.ireturn, 1) := by decide +kernel
theorem dX0_readLabel_0 : decode cX0_readLabel 0 = .ok (.aload_n 0, 1) := by decide +kernel
theorem dX0_readLabel_1 : decode cX0_readLabel 1 = .ok (.getfield 12, 3) := by decide +kernel
theorem dX0_readLabel_4 : decode cX0_readLabel 4 = .ok (.getfield 115, 3) := by decide +kernel
theorem dX0_readLabel_7 : decode cX0_readLabel 7 = .ok (.lstore_n 1, 1) := by decide +kernel
theorem dX0_readLabel_8 : decode cX0_readLabel 8 = .ok (.aload_n 0, 1) := by decide +kernel
theorem dX0_readLabel_9 : decode cX0_readLabel 9 = .ok (.getfield 12, 3) := by decide +kernel
theorem dX0_readLabel_12 : decode cX0_readLabel 12 = .ok (.getfield 103, 3) := by decide +kernel
theorem dX0_readLabel_15 : decode cX0_readLabel 15 = .ok (.istore_n 3, 1) := by decide +kernel
theorem dX0_readLabel_16 : decode cX0_readLabel 16 = .ok (.aload_n 0, 1) := by decide +kernel
theorem dX0_readLabel_17 : decode cX0_readLabel 17 = .ok (.getfield 12, 3) := by decide +kernel
theorem dX0_readLabel_20 : decode cX0_readLabel 20 = .ok (.invokevirtual 106, 3) := by decide +kernel
theorem dX0_readLabel_23 : decode cX0_readLabel 23 = .ok (.aload_n 0, 1) := by decide +kernel
theorem dX0_readLabel_24 : decode cX0_readLabel 24 = .ok (.getfield 12, 3) := by decide +kernel
theorem dX0_readLabel_27 : decode cX0_readLabel 27 = .ok (.getfield 100, 3) := by decide +kernel
theorem dX0_readLabel_30 : decode cX0_readLabel 30 = .ok (.iconst 4, 1) := by decide +kernel
theorem dX0_readLabel_31 : decode cX0_readLabel 31 = .ok (.if_icmp .eq 8, 3) := by decide +kernel
theorem dX0_readLabel_34 : decode cX0_readLabel 34 = .ok (.aload_n 0, 1) := by decide +kernel
theorem dX0_readLabel_35 : decode cX0_readLabel 35 = .ok (.invokevirtual 123, 3) := by decide +kernel
theorem dX0_readLabel_38 : decode cX0_readLabel 38 = .ok (.ireturn, 1) := by decide +kernel
theorem dX0_readLabel_39 : decode cX0_readLabel 39 = .ok (.aload_n 0, 1) := by decide +kernel
theorem dX0_readLabel_40 : decode cX0_readLabel 40 = .ok (.lload_n 1, 1) := by decide +kernel
theorem dX0_readLabel_41 : decode cX0_readLabel 41 = .ok (.invokevirtual 130, 3) := by decide +kernel
theorem dX0_readLabel_44 : decode cX0_readLabel 44 = .ok (.iconst (-1), 1) := by decide +kernel
theorem dX0_readLabel_45 : decode cX0_readLabel 45 = .ok (.if_icmp .eq 15, 3) := by decide +kernel
theorem dX0_readLabel_48 : decode cX0_readLabel 48 = .ok (.aload_n 0, 1) := by decide +kernel
theorem dX0_readLabel_49 : decode cX0_readLabel 49 = .ok (.iconst 3, 1) := by decide +kernel
theorem dX0_readLabel_50 : decode cX0_readLabel 50 = .ok (.iload_n 3, 1) := by decide +kernel
theorem dX0_readLabel_51 : decode cX0_readLabel 51 = .ok (.aload_n 0, 1) := by decide +kernel
theorem dX0_readLabel_52 : decode cX0_readLabel 52 = .ok (.getfield 67, 3) := by decide +kernel
theorem dX0_readLabel_55 : decode cX0_readLabel 55 = .ok (.invokevirtual 96, 3) := by decide +kernel
theorem dX0_readLabel_58 : decode cX0_readLabel 58 = .ok (.iconst 0, 1) := by decide +kernel
theorem dX0_readLabel_59 : decode cX0_readLabel 59 = .ok (.ireturn, 1) := by decide +kernel
theorem dX0_readLabel_60 : decode cX0_readLabel 60 = .ok (.aload_n 0, 1) := by decide +kernel
theorem dX0_readLabel_61 : decode cX0_readLabel 61 = .ok (.getfield 64, 3) := by decide +kernel
theorem dX0_readLabel_64 : decode cX0_readLabel 64 = .ok (.sipush 200, 3) := by decide +kernel
theorem dX0_readLabel_67 : decode cX0_readLabel 67 = .ok (.if_icmp .ge 39, 3) := by decide +kernel
theorem dX0_readLabel_70 : decode cX0_readLabel 70 = .ok (.aload_n 0, 1) := by decide +kernel
theorem dX0_readLabel_71 : decode cX0_readLabel 71 = .ok (.getfield 24, 3) := by decide +kernel
theorem dX0_readLabel_74 : decode cX0_readLabel 74 = .ok (.aload_n 0, 1) := by decide +kernel
theorem dX0_readLabel_75 : decode cX0_readLabel 75 = .ok (.getfield 64, 3) := by decide +kernel
theorem dX0_readLabel_78 : decode cX0_readLabel 78 = .ok (.lload_n 1, 1) := by decide +kernel
theorem dX0_readLabel_79 : decode cX0_readLabel 79 = .ok (.lastore, 1) := by decide +kernel
theorem dX0_readLabel_80 : decode cX0_readLabel 80 = .ok (.aload_n 0, 1) := by decide +kernel
theorem dX0_readLabel_81 : decode cX0_readLabel 81 = .ok (.getfield 27, 3) := by decide +kernel
theorem dX0_readLabel_84 : decode cX0_readLabel 84 = .ok (.aload_n 0, 1) := by decide +kernel
theorem dX0_readLabel_85 : decode cX0_readLabel 85 = .ok (.getfield 64, 3) := by decide +kernel
theorem dX0_readLabel_88 : decode cX0_readLabel 88 = .ok (.aload_n 0, 1) := by decide +kernel
theorem dX0_readLabel_89 : decode cX0_readLabel 89 = .ok (.getfield 70, 3) := by decide +kernel
theorem dX0_readLabel_92 : decode cX0_readLabel 92 = .ok (.getfield 133, 3) := by decide +kernel
theorem dX0_readLabel_95 : decode cX0_readLabel 95 = .ok (.iastore, 1) := by decide +kernel
theorem dX0_readLabel_96 : decode cX0_readLabel 96 = .ok (.aload_n 0, 1) := by decide +kernel
theorem dX0_readLabel_97 : decode cX0_readLabel 97 = .ok (.dup, 1) := by decide +kernel
theorem dX0_readLabel_98 : decode cX0_readLabel 98 = .ok (.getfield 64, 3) := by decide +kernel
theorem dX0_readLabel_101 : decode cX0_readLabel 101 = .ok (.iconst 1, 1) := by decide +kernel
theorem dX0_readLabel_102 : decode cX0_readLabel 102 = .ok (.iadd, 1) := by decide +kernel
theorem dX0_readLabel_103 : decode cX0_readLabel 103 = .ok (.putfield 64, 3) := by decide +kernel
theorem dX0_readLabel_106 : decode cX0_readLabel 106 = .ok (.iconst 1, 1) := by decide +kernel
theorem dX0_readLabel_107 : decode cX0_readLabel 107 = .ok (.ireturn, 1) := by decide +kernel
theorem dX0_readInstruction_0 : decode cX0_readInstruction 0 = .ok (.aload_n 0, 1) := by decide +kernel
theorem dX0_readInstruction_1 : decode cX0_readInstruction 1 = .ok (.getfield 70, 3) := by decide +kernel
theorem dX0_readInstruction_4 : decode cX0_readInstruction 4 = .ok (.getfield 133, 3) := by decide +kernel
theorem dX0_readInstruction_7 : decode cX0_readInstruction 7 = .ok (.istore_n 2, 1) := by decide +kernel
theorem dX0_readInstruction_8 : decode cX0_readInstruction 8 = .ok (.iload_n 2, 1) := by decide +kernel
theorem dX0_readInstruction_9 : decode cX0_readInstruction 9 = .ok (.sipush 200, 3) := by decide +kernel
theorem dX0_readInstruction_12 : decode cX0_readInstruction 12 = .ok (.if_icmp .lt 8, 3) := by decide +kernel
theorem dX0_readInstruction_15 : decode cX0_readInstruction 15 = .ok (.aload_n 0, 1) := by decide +kernel
theorem dX0_readInstruction_16 : decode cX0_readInstruction 16 = .ok (.invokevirtual 123, 3) := by decide +kernel
theorem dX0_readInstruction_19 : decode cX0_readInstruction 19 = .ok (.ireturn, 1) := by decide +kernel
theorem dX0_readInstruction_20 : decode cX0_readInstruction 20 = .ok (.iload_n 1, 1) := by decide +kernel
theorem dX0_readInstruction_21 : decode cX0_readInstruction 21 = .ok (.invokestatic 136, 3) := by decide +kernel
theorem dX0_readInstruction_24 : decode cX0_readInstruction 24 = .ok (.astore_n 3, 1) := by decide +kernel
theorem dX0_readInstruction_25 : decode cX0_readInstruction 25 = .ok (.aload_n 0, 1) := by decide +kernel
theorem dX0_readInstruction_26 : decode cX0_readInstruction 26 = .ok (.getfield 33, 3) := by decide +kernel
theorem dX0_readInstruction_29 : decode cX0_readInstruction 29 = .ok (.iload_n 2, 1) := by decide +kernel
theorem dX0_readInstruction_30 : decode cX0_readInstruction 30 = .ok (.lconst 0, 1) := by decide +kernel
theorem dX0_readInstruction_31 : decode cX0_readInstruction 31 = .ok (.lastore, 1) := by decide +kernel
theorem dX0_readInstruction_32 : decode cX0_readInstruction 32 = .ok (.aload_n 0, 1) := by decide +kernel
theorem dX0_readInstruction_33 : decode cX0_readInstruction 33 = .ok (.getfield 70, 3) := by decide +kernel
theorem dX0_readInstruction_36 : decode cX0_readInstruction 36 = .ok (.getfield 140, 3) := by decide +kernel
theorem dX0_readInstruction_39 : decode cX0_readInstruction 39 = .ok (.iload_n 2, 1) := by decide +kernel
theorem dX0_readInstruction_40 : decode cX0_readInstruction 40 = .ok (.iload_n 1, 1) := by decide +kernel
theorem dX0_readInstruction_41 : decode cX0_readInstruction 41 = .ok (.iastore, 1) := by decide +kernel
theorem dX0_readInstruction_42 : decode cX0_readInstruction 42 = .ok (.aload_n 0, 1) := by decide +kernel
theorem dX0_readInstruction_43 : decode cX0_readInstruction 43 = .ok (.getfield 70, 3) := by decide +kernel
theorem dX0_readInstruction_46 : decode cX0_readInstruction 46 = .ok (.getfield 143, 3) := by decide +kernel
theorem dX0_readInstruction_49 : decode cX0_readInstruction 49 = .ok (.iload_n 2, 1) := by decide +kernel
theorem dX0_readInstruction_50 : decode cX0_readInstruction 50 = .ok (.iconst 0, 1) := by decide +kernel
theorem dX0_readInstruction_51 : decode cX0_readInstruction 51 = .ok (.bastore, 1) := by decide +kernel
theorem dX0_readInstruction_52 : decode cX0_readInstruction 52 = .ok (.iconst 0, 1) := by decide +kernel
theorem dX0_readInstruction_53 : decode cX0_readInstruction 53 = .ok (.istore 4, 2) := by decide +kernel
theorem dX0_readInstruction_55 : decode cX0_readInstruction 55 = .ok (.iload 4, 2) := by decide +kernel
theorem dX0_readInstruction_57 : decode cX0_readInstruction 57 = .ok (.aload_n 3, 1) := by decide +kernel
theorem dX0_readInstruction_58 : decode cX0_readInstruction 58 = .ok (.invokevirtual 51, 3) := by decide +kernel
theorem dX0_readInstruction_61 : decode cX0_readInstruction 61 = .ok (.if_icmp .ge 65, 3) := by decide +kernel
theorem dX0_readInstruction_64 : decode cX0_readInstruction 64 = .ok (.aload_n 0, 1) := by decide +kernel
theorem dX0_readInstruction_65 : decode cX0_readInstruction 65 = .ok (.getfield 12, 3) := by decide +kernel
theorem dX0_readInstruction_68 : decode cX0_readInstruction 68 = .ok (.invokevirtual 106, 3) := by decide +kernel
theorem dX0_readInstruction_71 : decode cX0_readInstruction 71 = .ok (.iload 4, 2) := by decide +kernel
theorem dX0_readInstruction_73 : decode cX0_readInstruction 73 = .ok (.ifCond .le 26, 3) := by decide +kernel
theorem dX0_readInstruction_76 : decode cX0_readInstruction 76 = .ok (.aload_n 0, 1) := by decide +kernel
theorem dX0_readInstruction_77 : decode cX0_readInstruction 77 = .ok (.getfield 12, 3) := by decide +kernel
theorem dX0_readInstruction_80 : decode cX0_readInstruction 80 = .ok (.getfield 100, 3) := by decide +kernel
theorem dX0_readInstruction_83 : decode cX0_readInstruction 83 = .ok (.iconst 3, 1) := by decide +kernel
theorem dX0_readInstruction_84 : decode cX0_readInstruction 84 = .ok (.if_icmp .eq 8, 3) := by decide +kernel
theorem dX0_readInstruction_87 : decode cX0_readInstruction 87 = .ok (.aload_n 0, 1) := by decide +kernel
theorem dX0_readInstruction_88 : decode cX0_readInstruction 88 = .ok (.invokevirtual 123, 3) := by decide +kernel
theorem dX0_readInstruction_91 : decode cX0_readInstruction 91 = .ok (.ireturn, 1) := by decide +kernel
theorem dX0_readInstruction_92 : decode cX0_readInstruction 92 = .ok (.aload_n 0, 1) := by decide +kernel
theorem dX0_readInstruction_93 : decode cX0_readInstruction 93 = .ok (.getfield 12, 3) := by decide +kernel
theorem dX0_readInstruction_96 : decode cX0_readInstruction 96 = .ok (.invokevirtual 106, 3) := by decide +kernel
theorem dX0_readInstruction_99 : decode cX0_readInstruction 99 = .ok (.aload_n 0, 1) := by decide +kernel
theorem dX0_readInstruction_100 : decode cX0_readInstruction 100 = .ok (.aload_n 3, 1) := by decide +kernel
theorem dX0_readInstruction_101 : decode cX0_readInstruction 101 = .ok (.iload 4, 2) := by decide +kernel
theorem dX0_readInstruction_103 : decode cX0_readInstruction 103 = .ok (.invokevirtual 57, 3) := by decide +kernel
theorem dX0_readInstruction_106 : decode cX0_readInstruction 106 = .ok (.iload_n 2, 1) := by decide +kernel
theorem dX0_readInstruction_107 : decode cX0_readInstruction 107 = .ok (.iload 4, 2) := by decide +kernel
theorem dX0_readInstruction_109 : decode cX0_readInstruction 109 = .ok (.invokevirtual 147, 3) := by decide +kernel
theorem dX0_readInstruction_112 : decode cX0_readInstruction 112 = .ok (.ifCond .ne 8, 3) := by decide +kernel
theorem dX0_readInstruction_115 : decode cX0_readInstruction 115 = .ok (.aload_n 0, 1) := by decide +kernel
theorem dX0_readInstruction_116 : decode cX0_readInstruction 116 = .ok (.invokevirtual 123, 3) := by decide +kernel
theorem dX0_readInstruction_119 : decode cX0_readInstruction 119 = .ok (.ireturn, 1) := by decide +kernel
theorem dX0_readInstruction_120 : decode cX0_readInstruction 120 = .ok (.iinc 4 1, 3) := by decide +kernel
theorem dX0_readInstruction_123 : decode cX0_readInstruction 123 = .ok (.goto (-68), 3) := by decide +kernel
theorem dX0_readInstruction_126 : decode cX0_readInstruction 126 = .ok (.aload_n 0, 1) := by decide +kernel
theorem dX0_readInstruction_127 : decode cX0_readInstruction 127 = .ok (.getfield 12, 3) := by decide +kernel
theorem dX0_readInstruction_130 : decode cX0_readInstruction 130 = .ok (.invokevirtual 106, 3) := by decide +kernel
theorem dX0_readInstruction_133 : decode cX0_readInstruction 133 = .ok (.aload_n 0, 1) := by decide +kernel
theorem dX0_readInstruction_134 : decode cX0_readInstruction 134 = .ok (.getfield 12, 3) := by decide +kernel
theorem dX0_readInstruction_137 : decode cX0_readInstruction 137 = .ok (.getfield 100, 3) := by decide +kernel
theorem dX0_readInstruction_140 : decode cX0_readInstruction 140 = .ok (.ifCond .eq 8, 3) := by decide +kernel
theorem dX0_readInstruction_143 : decode cX0_readInstruction 143 = .ok (.aload_n 0, 1) := by decide +kernel
theorem dX0_readInstruction_144 : decode cX0_readInstruction 144 = .ok (.invokevirtual 123, 3) := by decide +kernel
theorem dX0_readInstruction_147 : decode cX0_readInstruction 147 = .ok (.ireturn, 1) := by decide +kernel
theorem dX0_readInstruction_148 : decode cX0_readInstruction 148 = .ok (.aload_n 0, 1) := by decide +kernel
theorem dX0_readInstruction_149 : decode cX0_readInstruction 149 = .ok (.getfield 70, 3) := by decide +kernel
theorem dX0_readInstruction_152 : decode cX0_readInstruction 152 = .ok (.dup, 1) := by decide +kernel
theorem dX0_readInstruction_153 : decode cX0_readInstruction 153 = .ok (.getfield 133, 3) := by decide +kernel
theorem dX0_readInstruction_156 : decode cX0_readInstruction 156 = .ok (.iconst 1, 1) := by decide +kernel
theorem dX0_readInstruction_157 : decode cX0_readInstruction 157 = .ok (.iadd, 1) := by decide +kernel
theorem dX0_readInstruction_158 : decode cX0_readInstruction 158 = .ok (.putfield 133, 3) := by decide +kernel
theorem dX0_readInstruction_161 : decode cX0_readInstruction 161 = .ok (.iconst 1, 1) := by decide +kernel
theorem dX0_readInstruction_162 : decode cX0_readInstruction 162 = .ok (.ireturn, 1) := by decide +kernel
theorem dX0_readOperand_0 : decode cX0_readOperand 0 = .ok (.aload_n 0, 1) := by decide +kernel
theorem dX0_readOperand_1 : decode cX0_readOperand 1 = .ok (.getfield 12, 3) := by decide +kernel
theorem dX0_readOperand_4 : decode cX0_readOperand 4 = .ok (.getfield 100, 3) := by decide +kernel
theorem dX0_readOperand_7 : decode cX0_readOperand 7 = .ok (.iconst 1, 1) := by decide +kernel
theorem dX0_readOperand_8 : decode cX0_readOperand 8 = .ok (.if_icmp .ne 21, 3) := by decide +kernel
theorem dX0_readOperand_11 : decode cX0_readOperand 11 = .ok (.aload_n 0, 1) := by decide +kernel
theorem dX0_readOperand_12 : decode cX0_readOperand 12 = .ok (.getfield 12, 3) := by decide +kernel
theorem dX0_readOperand_15 : decode cX0_readOperand 15 = .ok (.getfield 115, 3) := by decide +kernel
theorem dX0_readOperand_18 : decode cX0_readOperand 18 = .ok (.invokestatic 151, 3) := by decide +kernel
theorem dX0_readOperand_21 : decode cX0_readOperand 21 = .ok (.iconst (-1), 1) := by decide +kernel
theorem dX0_readOperand_22 : decode cX0_readOperand 22 = .ok (.if_icmp .eq 7, 3) := by decide +kernel
theorem dX0_readOperand_25 : decode cX0_readOperand 25 = .ok (.iconst 1, 1) := by decide +kernel
theorem dX0_readOperand_26 : decode cX0_readOperand 26 = .ok (.goto 4, 3) := by decide +kernel
theorem dX0_readOperand_29 : decode cX0_readOperand 29 = .ok (.iconst 0, 1) := by decide +kernel
theorem dX0_readOperand_30 : decode cX0_readOperand 30 = .ok (.istore 4, 2) := by decide +kernel
theorem dX0_readOperand_32 : decode cX0_readOperand 32 = .ok (.aload_n 0, 1) := by decide +kernel
theorem dX0_readOperand_33 : decode cX0_readOperand 33 = .ok (.getfield 12, 3) := by decide +kernel
theorem dX0_readOperand_36 : decode cX0_readOperand 36 = .ok (.getfield 100, 3) := by decide +kernel
theorem dX0_readOperand_39 : decode cX0_readOperand 39 = .ok (.iconst 2, 1) := by decide +kernel
theorem dX0_readOperand_40 : decode cX0_readOperand 40 = .ok (.if_icmp .ne 7, 3) := by decide +kernel
theorem dX0_readOperand_43 : decode cX0_readOperand 43 = .ok (.iconst 1, 1) := by decide +kernel
theorem dX0_readOperand_44 : decode cX0_readOperand 44 = .ok (.goto 4, 3) := by decide +kernel
theorem dX0_readOperand_47 : decode cX0_readOperand 47 = .ok (.iconst 0, 1) := by decide +kernel
theorem dX0_readOperand_48 : decode cX0_readOperand 48 = .ok (.istore 5, 2) := by decide +kernel
theorem dX0_readOperand_50 : decode cX0_readOperand 50 = .ok (.iload 4, 2) := by decide +kernel
theorem dX0_readOperand_52 : decode cX0_readOperand 52 = .ok (.ifCond .eq 36, 3) := by decide +kernel
theorem dX0_readOperand_55 : decode cX0_readOperand 55 = .ok (.iload_n 1, 1) := by decide +kernel
theorem dX0_readOperand_56 : decode cX0_readOperand 56 = .ok (.bipush 82, 2) := by decide +kernel
theorem dX0_readOperand_58 : decode cX0_readOperand 58 = .ok (.if_icmp .eq 9, 3) := by decide +kernel
theorem dX0_readOperand_61 : decode cX0_readOperand 61 = .ok (.iload_n 1, 1) := by decide +kernel
theorem dX0_readOperand_62 : decode cX0_readOperand 62 = .ok (.bipush 88, 2) := by decide +kernel
theorem dX0_readOperand_64 : decode cX0_readOperand 64 = .ok (.if_icmp .ne 24, 3) := by decide +kernel
theorem dX0_readOperand_67 : decode cX0_readOperand 67 = .ok (.aload_n 0, 1) := by decide +kernel
theorem dX0_readOperand_68 : decode cX0_readOperand 68 = .ok (.getfield 70, 3) := by decide +kernel
theorem dX0_readOperand_71 : decode cX0_readOperand 71 = .ok (.iload_n 2, 1) := by decide +kernel
theorem dX0_readOperand_72 : decode cX0_readOperand 72 = .ok (.iload_n 3, 1) := by decide +kernel
theorem dX0_readOperand_73 : decode cX0_readOperand 73 = .ok (.aload_n 0, 1) := by decide +kernel
theorem dX0_readOperand_74 : decode cX0_readOperand 74 = .ok (.getfield 12, 3) := by decide +kernel
theorem dX0_readOperand_77 : decode cX0_readOperand 77 = .ok (.getfield 115, 3) := by decide +kernel
theorem dX0_readOperand_80 : decode cX0_readOperand 80 = .ok (.invokestatic 151, 3) := by decide +kernel
theorem dX0_readOperand_83 : decode cX0_readOperand 83 = .ok (.invokevirtual 154, 3) := by decide +kernel
theorem dX0_readOperand_86 : decode cX0_readOperand 86 = .ok (.iconst 1, 1) := by decide +kernel
theorem dX0_readOperand_87 : decode cX0_readOperand 87 = .ok (.ireturn, 1) := by decide +kernel
theorem dX0_readOperand_88 : decode cX0_readOperand 88 = .ok (.iload 5, 2) := by decide +kernel
theorem dX0_readOperand_90 : decode cX0_readOperand 90 = .ok (.ifCond .eq 65, 3) := by decide +kernel
theorem dX0_readOperand_93 : decode cX0_readOperand 93 = .ok (.iload_n 1, 1) := by decide +kernel
theorem dX0_readOperand_94 : decode cX0_readOperand 94 = .ok (.bipush 78, 2) := by decide +kernel
theorem dX0_readOperand_96 : decode cX0_readOperand 96 = .ok (.if_icmp .eq 9, 3) := by decide +kernel
theorem dX0_readOperand_99 : decode cX0_readOperand 99 = .ok (.iload_n 1, 1) := by decide +kernel
theorem dX0_readOperand_100 : decode cX0_readOperand 100 = .ok (.bipush 88, 2) := by decide +kernel
theorem dX0_readOperand_102 : decode cX0_readOperand 102 = .ok (.if_icmp .ne 53, 3) := by decide +kernel
theorem dX0_readOperand_105 : decode cX0_readOperand 105 = .ok (.aload_n 0, 1) := by decide +kernel
theorem dX0_readOperand_106 : decode cX0_readOperand 106 = .ok (.getfield 70, 3) := by decide +kernel
theorem dX0_readOperand_109 : decode cX0_readOperand 109 = .ok (.iload_n 2, 1) := by decide +kernel
theorem dX0_readOperand_110 : decode cX0_readOperand 110 = .ok (.iload_n 3, 1) := by decide +kernel
theorem dX0_readOperand_111 : decode cX0_readOperand 111 = .ok (.aload_n 0, 1) := by decide +kernel
theorem dX0_readOperand_112 : decode cX0_readOperand 112 = .ok (.getfield 12, 3) := by decide +kernel
theorem dX0_readOperand_115 : decode cX0_readOperand 115 = .ok (.getfield 157, 3) := by decide +kernel
theorem dX0_readOperand_118 : decode cX0_readOperand 118 = .ok (.invokevirtual 154, 3) := by decide +kernel
theorem dX0_readOperand_121 : decode cX0_readOperand 121 = .ok (.aload_n 0, 1) := by decide +kernel
theorem dX0_readOperand_122 : decode cX0_readOperand 122 = .ok (.getfield 70, 3) := by decide +kernel
theorem dX0_readOperand_125 : decode cX0_readOperand 125 = .ok (.getfield 143, 3) := by decide +kernel
theorem dX0_readOperand_128 : decode cX0_readOperand 128 = .ok (.iload_n 2, 1) := by decide +kernel
theorem dX0_readOperand_129 : decode cX0_readOperand 129 = .ok (.aload_n 0, 1) := by decide +kernel
theorem dX0_readOperand_130 : decode cX0_readOperand 130 = .ok (.getfield 70, 3) := by decide +kernel
theorem dX0_readOperand_133 : decode cX0_readOperand 133 = .ok (.getfield 143, 3) := by decide +kernel
theorem dX0_readOperand_136 : decode cX0_readOperand 136 = .ok (.iload_n 2, 1) := by decide +kernel
theorem dX0_readOperand_137 : decode cX0_readOperand 137 = .ok (.baload, 1) := by decide +kernel
theorem dX0_readOperand_138 : decode cX0_readOperand 138 = .ok (.ifCond .ne 9, 3) := by decide +kernel
theorem dX0_readOperand_141 : decode cX0_readOperand 141 = .ok (.iload_n 1, 1) := by decide +kernel
theorem dX0_readOperand_142 : decode cX0_readOperand 142 = .ok (.bipush 88, 2) := by decide +kernel
theorem dX0_readOperand_144 : decode cX0_readOperand 144 = .ok (.if_icmp .ne 7, 3) := by decide +kernel
theorem dX0_readOperand_147 : decode cX0_readOperand 147 = .ok (.iconst 1, 1) := by decide +kernel
theorem dX0_readOperand_148 : decode cX0_readOperand 148 = .ok (.goto 4, 3) := by decide +kernel
theorem dX0_readOperand_151 : decode cX0_readOperand 151 = .ok (.iconst 0, 1) := by decide +kernel
theorem dX0_readOperand_152 : decode cX0_readOperand 152 = .ok (.bastore, 1) := by decide +kernel
theorem dX0_readOperand_153 : decode cX0_readOperand 153 = .ok (.iconst 1, 1) := by decide +kernel
theorem dX0_readOperand_154 : decode cX0_readOperand 154 = .ok (.ireturn, 1) := by decide +kernel
theorem dX0_readOperand_155 : decode cX0_readOperand 155 = .ok (.iload_n 1, 1) := by decide +kernel
theorem dX0_readOperand_156 : decode cX0_readOperand 156 = .ok (.bipush 76, 2) := by decide +kernel
theorem dX0_readOperand_158 : decode cX0_readOperand 158 = .ok (.if_icmp .ne 48, 3) := by decide +kernel
theorem dX0_readOperand_161 : decode cX0_readOperand 161 = .ok (.aload_n 0, 1) := by decide +kernel
theorem dX0_readOperand_162 : decode cX0_readOperand 162 = .ok (.invokevirtual 109, 3) := by decide +kernel
theorem dX0_readOperand_165 : decode cX0_readOperand 165 = .ok (.ifCond .eq 41, 3) := by decide +kernel
theorem dX0_readOperand_168 : decode cX0_readOperand 168 = .ok (.aload_n 0, 1) := by decide +kernel
theorem dX0_readOperand_169 : decode cX0_readOperand 169 = .ok (.getfield 33, 3) := by decide +kernel
theorem dX0_readOperand_172 : decode cX0_readOperand 172 = .ok (.iload_n 2, 1) := by decide +kernel
theorem dX0_readOperand_173 : decode cX0_readOperand 173 = .ok (.aload_n 0, 1) := by decide +kernel
theorem dX0_readOperand_174 : decode cX0_readOperand 174 = .ok (.getfield 12, 3) := by decide +kernel
theorem dX0_readOperand_177 : decode cX0_readOperand 177 = .ok (.getfield 115, 3) := by decide +kernel
theorem dX0_readOperand_180 : decode cX0_readOperand 180 = .ok (.lastore, 1) := by decide +kernel
theorem dX0_readOperand_181 : decode cX0_readOperand 181 = .ok (.aload_n 0, 1) := by decide +kernel
theorem dX0_readOperand_182 : decode cX0_readOperand 182 = .ok (.getfield 36, 3) := by decide +kernel
theorem dX0_readOperand_185 : decode cX0_readOperand 185 = .ok (.iload_n 2, 1) := by decide +kernel
theorem dX0_readOperand_186 : decode cX0_readOperand 186 = .ok (.aload_n 0, 1) := by decide +kernel
theorem dX0_readOperand_187 : decode cX0_readOperand 187 = .ok (.getfield 12, 3) := by decide +kernel
theorem dX0_readOperand_190 : decode cX0_readOperand 190 = .ok (.getfield 103, 3) := by decide +kernel
theorem dX0_readOperand_193 : decode cX0_readOperand 193 = .ok (.iastore, 1) := by decide +kernel
theorem dX0_readOperand_194 : decode cX0_readOperand 194 = .ok (.aload_n 0, 1) := by decide +kernel
theorem dX0_readOperand_195 : decode cX0_readOperand 195 = .ok (.getfield 39, 3) := by decide +kernel
theorem dX0_readOperand_198 : decode cX0_readOperand 198 = .ok (.iload_n 2, 1) := by decide +kernel
theorem dX0_readOperand_199 : decode cX0_readOperand 199 = .ok (.aload_n 0, 1) := by decide +kernel
theorem dX0_readOperand_200 : decode cX0_readOperand 200 = .ok (.getfield 67, 3) := by decide +kernel
theorem dX0_readOperand_203 : decode cX0_readOperand 203 = .ok (.iastore, 1) := by decide +kernel
theorem dX0_readOperand_204 : decode cX0_readOperand 204 = .ok (.iconst 1, 1) := by decide +kernel
theorem dX0_readOperand_205 : decode cX0_readOperand 205 = .ok (.ireturn, 1) := by decide +kernel
theorem dX0_readOperand_206 : decode cX0_readOperand 206 = .ok (.iconst 0, 1) := by decide +kernel
theorem dX0_readOperand_207 : decode cX0_readOperand 207 = .ok (.ireturn, 1) := by decide +kernel
theorem dX0_isLabel_0 : decode cX0_isLabel 0 = .ok (.aload_n 0, 1) := by decide +kernel
theorem dX0_isLabel_1 : decode cX0_isLabel 1 = .ok (.getfield 12, 3) := by decide +kernel
theorem dX0_isLabel_4 : decode cX0_isLabel 4 = .ok (.getfield 100, 3) := by decide +kernel
theorem dX0_isLabel_7 : decode cX0_isLabel 7 = .ok (.iconst 1, 1) := by decide +kernel
theorem dX0_isLabel_8 : decode cX0_isLabel 8 = .ok (.if_icmp .ne 36, 3) := by decide +kernel
theorem dX0_isLabel_11 : decode cX0_isLabel 11 = .ok (.aload_n 0, 1) := by decide +kernel
theorem dX0_isLabel_12 : decode cX0_isLabel 12 = .ok (.getfield 12, 3) := by decide +kernel
theorem dX0_isLabel_15 : decode cX0_isLabel 15 = .ok (.getfield 115, 3) := by decide +kernel
theorem dX0_isLabel_18 : decode cX0_isLabel 18 = .ok (.invokestatic 151, 3) := by decide +kernel
theorem dX0_isLabel_21 : decode cX0_isLabel 21 = .ok (.iconst (-1), 1) := by decide +kernel
theorem dX0_isLabel_22 : decode cX0_isLabel 22 = .ok (.if_icmp .ne 22, 3) := by decide +kernel
theorem dX0_isLabel_25 : decode cX0_isLabel 25 = .ok (.aload_n 0, 1) := by decide +kernel
theorem dX0_isLabel_26 : decode cX0_isLabel 26 = .ok (.aload_n 0, 1) := by decide +kernel
theorem dX0_isLabel_27 : decode cX0_isLabel 27 = .ok (.getfield 12, 3) := by decide +kernel
theorem dX0_isLabel_30 : decode cX0_isLabel 30 = .ok (.getfield 115, 3) := by decide +kernel
theorem dX0_isLabel_33 : decode cX0_isLabel 33 = .ok (.invokevirtual 119, 3) := by decide +kernel
theorem dX0_isLabel_36 : decode cX0_isLabel 36 = .ok (.iconst (-1), 1) := by decide +kernel
theorem dX0_isLabel_37 : decode cX0_isLabel 37 = .ok (.if_icmp .ne 7, 3) := by decide +kernel
theorem dX0_isLabel_40 : decode cX0_isLabel 40 = .ok (.iconst 1, 1) := by decide +kernel
theorem dX0_isLabel_41 : decode cX0_isLabel 41 = .ok (.goto 4, 3) := by decide +kernel
theorem dX0_isLabel_44 : decode cX0_isLabel 44 = .ok (.iconst 0, 1) := by decide +kernel
theorem dX0_isLabel_45 : decode cX0_isLabel 45 = .ok (.ireturn, 1) := by decide +kernel
theorem dX0_registerOf_0 : decode cX0_registerOf 0 = .ok (.lload_n 0, 1) := by decide +kernel
theorem dX0_registerOf_1 : decode cX0_registerOf 1 = .ok (.ldc2_w 160, 3) := by decide +kernel
theorem dX0_registerOf_4 : decode cX0_registerOf 4 = .ok (.lsub, 1) := by decide +kernel
theorem dX0_registerOf_5 : decode cX0_registerOf 5 = .ok (.ldc2_w 162, 3) := by decide +kernel
theorem dX0_registerOf_8 : decode cX0_registerOf 8 = .ok (.lsub, 1) := by decide +kernel
theorem dX0_registerOf_9 : decode cX0_registerOf 9 = .ok (.lstore_n 2, 1) := by decide +kernel
theorem dX0_registerOf_10 : decode cX0_registerOf 10 = .ok (.lload_n 2, 1) := by decide +kernel
theorem dX0_registerOf_11 : decode cX0_registerOf 11 = .ok (.lconst 0, 1) := by decide +kernel
theorem dX0_registerOf_12 : decode cX0_registerOf 12 = .ok (.lcmp, 1) := by decide +kernel
theorem dX0_registerOf_13 : decode cX0_registerOf 13 = .ok (.ifCond .lt 16, 3) := by decide +kernel
theorem dX0_registerOf_16 : decode cX0_registerOf 16 = .ok (.lload_n 2, 1) := by decide +kernel
theorem dX0_registerOf_17 : decode cX0_registerOf 17 = .ok (.ldc2_w 166, 3) := by decide +kernel
theorem dX0_registerOf_20 : decode cX0_registerOf 20 = .ok (.lcmp, 1) := by decide +kernel
theorem dX0_registerOf_21 : decode cX0_registerOf 21 = .ok (.ifCond .ge 8, 3) := by decide +kernel
theorem dX0_registerOf_24 : decode cX0_registerOf 24 = .ok (.lload_n 2, 1) := by decide +kernel
theorem dX0_registerOf_25 : decode cX0_registerOf 25 = .ok (.l2i, 1) := by decide +kernel
theorem dX0_registerOf_26 : decode cX0_registerOf 26 = .ok (.goto 4, 3) := by decide +kernel
theorem dX0_registerOf_29 : decode cX0_registerOf 29 = .ok (.iconst (-1), 1) := by decide +kernel
theorem dX0_registerOf_30 : decode cX0_registerOf 30 = .ok (.ireturn, 1) := by decide +kernel
theorem dX0_instruction_0 : decode cX0_instruction 0 = .ok (.iconst 0, 1) := by decide +kernel
theorem dX0_instruction_1 : decode cX0_instruction 1 = .ok (.istore_n 3, 1) := by decide +kernel
theorem dX0_instruction_2 : decode cX0_instruction 2 = .ok (.iload_n 3, 1) := by decide +kernel
theorem dX0_instruction_3 : decode cX0_instruction 3 = .ok (.bipush 51, 2) := by decide +kernel
theorem dX0_instruction_5 : decode cX0_instruction 5 = .ok (.if_icmp .ge 22, 3) := by decide +kernel
theorem dX0_instruction_8 : decode cX0_instruction 8 = .ok (.aload_n 0, 1) := by decide +kernel
theorem dX0_instruction_9 : decode cX0_instruction 9 = .ok (.getfield 20, 3) := by decide +kernel
theorem dX0_instruction_12 : decode cX0_instruction 12 = .ok (.iload_n 3, 1) := by decide +kernel
theorem dX0_instruction_13 : decode cX0_instruction 13 = .ok (.laload, 1) := by decide +kernel
theorem dX0_instruction_14 : decode cX0_instruction 14 = .ok (.lload_n 1, 1) := by decide +kernel
theorem dX0_instruction_15 : decode cX0_instruction 15 = .ok (.lcmp, 1) := by decide +kernel
theorem dX0_instruction_16 : decode cX0_instruction 16 = .ok (.ifCond .ne 5, 3) := by decide +kernel
theorem dX0_instruction_19 : decode cX0_instruction 19 = .ok (.iload_n 3, 1) := by decide +kernel
theorem dX0_instruction_20 : decode cX0_instruction 20 = .ok (.ireturn, 1) := by decide +kernel
theorem dX0_instruction_21 : decode cX0_instruction 21 = .ok (.iinc 3 1, 3) := by decide +kernel
theorem dX0_instruction_24 : decode cX0_instruction 24 = .ok (.goto (-22), 3) := by decide +kernel
theorem dX0_instruction_27 : decode cX0_instruction 27 = .ok (.iconst (-1), 1) := by decide +kernel
theorem dX0_instruction_28 : decode cX0_instruction 28 = .ok (.ireturn, 1) := by decide +kernel
theorem dX0_findLabel_0 : decode cX0_findLabel 0 = .ok (.iconst 0, 1) := by decide +kernel
theorem dX0_findLabel_1 : decode cX0_findLabel 1 = .ok (.istore_n 3, 1) := by decide +kernel
theorem dX0_findLabel_2 : decode cX0_findLabel 2 = .ok (.iload_n 3, 1) := by decide +kernel
theorem dX0_findLabel_3 : decode cX0_findLabel 3 = .ok (.aload_n 0, 1) := by decide +kernel
theorem dX0_findLabel_4 : decode cX0_findLabel 4 = .ok (.getfield 64, 3) := by decide +kernel
theorem dX0_findLabel_7 : decode cX0_findLabel 7 = .ok (.if_icmp .ge 22, 3) := by decide +kernel
theorem dX0_findLabel_10 : decode cX0_findLabel 10 = .ok (.aload_n 0, 1) := by decide +kernel
theorem dX0_findLabel_11 : decode cX0_findLabel 11 = .ok (.getfield 24, 3) := by decide +kernel
theorem dX0_findLabel_14 : decode cX0_findLabel 14 = .ok (.iload_n 3, 1) := by decide +kernel
theorem dX0_findLabel_15 : decode cX0_findLabel 15 = .ok (.laload, 1) := by decide +kernel
theorem dX0_findLabel_16 : decode cX0_findLabel 16 = .ok (.lload_n 1, 1) := by decide +kernel
theorem dX0_findLabel_17 : decode cX0_findLabel 17 = .ok (.lcmp, 1) := by decide +kernel
theorem dX0_findLabel_18 : decode cX0_findLabel 18 = .ok (.ifCond .ne 5, 3) := by decide +kernel
theorem dX0_findLabel_21 : decode cX0_findLabel 21 = .ok (.iload_n 3, 1) := by decide +kernel
theorem dX0_findLabel_22 : decode cX0_findLabel 22 = .ok (.ireturn, 1) := by decide +kernel
theorem dX0_findLabel_23 : decode cX0_findLabel 23 = .ok (.iinc 3 1, 3) := by decide +kernel
theorem dX0_findLabel_26 : decode cX0_findLabel 26 = .ok (.goto (-24), 3) := by decide +kernel
theorem dX0_findLabel_29 : decode cX0_findLabel 29 = .ok (.iconst (-1), 1) := by decide +kernel
theorem dX0_findLabel_30 : decode cX0_findLabel 30 = .ok (.ireturn, 1) := by decide +kernel
theorem dX0_resolveLabels_0 : decode cX0_resolveLabels 0 = .ok (.iconst 0, 1) := by decide +kernel
theorem dX0_resolveLabels_1 : decode cX0_resolveLabels 1 = .ok (.istore_n 1, 1) := by decide +kernel
theorem dX0_resolveLabels_2 : decode cX0_resolveLabels 2 = .ok (.iload_n 1, 1) := by decide +kernel
theorem dX0_resolveLabels_3 : decode cX0_resolveLabels 3 = .ok (.aload_n 0, 1) := by decide +kernel
theorem dX0_resolveLabels_4 : decode cX0_resolveLabels 4 = .ok (.getfield 70, 3) := by decide +kernel
theorem dX0_resolveLabels_7 : decode cX0_resolveLabels 7 = .ok (.getfield 133, 3) := by decide +kernel
theorem dX0_resolveLabels_10 : decode cX0_resolveLabels 10 = .ok (.if_icmp .ge 86, 3) := by decide +kernel
theorem dX0_resolveLabels_13 : decode cX0_resolveLabels 13 = .ok (.aload_n 0, 1) := by decide +kernel
theorem dX0_resolveLabels_14 : decode cX0_resolveLabels 14 = .ok (.getfield 33, 3) := by decide +kernel
theorem dX0_resolveLabels_17 : decode cX0_resolveLabels 17 = .ok (.iload_n 1, 1) := by decide +kernel
theorem dX0_resolveLabels_18 : decode cX0_resolveLabels 18 = .ok (.laload, 1) := by decide +kernel
theorem dX0_resolveLabels_19 : decode cX0_resolveLabels 19 = .ok (.lconst 0, 1) := by decide +kernel
theorem dX0_resolveLabels_20 : decode cX0_resolveLabels 20 = .ok (.lcmp, 1) := by decide +kernel
theorem dX0_resolveLabels_21 : decode cX0_resolveLabels 21 = .ok (.ifCond .eq 69, 3) := by decide +kernel
theorem dX0_resolveLabels_24 : decode cX0_resolveLabels 24 = .ok (.aload_n 0, 1) := by decide +kernel
theorem dX0_resolveLabels_25 : decode cX0_resolveLabels 25 = .ok (.aload_n 0, 1) := by decide +kernel
theorem dX0_resolveLabels_26 : decode cX0_resolveLabels 26 = .ok (.getfield 33, 3) := by decide +kernel
theorem dX0_resolveLabels_29 : decode cX0_resolveLabels 29 = .ok (.iload_n 1, 1) := by decide +kernel
theorem dX0_resolveLabels_30 : decode cX0_resolveLabels 30 = .ok (.laload, 1) := by decide +kernel
theorem dX0_resolveLabels_31 : decode cX0_resolveLabels 31 = .ok (.invokevirtual 130, 3) := by decide +kernel
theorem dX0_resolveLabels_34 : decode cX0_resolveLabels 34 = .ok (.istore_n 2, 1) := by decide +kernel
theorem dX0_resolveLabels_35 : decode cX0_resolveLabels 35 = .ok (.iload_n 2, 1) := by decide +kernel
theorem dX0_resolveLabels_36 : decode cX0_resolveLabels 36 = .ok (.iconst (-1), 1) := by decide +kernel
theorem dX0_resolveLabels_37 : decode cX0_resolveLabels 37 = .ok (.if_icmp .ne 22, 3) := by decide +kernel
theorem dX0_resolveLabels_40 : decode cX0_resolveLabels 40 = .ok (.aload_n 0, 1) := by decide +kernel
theorem dX0_resolveLabels_41 : decode cX0_resolveLabels 41 = .ok (.iconst 4, 1) := by decide +kernel
theorem dX0_resolveLabels_42 : decode cX0_resolveLabels 42 = .ok (.aload_n 0, 1) := by decide +kernel
theorem dX0_resolveLabels_43 : decode cX0_resolveLabels 43 = .ok (.getfield 36, 3) := by decide +kernel
theorem dX0_resolveLabels_46 : decode cX0_resolveLabels 46 = .ok (.iload_n 1, 1) := by decide +kernel
theorem dX0_resolveLabels_47 : decode cX0_resolveLabels 47 = .ok (.iaload, 1) := by decide +kernel
theorem dX0_resolveLabels_48 : decode cX0_resolveLabels 48 = .ok (.aload_n 0, 1) := by decide +kernel
theorem dX0_resolveLabels_49 : decode cX0_resolveLabels 49 = .ok (.getfield 39, 3) := by decide +kernel
theorem dX0_resolveLabels_52 : decode cX0_resolveLabels 52 = .ok (.iload_n 1, 1) := by decide +kernel
theorem dX0_resolveLabels_53 : decode cX0_resolveLabels 53 = .ok (.iaload, 1) := by decide +kernel
theorem dX0_resolveLabels_54 : decode cX0_resolveLabels 54 = .ok (.invokevirtual 96, 3) := by decide +kernel
theorem dX0_resolveLabels_57 : decode cX0_resolveLabels 57 = .ok (.iconst 0, 1) := by decide +kernel
theorem dX0_resolveLabels_58 : decode cX0_resolveLabels 58 = .ok (.ireturn, 1) := by decide +kernel
theorem dX0_resolveLabels_59 : decode cX0_resolveLabels 59 = .ok (.aload_n 0, 1) := by decide +kernel
theorem dX0_resolveLabels_60 : decode cX0_resolveLabels 60 = .ok (.getfield 70, 3) := by decide +kernel
theorem dX0_resolveLabels_63 : decode cX0_resolveLabels 63 = .ok (.iload_n 1, 1) := by decide +kernel
theorem dX0_resolveLabels_64 : decode cX0_resolveLabels 64 = .ok (.aload_n 0, 1) := by decide +kernel
theorem dX0_resolveLabels_65 : decode cX0_resolveLabels 65 = .ok (.getfield 70, 3) := by decide +kernel
theorem dX0_resolveLabels_68 : decode cX0_resolveLabels 68 = .ok (.getfield 140, 3) := by decide +kernel
theorem dX0_resolveLabels_71 : decode cX0_resolveLabels 71 = .ok (.iload_n 1, 1) := by decide +kernel
theorem dX0_resolveLabels_72 : decode cX0_resolveLabels 72 = .ok (.iaload, 1) := by decide +kernel
theorem dX0_resolveLabels_73 : decode cX0_resolveLabels 73 = .ok (.invokestatic 136, 3) := by decide +kernel
theorem dX0_resolveLabels_76 : decode cX0_resolveLabels 76 = .ok (.invokevirtual 51, 3) := by decide +kernel
theorem dX0_resolveLabels_79 : decode cX0_resolveLabels 79 = .ok (.iconst 1, 1) := by decide +kernel
theorem dX0_resolveLabels_80 : decode cX0_resolveLabels 80 = .ok (.isub, 1) := by decide +kernel
theorem dX0_resolveLabels_81 : decode cX0_resolveLabels 81 = .ok (.aload_n 0, 1) := by decide +kernel
theorem dX0_resolveLabels_82 : decode cX0_resolveLabels 82 = .ok (.getfield 27, 3) := by decide +kernel
theorem dX0_resolveLabels_85 : decode cX0_resolveLabels 85 = .ok (.iload_n 2, 1) := by decide +kernel
theorem dX0_resolveLabels_86 : decode cX0_resolveLabels 86 = .ok (.iaload, 1) := by decide +kernel
theorem dX0_resolveLabels_87 : decode cX0_resolveLabels 87 = .ok (.invokevirtual 154, 3) := by decide +kernel
theorem dX0_resolveLabels_90 : decode cX0_resolveLabels 90 = .ok (.iinc 1 1, 3) := by decide +kernel
theorem dX0_resolveLabels_93 : decode cX0_resolveLabels 93 = .ok (.goto (-91), 3) := by decide +kernel
theorem dX0_resolveLabels_96 : decode cX0_resolveLabels 96 = .ok (.iconst 1, 1) := by decide +kernel
theorem dX0_resolveLabels_97 : decode cX0_resolveLabels 97 = .ok (.ireturn, 1) := by decide +kernel
theorem dX1_init_0 : decode cX1_init 0 = .ok (.aload_n 0, 1) := by decide +kernel
theorem dX1_init_1 : decode cX1_init 1 = .ok (.invokespecial 3, 3) := by decide +kernel
theorem dX1_init_4 : decode cX1_init 4 = .ok (.return_, 1) := by decide +kernel
theorem dX1_put_0 : decode cX1_put 0 = .ok (.aload_n 0, 1) := by decide +kernel
theorem dX1_put_1 : decode cX1_put 1 = .ok (.iload_n 1, 1) := by decide +kernel
theorem dX1_put_2 : decode cX1_put 2 = .ok (.putfield 9, 3) := by decide +kernel
theorem dX1_put_5 : decode cX1_put 5 = .ok (.aload_n 0, 1) := by decide +kernel
theorem dX1_put_6 : decode cX1_put 6 = .ok (.iload_n 2, 1) := by decide +kernel
theorem dX1_put_7 : decode cX1_put 7 = .ok (.putfield 15, 3) := by decide +kernel
theorem dX1_put_10 : decode cX1_put 10 = .ok (.aload_n 0, 1) := by decide +kernel
theorem dX1_put_11 : decode cX1_put 11 = .ok (.iload_n 2, 1) := by decide +kernel
theorem dX1_put_12 : decode cX1_put 12 = .ok (.ifCond .ne 7, 3) := by decide +kernel
theorem dX1_put_15 : decode cX1_put 15 = .ok (.iconst 0, 1) := by decide +kernel
theorem dX1_put_16 : decode cX1_put 16 = .ok (.goto 4, 3) := by decide +kernel
theorem dX1_put_19 : decode cX1_put 19 = .ok (.iload_n 3, 1) := by decide +kernel
theorem dX1_put_20 : decode cX1_put 20 = .ok (.putfield 18, 3) := by decide +kernel
theorem dX1_put_23 : decode cX1_put 23 = .ok (.return_, 1) := by decide +kernel
theorem dX1_putSet_0 : decode cX1_putSet 0 = .ok (.aload_n 0, 1) := by decide +kernel
theorem dX1_putSet_1 : decode cX1_putSet 1 = .ok (.iload_n 1, 1) := by decide +kernel
theorem dX1_putSet_2 : decode cX1_putSet 2 = .ok (.iconst 0, 1) := by decide +kernel
theorem dX1_putSet_3 : decode cX1_putSet 3 = .ok (.iconst 0, 1) := by decide +kernel
theorem dX1_putSet_4 : decode cX1_putSet 4 = .ok (.invokevirtual 21, 3) := by decide +kernel
theorem dX1_putSet_7 : decode cX1_putSet 7 = .ok (.return_, 1) := by decide +kernel
theorem dX1_take_0 : decode cX1_take 0 = .ok (.aload_n 0, 1) := by decide +kernel
theorem dX1_take_1 : decode cX1_take 1 = .ok (.aload_n 1, 1) := by decide +kernel
theorem dX1_take_2 : decode cX1_take 2 = .ok (.getfield 9, 3) := by decide +kernel
theorem dX1_take_5 : decode cX1_take 5 = .ok (.aload_n 1, 1) := by decide +kernel
theorem dX1_take_6 : decode cX1_take 6 = .ok (.getfield 15, 3) := by decide +kernel
theorem dX1_take_9 : decode cX1_take 9 = .ok (.aload_n 1, 1) := by decide +kernel
theorem dX1_take_10 : decode cX1_take 10 = .ok (.getfield 18, 3) := by decide +kernel
theorem dX1_take_13 : decode cX1_take 13 = .ok (.invokevirtual 21, 3) := by decide +kernel
theorem dX1_take_16 : decode cX1_take 16 = .ok (.return_, 1) := by decide +kernel
theorem dX1_tell_0 : decode cX1_tell 0 = .ok (.iload_n 1, 1) := by decide +kernel
theorem dX1_tell_1 : decode cX1_tell 1 = .ok (.tableswitch 42 0 2 #[27, 32, 37], 27) := by decide +kernel
theorem dX1_tell_28 : decode cX1_tell 28 = .ok (.aload_n 0, 1) := by decide +kernel
theorem dX1_tell_29 : decode cX1_tell 29 = .ok (.getfield 9, 3) := by decide +kernel
theorem dX1_tell_32 : decode cX1_tell 32 = .ok (.ireturn, 1) := by decide +kernel
theorem dX1_tell_33 : decode cX1_tell 33 = .ok (.aload_n 0, 1) := by decide +kernel
theorem dX1_tell_34 : decode cX1_tell 34 = .ok (.getfield 15, 3) := by decide +kernel
theorem dX1_tell_37 : decode cX1_tell 37 = .ok (.ireturn, 1) := by decide +kernel
theorem dX1_tell_38 : decode cX1_tell 38 = .ok (.aload_n 0, 1) := by decide +kernel
theorem dX1_tell_39 : decode cX1_tell 39 = .ok (.getfield 18, 3) := by decide +kernel
theorem dX1_tell_42 : decode cX1_tell 42 = .ok (.ireturn, 1) := by decide +kernel
theorem dX1_tell_43 : decode cX1_tell 43 = .ok (.iconst (-1), 1) := by decide +kernel
theorem dX1_tell_44 : decode cX1_tell 44 = .ok (.ireturn, 1) := by decide +kernel
theorem dX2_init_0 : decode cX2_init 0 = .ok (.aload_n 0, 1) := by decide +kernel
theorem dX2_init_1 : decode cX2_init 1 = .ok (.invokespecial 3, 3) := by decide +kernel
theorem dX2_init_4 : decode cX2_init 4 = .ok (.aload_n 0, 1) := by decide +kernel
theorem dX2_init_5 : decode cX2_init 5 = .ok (.bipush 101, 2) := by decide +kernel
theorem dX2_init_7 : decode cX2_init 7 = .ok (.newarray .int, 2) := by decide +kernel
theorem dX2_init_9 : decode cX2_init 9 = .ok (.putfield 11, 3) := by decide +kernel
theorem dX2_init_12 : decode cX2_init 12 = .ok (.aload_n 0, 1) := by decide +kernel
theorem dX2_init_13 : decode cX2_init 13 = .ok (.bipush 101, 2) := by decide +kernel
theorem dX2_init_15 : decode cX2_init 15 = .ok (.newarray .int, 2) := by decide +kernel
theorem dX2_init_17 : decode cX2_init 17 = .ok (.putfield 15, 3) := by decide +kernel
theorem dX2_init_20 : decode cX2_init 20 = .ok (.aload_n 0, 1) := by decide +kernel
theorem dX2_init_21 : decode cX2_init 21 = .ok (.bipush 101, 2) := by decide +kernel
theorem dX2_init_23 : decode cX2_init 23 = .ok (.newarray .int, 2) := by decide +kernel
theorem dX2_init_25 : decode cX2_init 25 = .ok (.putfield 18, 3) := by decide +kernel
theorem dX2_init_28 : decode cX2_init 28 = .ok (.aload_n 0, 1) := by decide +kernel
theorem dX2_init_29 : decode cX2_init 29 = .ok (.bipush 101, 2) := by decide +kernel
theorem dX2_init_31 : decode cX2_init 31 = .ok (.newarray .int, 2) := by decide +kernel
theorem dX2_init_33 : decode cX2_init 33 = .ok (.putfield 21, 3) := by decide +kernel
theorem dX2_init_36 : decode cX2_init 36 = .ok (.aload_n 0, 1) := by decide +kernel
theorem dX2_init_37 : decode cX2_init 37 = .ok (.bipush 101, 2) := by decide +kernel
theorem dX2_init_39 : decode cX2_init 39 = .ok (.newarray .int, 2) := by decide +kernel
theorem dX2_init_41 : decode cX2_init 41 = .ok (.putfield 24, 3) := by decide +kernel
theorem dX2_init_44 : decode cX2_init 44 = .ok (.aload_n 0, 1) := by decide +kernel
theorem dX2_init_45 : decode cX2_init 45 = .ok (.sipush 256, 3) := by decide +kernel
theorem dX2_init_48 : decode cX2_init 48 = .ok (.newarray .int, 2) := by decide +kernel
theorem dX2_init_50 : decode cX2_init 50 = .ok (.putfield 27, 3) := by decide +kernel
theorem dX2_init_53 : decode cX2_init 53 = .ok (.aload_n 0, 1) := by decide +kernel
theorem dX2_init_54 : decode cX2_init 54 = .ok (.bipush 100, 2) := by decide +kernel
theorem dX2_init_56 : decode cX2_init 56 = .ok (.newarray .int, 2) := by decide +kernel
theorem dX2_init_58 : decode cX2_init 58 = .ok (.putfield 30, 3) := by decide +kernel
theorem dX2_init_61 : decode cX2_init 61 = .ok (.return_, 1) := by decide +kernel
theorem dX2_clear_0 : decode cX2_clear 0 = .ok (.aload_n 0, 1) := by decide +kernel
theorem dX2_clear_1 : decode cX2_clear 1 = .ok (.iconst 0, 1) := by decide +kernel
theorem dX2_clear_2 : decode cX2_clear 2 = .ok (.putfield 33, 3) := by decide +kernel
theorem dX2_clear_5 : decode cX2_clear 5 = .ok (.aload_n 0, 1) := by decide +kernel
theorem dX2_clear_6 : decode cX2_clear 6 = .ok (.iconst 0, 1) := by decide +kernel
theorem dX2_clear_7 : decode cX2_clear 7 = .ok (.putfield 37, 3) := by decide +kernel
theorem dX2_clear_10 : decode cX2_clear 10 = .ok (.aload_n 0, 1) := by decide +kernel
theorem dX2_clear_11 : decode cX2_clear 11 = .ok (.iconst 0, 1) := by decide +kernel
theorem dX2_clear_12 : decode cX2_clear 12 = .ok (.putfield 40, 3) := by decide +kernel
theorem dX2_clear_15 : decode cX2_clear 15 = .ok (.aload_n 0, 1) := by decide +kernel
theorem dX2_clear_16 : decode cX2_clear 16 = .ok (.iconst 0, 1) := by decide +kernel
theorem dX2_clear_17 : decode cX2_clear 17 = .ok (.putfield 43, 3) := by decide +kernel
theorem dX2_clear_20 : decode cX2_clear 20 = .ok (.iconst 0, 1) := by decide +kernel
theorem dX2_clear_21 : decode cX2_clear 21 = .ok (.istore_n 1, 1) := by decide +kernel
theorem dX2_clear_22 : decode cX2_clear 22 = .ok (.iload_n 1, 1) := by decide +kernel
theorem dX2_clear_23 : decode cX2_clear 23 = .ok (.sipush 256, 3) := by decide +kernel
theorem dX2_clear_26 : decode cX2_clear 26 = .ok (.if_icmp .ge 16, 3) := by decide +kernel
theorem dX2_clear_29 : decode cX2_clear 29 = .ok (.aload_n 0, 1) := by decide +kernel
theorem dX2_clear_30 : decode cX2_clear 30 = .ok (.getfield 27, 3) := by decide +kernel
theorem dX2_clear_33 : decode cX2_clear 33 = .ok (.iload_n 1, 1) := by decide +kernel
theorem dX2_clear_34 : decode cX2_clear 34 = .ok (.iconst 0, 1) := by decide +kernel
theorem dX2_clear_35 : decode cX2_clear 35 = .ok (.iastore, 1) := by decide +kernel
theorem dX2_clear_36 : decode cX2_clear 36 = .ok (.iinc 1 1, 3) := by decide +kernel
theorem dX2_clear_39 : decode cX2_clear 39 = .ok (.goto (-17), 3) := by decide +kernel
theorem dX2_clear_42 : decode cX2_clear 42 = .ok (.return_, 1) := by decide +kernel
theorem dX2_make_0 : decode cX2_make 0 = .ok (.iload_n 1, 1) := by decide +kernel
theorem dX2_make_1 : decode cX2_make 1 = .ok (.ifCond .lt 19, 3) := by decide +kernel
theorem dX2_make_4 : decode cX2_make 4 = .ok (.iload_n 1, 1) := by decide +kernel
theorem dX2_make_5 : decode cX2_make 5 = .ok (.sipush 512, 3) := by decide +kernel
theorem dX2_make_8 : decode cX2_make 8 = .ok (.if_icmp .gt 12, 3) := by decide +kernel
theorem dX2_make_11 : decode cX2_make 11 = .ok (.aload_n 0, 1) := by decide +kernel
theorem dX2_make_12 : decode cX2_make 12 = .ok (.getfield 33, 3) := by decide +kernel
theorem dX2_make_15 : decode cX2_make 15 = .ok (.bipush 100, 2) := by decide +kernel
theorem dX2_make_17 : decode cX2_make 17 = .ok (.if_icmp .lt 5, 3) := by decide +kernel
theorem dX2_make_20 : decode cX2_make 20 = .ok (.iconst 0, 1) := by decide +kernel
theorem dX2_make_21 : decode cX2_make 21 = .ok (.ireturn, 1) := by decide +kernel
theorem dX2_make_22 : decode cX2_make 22 = .ok (.aload_n 0, 1) := by decide +kernel
theorem dX2_make_23 : decode cX2_make 23 = .ok (.iload_n 1, 1) := by decide +kernel
theorem dX2_make_24 : decode cX2_make 24 = .ok (.invokestatic 46, 3) := by decide +kernel
theorem dX2_make_27 : decode cX2_make 27 = .ok (.invokevirtual 50, 3) := by decide +kernel
theorem dX2_make_30 : decode cX2_make 30 = .ok (.istore_n 3, 1) := by decide +kernel
theorem dX2_make_31 : decode cX2_make 31 = .ok (.iload_n 3, 1) := by decide +kernel
theorem dX2_make_32 : decode cX2_make 32 = .ok (.iconst (-1), 1) := by decide +kernel
theorem dX2_make_33 : decode cX2_make 33 = .ok (.if_icmp .ne 5, 3) := by decide +kernel
theorem dX2_make_36 : decode cX2_make 36 = .ok (.iconst 0, 1) := by decide +kernel
theorem dX2_make_37 : decode cX2_make 37 = .ok (.ireturn, 1) := by decide +kernel
theorem dX2_make_38 : decode cX2_make 38 = .ok (.aload_n 0, 1) := by decide +kernel
theorem dX2_make_39 : decode cX2_make 39 = .ok (.dup, 1) := by decide +kernel
theorem dX2_make_40 : decode cX2_make 40 = .ok (.getfield 33, 3) := by decide +kernel
theorem dX2_make_43 : decode cX2_make 43 = .ok (.iconst 1, 1) := by decide +kernel
theorem dX2_make_44 : decode cX2_make 44 = .ok (.iadd, 1) := by decide +kernel
theorem dX2_make_45 : decode cX2_make 45 = .ok (.putfield 33, 3) := by decide +kernel
theorem dX2_make_48 : decode cX2_make 48 = .ok (.aload_n 0, 1) := by decide +kernel
theorem dX2_make_49 : decode cX2_make 49 = .ok (.getfield 11, 3) := by decide +kernel
theorem dX2_make_52 : decode cX2_make 52 = .ok (.aload_n 0, 1) := by decide +kernel
theorem dX2_make_53 : decode cX2_make 53 = .ok (.getfield 33, 3) := by decide +kernel
theorem dX2_make_56 : decode cX2_make 56 = .ok (.sipush 1024, 3) := by decide +kernel
theorem dX2_make_59 : decode cX2_make 59 = .ok (.bipush 8, 2) := by decide +kernel
theorem dX2_make_61 : decode cX2_make 61 = .ok (.iload_n 3, 1) := by decide +kernel
theorem dX2_make_62 : decode cX2_make 62 = .ok (.iconst 1, 1) := by decide +kernel
theorem dX2_make_63 : decode cX2_make 63 = .ok (.iadd, 1) := by decide +kernel
theorem dX2_make_64 : decode cX2_make 64 = .ok (.imul, 1) := by decide +kernel
theorem dX2_make_65 : decode cX2_make 65 = .ok (.iadd, 1) := by decide +kernel
theorem dX2_make_66 : decode cX2_make 66 = .ok (.iastore, 1) := by decide +kernel
theorem dX2_make_67 : decode cX2_make 67 = .ok (.aload_n 0, 1) := by decide +kernel
theorem dX2_make_68 : decode cX2_make 68 = .ok (.getfield 15, 3) := by decide +kernel
theorem dX2_make_71 : decode cX2_make 71 = .ok (.aload_n 0, 1) := by decide +kernel
theorem dX2_make_72 : decode cX2_make 72 = .ok (.getfield 33, 3) := by decide +kernel
theorem dX2_make_75 : decode cX2_make 75 = .ok (.iload_n 1, 1) := by decide +kernel
theorem dX2_make_76 : decode cX2_make 76 = .ok (.iastore, 1) := by decide +kernel
theorem dX2_make_77 : decode cX2_make 77 = .ok (.aload_n 0, 1) := by decide +kernel
theorem dX2_make_78 : decode cX2_make 78 = .ok (.getfield 18, 3) := by decide +kernel
theorem dX2_make_81 : decode cX2_make 81 = .ok (.aload_n 0, 1) := by decide +kernel
theorem dX2_make_82 : decode cX2_make 82 = .ok (.getfield 33, 3) := by decide +kernel
theorem dX2_make_85 : decode cX2_make 85 = .ok (.iconst 2, 1) := by decide +kernel
theorem dX2_make_86 : decode cX2_make 86 = .ok (.iastore, 1) := by decide +kernel
theorem dX2_make_87 : decode cX2_make 87 = .ok (.aload_n 0, 1) := by decide +kernel
theorem dX2_make_88 : decode cX2_make 88 = .ok (.getfield 21, 3) := by decide +kernel
theorem dX2_make_91 : decode cX2_make 91 = .ok (.aload_n 0, 1) := by decide +kernel
theorem dX2_make_92 : decode cX2_make 92 = .ok (.getfield 33, 3) := by decide +kernel
theorem dX2_make_95 : decode cX2_make 95 = .ok (.iload_n 2, 1) := by decide +kernel
theorem dX2_make_96 : decode cX2_make 96 = .ok (.iastore, 1) := by decide +kernel
theorem dX2_make_97 : decode cX2_make 97 = .ok (.aload_n 0, 1) := by decide +kernel
theorem dX2_make_98 : decode cX2_make 98 = .ok (.getfield 24, 3) := by decide +kernel
theorem dX2_make_101 : decode cX2_make 101 = .ok (.aload_n 0, 1) := by decide +kernel
theorem dX2_make_102 : decode cX2_make 102 = .ok (.getfield 33, 3) := by decide +kernel
theorem dX2_make_105 : decode cX2_make 105 = .ok (.iconst (-1), 1) := by decide +kernel
theorem dX2_make_106 : decode cX2_make 106 = .ok (.iastore, 1) := by decide +kernel
theorem dX2_make_107 : decode cX2_make 107 = .ok (.aload_n 0, 1) := by decide +kernel
theorem dX2_make_108 : decode cX2_make 108 = .ok (.aload_n 0, 1) := by decide +kernel
theorem dX2_make_109 : decode cX2_make 109 = .ok (.getfield 33, 3) := by decide +kernel
theorem dX2_make_112 : decode cX2_make 112 = .ok (.aload_n 0, 1) := by decide +kernel
theorem dX2_make_113 : decode cX2_make 113 = .ok (.getfield 33, 3) := by decide +kernel
theorem dX2_make_116 : decode cX2_make 116 = .ok (.invokevirtual 55, 3) := by decide +kernel
theorem dX2_make_119 : decode cX2_make 119 = .ok (.aload_n 0, 1) := by decide +kernel
theorem dX2_make_120 : decode cX2_make 120 = .ok (.getfield 33, 3) := by decide +kernel
theorem dX2_make_123 : decode cX2_make 123 = .ok (.ireturn, 1) := by decide +kernel
theorem dX2_unitsOf_0 : decode cX2_unitsOf 0 = .ok (.iconst 2, 1) := by decide +kernel
theorem dX2_unitsOf_1 : decode cX2_unitsOf 1 = .ok (.iload_n 0, 1) := by decide +kernel
theorem dX2_unitsOf_2 : decode cX2_unitsOf 2 = .ok (.bipush 8, 2) := by decide +kernel
theorem dX2_unitsOf_4 : decode cX2_unitsOf 4 = .ok (.iadd, 1) := by decide +kernel
theorem dX2_unitsOf_5 : decode cX2_unitsOf 5 = .ok (.iconst 1, 1) := by decide +kernel
theorem dX2_unitsOf_6 : decode cX2_unitsOf 6 = .ok (.isub, 1) := by decide +kernel
theorem dX2_unitsOf_7 : decode cX2_unitsOf 7 = .ok (.bipush 8, 2) := by decide +kernel
theorem dX2_unitsOf_9 : decode cX2_unitsOf 9 = .ok (.idiv, 1) := by decide +kernel
theorem dX2_unitsOf_10 : decode cX2_unitsOf 10 = .ok (.iadd, 1) := by decide +kernel
theorem dX2_unitsOf_11 : decode cX2_unitsOf 11 = .ok (.ireturn, 1) := by decide +kernel
theorem dX2_firstFree_0 : decode cX2_firstFree 0 = .ok (.iconst 0, 1) := by decide +kernel
theorem dX2_firstFree_1 : decode cX2_firstFree 1 = .ok (.istore_n 2, 1) := by decide +kernel
theorem dX2_firstFree_2 : decode cX2_firstFree 2 = .ok (.iconst 0, 1) := by decide +kernel
theorem dX2_firstFree_3 : decode cX2_firstFree 3 = .ok (.istore_n 3, 1) := by decide +kernel
theorem dX2_firstFree_4 : decode cX2_firstFree 4 = .ok (.iload_n 3, 1) := by decide +kernel
theorem dX2_firstFree_5 : decode cX2_firstFree 5 = .ok (.sipush 256, 3) := by decide +kernel
theorem dX2_firstFree_8 : decode cX2_firstFree 8 = .ok (.if_icmp .ge 37, 3) := by decide +kernel
theorem dX2_firstFree_11 : decode cX2_firstFree 11 = .ok (.aload_n 0, 1) := by decide +kernel
theorem dX2_firstFree_12 : decode cX2_firstFree 12 = .ok (.getfield 27, 3) := by decide +kernel
theorem dX2_firstFree_15 : decode cX2_firstFree 15 = .ok (.iload_n 3, 1) := by decide +kernel
theorem dX2_firstFree_16 : decode cX2_firstFree 16 = .ok (.iaload, 1) := by decide +kernel
theorem dX2_firstFree_17 : decode cX2_firstFree 17 = .ok (.ifCond .ne 9, 3) := by decide +kernel
theorem dX2_firstFree_20 : decode cX2_firstFree 20 = .ok (.iload_n 2, 1) := by decide +kernel
theorem dX2_firstFree_21 : decode cX2_firstFree 21 = .ok (.iconst 1, 1) := by decide +kernel
theorem dX2_firstFree_22 : decode cX2_firstFree 22 = .ok (.iadd, 1) := by decide +kernel
theorem dX2_firstFree_23 : decode cX2_firstFree 23 = .ok (.goto 4, 3) := by decide +kernel
theorem dX2_firstFree_26 : decode cX2_firstFree 26 = .ok (.iconst 0, 1) := by decide +kernel
theorem dX2_firstFree_27 : decode cX2_firstFree 27 = .ok (.istore_n 2, 1) := by decide +kernel
theorem dX2_firstFree_28 : decode cX2_firstFree 28 = .ok (.iload_n 2, 1) := by decide +kernel
theorem dX2_firstFree_29 : decode cX2_firstFree 29 = .ok (.iload_n 1, 1) := by decide +kernel
theorem dX2_firstFree_30 : decode cX2_firstFree 30 = .ok (.if_icmp .ne 9, 3) := by decide +kernel
theorem dX2_firstFree_33 : decode cX2_firstFree 33 = .ok (.iload_n 3, 1) := by decide +kernel
theorem dX2_firstFree_34 : decode cX2_firstFree 34 = .ok (.iload_n 1, 1) := by decide +kernel
theorem dX2_firstFree_35 : decode cX2_firstFree 35 = .ok (.isub, 1) := by decide +kernel
theorem dX2_firstFree_36 : decode cX2_firstFree 36 = .ok (.iconst 1, 1) := by decide +kernel
theorem dX2_firstFree_37 : decode cX2_firstFree 37 = .ok (.iadd, 1) := by decide +kernel
theorem dX2_firstFree_38 : decode cX2_firstFree 38 = .ok (.ireturn, 1) := by decide +kernel
theorem dX2_firstFree_39 : decode cX2_firstFree 39 = .ok (.iinc 3 1, 3) := by decide +kernel
theorem dX2_firstFree_42 : decode cX2_firstFree 42 = .ok (.goto (-38), 3) := by decide +kernel
theorem dX2_firstFree_45 : decode cX2_firstFree 45 = .ok (.iconst (-1), 1) := by decide +kernel
theorem dX2_firstFree_46 : decode cX2_firstFree 46 = .ok (.ireturn, 1) := by decide +kernel
theorem dX2_own_0 : decode cX2_own 0 = .ok (.aload_n 0, 1) := by decide +kernel
theorem dX2_own_1 : decode cX2_own 1 = .ok (.getfield 11, 3) := by decide +kernel
theorem dX2_own_4 : decode cX2_own 4 = .ok (.iload_n 1, 1) := by decide +kernel
theorem dX2_own_5 : decode cX2_own 5 = .ok (.iaload, 1) := by decide +kernel
theorem dX2_own_6 : decode cX2_own 6 = .ok (.sipush 1024, 3) := by decide +kernel
theorem dX2_own_9 : decode cX2_own 9 = .ok (.isub, 1) := by decide +kernel
theorem dX2_own_10 : decode cX2_own 10 = .ok (.bipush 8, 2) := by decide +kernel
theorem dX2_own_12 : decode cX2_own 12 = .ok (.idiv, 1) := by decide +kernel
theorem dX2_own_13 : decode cX2_own 13 = .ok (.iconst 1, 1) := by decide +kernel
theorem dX2_own_14 : decode cX2_own 14 = .ok (.isub, 1) := by decide +kernel
theorem dX2_own_15 : decode cX2_own 15 = .ok (.istore_n 3, 1) := by decide +kernel
theorem dX2_own_16 : decode cX2_own 16 = .ok (.aload_n 0, 1) := by decide +kernel
theorem dX2_own_17 : decode cX2_own 17 = .ok (.getfield 15, 3) := by decide +kernel
theorem dX2_own_20 : decode cX2_own 20 = .ok (.iload_n 1, 1) := by decide +kernel
theorem dX2_own_21 : decode cX2_own 21 = .ok (.iaload, 1) := by decide +kernel
theorem dX2_own_22 : decode cX2_own 22 = .ok (.invokestatic 46, 3) := by decide +kernel
theorem dX2_own_25 : decode cX2_own 25 = .ok (.istore 4, 2) := by decide +kernel
theorem dX2_own_27 : decode cX2_own 27 = .ok (.iconst 0, 1) := by decide +kernel
theorem dX2_own_28 : decode cX2_own 28 = .ok (.istore 5, 2) := by decide +kernel
theorem dX2_own_30 : decode cX2_own 30 = .ok (.iload 5, 2) := by decide +kernel
theorem dX2_own_32 : decode cX2_own 32 = .ok (.iload 4, 2) := by decide +kernel
theorem dX2_own_34 : decode cX2_own 34 = .ok (.if_icmp .ge 19, 3) := by decide +kernel
theorem dX2_own_37 : decode cX2_own 37 = .ok (.aload_n 0, 1) := by decide +kernel
theorem dX2_own_38 : decode cX2_own 38 = .ok (.getfield 27, 3) := by decide +kernel
theorem dX2_own_41 : decode cX2_own 41 = .ok (.iload_n 3, 1) := by decide +kernel
theorem dX2_own_42 : decode cX2_own 42 = .ok (.iload 5, 2) := by decide +kernel
theorem dX2_own_44 : decode cX2_own 44 = .ok (.iadd, 1) := by decide +kernel
theorem dX2_own_45 : decode cX2_own 45 = .ok (.iload_n 2, 1) := by decide +kernel
theorem dX2_own_46 : decode cX2_own 46 = .ok (.iastore, 1) := by decide +kernel
theorem dX2_own_47 : decode cX2_own 47 = .ok (.iinc 5 1, 3) := by decide +kernel
theorem dX2_own_50 : decode cX2_own 50 = .ok (.goto (-20), 3) := by decide +kernel
theorem dX2_own_53 : decode cX2_own 53 = .ok (.return_, 1) := by decide +kernel
theorem dX2_ownerOf_0 : decode cX2_ownerOf 0 = .ok (.iload_n 1, 1) := by decide +kernel
theorem dX2_ownerOf_1 : decode cX2_ownerOf 1 = .ok (.sipush 1024, 3) := by decide +kernel
theorem dX2_ownerOf_4 : decode cX2_ownerOf 4 = .ok (.if_icmp .lt 10, 3) := by decide +kernel
theorem dX2_ownerOf_7 : decode cX2_ownerOf 7 = .ok (.iload_n 1, 1) := by decide +kernel
theorem dX2_ownerOf_8 : decode cX2_ownerOf 8 = .ok (.sipush 3072, 3) := by decide +kernel
theorem dX2_ownerOf_11 : decode cX2_ownerOf 11 = .ok (.if_icmp .lt 5, 3) := by decide +kernel
theorem dX2_ownerOf_14 : decode cX2_ownerOf 14 = .ok (.iconst 0, 1) := by decide +kernel
theorem dX2_ownerOf_15 : decode cX2_ownerOf 15 = .ok (.ireturn, 1) := by decide +kernel
theorem dX2_ownerOf_16 : decode cX2_ownerOf 16 = .ok (.aload_n 0, 1) := by decide +kernel
theorem dX2_ownerOf_17 : decode cX2_ownerOf 17 = .ok (.getfield 27, 3) := by decide +kernel
theorem dX2_ownerOf_20 : decode cX2_ownerOf 20 = .ok (.iload_n 1, 1) := by decide +kernel
theorem dX2_ownerOf_21 : decode cX2_ownerOf 21 = .ok (.sipush 1024, 3) := by decide +kernel
theorem dX2_ownerOf_24 : decode cX2_ownerOf 24 = .ok (.isub, 1) := by decide +kernel
theorem dX2_ownerOf_25 : decode cX2_ownerOf 25 = .ok (.bipush 8, 2) := by decide +kernel
theorem dX2_ownerOf_27 : decode cX2_ownerOf 27 = .ok (.idiv, 1) := by decide +kernel
theorem dX2_ownerOf_28 : decode cX2_ownerOf 28 = .ok (.iaload, 1) := by decide +kernel
theorem dX2_ownerOf_29 : decode cX2_ownerOf 29 = .ok (.ireturn, 1) := by decide +kernel
theorem dX2_leadsTo_0 : decode cX2_leadsTo 0 = .ok (.aload_n 0, 1) := by decide +kernel
theorem dX2_leadsTo_1 : decode cX2_leadsTo 1 = .ok (.iload_n 1, 1) := by decide +kernel
theorem dX2_leadsTo_2 : decode cX2_leadsTo 2 = .ok (.invokevirtual 59, 3) := by decide +kernel
theorem dX2_leadsTo_5 : decode cX2_leadsTo 5 = .ok (.istore_n 2, 1) := by decide +kernel
theorem dX2_leadsTo_6 : decode cX2_leadsTo 6 = .ok (.iload_n 2, 1) := by decide +kernel
theorem dX2_leadsTo_7 : decode cX2_leadsTo 7 = .ok (.ifCond .eq 13, 3) := by decide +kernel
theorem dX2_leadsTo_10 : decode cX2_leadsTo 10 = .ok (.aload_n 0, 1) := by decide +kernel
theorem dX2_leadsTo_11 : decode cX2_leadsTo 11 = .ok (.getfield 18, 3) := by decide +kernel
theorem dX2_leadsTo_14 : decode cX2_leadsTo 14 = .ok (.iload_n 2, 1) := by decide +kernel
theorem dX2_leadsTo_15 : decode cX2_leadsTo 15 = .ok (.iaload, 1) := by decide +kernel
theorem dX2_leadsTo_16 : decode cX2_leadsTo 16 = .ok (.iconst 2, 1) := by decide +kernel
theorem dX2_leadsTo_17 : decode cX2_leadsTo 17 = .ok (.if_icmp .eq 5, 3) := by decide +kernel
theorem dX2_leadsTo_20 : decode cX2_leadsTo 20 = .ok (.iconst 0, 1) := by decide +kernel
theorem dX2_leadsTo_21 : decode cX2_leadsTo 21 = .ok (.ireturn, 1) := by decide +kernel
theorem dX2_leadsTo_22 : decode cX2_leadsTo 22 = .ok (.iload_n 1, 1) := by decide +kernel
theorem dX2_leadsTo_23 : decode cX2_leadsTo 23 = .ok (.aload_n 0, 1) := by decide +kernel
theorem dX2_leadsTo_24 : decode cX2_leadsTo 24 = .ok (.getfield 11, 3) := by decide +kernel
theorem dX2_leadsTo_27 : decode cX2_leadsTo 27 = .ok (.iload_n 2, 1) := by decide +kernel
theorem dX2_leadsTo_28 : decode cX2_leadsTo 28 = .ok (.iaload, 1) := by decide +kernel
theorem dX2_leadsTo_29 : decode cX2_leadsTo 29 = .ok (.isub, 1) := by decide +kernel
theorem dX2_leadsTo_30 : decode cX2_leadsTo 30 = .ok (.istore_n 3, 1) := by decide +kernel
theorem dX2_leadsTo_31 : decode cX2_leadsTo 31 = .ok (.iload_n 3, 1) := by decide +kernel
theorem dX2_leadsTo_32 : decode cX2_leadsTo 32 = .ok (.ifCond .eq 17, 3) := by decide +kernel
theorem dX2_leadsTo_35 : decode cX2_leadsTo 35 = .ok (.iload_n 3, 1) := by decide +kernel
theorem dX2_leadsTo_36 : decode cX2_leadsTo 36 = .ok (.ifCond .le 17, 3) := by decide +kernel
theorem dX2_leadsTo_39 : decode cX2_leadsTo 39 = .ok (.iload_n 3, 1) := by decide +kernel
theorem dX2_leadsTo_40 : decode cX2_leadsTo 40 = .ok (.aload_n 0, 1) := by decide +kernel
theorem dX2_leadsTo_41 : decode cX2_leadsTo 41 = .ok (.getfield 15, 3) := by decide +kernel
theorem dX2_leadsTo_44 : decode cX2_leadsTo 44 = .ok (.iload_n 2, 1) := by decide +kernel
theorem dX2_leadsTo_45 : decode cX2_leadsTo 45 = .ok (.iaload, 1) := by decide +kernel
theorem dX2_leadsTo_46 : decode cX2_leadsTo 46 = .ok (.if_icmp .ge 7, 3) := by decide +kernel
theorem dX2_leadsTo_49 : decode cX2_leadsTo 49 = .ok (.iload_n 2, 1) := by decide +kernel
theorem dX2_leadsTo_50 : decode cX2_leadsTo 50 = .ok (.goto 4, 3) := by decide +kernel
theorem dX2_leadsTo_53 : decode cX2_leadsTo 53 = .ok (.iconst 0, 1) := by decide +kernel
theorem dX2_leadsTo_54 : decode cX2_leadsTo 54 = .ok (.ireturn, 1) := by decide +kernel
theorem dX2_beginsAt_0 : decode cX2_beginsAt 0 = .ok (.aload_n 0, 1) := by decide +kernel
theorem dX2_beginsAt_1 : decode cX2_beginsAt 1 = .ok (.iload_n 1, 1) := by decide +kernel
theorem dX2_beginsAt_2 : decode cX2_beginsAt 2 = .ok (.invokevirtual 62, 3) := by decide +kernel
theorem dX2_beginsAt_5 : decode cX2_beginsAt 5 = .ok (.istore_n 2, 1) := by decide +kernel
theorem dX2_beginsAt_6 : decode cX2_beginsAt 6 = .ok (.iload_n 2, 1) := by decide +kernel
theorem dX2_beginsAt_7 : decode cX2_beginsAt 7 = .ok (.ifCond .eq 17, 3) := by decide +kernel
theorem dX2_beginsAt_10 : decode cX2_beginsAt 10 = .ok (.aload_n 0, 1) := by decide +kernel
theorem dX2_beginsAt_11 : decode cX2_beginsAt 11 = .ok (.getfield 11, 3) := by decide +kernel
theorem dX2_beginsAt_14 : decode cX2_beginsAt 14 = .ok (.iload_n 2, 1) := by decide +kernel
theorem dX2_beginsAt_15 : decode cX2_beginsAt 15 = .ok (.iaload, 1) := by decide +kernel
theorem dX2_beginsAt_16 : decode cX2_beginsAt 16 = .ok (.iload_n 1, 1) := by decide +kernel
theorem dX2_beginsAt_17 : decode cX2_beginsAt 17 = .ok (.if_icmp .ne 7, 3) := by decide +kernel
theorem dX2_beginsAt_20 : decode cX2_beginsAt 20 = .ok (.iload_n 2, 1) := by decide +kernel
theorem dX2_beginsAt_21 : decode cX2_beginsAt 21 = .ok (.goto 4, 3) := by decide +kernel
theorem dX2_beginsAt_24 : decode cX2_beginsAt 24 = .ok (.iconst 0, 1) := by decide +kernel
theorem dX2_beginsAt_25 : decode cX2_beginsAt 25 = .ok (.ireturn, 1) := by decide +kernel
theorem dX2_keep_0 : decode cX2_keep 0 = .ok (.aload_n 0, 1) := by decide +kernel
theorem dX2_keep_1 : decode cX2_keep 1 = .ok (.getfield 18, 3) := by decide +kernel
theorem dX2_keep_4 : decode cX2_keep 4 = .ok (.iload_n 1, 1) := by decide +kernel
theorem dX2_keep_5 : decode cX2_keep 5 = .ok (.iconst 1, 1) := by decide +kernel
theorem dX2_keep_6 : decode cX2_keep 6 = .ok (.iastore, 1) := by decide +kernel
theorem dX2_keep_7 : decode cX2_keep 7 = .ok (.aload_n 0, 1) := by decide +kernel
theorem dX2_keep_8 : decode cX2_keep 8 = .ok (.getfield 24, 3) := by decide +kernel
theorem dX2_keep_11 : decode cX2_keep 11 = .ok (.iload_n 1, 1) := by decide +kernel
theorem dX2_keep_12 : decode cX2_keep 12 = .ok (.iload_n 2, 1) := by decide +kernel
theorem dX2_keep_13 : decode cX2_keep 13 = .ok (.iastore, 1) := by decide +kernel
theorem dX2_keep_14 : decode cX2_keep 14 = .ok (.aload_n 0, 1) := by decide +kernel
theorem dX2_keep_15 : decode cX2_keep 15 = .ok (.dup, 1) := by decide +kernel
theorem dX2_keep_16 : decode cX2_keep 16 = .ok (.getfield 43, 3) := by decide +kernel
theorem dX2_keep_19 : decode cX2_keep 19 = .ok (.aload_n 0, 1) := by decide +kernel
theorem dX2_keep_20 : decode cX2_keep 20 = .ok (.getfield 15, 3) := by decide +kernel
theorem dX2_keep_23 : decode cX2_keep 23 = .ok (.iload_n 1, 1) := by decide +kernel
theorem dX2_keep_24 : decode cX2_keep 24 = .ok (.iaload, 1) := by decide +kernel
theorem dX2_keep_25 : decode cX2_keep 25 = .ok (.iadd, 1) := by decide +kernel
theorem dX2_keep_26 : decode cX2_keep 26 = .ok (.putfield 43, 3) := by decide +kernel
theorem dX2_keep_29 : decode cX2_keep 29 = .ok (.aload_n 0, 1) := by decide +kernel
theorem dX2_keep_30 : decode cX2_keep 30 = .ok (.getfield 40, 3) := by decide +kernel
theorem dX2_keep_33 : decode cX2_keep 33 = .ok (.bipush 100, 2) := by decide +kernel
theorem dX2_keep_35 : decode cX2_keep 35 = .ok (.if_icmp .ge 23, 3) := by decide +kernel
theorem dX2_keep_38 : decode cX2_keep 38 = .ok (.aload_n 0, 1) := by decide +kernel
theorem dX2_keep_39 : decode cX2_keep 39 = .ok (.getfield 30, 3) := by decide +kernel
theorem dX2_keep_42 : decode cX2_keep 42 = .ok (.aload_n 0, 1) := by decide +kernel
theorem dX2_keep_43 : decode cX2_keep 43 = .ok (.getfield 40, 3) := by decide +kernel
theorem dX2_keep_46 : decode cX2_keep 46 = .ok (.iload_n 1, 1) := by decide +kernel
theorem dX2_keep_47 : decode cX2_keep 47 = .ok (.iastore, 1) := by decide +kernel
theorem dX2_keep_48 : decode cX2_keep 48 = .ok (.aload_n 0, 1) := by decide +kernel
theorem dX2_keep_49 : decode cX2_keep 49 = .ok (.dup, 1) := by decide +kernel
theorem dX2_keep_50 : decode cX2_keep 50 = .ok (.getfield 40, 3) := by decide +kernel
theorem dX2_keep_53 : decode cX2_keep 53 = .ok (.iconst 1, 1) := by decide +kernel
theorem dX2_keep_54 : decode cX2_keep 54 = .ok (.iadd, 1) := by decide +kernel
theorem dX2_keep_55 : decode cX2_keep 55 = .ok (.putfield 40, 3) := by decide +kernel
theorem dX2_keep_58 : decode cX2_keep 58 = .ok (.aload_n 0, 1) := by decide +kernel
theorem dX2_keep_59 : decode cX2_keep 59 = .ok (.getfield 43, 3) := by decide +kernel
theorem dX2_keep_62 : decode cX2_keep 62 = .ok (.sipush 512, 3) := by decide +kernel
theorem dX2_keep_65 : decode cX2_keep 65 = .ok (.if_icmp .le 65, 3) := by decide +kernel
theorem dX2_keep_68 : decode cX2_keep 68 = .ok (.aload_n 0, 1) := by decide +kernel
theorem dX2_keep_69 : decode cX2_keep 69 = .ok (.getfield 37, 3) := by decide +kernel
theorem dX2_keep_72 : decode cX2_keep 72 = .ok (.aload_n 0, 1) := by decide +kernel
theorem dX2_keep_73 : decode cX2_keep 73 = .ok (.getfield 40, 3) := by decide +kernel
theorem dX2_keep_76 : decode cX2_keep 76 = .ok (.if_icmp .ge 54, 3) := by decide +kernel
theorem dX2_keep_79 : decode cX2_keep 79 = .ok (.aload_n 0, 1) := by decide +kernel
theorem dX2_keep_80 : decode cX2_keep 80 = .ok (.getfield 30, 3) := by decide +kernel
theorem dX2_keep_83 : decode cX2_keep 83 = .ok (.aload_n 0, 1) := by decide +kernel
theorem dX2_keep_84 : decode cX2_keep 84 = .ok (.getfield 37, 3) := by decide +kernel
theorem dX2_keep_87 : decode cX2_keep 87 = .ok (.iaload, 1) := by decide +kernel
theorem dX2_keep_88 : decode cX2_keep 88 = .ok (.istore_n 3, 1) := by decide +kernel
theorem dX2_keep_89 : decode cX2_keep 89 = .ok (.aload_n 0, 1) := by decide +kernel
theorem dX2_keep_90 : decode cX2_keep 90 = .ok (.dup, 1) := by decide +kernel
theorem dX2_keep_91 : decode cX2_keep 91 = .ok (.getfield 37, 3) := by decide +kernel
theorem dX2_keep_94 : decode cX2_keep 94 = .ok (.iconst 1, 1) := by decide +kernel
theorem dX2_keep_95 : decode cX2_keep 95 = .ok (.iadd, 1) := by decide +kernel
theorem dX2_keep_96 : decode cX2_keep 96 = .ok (.putfield 37, 3) := by decide +kernel
theorem dX2_keep_99 : decode cX2_keep 99 = .ok (.aload_n 0, 1) := by decide +kernel
theorem dX2_keep_100 : decode cX2_keep 100 = .ok (.getfield 18, 3) := by decide +kernel
theorem dX2_keep_103 : decode cX2_keep 103 = .ok (.iload_n 3, 1) := by decide +kernel
theorem dX2_keep_104 : decode cX2_keep 104 = .ok (.iconst 0, 1) := by decide +kernel
theorem dX2_keep_105 : decode cX2_keep 105 = .ok (.iastore, 1) := by decide +kernel
theorem dX2_keep_106 : decode cX2_keep 106 = .ok (.aload_n 0, 1) := by decide +kernel
theorem dX2_keep_107 : decode cX2_keep 107 = .ok (.dup, 1) := by decide +kernel
theorem dX2_keep_108 : decode cX2_keep 108 = .ok (.getfield 43, 3) := by decide +kernel
theorem dX2_keep_111 : decode cX2_keep 111 = .ok (.aload_n 0, 1) := by decide +kernel
theorem dX2_keep_112 : decode cX2_keep 112 = .ok (.getfield 15, 3) := by decide +kernel
theorem dX2_keep_115 : decode cX2_keep 115 = .ok (.iload_n 3, 1) := by decide +kernel
theorem dX2_keep_116 : decode cX2_keep 116 = .ok (.iaload, 1) := by decide +kernel
theorem dX2_keep_117 : decode cX2_keep 117 = .ok (.isub, 1) := by decide +kernel
theorem dX2_keep_118 : decode cX2_keep 118 = .ok (.putfield 43, 3) := by decide +kernel
theorem dX2_keep_121 : decode cX2_keep 121 = .ok (.aload_n 0, 1) := by decide +kernel
theorem dX2_keep_122 : decode cX2_keep 122 = .ok (.iload_n 3, 1) := by decide +kernel
theorem dX2_keep_123 : decode cX2_keep 123 = .ok (.iconst 0, 1) := by decide +kernel
theorem dX2_keep_124 : decode cX2_keep 124 = .ok (.invokevirtual 55, 3) := by decide +kernel
theorem dX2_keep_127 : decode cX2_keep 127 = .ok (.goto (-69), 3) := by decide +kernel
theorem dX2_keep_130 : decode cX2_keep 130 = .ok (.return_, 1) := by decide +kernel
theorem dX2_isInUse_0 : decode cX2_isInUse 0 = .ok (.iload_n 1, 1) := by decide +kernel
theorem dX2_isInUse_1 : decode cX2_isInUse 1 = .ok (.iconst 1, 1) := by decide +kernel
theorem dX2_isInUse_2 : decode cX2_isInUse 2 = .ok (.if_icmp .lt 25, 3) := by decide +kernel
theorem dX2_isInUse_5 : decode cX2_isInUse 5 = .ok (.iload_n 1, 1) := by decide +kernel
theorem dX2_isInUse_6 : decode cX2_isInUse 6 = .ok (.aload_n 0, 1) := by decide +kernel
theorem dX2_isInUse_7 : decode cX2_isInUse 7 = .ok (.getfield 33, 3) := by decide +kernel
theorem dX2_isInUse_10 : decode cX2_isInUse 10 = .ok (.if_icmp .gt 17, 3) := by decide +kernel
theorem dX2_isInUse_13 : decode cX2_isInUse 13 = .ok (.aload_n 0, 1) := by decide +kernel
theorem dX2_isInUse_14 : decode cX2_isInUse 14 = .ok (.getfield 18, 3) := by decide +kernel
theorem dX2_isInUse_17 : decode cX2_isInUse 17 = .ok (.iload_n 1, 1) := by decide +kernel
theorem dX2_isInUse_18 : decode cX2_isInUse 18 = .ok (.iaload, 1) := by decide +kernel
theorem dX2_isInUse_19 : decode cX2_isInUse 19 = .ok (.iconst 2, 1) := by decide +kernel
theorem dX2_isInUse_20 : decode cX2_isInUse 20 = .ok (.if_icmp .ne 7, 3) := by decide +kernel
theorem dX2_isInUse_23 : decode cX2_isInUse 23 = .ok (.iconst 1, 1) := by decide +kernel
theorem dX2_isInUse_24 : decode cX2_isInUse 24 = .ok (.goto 4, 3) := by decide +kernel
theorem dX2_isInUse_27 : decode cX2_isInUse 27 = .ok (.iconst 0, 1) := by decide +kernel
theorem dX2_isInUse_28 : decode cX2_isInUse 28 = .ok (.ireturn, 1) := by decide +kernel
theorem dX2_tell_0 : decode cX2_tell 0 = .ok (.iload_n 1, 1) := by decide +kernel
theorem dX2_tell_1 : decode cX2_tell 1 = .ok (.iconst 1, 1) := by decide +kernel
theorem dX2_tell_2 : decode cX2_tell 2 = .ok (.if_icmp .lt 11, 3) := by decide +kernel
theorem dX2_tell_5 : decode cX2_tell 5 = .ok (.iload_n 1, 1) := by decide +kernel
theorem dX2_tell_6 : decode cX2_tell 6 = .ok (.aload_n 0, 1) := by decide +kernel
theorem dX2_tell_7 : decode cX2_tell 7 = .ok (.getfield 33, 3) := by decide +kernel
theorem dX2_tell_10 : decode cX2_tell 10 = .ok (.if_icmp .le 5, 3) := by decide +kernel
theorem dX2_tell_13 : decode cX2_tell 13 = .ok (.iconst (-1), 1) := by decide +kernel
theorem dX2_tell_14 : decode cX2_tell 14 = .ok (.ireturn, 1) := by decide +kernel
theorem dX2_tell_15 : decode cX2_tell 15 = .ok (.iload_n 2, 1) := by decide +kernel
theorem dX2_tell_16 : decode cX2_tell 16 = .ok (.tableswitch 71 0 4 #[36, 43, 50, 57, 64], 36) := by decide +kernel
theorem dX2_tell_52 : decode cX2_tell 52 = .ok (.aload_n 0, 1) := by decide +kernel
theorem dX2_tell_53 : decode cX2_tell 53 = .ok (.getfield 11, 3) := by decide +kernel
theorem dX2_tell_56 : decode cX2_tell 56 = .ok (.iload_n 1, 1) := by decide +kernel
theorem dX2_tell_57 : decode cX2_tell 57 = .ok (.iaload, 1) := by decide +kernel
theorem dX2_tell_58 : decode cX2_tell 58 = .ok (.ireturn, 1) := by decide +kernel
theorem dX2_tell_59 : decode cX2_tell 59 = .ok (.aload_n 0, 1) := by decide +kernel
theorem dX2_tell_60 : decode cX2_tell 60 = .ok (.getfield 15, 3) := by decide +kernel
theorem dX2_tell_63 : decode cX2_tell 63 = .ok (.iload_n 1, 1) := by decide +kernel
theorem dX2_tell_64 : decode cX2_tell 64 = .ok (.iaload, 1) := by decide +kernel
theorem dX2_tell_65 : decode cX2_tell 65 = .ok (.ireturn, 1) := by decide +kernel
theorem dX2_tell_66 : decode cX2_tell 66 = .ok (.aload_n 0, 1) := by decide +kernel
theorem dX2_tell_67 : decode cX2_tell 67 = .ok (.getfield 18, 3) := by decide +kernel
theorem dX2_tell_70 : decode cX2_tell 70 = .ok (.iload_n 1, 1) := by decide +kernel
theorem dX2_tell_71 : decode cX2_tell 71 = .ok (.iaload, 1) := by decide +kernel
theorem dX2_tell_72 : decode cX2_tell 72 = .ok (.ireturn, 1) := by decide +kernel
theorem dX2_tell_73 : decode cX2_tell 73 = .ok (.aload_n 0, 1) := by decide +kernel
theorem dX2_tell_74 : decode cX2_tell 74 = .ok (.getfield 21, 3) := by decide +kernel
theorem dX2_tell_77 : decode cX2_tell 77 = .ok (.iload_n 1, 1) := by decide +kernel
theorem dX2_tell_78 : decode cX2_tell 78 = .ok (.iaload, 1) := by decide +kernel
theorem dX2_tell_79 : decode cX2_tell 79 = .ok (.ireturn, 1) := by decide +kernel
theorem dX2_tell_80 : decode cX2_tell 80 = .ok (.aload_n 0, 1) := by decide +kernel
theorem dX2_tell_81 : decode cX2_tell 81 = .ok (.getfield 24, 3) := by decide +kernel
theorem dX2_tell_84 : decode cX2_tell 84 = .ok (.iload_n 1, 1) := by decide +kernel
theorem dX2_tell_85 : decode cX2_tell 85 = .ok (.iaload, 1) := by decide +kernel
theorem dX2_tell_86 : decode cX2_tell 86 = .ok (.ireturn, 1) := by decide +kernel
theorem dX2_tell_87 : decode cX2_tell 87 = .ok (.iconst (-1), 1) := by decide +kernel
theorem dX2_tell_88 : decode cX2_tell 88 = .ok (.ireturn, 1) := by decide +kernel
theorem dX3_init_0 : decode cX3_init 0 = .ok (.aload_n 0, 1) := by decide +kernel
theorem dX3_init_1 : decode cX3_init 1 = .ok (.invokespecial 1, 3) := by decide +kernel
theorem dX3_init_4 : decode cX3_init 4 = .ok (.aload_n 0, 1) := by decide +kernel
theorem dX3_init_5 : decode cX3_init 5 = .ok (.bipush 101, 2) := by decide +kernel
theorem dX3_init_7 : decode cX3_init 7 = .ok (.newarray .int, 2) := by decide +kernel
theorem dX3_init_9 : decode cX3_init 9 = .ok (.putfield 9, 3) := by decide +kernel
theorem dX3_init_12 : decode cX3_init 12 = .ok (.aload_n 0, 1) := by decide +kernel
theorem dX3_init_13 : decode cX3_init 13 = .ok (.bipush 100, 2) := by decide +kernel
theorem dX3_init_15 : decode cX3_init 15 = .ok (.newarray .int, 2) := by decide +kernel
theorem dX3_init_17 : decode cX3_init 17 = .ok (.putfield 15, 3) := by decide +kernel
theorem dX3_init_20 : decode cX3_init 20 = .ok (.return_, 1) := by decide +kernel
theorem dX3_verdict_0 : decode cX3_verdict 0 = .ok (.aload_n 0, 1) := by decide +kernel
theorem dX3_verdict_1 : decode cX3_verdict 1 = .ok (.iconst 0, 1) := by decide +kernel
theorem dX3_verdict_2 : decode cX3_verdict 2 = .ok (.putfield 18, 3) := by decide +kernel
theorem dX3_verdict_5 : decode cX3_verdict 5 = .ok (.iconst 0, 1) := by decide +kernel
theorem dX3_verdict_6 : decode cX3_verdict 6 = .ok (.istore 5, 2) := by decide +kernel
theorem dX3_verdict_8 : decode cX3_verdict 8 = .ok (.iload 5, 2) := by decide +kernel
theorem dX3_verdict_10 : decode cX3_verdict 10 = .ok (.aload_n 0, 1) := by decide +kernel
theorem dX3_verdict_11 : decode cX3_verdict 11 = .ok (.getfield 9, 3) := by decide +kernel
theorem dX3_verdict_14 : decode cX3_verdict 14 = .ok (.arraylength, 1) := by decide +kernel
theorem dX3_verdict_15 : decode cX3_verdict 15 = .ok (.if_icmp .ge 17, 3) := by decide +kernel
theorem dX3_verdict_18 : decode cX3_verdict 18 = .ok (.aload_n 0, 1) := by decide +kernel
theorem dX3_verdict_19 : decode cX3_verdict 19 = .ok (.getfield 9, 3) := by decide +kernel
theorem dX3_verdict_22 : decode cX3_verdict 22 = .ok (.iload 5, 2) := by decide +kernel
theorem dX3_verdict_24 : decode cX3_verdict 24 = .ok (.iconst 0, 1) := by decide +kernel
theorem dX3_verdict_25 : decode cX3_verdict 25 = .ok (.iastore, 1) := by decide +kernel
theorem dX3_verdict_26 : decode cX3_verdict 26 = .ok (.iinc 5 1, 3) := by decide +kernel
theorem dX3_verdict_29 : decode cX3_verdict 29 = .ok (.goto (-21), 3) := by decide +kernel
theorem dX3_verdict_32 : decode cX3_verdict 32 = .ok (.aload_n 0, 1) := by decide +kernel
theorem dX3_verdict_33 : decode cX3_verdict 33 = .ok (.iconst 3, 1) := by decide +kernel
theorem dX3_verdict_34 : decode cX3_verdict 34 = .ok (.aload_n 2, 1) := by decide +kernel
theorem dX3_verdict_35 : decode cX3_verdict 35 = .ok (.aload_n 3, 1) := by decide +kernel
theorem dX3_verdict_36 : decode cX3_verdict 36 = .ok (.aload 4, 2) := by decide +kernel
theorem dX3_verdict_38 : decode cX3_verdict 38 = .ok (.invokevirtual 22, 3) := by decide +kernel
theorem dX3_verdict_41 : decode cX3_verdict 41 = .ok (.aload_n 0, 1) := by decide +kernel
theorem dX3_verdict_42 : decode cX3_verdict 42 = .ok (.iconst 2, 1) := by decide +kernel
theorem dX3_verdict_43 : decode cX3_verdict 43 = .ok (.aload_n 2, 1) := by decide +kernel
theorem dX3_verdict_44 : decode cX3_verdict 44 = .ok (.aload_n 3, 1) := by decide +kernel
theorem dX3_verdict_45 : decode cX3_verdict 45 = .ok (.aload 4, 2) := by decide +kernel
theorem dX3_verdict_47 : decode cX3_verdict 47 = .ok (.invokevirtual 22, 3) := by decide +kernel
theorem dX3_verdict_50 : decode cX3_verdict 50 = .ok (.iconst 1, 1) := by decide +kernel
theorem dX3_verdict_51 : decode cX3_verdict 51 = .ok (.istore 5, 2) := by decide +kernel
theorem dX3_verdict_53 : decode cX3_verdict 53 = .ok (.iload 5, 2) := by decide +kernel
theorem dX3_verdict_55 : decode cX3_verdict 55 = .ok (.aload_n 2, 1) := by decide +kernel
theorem dX3_verdict_56 : decode cX3_verdict 56 = .ok (.getfield 26, 3) := by decide +kernel
theorem dX3_verdict_59 : decode cX3_verdict 59 = .ok (.if_icmp .gt 52, 3) := by decide +kernel
theorem dX3_verdict_62 : decode cX3_verdict 62 = .ok (.aload_n 2, 1) := by decide +kernel
theorem dX3_verdict_63 : decode cX3_verdict 63 = .ok (.iload 5, 2) := by decide +kernel
theorem dX3_verdict_65 : decode cX3_verdict 65 = .ok (.invokevirtual 29, 3) := by decide +kernel
theorem dX3_verdict_68 : decode cX3_verdict 68 = .ok (.ifCond .eq 37, 3) := by decide +kernel
theorem dX3_verdict_71 : decode cX3_verdict 71 = .ok (.aload_n 0, 1) := by decide +kernel
theorem dX3_verdict_72 : decode cX3_verdict 72 = .ok (.getfield 9, 3) := by decide +kernel
theorem dX3_verdict_75 : decode cX3_verdict 75 = .ok (.iload 5, 2) := by decide +kernel
theorem dX3_verdict_77 : decode cX3_verdict 77 = .ok (.iaload, 1) := by decide +kernel
theorem dX3_verdict_78 : decode cX3_verdict 78 = .ok (.iconst 1, 1) := by decide +kernel
theorem dX3_verdict_79 : decode cX3_verdict 79 = .ok (.if_icmp .gt 26, 3) := by decide +kernel
theorem dX3_verdict_82 : decode cX3_verdict 82 = .ok (.aload_n 0, 1) := by decide +kernel
theorem dX3_verdict_83 : decode cX3_verdict 83 = .ok (.aload_n 2, 1) := by decide +kernel
theorem dX3_verdict_84 : decode cX3_verdict 84 = .ok (.getfield 33, 3) := by decide +kernel
theorem dX3_verdict_87 : decode cX3_verdict 87 = .ok (.iload 5, 2) := by decide +kernel
theorem dX3_verdict_89 : decode cX3_verdict 89 = .ok (.iaload, 1) := by decide +kernel
theorem dX3_verdict_90 : decode cX3_verdict 90 = .ok (.aload_n 2, 1) := by decide +kernel
theorem dX3_verdict_91 : decode cX3_verdict 91 = .ok (.getfield 36, 3) := by decide +kernel
theorem dX3_verdict_94 : decode cX3_verdict 94 = .ok (.iload 5, 2) := by decide +kernel
theorem dX3_verdict_96 : decode cX3_verdict 96 = .ok (.iaload, 1) := by decide +kernel
theorem dX3_verdict_97 : decode cX3_verdict 97 = .ok (.iload 5, 2) := by decide +kernel
theorem dX3_verdict_99 : decode cX3_verdict 99 = .ok (.iconst 1, 1) := by decide +kernel
theorem dX3_verdict_100 : decode cX3_verdict 100 = .ok (.aload_n 2, 1) := by decide +kernel
theorem dX3_verdict_101 : decode cX3_verdict 101 = .ok (.aload_n 3, 1) := by decide +kernel
theorem dX3_verdict_102 : decode cX3_verdict 102 = .ok (.invokevirtual 39, 3) := by decide +kernel
theorem dX3_verdict_105 : decode cX3_verdict 105 = .ok (.iinc 5 1, 3) := by decide +kernel
theorem dX3_verdict_108 : decode cX3_verdict 108 = .ok (.goto (-55), 3) := by decide +kernel
theorem dX3_verdict_111 : decode cX3_verdict 111 = .ok (.aload_n 0, 1) := by decide +kernel
theorem dX3_verdict_112 : decode cX3_verdict 112 = .ok (.getfield 9, 3) := by decide +kernel
theorem dX3_verdict_115 : decode cX3_verdict 115 = .ok (.iload_n 1, 1) := by decide +kernel
theorem dX3_verdict_116 : decode cX3_verdict 116 = .ok (.iaload, 1) := by decide +kernel
theorem dX3_verdict_117 : decode cX3_verdict 117 = .ok (.ireturn, 1) := by decide +kernel
theorem dX3_spread_0 : decode cX3_spread 0 = .ok (.iconst 0, 1) := by decide +kernel
theorem dX3_spread_1 : decode cX3_spread 1 = .ok (.istore 5, 2) := by decide +kernel
theorem dX3_spread_3 : decode cX3_spread 3 = .ok (.iload 5, 2) := by decide +kernel
theorem dX3_spread_5 : decode cX3_spread 5 = .ok (.aload 4, 2) := by decide +kernel
theorem dX3_spread_7 : decode cX3_spread 7 = .ok (.arraylength, 1) := by decide +kernel
theorem dX3_spread_8 : decode cX3_spread 8 = .ok (.if_icmp .ge 35, 3) := by decide +kernel
theorem dX3_spread_11 : decode cX3_spread 11 = .ok (.aload 4, 2) := by decide +kernel
theorem dX3_spread_13 : decode cX3_spread 13 = .ok (.iload 5, 2) := by decide +kernel
theorem dX3_spread_15 : decode cX3_spread 15 = .ok (.aaload, 1) := by decide +kernel
theorem dX3_spread_16 : decode cX3_spread 16 = .ok (.getfield 43, 3) := by decide +kernel
theorem dX3_spread_19 : decode cX3_spread 19 = .ok (.ifCond .ne 18, 3) := by decide +kernel
theorem dX3_spread_22 : decode cX3_spread 22 = .ok (.aload_n 0, 1) := by decide +kernel
theorem dX3_spread_23 : decode cX3_spread 23 = .ok (.aload 4, 2) := by decide +kernel
theorem dX3_spread_25 : decode cX3_spread 25 = .ok (.iload 5, 2) := by decide +kernel
theorem dX3_spread_27 : decode cX3_spread 27 = .ok (.aaload, 1) := by decide +kernel
theorem dX3_spread_28 : decode cX3_spread 28 = .ok (.getfield 48, 3) := by decide +kernel
theorem dX3_spread_31 : decode cX3_spread 31 = .ok (.iconst 0, 1) := by decide +kernel
theorem dX3_spread_32 : decode cX3_spread 32 = .ok (.iload_n 1, 1) := by decide +kernel
theorem dX3_spread_33 : decode cX3_spread 33 = .ok (.aload_n 2, 1) := by decide +kernel
theorem dX3_spread_34 : decode cX3_spread 34 = .ok (.invokevirtual 51, 3) := by decide +kernel
theorem dX3_spread_37 : decode cX3_spread 37 = .ok (.iinc 5 1, 3) := by decide +kernel
theorem dX3_spread_40 : decode cX3_spread 40 = .ok (.goto (-37), 3) := by decide +kernel
theorem dX3_spread_43 : decode cX3_spread 43 = .ok (.aload_n 0, 1) := by decide +kernel
theorem dX3_spread_44 : decode cX3_spread 44 = .ok (.sipush 256, 3) := by decide +kernel
theorem dX3_spread_47 : decode cX3_spread 47 = .ok (.sipush 256, 3) := by decide +kernel
theorem dX3_spread_50 : decode cX3_spread 50 = .ok (.iconst 0, 1) := by decide +kernel
theorem dX3_spread_51 : decode cX3_spread 51 = .ok (.iload_n 1, 1) := by decide +kernel
theorem dX3_spread_52 : decode cX3_spread 52 = .ok (.aload_n 2, 1) := by decide +kernel
theorem dX3_spread_53 : decode cX3_spread 53 = .ok (.aload_n 3, 1) := by decide +kernel
theorem dX3_spread_54 : decode cX3_spread 54 = .ok (.invokevirtual 39, 3) := by decide +kernel
theorem dX3_spread_57 : decode cX3_spread 57 = .ok (.aload_n 0, 1) := by decide +kernel
theorem dX3_spread_58 : decode cX3_spread 58 = .ok (.sipush 3072, 3) := by decide +kernel
theorem dX3_spread_61 : decode cX3_spread 61 = .ok (.sipush 1024, 3) := by decide +kernel
theorem dX3_spread_64 : decode cX3_spread 64 = .ok (.iconst 0, 1) := by decide +kernel
theorem dX3_spread_65 : decode cX3_spread 65 = .ok (.iload_n 1, 1) := by decide +kernel
theorem dX3_spread_66 : decode cX3_spread 66 = .ok (.aload_n 2, 1) := by decide +kernel
theorem dX3_spread_67 : decode cX3_spread 67 = .ok (.aload_n 3, 1) := by decide +kernel
theorem dX3_spread_68 : decode cX3_spread 68 = .ok (.invokevirtual 39, 3) := by decide +kernel
theorem dX3_spread_71 : decode cX3_spread 71 = .ok (.iconst 0, 1) := by decide +kernel
theorem dX3_spread_72 : decode cX3_spread 72 = .ok (.istore 5, 2) := by decide +kernel
theorem dX3_spread_74 : decode cX3_spread 74 = .ok (.iload 5, 2) := by decide +kernel
theorem dX3_spread_76 : decode cX3_spread 76 = .ok (.aload_n 0, 1) := by decide +kernel
theorem dX3_spread_77 : decode cX3_spread 77 = .ok (.getfield 18, 3) := by decide +kernel
theorem dX3_spread_80 : decode cX3_spread 80 = .ok (.if_icmp .ge 51, 3) := by decide +kernel
theorem dX3_spread_83 : decode cX3_spread 83 = .ok (.iload 5, 2) := by decide +kernel
theorem dX3_spread_85 : decode cX3_spread 85 = .ok (.aload_n 0, 1) := by decide +kernel
theorem dX3_spread_86 : decode cX3_spread 86 = .ok (.getfield 15, 3) := by decide +kernel
theorem dX3_spread_89 : decode cX3_spread 89 = .ok (.arraylength, 1) := by decide +kernel
theorem dX3_spread_90 : decode cX3_spread 90 = .ok (.if_icmp .ge 41, 3) := by decide +kernel
theorem dX3_spread_93 : decode cX3_spread 93 = .ok (.aload_n 0, 1) := by decide +kernel
theorem dX3_spread_94 : decode cX3_spread 94 = .ok (.getfield 15, 3) := by decide +kernel
theorem dX3_spread_97 : decode cX3_spread 97 = .ok (.iload 5, 2) := by decide +kernel
theorem dX3_spread_99 : decode cX3_spread 99 = .ok (.iaload, 1) := by decide +kernel
theorem dX3_spread_100 : decode cX3_spread 100 = .ok (.istore 6, 2) := by decide +kernel
theorem dX3_spread_102 : decode cX3_spread 102 = .ok (.aload_n 0, 1) := by decide +kernel
theorem dX3_spread_103 : decode cX3_spread 103 = .ok (.aload_n 2, 1) := by decide +kernel
theorem dX3_spread_104 : decode cX3_spread 104 = .ok (.getfield 33, 3) := by decide +kernel
theorem dX3_spread_107 : decode cX3_spread 107 = .ok (.iload 6, 2) := by decide +kernel
theorem dX3_spread_109 : decode cX3_spread 109 = .ok (.iaload, 1) := by decide +kernel
theorem dX3_spread_110 : decode cX3_spread 110 = .ok (.aload_n 2, 1) := by decide +kernel
theorem dX3_spread_111 : decode cX3_spread 111 = .ok (.getfield 36, 3) := by decide +kernel
theorem dX3_spread_114 : decode cX3_spread 114 = .ok (.iload 6, 2) := by decide +kernel
theorem dX3_spread_116 : decode cX3_spread 116 = .ok (.iaload, 1) := by decide +kernel
theorem dX3_spread_117 : decode cX3_spread 117 = .ok (.iload 6, 2) := by decide +kernel
theorem dX3_spread_119 : decode cX3_spread 119 = .ok (.iload_n 1, 1) := by decide +kernel
theorem dX3_spread_120 : decode cX3_spread 120 = .ok (.aload_n 2, 1) := by decide +kernel
theorem dX3_spread_121 : decode cX3_spread 121 = .ok (.aload_n 3, 1) := by decide +kernel
theorem dX3_spread_122 : decode cX3_spread 122 = .ok (.invokevirtual 39, 3) := by decide +kernel
theorem dX3_spread_125 : decode cX3_spread 125 = .ok (.iinc 5 1, 3) := by decide +kernel
theorem dX3_spread_128 : decode cX3_spread 128 = .ok (.goto (-54), 3) := by decide +kernel
theorem dX3_spread_131 : decode cX3_spread 131 = .ok (.return_, 1) := by decide +kernel
theorem dX3_followWords_0 : decode cX3_followWords 0 = .ok (.iconst 0, 1) := by decide +kernel
theorem dX3_followWords_1 : decode cX3_followWords 1 = .ok (.istore 7, 2) := by decide +kernel
theorem dX3_followWords_3 : decode cX3_followWords 3 = .ok (.iload 7, 2) := by decide +kernel
theorem dX3_followWords_5 : decode cX3_followWords 5 = .ok (.iconst 4, 1) := by decide +kernel
theorem dX3_followWords_6 : decode cX3_followWords 6 = .ok (.iadd, 1) := by decide +kernel
theorem dX3_followWords_7 : decode cX3_followWords 7 = .ok (.iload_n 2, 1) := by decide +kernel
theorem dX3_followWords_8 : decode cX3_followWords 8 = .ok (.if_icmp .gt 39, 3) := by decide +kernel
theorem dX3_followWords_11 : decode cX3_followWords 11 = .ok (.aload 6, 2) := by decide +kernel
theorem dX3_followWords_13 : decode cX3_followWords 13 = .ok (.iload_n 1, 1) := by decide +kernel
theorem dX3_followWords_14 : decode cX3_followWords 14 = .ok (.iload 7, 2) := by decide +kernel
theorem dX3_followWords_16 : decode cX3_followWords 16 = .ok (.iadd, 1) := by decide +kernel
theorem dX3_followWords_17 : decode cX3_followWords 17 = .ok (.invokevirtual 57, 3) := by decide +kernel
theorem dX3_followWords_20 : decode cX3_followWords 20 = .ok (.ifCond .eq 21, 3) := by decide +kernel
theorem dX3_followWords_23 : decode cX3_followWords 23 = .ok (.aload_n 0, 1) := by decide +kernel
theorem dX3_followWords_24 : decode cX3_followWords 24 = .ok (.aload 6, 2) := by decide +kernel
theorem dX3_followWords_26 : decode cX3_followWords 26 = .ok (.iload_n 1, 1) := by decide +kernel
theorem dX3_followWords_27 : decode cX3_followWords 27 = .ok (.iload 7, 2) := by decide +kernel
theorem dX3_followWords_29 : decode cX3_followWords 29 = .ok (.iadd, 1) := by decide +kernel
theorem dX3_followWords_30 : decode cX3_followWords 30 = .ok (.invokevirtual 60, 3) := by decide +kernel
theorem dX3_followWords_33 : decode cX3_followWords 33 = .ok (.iload_n 3, 1) := by decide +kernel
theorem dX3_followWords_34 : decode cX3_followWords 34 = .ok (.iload 4, 2) := by decide +kernel
theorem dX3_followWords_36 : decode cX3_followWords 36 = .ok (.aload 5, 2) := by decide +kernel
theorem dX3_followWords_38 : decode cX3_followWords 38 = .ok (.invokevirtual 51, 3) := by decide +kernel
theorem dX3_followWords_41 : decode cX3_followWords 41 = .ok (.iinc 7 4, 3) := by decide +kernel
theorem dX3_followWords_44 : decode cX3_followWords 44 = .ok (.goto (-41), 3) := by decide +kernel
theorem dX3_followWords_47 : decode cX3_followWords 47 = .ok (.return_, 1) := by decide +kernel
theorem dX3_follow_0 : decode cX3_follow 0 = .ok (.aload 4, 2) := by decide +kernel
theorem dX3_follow_2 : decode cX3_follow 2 = .ok (.iload_n 1, 1) := by decide +kernel
theorem dX3_follow_3 : decode cX3_follow 3 = .ok (.invokevirtual 64, 3) := by decide +kernel
theorem dX3_follow_6 : decode cX3_follow 6 = .ok (.istore 5, 2) := by decide +kernel
theorem dX3_follow_8 : decode cX3_follow 8 = .ok (.iload 5, 2) := by decide +kernel
theorem dX3_follow_10 : decode cX3_follow 10 = .ok (.ifCond .eq 19, 3) := by decide +kernel
theorem dX3_follow_13 : decode cX3_follow 13 = .ok (.iload 5, 2) := by decide +kernel
theorem dX3_follow_15 : decode cX3_follow 15 = .ok (.iload_n 2, 1) := by decide +kernel
theorem dX3_follow_16 : decode cX3_follow 16 = .ok (.if_icmp .eq 13, 3) := by decide +kernel
theorem dX3_follow_19 : decode cX3_follow 19 = .ok (.aload_n 0, 1) := by decide +kernel
theorem dX3_follow_20 : decode cX3_follow 20 = .ok (.getfield 9, 3) := by decide +kernel
theorem dX3_follow_23 : decode cX3_follow 23 = .ok (.iload 5, 2) := by decide +kernel
theorem dX3_follow_25 : decode cX3_follow 25 = .ok (.iaload, 1) := by decide +kernel
theorem dX3_follow_26 : decode cX3_follow 26 = .ok (.ifCond .eq 4, 3) := by decide +kernel
theorem dX3_follow_29 : decode cX3_follow 29 = .ok (.return_, 1) := by decide +kernel
theorem dX3_follow_30 : decode cX3_follow 30 = .ok (.iload_n 3, 1) := by decide +kernel
theorem dX3_follow_31 : decode cX3_follow 31 = .ok (.iconst 2, 1) := by decide +kernel
theorem dX3_follow_32 : decode cX3_follow 32 = .ok (.if_icmp .eq 16, 3) := by decide +kernel
theorem dX3_follow_35 : decode cX3_follow 35 = .ok (.aload 4, 2) := by decide +kernel
theorem dX3_follow_37 : decode cX3_follow 37 = .ok (.getfield 33, 3) := by decide +kernel
theorem dX3_follow_40 : decode cX3_follow 40 = .ok (.iload 5, 2) := by decide +kernel
theorem dX3_follow_42 : decode cX3_follow 42 = .ok (.iaload, 1) := by decide +kernel
theorem dX3_follow_43 : decode cX3_follow 43 = .ok (.iload_n 1, 1) := by decide +kernel
theorem dX3_follow_44 : decode cX3_follow 44 = .ok (.if_icmp .eq 4, 3) := by decide +kernel
theorem dX3_follow_47 : decode cX3_follow 47 = .ok (.return_, 1) := by decide +kernel
theorem dX3_follow_48 : decode cX3_follow 48 = .ok (.aload_n 0, 1) := by decide +kernel
theorem dX3_follow_49 : decode cX3_follow 49 = .ok (.getfield 9, 3) := by decide +kernel
theorem dX3_follow_52 : decode cX3_follow 52 = .ok (.iload 5, 2) := by decide +kernel
theorem dX3_follow_54 : decode cX3_follow 54 = .ok (.iload_n 3, 1) := by decide +kernel
theorem dX3_follow_55 : decode cX3_follow 55 = .ok (.iastore, 1) := by decide +kernel
theorem dX3_follow_56 : decode cX3_follow 56 = .ok (.iload_n 3, 1) := by decide +kernel
theorem dX3_follow_57 : decode cX3_follow 57 = .ok (.iconst 1, 1) := by decide +kernel
theorem dX3_follow_58 : decode cX3_follow 58 = .ok (.if_icmp .eq 36, 3) := by decide +kernel
theorem dX3_follow_61 : decode cX3_follow 61 = .ok (.aload_n 0, 1) := by decide +kernel
theorem dX3_follow_62 : decode cX3_follow 62 = .ok (.getfield 18, 3) := by decide +kernel
theorem dX3_follow_65 : decode cX3_follow 65 = .ok (.aload_n 0, 1) := by decide +kernel
theorem dX3_follow_66 : decode cX3_follow 66 = .ok (.getfield 15, 3) := by decide +kernel
theorem dX3_follow_69 : decode cX3_follow 69 = .ok (.arraylength, 1) := by decide +kernel
theorem dX3_follow_70 : decode cX3_follow 70 = .ok (.if_icmp .ge 24, 3) := by decide +kernel
theorem dX3_follow_73 : decode cX3_follow 73 = .ok (.aload_n 0, 1) := by decide +kernel
theorem dX3_follow_74 : decode cX3_follow 74 = .ok (.getfield 15, 3) := by decide +kernel
theorem dX3_follow_77 : decode cX3_follow 77 = .ok (.aload_n 0, 1) := by decide +kernel
theorem dX3_follow_78 : decode cX3_follow 78 = .ok (.getfield 18, 3) := by decide +kernel
theorem dX3_follow_81 : decode cX3_follow 81 = .ok (.iload 5, 2) := by decide +kernel
theorem dX3_follow_83 : decode cX3_follow 83 = .ok (.iastore, 1) := by decide +kernel
theorem dX3_follow_84 : decode cX3_follow 84 = .ok (.aload_n 0, 1) := by decide +kernel
theorem dX3_follow_85 : decode cX3_follow 85 = .ok (.dup, 1) := by decide +kernel
theorem dX3_follow_86 : decode cX3_follow 86 = .ok (.getfield 18, 3) := by decide +kernel
theorem dX3_follow_89 : decode cX3_follow 89 = .ok (.iconst 1, 1) := by decide +kernel
theorem dX3_follow_90 : decode cX3_follow 90 = .ok (.iadd, 1) := by decide +kernel
theorem dX3_follow_91 : decode cX3_follow 91 = .ok (.putfield 18, 3) := by decide +kernel
theorem dX3_follow_94 : decode cX3_follow 94 = .ok (.return_, 1) := by decide +kernel
theorem dX4_init_0 : decode cX4_init 0 = .ok (.aload_n 0, 1) := by decide +kernel
theorem dX4_init_1 : decode cX4_init 1 = .ok (.invokespecial 3, 3) := by decide +kernel
theorem dX4_init_4 : decode cX4_init 4 = .ok (.aload_n 0, 1) := by decide +kernel
theorem dX4_init_5 : decode cX4_init 5 = .ok (.bipush 60, 2) := by decide +kernel
theorem dX4_init_7 : decode cX4_init 7 = .ok (.newarray .int, 2) := by decide +kernel
theorem dX4_init_9 : decode cX4_init 9 = .ok (.putfield 11, 3) := by decide +kernel
theorem dX4_init_12 : decode cX4_init 12 = .ok (.aload_n 0, 1) := by decide +kernel
theorem dX4_init_13 : decode cX4_init 13 = .ok (.bipush 60, 2) := by decide +kernel
theorem dX4_init_15 : decode cX4_init 15 = .ok (.newarray .int, 2) := by decide +kernel
theorem dX4_init_17 : decode cX4_init 17 = .ok (.putfield 15, 3) := by decide +kernel
theorem dX4_init_20 : decode cX4_init 20 = .ok (.aload_n 0, 1) := by decide +kernel
theorem dX4_init_21 : decode cX4_init 21 = .ok (.bipush 60, 2) := by decide +kernel
theorem dX4_init_23 : decode cX4_init 23 = .ok (.newarray .int, 2) := by decide +kernel
theorem dX4_init_25 : decode cX4_init 25 = .ok (.putfield 18, 3) := by decide +kernel
theorem dX4_init_28 : decode cX4_init 28 = .ok (.aload_n 0, 1) := by decide +kernel
theorem dX4_init_29 : decode cX4_init 29 = .ok (.bipush 60, 2) := by decide +kernel
theorem dX4_init_31 : decode cX4_init 31 = .ok (.newarray .int, 2) := by decide +kernel
theorem dX4_init_33 : decode cX4_init 33 = .ok (.putfield 21, 3) := by decide +kernel
theorem dX4_init_36 : decode cX4_init 36 = .ok (.aload_n 0, 1) := by decide +kernel
theorem dX4_init_37 : decode cX4_init 37 = .ok (.bipush 20, 2) := by decide +kernel
theorem dX4_init_39 : decode cX4_init 39 = .ok (.newarray .int, 2) := by decide +kernel
theorem dX4_init_41 : decode cX4_init 41 = .ok (.putfield 24, 3) := by decide +kernel
theorem dX4_init_44 : decode cX4_init 44 = .ok (.aload_n 0, 1) := by decide +kernel
theorem dX4_init_45 : decode cX4_init 45 = .ok (.bipush 20, 2) := by decide +kernel
theorem dX4_init_47 : decode cX4_init 47 = .ok (.newarray .int, 2) := by decide +kernel
theorem dX4_init_49 : decode cX4_init 49 = .ok (.putfield 27, 3) := by decide +kernel
theorem dX4_init_52 : decode cX4_init 52 = .ok (.aload_n 0, 1) := by decide +kernel
theorem dX4_init_53 : decode cX4_init 53 = .ok (.bipush 20, 2) := by decide +kernel
theorem dX4_init_55 : decode cX4_init 55 = .ok (.newarray .int, 2) := by decide +kernel
theorem dX4_init_57 : decode cX4_init 57 = .ok (.putfield 30, 3) := by decide +kernel
theorem dX4_init_60 : decode cX4_init 60 = .ok (.return_, 1) := by decide +kernel
theorem dX4_clear_0 : decode cX4_clear 0 = .ok (.aload_n 0, 1) := by decide +kernel
theorem dX4_clear_1 : decode cX4_clear 1 = .ok (.iconst 0, 1) := by decide +kernel
theorem dX4_clear_2 : decode cX4_clear 2 = .ok (.putfield 33, 3) := by decide +kernel
theorem dX4_clear_5 : decode cX4_clear 5 = .ok (.aload_n 0, 1) := by decide +kernel
theorem dX4_clear_6 : decode cX4_clear 6 = .ok (.iconst 0, 1) := by decide +kernel
theorem dX4_clear_7 : decode cX4_clear 7 = .ok (.putfield 37, 3) := by decide +kernel
theorem dX4_clear_10 : decode cX4_clear 10 = .ok (.aload_n 0, 1) := by decide +kernel
theorem dX4_clear_11 : decode cX4_clear 11 = .ok (.iconst 0, 1) := by decide +kernel
theorem dX4_clear_12 : decode cX4_clear 12 = .ok (.putfield 40, 3) := by decide +kernel
theorem dX4_clear_15 : decode cX4_clear 15 = .ok (.return_, 1) := by decide +kernel
theorem dX4_dropSuppressions_0 : decode cX4_dropSuppressions 0 = .ok (.aload_n 0, 1) := by decide +kernel
theorem dX4_dropSuppressions_1 : decode cX4_dropSuppressions 1 = .ok (.iconst 0, 1) := by decide +kernel
theorem dX4_dropSuppressions_2 : decode cX4_dropSuppressions 2 = .ok (.putfield 43, 3) := by decide +kernel
theorem dX4_dropSuppressions_5 : decode cX4_dropSuppressions 5 = .ok (.return_, 1) := by decide +kernel
theorem dX4_addSuppression_0 : decode cX4_addSuppression 0 = .ok (.iload_n 1, 1) := by decide +kernel
theorem dX4_addSuppression_1 : decode cX4_addSuppression 1 = .ok (.ifCond .lt 18, 3) := by decide +kernel
theorem dX4_addSuppression_4 : decode cX4_addSuppression 4 = .ok (.iload_n 1, 1) := by decide +kernel
theorem dX4_addSuppression_5 : decode cX4_addSuppression 5 = .ok (.bipush 7, 2) := by decide +kernel
theorem dX4_addSuppression_7 : decode cX4_addSuppression 7 = .ok (.if_icmp .gt 12, 3) := by decide +kernel
theorem dX4_addSuppression_10 : decode cX4_addSuppression 10 = .ok (.iload_n 2, 1) := by decide +kernel
theorem dX4_addSuppression_11 : decode cX4_addSuppression 11 = .ok (.ifCond .lt 8, 3) := by decide +kernel
theorem dX4_addSuppression_14 : decode cX4_addSuppression 14 = .ok (.iload_n 2, 1) := by decide +kernel
theorem dX4_addSuppression_15 : decode cX4_addSuppression 15 = .ok (.iload_n 3, 1) := by decide +kernel
theorem dX4_addSuppression_16 : decode cX4_addSuppression 16 = .ok (.if_icmp .le 7, 3) := by decide +kernel
theorem dX4_addSuppression_19 : decode cX4_addSuppression 19 = .ok (.iconst 1, 1) := by decide +kernel
theorem dX4_addSuppression_20 : decode cX4_addSuppression 20 = .ok (.goto 4, 3) := by decide +kernel
theorem dX4_addSuppression_23 : decode cX4_addSuppression 23 = .ok (.iconst 0, 1) := by decide +kernel
theorem dX4_addSuppression_24 : decode cX4_addSuppression 24 = .ok (.istore 4, 2) := by decide +kernel
theorem dX4_addSuppression_26 : decode cX4_addSuppression 26 = .ok (.iload 4, 2) := by decide +kernel
theorem dX4_addSuppression_28 : decode cX4_addSuppression 28 = .ok (.ifCond .ne 12, 3) := by decide +kernel
theorem dX4_addSuppression_31 : decode cX4_addSuppression 31 = .ok (.aload_n 0, 1) := by decide +kernel
theorem dX4_addSuppression_32 : decode cX4_addSuppression 32 = .ok (.getfield 43, 3) := by decide +kernel
theorem dX4_addSuppression_35 : decode cX4_addSuppression 35 = .ok (.bipush 20, 2) := by decide +kernel
theorem dX4_addSuppression_37 : decode cX4_addSuppression 37 = .ok (.if_icmp .lt 5, 3) := by decide +kernel
theorem dX4_addSuppression_40 : decode cX4_addSuppression 40 = .ok (.iconst (-1), 1) := by decide +kernel
theorem dX4_addSuppression_41 : decode cX4_addSuppression 41 = .ok (.ireturn, 1) := by decide +kernel
theorem dX4_addSuppression_42 : decode cX4_addSuppression 42 = .ok (.aload_n 0, 1) := by decide +kernel
theorem dX4_addSuppression_43 : decode cX4_addSuppression 43 = .ok (.getfield 24, 3) := by decide +kernel
theorem dX4_addSuppression_46 : decode cX4_addSuppression 46 = .ok (.aload_n 0, 1) := by decide +kernel
theorem dX4_addSuppression_47 : decode cX4_addSuppression 47 = .ok (.getfield 43, 3) := by decide +kernel
theorem dX4_addSuppression_50 : decode cX4_addSuppression 50 = .ok (.iload_n 1, 1) := by decide +kernel
theorem dX4_addSuppression_51 : decode cX4_addSuppression 51 = .ok (.iastore, 1) := by decide +kernel
theorem dX4_addSuppression_52 : decode cX4_addSuppression 52 = .ok (.aload_n 0, 1) := by decide +kernel
theorem dX4_addSuppression_53 : decode cX4_addSuppression 53 = .ok (.getfield 27, 3) := by decide +kernel
theorem dX4_addSuppression_56 : decode cX4_addSuppression 56 = .ok (.aload_n 0, 1) := by decide +kernel
theorem dX4_addSuppression_57 : decode cX4_addSuppression 57 = .ok (.getfield 43, 3) := by decide +kernel
theorem dX4_addSuppression_60 : decode cX4_addSuppression 60 = .ok (.iload_n 2, 1) := by decide +kernel
theorem dX4_addSuppression_61 : decode cX4_addSuppression 61 = .ok (.iastore, 1) := by decide +kernel
theorem dX4_addSuppression_62 : decode cX4_addSuppression 62 = .ok (.aload_n 0, 1) := by decide +kernel
theorem dX4_addSuppression_63 : decode cX4_addSuppression 63 = .ok (.getfield 30, 3) := by decide +kernel
theorem dX4_addSuppression_66 : decode cX4_addSuppression 66 = .ok (.aload_n 0, 1) := by decide +kernel
theorem dX4_addSuppression_67 : decode cX4_addSuppression 67 = .ok (.getfield 43, 3) := by decide +kernel
theorem dX4_addSuppression_70 : decode cX4_addSuppression 70 = .ok (.iload_n 3, 1) := by decide +kernel
theorem dX4_addSuppression_71 : decode cX4_addSuppression 71 = .ok (.iastore, 1) := by decide +kernel
theorem dX4_addSuppression_72 : decode cX4_addSuppression 72 = .ok (.aload_n 0, 1) := by decide +kernel
theorem dX4_addSuppression_73 : decode cX4_addSuppression 73 = .ok (.dup, 1) := by decide +kernel
theorem dX4_addSuppression_74 : decode cX4_addSuppression 74 = .ok (.getfield 43, 3) := by decide +kernel
theorem dX4_addSuppression_77 : decode cX4_addSuppression 77 = .ok (.iconst 1, 1) := by decide +kernel
theorem dX4_addSuppression_78 : decode cX4_addSuppression 78 = .ok (.iadd, 1) := by decide +kernel
theorem dX4_addSuppression_79 : decode cX4_addSuppression 79 = .ok (.putfield 43, 3) := by decide +kernel
theorem dX4_addSuppression_82 : decode cX4_addSuppression 82 = .ok (.aload_n 0, 1) := by decide +kernel
theorem dX4_addSuppression_83 : decode cX4_addSuppression 83 = .ok (.getfield 43, 3) := by decide +kernel
theorem dX4_addSuppression_86 : decode cX4_addSuppression 86 = .ok (.ireturn, 1) := by decide +kernel
theorem dX4_note_0 : decode cX4_note 0 = .ok (.aload_n 0, 1) := by decide +kernel
theorem dX4_note_1 : decode cX4_note 1 = .ok (.iload_n 1, 1) := by decide +kernel
theorem dX4_note_2 : decode cX4_note 2 = .ok (.iload_n 2, 1) := by decide +kernel
theorem dX4_note_3 : decode cX4_note 3 = .ok (.invokevirtual 46, 3) := by decide +kernel
theorem dX4_note_6 : decode cX4_note 6 = .ok (.ifCond .eq 14, 3) := by decide +kernel
theorem dX4_note_9 : decode cX4_note 9 = .ok (.aload_n 0, 1) := by decide +kernel
theorem dX4_note_10 : decode cX4_note 10 = .ok (.dup, 1) := by decide +kernel
theorem dX4_note_11 : decode cX4_note 11 = .ok (.getfield 40, 3) := by decide +kernel
theorem dX4_note_14 : decode cX4_note 14 = .ok (.iconst 1, 1) := by decide +kernel
theorem dX4_note_15 : decode cX4_note 15 = .ok (.iadd, 1) := by decide +kernel
theorem dX4_note_16 : decode cX4_note 16 = .ok (.putfield 40, 3) := by decide +kernel
theorem dX4_note_19 : decode cX4_note 19 = .ok (.return_, 1) := by decide +kernel
theorem dX4_note_20 : decode cX4_note 20 = .ok (.aload_n 0, 1) := by decide +kernel
theorem dX4_note_21 : decode cX4_note 21 = .ok (.dup, 1) := by decide +kernel
theorem dX4_note_22 : decode cX4_note 22 = .ok (.getfield 37, 3) := by decide +kernel
theorem dX4_note_25 : decode cX4_note 25 = .ok (.iconst 1, 1) := by decide +kernel
theorem dX4_note_26 : decode cX4_note 26 = .ok (.iadd, 1) := by decide +kernel
theorem dX4_note_27 : decode cX4_note 27 = .ok (.putfield 37, 3) := by decide +kernel
theorem dX4_note_30 : decode cX4_note 30 = .ok (.aload_n 0, 1) := by decide +kernel
theorem dX4_note_31 : decode cX4_note 31 = .ok (.iload_n 1, 1) := by decide +kernel
theorem dX4_note_32 : decode cX4_note 32 = .ok (.iload_n 2, 1) := by decide +kernel
theorem dX4_note_33 : decode cX4_note 33 = .ok (.iload_n 3, 1) := by decide +kernel
theorem dX4_note_34 : decode cX4_note 34 = .ok (.invokevirtual 50, 3) := by decide +kernel
theorem dX4_note_37 : decode cX4_note 37 = .ok (.istore 4, 2) := by decide +kernel
theorem dX4_note_39 : decode cX4_note 39 = .ok (.iload 4, 2) := by decide +kernel
theorem dX4_note_41 : decode cX4_note 41 = .ok (.iconst (-1), 1) := by decide +kernel
theorem dX4_note_42 : decode cX4_note 42 = .ok (.if_icmp .eq 17, 3) := by decide +kernel
theorem dX4_note_45 : decode cX4_note 45 = .ok (.aload_n 0, 1) := by decide +kernel
theorem dX4_note_46 : decode cX4_note 46 = .ok (.getfield 21, 3) := by decide +kernel
theorem dX4_note_49 : decode cX4_note 49 = .ok (.iload 4, 2) := by decide +kernel
theorem dX4_note_51 : decode cX4_note 51 = .ok (.dup2, 1) := by decide +kernel
theorem dX4_note_52 : decode cX4_note 52 = .ok (.iaload, 1) := by decide +kernel
theorem dX4_note_53 : decode cX4_note 53 = .ok (.iconst 1, 1) := by decide +kernel
theorem dX4_note_54 : decode cX4_note 54 = .ok (.iadd, 1) := by decide +kernel
theorem dX4_note_55 : decode cX4_note 55 = .ok (.iastore, 1) := by decide +kernel
theorem dX4_note_56 : decode cX4_note 56 = .ok (.goto 62, 3) := by decide +kernel
theorem dX4_note_59 : decode cX4_note 59 = .ok (.aload_n 0, 1) := by decide +kernel
theorem dX4_note_60 : decode cX4_note 60 = .ok (.getfield 33, 3) := by decide +kernel
theorem dX4_note_63 : decode cX4_note 63 = .ok (.bipush 60, 2) := by decide +kernel
theorem dX4_note_65 : decode cX4_note 65 = .ok (.if_icmp .ge 53, 3) := by decide +kernel
theorem dX4_note_68 : decode cX4_note 68 = .ok (.aload_n 0, 1) := by decide +kernel
theorem dX4_note_69 : decode cX4_note 69 = .ok (.getfield 11, 3) := by decide +kernel
theorem dX4_note_72 : decode cX4_note 72 = .ok (.aload_n 0, 1) := by decide +kernel
theorem dX4_note_73 : decode cX4_note 73 = .ok (.getfield 33, 3) := by decide +kernel
theorem dX4_note_76 : decode cX4_note 76 = .ok (.iload_n 1, 1) := by decide +kernel
theorem dX4_note_77 : decode cX4_note 77 = .ok (.iastore, 1) := by decide +kernel
theorem dX4_note_78 : decode cX4_note 78 = .ok (.aload_n 0, 1) := by decide +kernel
theorem dX4_note_79 : decode cX4_note 79 = .ok (.getfield 15, 3) := by decide +kernel
theorem dX4_note_82 : decode cX4_note 82 = .ok (.aload_n 0, 1) := by decide +kernel
theorem dX4_note_83 : decode cX4_note 83 = .ok (.getfield 33, 3) := by decide +kernel
theorem dX4_note_86 : decode cX4_note 86 = .ok (.iload_n 2, 1) := by decide +kernel
theorem dX4_note_87 : decode cX4_note 87 = .ok (.iastore, 1) := by decide +kernel
theorem dX4_note_88 : decode cX4_note 88 = .ok (.aload_n 0, 1) := by decide +kernel
theorem dX4_note_89 : decode cX4_note 89 = .ok (.getfield 18, 3) := by decide +kernel
theorem dX4_note_92 : decode cX4_note 92 = .ok (.aload_n 0, 1) := by decide +kernel
theorem dX4_note_93 : decode cX4_note 93 = .ok (.getfield 33, 3) := by decide +kernel
theorem dX4_note_96 : decode cX4_note 96 = .ok (.iload_n 3, 1) := by decide +kernel
theorem dX4_note_97 : decode cX4_note 97 = .ok (.iastore, 1) := by decide +kernel
theorem dX4_note_98 : decode cX4_note 98 = .ok (.aload_n 0, 1) := by decide +kernel
theorem dX4_note_99 : decode cX4_note 99 = .ok (.getfield 21, 3) := by decide +kernel
theorem dX4_note_102 : decode cX4_note 102 = .ok (.aload_n 0, 1) := by decide +kernel
theorem dX4_note_103 : decode cX4_note 103 = .ok (.getfield 33, 3) := by decide +kernel
theorem dX4_note_106 : decode cX4_note 106 = .ok (.iconst 1, 1) := by decide +kernel
theorem dX4_note_107 : decode cX4_note 107 = .ok (.iastore, 1) := by decide +kernel
theorem dX4_note_108 : decode cX4_note 108 = .ok (.aload_n 0, 1) := by decide +kernel
theorem dX4_note_109 : decode cX4_note 109 = .ok (.dup, 1) := by decide +kernel
theorem dX4_note_110 : decode cX4_note 110 = .ok (.getfield 33, 3) := by decide +kernel
theorem dX4_note_113 : decode cX4_note 113 = .ok (.iconst 1, 1) := by decide +kernel
theorem dX4_note_114 : decode cX4_note 114 = .ok (.iadd, 1) := by decide +kernel
theorem dX4_note_115 : decode cX4_note 115 = .ok (.putfield 33, 3) := by decide +kernel
theorem dX4_note_118 : decode cX4_note 118 = .ok (.return_, 1) := by decide +kernel
theorem dX4_isSuppressed_0 : decode cX4_isSuppressed 0 = .ok (.iconst 0, 1) := by decide +kernel
theorem dX4_isSuppressed_1 : decode cX4_isSuppressed 1 = .ok (.istore_n 3, 1) := by decide +kernel
theorem dX4_isSuppressed_2 : decode cX4_isSuppressed 2 = .ok (.iload_n 3, 1) := by decide +kernel
theorem dX4_isSuppressed_3 : decode cX4_isSuppressed 3 = .ok (.aload_n 0, 1) := by decide +kernel
theorem dX4_isSuppressed_4 : decode cX4_isSuppressed 4 = .ok (.getfield 43, 3) := by decide +kernel
theorem dX4_isSuppressed_7 : decode cX4_isSuppressed 7 = .ok (.if_icmp .ge 62, 3) := by decide +kernel
theorem dX4_isSuppressed_10 : decode cX4_isSuppressed 10 = .ok (.aload_n 0, 1) := by decide +kernel
theorem dX4_isSuppressed_11 : decode cX4_isSuppressed 11 = .ok (.getfield 24, 3) := by decide +kernel
theorem dX4_isSuppressed_14 : decode cX4_isSuppressed 14 = .ok (.iload_n 3, 1) := by decide +kernel
theorem dX4_isSuppressed_15 : decode cX4_isSuppressed 15 = .ok (.iaload, 1) := by decide +kernel
theorem dX4_isSuppressed_16 : decode cX4_isSuppressed 16 = .ok (.ifCond .eq 13, 3) := by decide +kernel
theorem dX4_isSuppressed_19 : decode cX4_isSuppressed 19 = .ok (.aload_n 0, 1) := by decide +kernel
theorem dX4_isSuppressed_20 : decode cX4_isSuppressed 20 = .ok (.getfield 24, 3) := by decide +kernel
theorem dX4_isSuppressed_23 : decode cX4_isSuppressed 23 = .ok (.iload_n 3, 1) := by decide +kernel
theorem dX4_isSuppressed_24 : decode cX4_isSuppressed 24 = .ok (.iaload, 1) := by decide +kernel
theorem dX4_isSuppressed_25 : decode cX4_isSuppressed 25 = .ok (.iload_n 1, 1) := by decide +kernel
theorem dX4_isSuppressed_26 : decode cX4_isSuppressed 26 = .ok (.if_icmp .ne 7, 3) := by decide +kernel
theorem dX4_isSuppressed_29 : decode cX4_isSuppressed 29 = .ok (.iconst 1, 1) := by decide +kernel
theorem dX4_isSuppressed_30 : decode cX4_isSuppressed 30 = .ok (.goto 4, 3) := by decide +kernel
theorem dX4_isSuppressed_33 : decode cX4_isSuppressed 33 = .ok (.iconst 0, 1) := by decide +kernel
theorem dX4_isSuppressed_34 : decode cX4_isSuppressed 34 = .ok (.istore 4, 2) := by decide +kernel
theorem dX4_isSuppressed_36 : decode cX4_isSuppressed 36 = .ok (.iload 4, 2) := by decide +kernel
theorem dX4_isSuppressed_38 : decode cX4_isSuppressed 38 = .ok (.ifCond .eq 25, 3) := by decide +kernel
theorem dX4_isSuppressed_41 : decode cX4_isSuppressed 41 = .ok (.aload_n 0, 1) := by decide +kernel
theorem dX4_isSuppressed_42 : decode cX4_isSuppressed 42 = .ok (.getfield 27, 3) := by decide +kernel
theorem dX4_isSuppressed_45 : decode cX4_isSuppressed 45 = .ok (.iload_n 3, 1) := by decide +kernel
theorem dX4_isSuppressed_46 : decode cX4_isSuppressed 46 = .ok (.iaload, 1) := by decide +kernel
theorem dX4_isSuppressed_47 : decode cX4_isSuppressed 47 = .ok (.iload_n 2, 1) := by decide +kernel
theorem dX4_isSuppressed_48 : decode cX4_isSuppressed 48 = .ok (.if_icmp .gt 15, 3) := by decide +kernel
theorem dX4_isSuppressed_51 : decode cX4_isSuppressed 51 = .ok (.iload_n 2, 1) := by decide +kernel
theorem dX4_isSuppressed_52 : decode cX4_isSuppressed 52 = .ok (.aload_n 0, 1) := by decide +kernel
theorem dX4_isSuppressed_53 : decode cX4_isSuppressed 53 = .ok (.getfield 30, 3) := by decide +kernel
theorem dX4_isSuppressed_56 : decode cX4_isSuppressed 56 = .ok (.iload_n 3, 1) := by decide +kernel
theorem dX4_isSuppressed_57 : decode cX4_isSuppressed 57 = .ok (.iaload, 1) := by decide +kernel
theorem dX4_isSuppressed_58 : decode cX4_isSuppressed 58 = .ok (.if_icmp .gt 5, 3) := by decide +kernel
theorem dX4_isSuppressed_61 : decode cX4_isSuppressed 61 = .ok (.iconst 1, 1) := by decide +kernel
theorem dX4_isSuppressed_62 : decode cX4_isSuppressed 62 = .ok (.ireturn, 1) := by decide +kernel
theorem dX4_isSuppressed_63 : decode cX4_isSuppressed 63 = .ok (.iinc 3 1, 3) := by decide +kernel
theorem dX4_isSuppressed_66 : decode cX4_isSuppressed 66 = .ok (.goto (-64), 3) := by decide +kernel
theorem dX4_isSuppressed_69 : decode cX4_isSuppressed 69 = .ok (.iconst 0, 1) := by decide +kernel
theorem dX4_isSuppressed_70 : decode cX4_isSuppressed 70 = .ok (.ireturn, 1) := by decide +kernel
theorem dX4_find_0 : decode cX4_find 0 = .ok (.iconst 0, 1) := by decide +kernel
theorem dX4_find_1 : decode cX4_find 1 = .ok (.istore 4, 2) := by decide +kernel
theorem dX4_find_3 : decode cX4_find 3 = .ok (.iload 4, 2) := by decide +kernel
theorem dX4_find_5 : decode cX4_find 5 = .ok (.aload_n 0, 1) := by decide +kernel
theorem dX4_find_6 : decode cX4_find 6 = .ok (.getfield 33, 3) := by decide +kernel
theorem dX4_find_9 : decode cX4_find 9 = .ok (.if_icmp .ge 45, 3) := by decide +kernel
theorem dX4_find_12 : decode cX4_find 12 = .ok (.aload_n 0, 1) := by decide +kernel
theorem dX4_find_13 : decode cX4_find 13 = .ok (.getfield 11, 3) := by decide +kernel
theorem dX4_find_16 : decode cX4_find 16 = .ok (.iload 4, 2) := by decide +kernel
theorem dX4_find_18 : decode cX4_find 18 = .ok (.iaload, 1) := by decide +kernel
theorem dX4_find_19 : decode cX4_find 19 = .ok (.iload_n 1, 1) := by decide +kernel
theorem dX4_find_20 : decode cX4_find 20 = .ok (.if_icmp .ne 28, 3) := by decide +kernel
theorem dX4_find_23 : decode cX4_find 23 = .ok (.aload_n 0, 1) := by decide +kernel
theorem dX4_find_24 : decode cX4_find 24 = .ok (.getfield 15, 3) := by decide +kernel
theorem dX4_find_27 : decode cX4_find 27 = .ok (.iload 4, 2) := by decide +kernel
theorem dX4_find_29 : decode cX4_find 29 = .ok (.iaload, 1) := by decide +kernel
theorem dX4_find_30 : decode cX4_find 30 = .ok (.iload_n 2, 1) := by decide +kernel
theorem dX4_find_31 : decode cX4_find 31 = .ok (.if_icmp .ne 17, 3) := by decide +kernel
theorem dX4_find_34 : decode cX4_find 34 = .ok (.aload_n 0, 1) := by decide +kernel
theorem dX4_find_35 : decode cX4_find 35 = .ok (.getfield 18, 3) := by decide +kernel
theorem dX4_find_38 : decode cX4_find 38 = .ok (.iload 4, 2) := by decide +kernel
theorem dX4_find_40 : decode cX4_find 40 = .ok (.iaload, 1) := by decide +kernel
theorem dX4_find_41 : decode cX4_find 41 = .ok (.iload_n 3, 1) := by decide +kernel
theorem dX4_find_42 : decode cX4_find 42 = .ok (.if_icmp .ne 6, 3) := by decide +kernel
theorem dX4_find_45 : decode cX4_find 45 = .ok (.iload 4, 2) := by decide +kernel
theorem dX4_find_47 : decode cX4_find 47 = .ok (.ireturn, 1) := by decide +kernel
theorem dX4_find_48 : decode cX4_find 48 = .ok (.iinc 4 1, 3) := by decide +kernel
theorem dX4_find_51 : decode cX4_find 51 = .ok (.goto (-48), 3) := by decide +kernel
theorem dX4_find_54 : decode cX4_find 54 = .ok (.iconst (-1), 1) := by decide +kernel
theorem dX4_find_55 : decode cX4_find 55 = .ok (.ireturn, 1) := by decide +kernel
theorem dX4_isQuiet_0 : decode cX4_isQuiet 0 = .ok (.aload_n 0, 1) := by decide +kernel
theorem dX4_isQuiet_1 : decode cX4_isQuiet 1 = .ok (.getfield 37, 3) := by decide +kernel
theorem dX4_isQuiet_4 : decode cX4_isQuiet 4 = .ok (.ifCond .ne 14, 3) := by decide +kernel
theorem dX4_isQuiet_7 : decode cX4_isQuiet 7 = .ok (.aload_n 0, 1) := by decide +kernel
theorem dX4_isQuiet_8 : decode cX4_isQuiet 8 = .ok (.getfield 40, 3) := by decide +kernel
theorem dX4_isQuiet_11 : decode cX4_isQuiet 11 = .ok (.ifCond .ne 7, 3) := by decide +kernel
theorem dX4_isQuiet_14 : decode cX4_isQuiet 14 = .ok (.iconst 1, 1) := by decide +kernel
theorem dX4_isQuiet_15 : decode cX4_isQuiet 15 = .ok (.goto 4, 3) := by decide +kernel
theorem dX4_isQuiet_18 : decode cX4_isQuiet 18 = .ok (.iconst 0, 1) := by decide +kernel
theorem dX4_isQuiet_19 : decode cX4_isQuiet 19 = .ok (.ireturn, 1) := by decide +kernel
theorem dX4_tell_0 : decode cX4_tell 0 = .ok (.iload_n 1, 1) := by decide +kernel
theorem dX4_tell_1 : decode cX4_tell 1 = .ok (.ifCond .lt 11, 3) := by decide +kernel
theorem dX4_tell_4 : decode cX4_tell 4 = .ok (.iload_n 1, 1) := by decide +kernel
theorem dX4_tell_5 : decode cX4_tell 5 = .ok (.aload_n 0, 1) := by decide +kernel
theorem dX4_tell_6 : decode cX4_tell 6 = .ok (.getfield 33, 3) := by decide +kernel
theorem dX4_tell_9 : decode cX4_tell 9 = .ok (.if_icmp .lt 5, 3) := by decide +kernel
theorem dX4_tell_12 : decode cX4_tell 12 = .ok (.iconst (-1), 1) := by decide +kernel
theorem dX4_tell_13 : decode cX4_tell 13 = .ok (.ireturn, 1) := by decide +kernel
theorem dX4_tell_14 : decode cX4_tell 14 = .ok (.iload_n 2, 1) := by decide +kernel
theorem dX4_tell_15 : decode cX4_tell 15 = .ok (.tableswitch 57 0 3 #[29, 36, 43, 50], 29) := by decide +kernel
theorem dX4_tell_44 : decode cX4_tell 44 = .ok (.aload_n 0, 1) := by decide +kernel
theorem dX4_tell_45 : decode cX4_tell 45 = .ok (.getfield 11, 3) := by decide +kernel
theorem dX4_tell_48 : decode cX4_tell 48 = .ok (.iload_n 1, 1) := by decide +kernel
theorem dX4_tell_49 : decode cX4_tell 49 = .ok (.iaload, 1) := by decide +kernel
theorem dX4_tell_50 : decode cX4_tell 50 = .ok (.ireturn, 1) := by decide +kernel
theorem dX4_tell_51 : decode cX4_tell 51 = .ok (.aload_n 0, 1) := by decide +kernel
theorem dX4_tell_52 : decode cX4_tell 52 = .ok (.getfield 15, 3) := by decide +kernel
theorem dX4_tell_55 : decode cX4_tell 55 = .ok (.iload_n 1, 1) := by decide +kernel
theorem dX4_tell_56 : decode cX4_tell 56 = .ok (.iaload, 1) := by decide +kernel
theorem dX4_tell_57 : decode cX4_tell 57 = .ok (.ireturn, 1) := by decide +kernel
theorem dX4_tell_58 : decode cX4_tell 58 = .ok (.aload_n 0, 1) := by decide +kernel
theorem dX4_tell_59 : decode cX4_tell 59 = .ok (.getfield 18, 3) := by decide +kernel
theorem dX4_tell_62 : decode cX4_tell 62 = .ok (.iload_n 1, 1) := by decide +kernel
theorem dX4_tell_63 : decode cX4_tell 63 = .ok (.iaload, 1) := by decide +kernel
theorem dX4_tell_64 : decode cX4_tell 64 = .ok (.ireturn, 1) := by decide +kernel
theorem dX4_tell_65 : decode cX4_tell 65 = .ok (.aload_n 0, 1) := by decide +kernel
theorem dX4_tell_66 : decode cX4_tell 66 = .ok (.getfield 21, 3) := by decide +kernel
theorem dX4_tell_69 : decode cX4_tell 69 = .ok (.iload_n 1, 1) := by decide +kernel
theorem dX4_tell_70 : decode cX4_tell 70 = .ok (.iaload, 1) := by decide +kernel
theorem dX4_tell_71 : decode cX4_tell 71 = .ok (.ireturn, 1) := by decide +kernel
theorem dX4_tell_72 : decode cX4_tell 72 = .ok (.iconst (-1), 1) := by decide +kernel
theorem dX4_tell_73 : decode cX4_tell 73 = .ok (.ireturn, 1) := by decide +kernel
theorem dX5_init_0 : decode cX5_init 0 = .ok (.aload_n 0, 1) := by decide +kernel
theorem dX5_init_1 : decode cX5_init 1 = .ok (.invokespecial 3, 3) := by decide +kernel
theorem dX5_init_4 : decode cX5_init 4 = .ok (.aload_n 0, 1) := by decide +kernel
theorem dX5_init_5 : decode cX5_init 5 = .ok (.new 9, 3) := by decide +kernel
theorem dX5_init_8 : decode cX5_init 8 = .ok (.dup, 1) := by decide +kernel
theorem dX5_init_9 : decode cX5_init 9 = .ok (.invokespecial 11, 3) := by decide +kernel
theorem dX5_init_12 : decode cX5_init 12 = .ok (.putfield 12, 3) := by decide +kernel
theorem dX5_init_15 : decode cX5_init 15 = .ok (.aload_n 0, 1) := by decide +kernel
theorem dX5_init_16 : decode cX5_init 16 = .ok (.new 18, 3) := by decide +kernel
theorem dX5_init_19 : decode cX5_init 19 = .ok (.dup, 1) := by decide +kernel
theorem dX5_init_20 : decode cX5_init 20 = .ok (.invokespecial 20, 3) := by decide +kernel
theorem dX5_init_23 : decode cX5_init 23 = .ok (.putfield 21, 3) := by decide +kernel
theorem dX5_init_26 : decode cX5_init 26 = .ok (.aload_n 0, 1) := by decide +kernel
theorem dX5_init_27 : decode cX5_init 27 = .ok (.new 25, 3) := by decide +kernel
theorem dX5_init_30 : decode cX5_init 30 = .ok (.dup, 1) := by decide +kernel
theorem dX5_init_31 : decode cX5_init 31 = .ok (.invokespecial 27, 3) := by decide +kernel
theorem dX5_init_34 : decode cX5_init 34 = .ok (.putfield 28, 3) := by decide +kernel
theorem dX5_init_37 : decode cX5_init 37 = .ok (.aload_n 0, 1) := by decide +kernel
theorem dX5_init_38 : decode cX5_init 38 = .ok (.new 32, 3) := by decide +kernel
theorem dX5_init_41 : decode cX5_init 41 = .ok (.dup, 1) := by decide +kernel
theorem dX5_init_42 : decode cX5_init 42 = .ok (.invokespecial 34, 3) := by decide +kernel
theorem dX5_init_45 : decode cX5_init 45 = .ok (.putfield 35, 3) := by decide +kernel
theorem dX5_init_48 : decode cX5_init 48 = .ok (.aload_n 0, 1) := by decide +kernel
theorem dX5_init_49 : decode cX5_init 49 = .ok (.bipush 8, 2) := by decide +kernel
theorem dX5_init_51 : decode cX5_init 51 = .ok (.anewarray 39, 3) := by decide +kernel
theorem dX5_init_54 : decode cX5_init 54 = .ok (.putfield 41, 3) := by decide +kernel
theorem dX5_init_57 : decode cX5_init 57 = .ok (.iconst 0, 1) := by decide +kernel
theorem dX5_init_58 : decode cX5_init 58 = .ok (.istore_n 1, 1) := by decide +kernel
theorem dX5_init_59 : decode cX5_init 59 = .ok (.iload_n 1, 1) := by decide +kernel
theorem dX5_init_60 : decode cX5_init 60 = .ok (.bipush 8, 2) := by decide +kernel
theorem dX5_init_62 : decode cX5_init 62 = .ok (.if_icmp .ge 22, 3) := by decide +kernel
theorem dX5_init_65 : decode cX5_init 65 = .ok (.aload_n 0, 1) := by decide +kernel
theorem dX5_init_66 : decode cX5_init 66 = .ok (.getfield 41, 3) := by decide +kernel
theorem dX5_init_69 : decode cX5_init 69 = .ok (.iload_n 1, 1) := by decide +kernel
theorem dX5_init_70 : decode cX5_init 70 = .ok (.new 39, 3) := by decide +kernel
theorem dX5_init_73 : decode cX5_init 73 = .ok (.dup, 1) := by decide +kernel
theorem dX5_init_74 : decode cX5_init 74 = .ok (.invokespecial 45, 3) := by decide +kernel
theorem dX5_init_77 : decode cX5_init 77 = .ok (.aastore, 1) := by decide +kernel
theorem dX5_init_78 : decode cX5_init 78 = .ok (.iinc 1 1, 3) := by decide +kernel
theorem dX5_init_81 : decode cX5_init 81 = .ok (.goto (-22), 3) := by decide +kernel
theorem dX5_init_84 : decode cX5_init 84 = .ok (.aload_n 0, 1) := by decide +kernel
theorem dX5_init_85 : decode cX5_init 85 = .ok (.new 39, 3) := by decide +kernel
theorem dX5_init_88 : decode cX5_init 88 = .ok (.dup, 1) := by decide +kernel
theorem dX5_init_89 : decode cX5_init 89 = .ok (.invokespecial 45, 3) := by decide +kernel
theorem dX5_init_92 : decode cX5_init 92 = .ok (.putfield 46, 3) := by decide +kernel
theorem dX5_init_95 : decode cX5_init 95 = .ok (.aload_n 0, 1) := by decide +kernel
theorem dX5_init_96 : decode cX5_init 96 = .ok (.new 39, 3) := by decide +kernel
theorem dX5_init_99 : decode cX5_init 99 = .ok (.dup, 1) := by decide +kernel
theorem dX5_init_100 : decode cX5_init 100 = .ok (.invokespecial 45, 3) := by decide +kernel
theorem dX5_init_103 : decode cX5_init 103 = .ok (.putfield 50, 3) := by decide +kernel
theorem dX5_init_106 : decode cX5_init 106 = .ok (.aload_n 0, 1) := by decide +kernel
theorem dX5_init_107 : decode cX5_init 107 = .ok (.bipush 32, 2) := by decide +kernel
theorem dX5_init_109 : decode cX5_init 109 = .ok (.newarray .int, 2) := by decide +kernel
theorem dX5_init_111 : decode cX5_init 111 = .ok (.putfield 53, 3) := by decide +kernel
theorem dX5_init_114 : decode cX5_init 114 = .ok (.aload_n 0, 1) := by decide +kernel
theorem dX5_init_115 : decode cX5_init 115 = .ok (.bipush 100, 2) := by decide +kernel
theorem dX5_init_117 : decode cX5_init 117 = .ok (.newarray .int, 2) := by decide +kernel
theorem dX5_init_119 : decode cX5_init 119 = .ok (.putfield 57, 3) := by decide +kernel
theorem dX5_init_122 : decode cX5_init 122 = .ok (.return_, 1) := by decide +kernel
theorem dX5_restart_0 : decode cX5_restart 0 = .ok (.aload_n 0, 1) := by decide +kernel
theorem dX5_restart_1 : decode cX5_restart 1 = .ok (.aload_n 1, 1) := by decide +kernel
theorem dX5_restart_2 : decode cX5_restart 2 = .ok (.putfield 60, 3) := by decide +kernel
theorem dX5_restart_5 : decode cX5_restart 5 = .ok (.aload_n 0, 1) := by decide +kernel
theorem dX5_restart_6 : decode cX5_restart 6 = .ok (.iload_n 3, 1) := by decide +kernel
theorem dX5_restart_7 : decode cX5_restart 7 = .ok (.putfield 64, 3) := by decide +kernel
theorem dX5_restart_10 : decode cX5_restart 10 = .ok (.aload_n 0, 1) := by decide +kernel
theorem dX5_restart_11 : decode cX5_restart 11 = .ok (.getfield 12, 3) := by decide +kernel
theorem dX5_restart_14 : decode cX5_restart 14 = .ok (.iload_n 2, 1) := by decide +kernel
theorem dX5_restart_15 : decode cX5_restart 15 = .ok (.invokevirtual 68, 3) := by decide +kernel
theorem dX5_restart_18 : decode cX5_restart 18 = .ok (.aload_n 0, 1) := by decide +kernel
theorem dX5_restart_19 : decode cX5_restart 19 = .ok (.getfield 21, 3) := by decide +kernel
theorem dX5_restart_22 : decode cX5_restart 22 = .ok (.invokevirtual 72, 3) := by decide +kernel
theorem dX5_restart_25 : decode cX5_restart 25 = .ok (.aload_n 0, 1) := by decide +kernel
theorem dX5_restart_26 : decode cX5_restart 26 = .ok (.getfield 35, 3) := by decide +kernel
theorem dX5_restart_29 : decode cX5_restart 29 = .ok (.invokevirtual 74, 3) := by decide +kernel
theorem dX5_restart_32 : decode cX5_restart 32 = .ok (.iconst 0, 1) := by decide +kernel
theorem dX5_restart_33 : decode cX5_restart 33 = .ok (.istore 4, 2) := by decide +kernel
theorem dX5_restart_35 : decode cX5_restart 35 = .ok (.iload 4, 2) := by decide +kernel
theorem dX5_restart_37 : decode cX5_restart 37 = .ok (.bipush 7, 2) := by decide +kernel
theorem dX5_restart_39 : decode cX5_restart 39 = .ok (.if_icmp .ge 31, 3) := by decide +kernel
theorem dX5_restart_42 : decode cX5_restart 42 = .ok (.aload_n 0, 1) := by decide +kernel
theorem dX5_restart_43 : decode cX5_restart 43 = .ok (.getfield 41, 3) := by decide +kernel
theorem dX5_restart_46 : decode cX5_restart 46 = .ok (.iload 4, 2) := by decide +kernel
theorem dX5_restart_48 : decode cX5_restart 48 = .ok (.aaload, 1) := by decide +kernel
theorem dX5_restart_49 : decode cX5_restart 49 = .ok (.aload_n 0, 1) := by decide +kernel
theorem dX5_restart_50 : decode cX5_restart 50 = .ok (.getfield 12, 3) := by decide +kernel
theorem dX5_restart_53 : decode cX5_restart 53 = .ok (.invokevirtual 75, 3) := by decide +kernel
theorem dX5_restart_56 : decode cX5_restart 56 = .ok (.iconst (-1), 1) := by decide +kernel
theorem dX5_restart_57 : decode cX5_restart 57 = .ok (.iload 4, 2) := by decide +kernel
theorem dX5_restart_59 : decode cX5_restart 59 = .ok (.iconst 1, 1) := by decide +kernel
theorem dX5_restart_60 : decode cX5_restart 60 = .ok (.iadd, 1) := by decide +kernel
theorem dX5_restart_61 : decode cX5_restart 61 = .ok (.invokevirtual 79, 3) := by decide +kernel
theorem dX5_restart_64 : decode cX5_restart 64 = .ok (.iinc 4 1, 3) := by decide +kernel
theorem dX5_restart_67 : decode cX5_restart 67 = .ok (.goto (-32), 3) := by decide +kernel
theorem dX5_restart_70 : decode cX5_restart 70 = .ok (.aload_n 0, 1) := by decide +kernel
theorem dX5_restart_71 : decode cX5_restart 71 = .ok (.getfield 41, 3) := by decide +kernel
theorem dX5_restart_74 : decode cX5_restart 74 = .ok (.bipush 7, 2) := by decide +kernel
theorem dX5_restart_76 : decode cX5_restart 76 = .ok (.aaload, 1) := by decide +kernel
theorem dX5_restart_77 : decode cX5_restart 77 = .ok (.sipush 4096, 3) := by decide +kernel
theorem dX5_restart_80 : decode cX5_restart 80 = .ok (.invokevirtual 83, 3) := by decide +kernel
theorem dX5_restart_83 : decode cX5_restart 83 = .ok (.aload_n 0, 1) := by decide +kernel
theorem dX5_restart_84 : decode cX5_restart 84 = .ok (.iconst 0, 1) := by decide +kernel
theorem dX5_restart_85 : decode cX5_restart 85 = .ok (.putfield 86, 3) := by decide +kernel
theorem dX5_restart_88 : decode cX5_restart 88 = .ok (.aload_n 0, 1) := by decide +kernel
theorem dX5_restart_89 : decode cX5_restart 89 = .ok (.bipush 7, 2) := by decide +kernel
theorem dX5_restart_91 : decode cX5_restart 91 = .ok (.putfield 90, 3) := by decide +kernel
theorem dX5_restart_94 : decode cX5_restart 94 = .ok (.aload_n 0, 1) := by decide +kernel
theorem dX5_restart_95 : decode cX5_restart 95 = .ok (.iconst 0, 1) := by decide +kernel
theorem dX5_restart_96 : decode cX5_restart 96 = .ok (.putfield 93, 3) := by decide +kernel
theorem dX5_restart_99 : decode cX5_restart 99 = .ok (.aload_n 0, 1) := by decide +kernel
theorem dX5_restart_100 : decode cX5_restart 100 = .ok (.iconst 0, 1) := by decide +kernel
theorem dX5_restart_101 : decode cX5_restart 101 = .ok (.putfield 96, 3) := by decide +kernel
theorem dX5_restart_104 : decode cX5_restart 104 = .ok (.aload_n 0, 1) := by decide +kernel
theorem dX5_restart_105 : decode cX5_restart 105 = .ok (.iconst 0, 1) := by decide +kernel
theorem dX5_restart_106 : decode cX5_restart 106 = .ok (.putfield 99, 3) := by decide +kernel
theorem dX5_restart_109 : decode cX5_restart 109 = .ok (.aload_n 0, 1) := by decide +kernel
theorem dX5_restart_110 : decode cX5_restart 110 = .ok (.iconst 0, 1) := by decide +kernel
theorem dX5_restart_111 : decode cX5_restart 111 = .ok (.putfield 102, 3) := by decide +kernel
theorem dX5_restart_114 : decode cX5_restart 114 = .ok (.aload_n 0, 1) := by decide +kernel
theorem dX5_restart_115 : decode cX5_restart 115 = .ok (.iconst 0, 1) := by decide +kernel
theorem dX5_restart_116 : decode cX5_restart 116 = .ok (.invokevirtual 105, 3) := by decide +kernel
theorem dX5_restart_119 : decode cX5_restart 119 = .ok (.return_, 1) := by decide +kernel
theorem dX5_goTo_0 : decode cX5_goTo 0 = .ok (.aload_n 0, 1) := by decide +kernel
theorem dX5_goTo_1 : decode cX5_goTo 1 = .ok (.iload_n 1, 1) := by decide +kernel
theorem dX5_goTo_2 : decode cX5_goTo 2 = .ok (.putfield 108, 3) := by decide +kernel
theorem dX5_goTo_5 : decode cX5_goTo 5 = .ok (.aload_n 0, 1) := by decide +kernel
theorem dX5_goTo_6 : decode cX5_goTo 6 = .ok (.getfield 108, 3) := by decide +kernel
theorem dX5_goTo_9 : decode cX5_goTo 9 = .ok (.aload_n 0, 1) := by decide +kernel
theorem dX5_goTo_10 : decode cX5_goTo 10 = .ok (.getfield 60, 3) := by decide +kernel
theorem dX5_goTo_13 : decode cX5_goTo 13 = .ok (.getfield 111, 3) := by decide +kernel
theorem dX5_goTo_16 : decode cX5_goTo 16 = .ok (.if_icmp .lt 8, 3) := by decide +kernel
theorem dX5_goTo_19 : decode cX5_goTo 19 = .ok (.aload_n 0, 1) := by decide +kernel
theorem dX5_goTo_20 : decode cX5_goTo 20 = .ok (.iconst 1, 1) := by decide +kernel
theorem dX5_goTo_21 : decode cX5_goTo 21 = .ok (.putfield 102, 3) := by decide +kernel
theorem dX5_goTo_24 : decode cX5_goTo 24 = .ok (.return_, 1) := by decide +kernel
theorem dX5_advance_0 : decode cX5_advance 0 = .ok (.iconst 0, 1) := by decide +kernel
theorem dX5_advance_1 : decode cX5_advance 1 = .ok (.istore_n 2, 1) := by decide +kernel
theorem dX5_advance_2 : decode cX5_advance 2 = .ok (.iload_n 2, 1) := by decide +kernel
theorem dX5_advance_3 : decode cX5_advance 3 = .ok (.iload_n 1, 1) := by decide +kernel
theorem dX5_advance_4 : decode cX5_advance 4 = .ok (.if_icmp .ge 73, 3) := by decide +kernel
theorem dX5_advance_7 : decode cX5_advance 7 = .ok (.aload_n 0, 1) := by decide +kernel
theorem dX5_advance_8 : decode cX5_advance 8 = .ok (.getfield 102, 3) := by decide +kernel
theorem dX5_advance_11 : decode cX5_advance 11 = .ok (.ifCond .ne 66, 3) := by decide +kernel
theorem dX5_advance_14 : decode cX5_advance 14 = .ok (.aload_n 0, 1) := by decide +kernel
theorem dX5_advance_15 : decode cX5_advance 15 = .ok (.getfield 60, 3) := by decide +kernel
theorem dX5_advance_18 : decode cX5_advance 18 = .ok (.getfield 116, 3) := by decide +kernel
theorem dX5_advance_21 : decode cX5_advance 21 = .ok (.aload_n 0, 1) := by decide +kernel
theorem dX5_advance_22 : decode cX5_advance 22 = .ok (.getfield 108, 3) := by decide +kernel
theorem dX5_advance_25 : decode cX5_advance 25 = .ok (.iaload, 1) := by decide +kernel
theorem dX5_advance_26 : decode cX5_advance 26 = .ok (.istore_n 3, 1) := by decide +kernel
theorem dX5_advance_27 : decode cX5_advance 27 = .ok (.aload_n 0, 1) := by decide +kernel
theorem dX5_advance_28 : decode cX5_advance 28 = .ok (.aload_n 0, 1) := by decide +kernel
theorem dX5_advance_29 : decode cX5_advance 29 = .ok (.getfield 108, 3) := by decide +kernel
theorem dX5_advance_32 : decode cX5_advance 32 = .ok (.iconst 1, 1) := by decide +kernel
theorem dX5_advance_33 : decode cX5_advance 33 = .ok (.iadd, 1) := by decide +kernel
theorem dX5_advance_34 : decode cX5_advance 34 = .ok (.putfield 119, 3) := by decide +kernel
theorem dX5_advance_37 : decode cX5_advance 37 = .ok (.iload_n 3, 1) := by decide +kernel
theorem dX5_advance_38 : decode cX5_advance 38 = .ok (.bipush 38, 2) := by decide +kernel
theorem dX5_advance_40 : decode cX5_advance 40 = .ok (.if_icmp .gt 11, 3) := by decide +kernel
theorem dX5_advance_43 : decode cX5_advance 43 = .ok (.aload_n 0, 1) := by decide +kernel
theorem dX5_advance_44 : decode cX5_advance 44 = .ok (.iload_n 3, 1) := by decide +kernel
theorem dX5_advance_45 : decode cX5_advance 45 = .ok (.invokevirtual 124, 3) := by decide +kernel
theorem dX5_advance_48 : decode cX5_advance 48 = .ok (.goto 8, 3) := by decide +kernel
theorem dX5_advance_51 : decode cX5_advance 51 = .ok (.aload_n 0, 1) := by decide +kernel
theorem dX5_advance_52 : decode cX5_advance 52 = .ok (.iload_n 3, 1) := by decide +kernel
theorem dX5_advance_53 : decode cX5_advance 53 = .ok (.invokevirtual 127, 3) := by decide +kernel
theorem dX5_advance_56 : decode cX5_advance 56 = .ok (.aload_n 0, 1) := by decide +kernel
theorem dX5_advance_57 : decode cX5_advance 57 = .ok (.getfield 102, 3) := by decide +kernel
theorem dX5_advance_60 : decode cX5_advance 60 = .ok (.ifCond .ne 11, 3) := by decide +kernel
theorem dX5_advance_63 : decode cX5_advance 63 = .ok (.aload_n 0, 1) := by decide +kernel
theorem dX5_advance_64 : decode cX5_advance 64 = .ok (.aload_n 0, 1) := by decide +kernel
theorem dX5_advance_65 : decode cX5_advance 65 = .ok (.getfield 119, 3) := by decide +kernel
theorem dX5_advance_68 : decode cX5_advance 68 = .ok (.invokevirtual 105, 3) := by decide +kernel
theorem dX5_advance_71 : decode cX5_advance 71 = .ok (.iinc 2 1, 3) := by decide +kernel
theorem dX5_advance_74 : decode cX5_advance 74 = .ok (.goto (-72), 3) := by decide +kernel
theorem dX5_advance_77 : decode cX5_advance 77 = .ok (.aload_n 0, 1) := by decide +kernel
theorem dX5_advance_78 : decode cX5_advance 78 = .ok (.dup, 1) := by decide +kernel
theorem dX5_advance_79 : decode cX5_advance 79 = .ok (.getfield 86, 3) := by decide +kernel
theorem dX5_advance_82 : decode cX5_advance 82 = .ok (.iload_n 2, 1) := by decide +kernel
theorem dX5_advance_83 : decode cX5_advance 83 = .ok (.iadd, 1) := by decide +kernel
theorem dX5_advance_84 : decode cX5_advance 84 = .ok (.putfield 86, 3) := by decide +kernel
theorem dX5_advance_87 : decode cX5_advance 87 = .ok (.iload_n 2, 1) := by decide +kernel
theorem dX5_advance_88 : decode cX5_advance 88 = .ok (.ireturn, 1) := by decide +kernel
theorem dX5_tell_0 : decode cX5_tell 0 = .ok (.iload_n 1, 1) := by decide +kernel
theorem dX5_tell_1 : decode cX5_tell 1 = .ok (.tableswitch 128 0 9 #[55, 60, 65, 70, 78, 86, 94, 99, 107, 112], 55) := by decide +kernel
theorem dX5_tell_56 : decode cX5_tell 56 = .ok (.aload_n 0, 1) := by decide +kernel
theorem dX5_tell_57 : decode cX5_tell 57 = .ok (.getfield 108, 3) := by decide +kernel
theorem dX5_tell_60 : decode cX5_tell 60 = .ok (.ireturn, 1) := by decide +kernel
theorem dX5_tell_61 : decode cX5_tell 61 = .ok (.aload_n 0, 1) := by decide +kernel
theorem dX5_tell_62 : decode cX5_tell 62 = .ok (.getfield 102, 3) := by decide +kernel
theorem dX5_tell_65 : decode cX5_tell 65 = .ok (.ireturn, 1) := by decide +kernel
theorem dX5_tell_66 : decode cX5_tell 66 = .ok (.aload_n 0, 1) := by decide +kernel
theorem dX5_tell_67 : decode cX5_tell 67 = .ok (.getfield 86, 3) := by decide +kernel
theorem dX5_tell_70 : decode cX5_tell 70 = .ok (.ireturn, 1) := by decide +kernel
theorem dX5_tell_71 : decode cX5_tell 71 = .ok (.aload_n 0, 1) := by decide +kernel
theorem dX5_tell_72 : decode cX5_tell 72 = .ok (.getfield 35, 3) := by decide +kernel
theorem dX5_tell_75 : decode cX5_tell 75 = .ok (.getfield 130, 3) := by decide +kernel
theorem dX5_tell_78 : decode cX5_tell 78 = .ok (.ireturn, 1) := by decide +kernel
theorem dX5_tell_79 : decode cX5_tell 79 = .ok (.aload_n 0, 1) := by decide +kernel
theorem dX5_tell_80 : decode cX5_tell 80 = .ok (.getfield 35, 3) := by decide +kernel
theorem dX5_tell_83 : decode cX5_tell 83 = .ok (.getfield 133, 3) := by decide +kernel
theorem dX5_tell_86 : decode cX5_tell 86 = .ok (.ireturn, 1) := by decide +kernel
theorem dX5_tell_87 : decode cX5_tell 87 = .ok (.aload_n 0, 1) := by decide +kernel
theorem dX5_tell_88 : decode cX5_tell 88 = .ok (.getfield 35, 3) := by decide +kernel
theorem dX5_tell_91 : decode cX5_tell 91 = .ok (.getfield 136, 3) := by decide +kernel
theorem dX5_tell_94 : decode cX5_tell 94 = .ok (.ireturn, 1) := by decide +kernel
theorem dX5_tell_95 : decode cX5_tell 95 = .ok (.aload_n 0, 1) := by decide +kernel
theorem dX5_tell_96 : decode cX5_tell 96 = .ok (.getfield 99, 3) := by decide +kernel
theorem dX5_tell_99 : decode cX5_tell 99 = .ok (.ireturn, 1) := by decide +kernel
theorem dX5_tell_100 : decode cX5_tell 100 = .ok (.aload_n 0, 1) := by decide +kernel
theorem dX5_tell_101 : decode cX5_tell 101 = .ok (.getfield 21, 3) := by decide +kernel
theorem dX5_tell_104 : decode cX5_tell 104 = .ok (.getfield 139, 3) := by decide +kernel
theorem dX5_tell_107 : decode cX5_tell 107 = .ok (.ireturn, 1) := by decide +kernel
theorem dX5_tell_108 : decode cX5_tell 108 = .ok (.aload_n 0, 1) := by decide +kernel
theorem dX5_tell_109 : decode cX5_tell 109 = .ok (.getfield 90, 3) := by decide +kernel
theorem dX5_tell_112 : decode cX5_tell 112 = .ok (.ireturn, 1) := by decide +kernel
theorem dX5_tell_113 : decode cX5_tell 113 = .ok (.aload_n 0, 1) := by decide +kernel
theorem dX5_tell_114 : decode cX5_tell 114 = .ok (.getfield 35, 3) := by decide +kernel
theorem dX5_tell_117 : decode cX5_tell 117 = .ok (.invokevirtual 142, 3) := by decide +kernel
theorem dX5_tell_120 : decode cX5_tell 120 = .ok (.ifCond .eq 7, 3) := by decide +kernel
theorem dX5_tell_123 : decode cX5_tell 123 = .ok (.iconst 1, 1) := by decide +kernel
theorem dX5_tell_124 : decode cX5_tell 124 = .ok (.goto 4, 3) := by decide +kernel
theorem dX5_tell_127 : decode cX5_tell 127 = .ok (.iconst 0, 1) := by decide +kernel
theorem dX5_tell_128 : decode cX5_tell 128 = .ok (.ireturn, 1) := by decide +kernel
theorem dX5_tell_129 : decode cX5_tell 129 = .ok (.iconst (-1), 1) := by decide +kernel
theorem dX5_tell_130 : decode cX5_tell 130 = .ok (.ireturn, 1) := by decide +kernel
theorem dX5_outputAt_0 : decode cX5_outputAt 0 = .ok (.iload_n 1, 1) := by decide +kernel
theorem dX5_outputAt_1 : decode cX5_outputAt 1 = .ok (.ifCond .lt 26, 3) := by decide +kernel
theorem dX5_outputAt_4 : decode cX5_outputAt 4 = .ok (.iload_n 1, 1) := by decide +kernel
theorem dX5_outputAt_5 : decode cX5_outputAt 5 = .ok (.bipush 100, 2) := by decide +kernel
theorem dX5_outputAt_7 : decode cX5_outputAt 7 = .ok (.if_icmp .ge 20, 3) := by decide +kernel
theorem dX5_outputAt_10 : decode cX5_outputAt 10 = .ok (.iload_n 1, 1) := by decide +kernel
theorem dX5_outputAt_11 : decode cX5_outputAt 11 = .ok (.aload_n 0, 1) := by decide +kernel
theorem dX5_outputAt_12 : decode cX5_outputAt 12 = .ok (.getfield 99, 3) := by decide +kernel
theorem dX5_outputAt_15 : decode cX5_outputAt 15 = .ok (.if_icmp .ge 12, 3) := by decide +kernel
theorem dX5_outputAt_18 : decode cX5_outputAt 18 = .ok (.aload_n 0, 1) := by decide +kernel
theorem dX5_outputAt_19 : decode cX5_outputAt 19 = .ok (.getfield 57, 3) := by decide +kernel
theorem dX5_outputAt_22 : decode cX5_outputAt 22 = .ok (.iload_n 1, 1) := by decide +kernel
theorem dX5_outputAt_23 : decode cX5_outputAt 23 = .ok (.iaload, 1) := by decide +kernel
theorem dX5_outputAt_24 : decode cX5_outputAt 24 = .ok (.goto 4, 3) := by decide +kernel
theorem dX5_outputAt_27 : decode cX5_outputAt 27 = .ok (.iconst (-1), 1) := by decide +kernel
theorem dX5_outputAt_28 : decode cX5_outputAt 28 = .ok (.ireturn, 1) := by decide +kernel
theorem dX5_tellBlock_0 : decode cX5_tellBlock 0 = .ok (.iload_n 2, 1) := by decide +kernel
theorem dX5_tellBlock_1 : decode cX5_tellBlock 1 = .ok (.iconst 5, 1) := by decide +kernel
theorem dX5_tellBlock_2 : decode cX5_tellBlock 2 = .ok (.if_icmp .eq 13, 3) := by decide +kernel
theorem dX5_tellBlock_5 : decode cX5_tellBlock 5 = .ok (.aload_n 0, 1) := by decide +kernel
theorem dX5_tellBlock_6 : decode cX5_tellBlock 6 = .ok (.getfield 21, 3) := by decide +kernel
theorem dX5_tellBlock_9 : decode cX5_tellBlock 9 = .ok (.iload_n 1, 1) := by decide +kernel
theorem dX5_tellBlock_10 : decode cX5_tellBlock 10 = .ok (.iload_n 2, 1) := by decide +kernel
theorem dX5_tellBlock_11 : decode cX5_tellBlock 11 = .ok (.invokevirtual 146, 3) := by decide +kernel
theorem dX5_tellBlock_14 : decode cX5_tellBlock 14 = .ok (.ireturn, 1) := by decide +kernel
theorem dX5_tellBlock_15 : decode cX5_tellBlock 15 = .ok (.aload_n 0, 1) := by decide +kernel
theorem dX5_tellBlock_16 : decode cX5_tellBlock 16 = .ok (.getfield 21, 3) := by decide +kernel
theorem dX5_tellBlock_19 : decode cX5_tellBlock 19 = .ok (.iload_n 1, 1) := by decide +kernel
theorem dX5_tellBlock_20 : decode cX5_tellBlock 20 = .ok (.invokevirtual 150, 3) := by decide +kernel
theorem dX5_tellBlock_23 : decode cX5_tellBlock 23 = .ok (.ifCond .eq 26, 3) := by decide +kernel
theorem dX5_tellBlock_26 : decode cX5_tellBlock 26 = .ok (.aload_n 0, 1) := by decide +kernel
theorem dX5_tellBlock_27 : decode cX5_tellBlock 27 = .ok (.getfield 28, 3) := by decide +kernel
theorem dX5_tellBlock_30 : decode cX5_tellBlock 30 = .ok (.iload_n 1, 1) := by decide +kernel
theorem dX5_tellBlock_31 : decode cX5_tellBlock 31 = .ok (.aload_n 0, 1) := by decide +kernel
theorem dX5_tellBlock_32 : decode cX5_tellBlock 32 = .ok (.getfield 21, 3) := by decide +kernel
theorem dX5_tellBlock_35 : decode cX5_tellBlock 35 = .ok (.aload_n 0, 1) := by decide +kernel
theorem dX5_tellBlock_36 : decode cX5_tellBlock 36 = .ok (.getfield 12, 3) := by decide +kernel
theorem dX5_tellBlock_39 : decode cX5_tellBlock 39 = .ok (.aload_n 0, 1) := by decide +kernel
theorem dX5_tellBlock_40 : decode cX5_tellBlock 40 = .ok (.getfield 41, 3) := by decide +kernel
theorem dX5_tellBlock_43 : decode cX5_tellBlock 43 = .ok (.invokevirtual 154, 3) := by decide +kernel
theorem dX5_tellBlock_46 : decode cX5_tellBlock 46 = .ok (.goto 4, 3) := by decide +kernel
theorem dX5_tellBlock_49 : decode cX5_tellBlock 49 = .ok (.iconst (-1), 1) := by decide +kernel
theorem dX5_tellBlock_50 : decode cX5_tellBlock 50 = .ok (.ireturn, 1) := by decide +kernel
theorem dX5_performPlain_0 : decode cX5_performPlain 0 = .ok (.iload_n 1, 1) := by decide +kernel
theorem dX5_performPlain_1 : decode cX5_performPlain 1 = .ok (.bipush 20, 2) := by decide +kernel
theorem dX5_performPlain_3 : decode cX5_performPlain 3 = .ok (.if_icmp .gt 11, 3) := by decide +kernel
theorem dX5_performPlain_6 : decode cX5_performPlain 6 = .ok (.aload_n 0, 1) := by decide +kernel
theorem dX5_performPlain_7 : decode cX5_performPlain 7 = .ok (.iload_n 1, 1) := by decide +kernel
theorem dX5_performPlain_8 : decode cX5_performPlain 8 = .ok (.invokevirtual 158, 3) := by decide +kernel
theorem dX5_performPlain_11 : decode cX5_performPlain 11 = .ok (.goto 50, 3) := by decide +kernel
theorem dX5_performPlain_14 : decode cX5_performPlain 14 = .ok (.iload_n 1, 1) := by decide +kernel
theorem dX5_performPlain_15 : decode cX5_performPlain 15 = .ok (.bipush 25, 2) := by decide +kernel
theorem dX5_performPlain_17 : decode cX5_performPlain 17 = .ok (.if_icmp .gt 11, 3) := by decide +kernel
theorem dX5_performPlain_20 : decode cX5_performPlain 20 = .ok (.aload_n 0, 1) := by decide +kernel
theorem dX5_performPlain_21 : decode cX5_performPlain 21 = .ok (.iload_n 1, 1) := by decide +kernel
theorem dX5_performPlain_22 : decode cX5_performPlain 22 = .ok (.invokevirtual 161, 3) := by decide +kernel
theorem dX5_performPlain_25 : decode cX5_performPlain 25 = .ok (.goto 36, 3) := by decide +kernel
theorem dX5_performPlain_28 : decode cX5_performPlain 28 = .ok (.iload_n 1, 1) := by decide +kernel
theorem dX5_performPlain_29 : decode cX5_performPlain 29 = .ok (.bipush 28, 2) := by decide +kernel
theorem dX5_performPlain_31 : decode cX5_performPlain 31 = .ok (.if_icmp .gt 11, 3) := by decide +kernel
theorem dX5_performPlain_34 : decode cX5_performPlain 34 = .ok (.aload_n 0, 1) := by decide +kernel
theorem dX5_performPlain_35 : decode cX5_performPlain 35 = .ok (.iload_n 1, 1) := by decide +kernel
theorem dX5_performPlain_36 : decode cX5_performPlain 36 = .ok (.invokevirtual 164, 3) := by decide +kernel
theorem dX5_performPlain_39 : decode cX5_performPlain 39 = .ok (.goto 22, 3) := by decide +kernel
theorem dX5_performPlain_42 : decode cX5_performPlain 42 = .ok (.iload_n 1, 1) := by decide +kernel
theorem dX5_performPlain_43 : decode cX5_performPlain 43 = .ok (.bipush 34, 2) := by decide +kernel
theorem dX5_performPlain_45 : decode cX5_performPlain 45 = .ok (.if_icmp .gt 11, 3) := by decide +kernel
theorem dX5_performPlain_48 : decode cX5_performPlain 48 = .ok (.aload_n 0, 1) := by decide +kernel
theorem dX5_performPlain_49 : decode cX5_performPlain 49 = .ok (.iload_n 1, 1) := by decide +kernel
theorem dX5_performPlain_50 : decode cX5_performPlain 50 = .ok (.invokevirtual 167, 3) := by decide +kernel
theorem dX5_performPlain_53 : decode cX5_performPlain 53 = .ok (.goto 8, 3) := by decide +kernel
theorem dX5_performPlain_56 : decode cX5_performPlain 56 = .ok (.aload_n 0, 1) := by decide +kernel
theorem dX5_performPlain_57 : decode cX5_performPlain 57 = .ok (.iload_n 1, 1) := by decide +kernel
theorem dX5_performPlain_58 : decode cX5_performPlain 58 = .ok (.invokevirtual 170, 3) := by decide +kernel
theorem dX5_performPlain_61 : decode cX5_performPlain 61 = .ok (.return_, 1) := by decide +kernel
theorem dX5_performWide_0 : decode cX5_performWide 0 = .ok (.iload_n 1, 1) := by decide +kernel
theorem dX5_performWide_1 : decode cX5_performWide 1 = .ok (.tableswitch 130 39 49 #[59, 66, 73, 73, 81, 88, 95, 102, 109, 116, 123], 59) := by decide +kernel
theorem dX5_performWide_60 : decode cX5_performWide 60 = .ok (.aload_n 0, 1) := by decide +kernel
theorem dX5_performWide_61 : decode cX5_performWide 61 = .ok (.invokevirtual 173, 3) := by decide +kernel
theorem dX5_performWide_64 : decode cX5_performWide 64 = .ok (.goto 71, 3) := by decide +kernel
theorem dX5_performWide_67 : decode cX5_performWide 67 = .ok (.aload_n 0, 1) := by decide +kernel
theorem dX5_performWide_68 : decode cX5_performWide 68 = .ok (.invokevirtual 176, 3) := by decide +kernel
theorem dX5_performWide_71 : decode cX5_performWide 71 = .ok (.goto 64, 3) := by decide +kernel
theorem dX5_performWide_74 : decode cX5_performWide 74 = .ok (.aload_n 0, 1) := by decide +kernel
theorem dX5_performWide_75 : decode cX5_performWide 75 = .ok (.iload_n 1, 1) := by decide +kernel
theorem dX5_performWide_76 : decode cX5_performWide 76 = .ok (.invokevirtual 179, 3) := by decide +kernel
theorem dX5_performWide_79 : decode cX5_performWide 79 = .ok (.goto 56, 3) := by decide +kernel
theorem dX5_performWide_82 : decode cX5_performWide 82 = .ok (.aload_n 0, 1) := by decide +kernel
theorem dX5_performWide_83 : decode cX5_performWide 83 = .ok (.invokevirtual 182, 3) := by decide +kernel
theorem dX5_performWide_86 : decode cX5_performWide 86 = .ok (.goto 49, 3) := by decide +kernel
theorem dX5_performWide_89 : decode cX5_performWide 89 = .ok (.aload_n 0, 1) := by decide +kernel
theorem dX5_performWide_90 : decode cX5_performWide 90 = .ok (.invokevirtual 185, 3) := by decide +kernel
theorem dX5_performWide_93 : decode cX5_performWide 93 = .ok (.goto 42, 3) := by decide +kernel
theorem dX5_performWide_96 : decode cX5_performWide 96 = .ok (.aload_n 0, 1) := by decide +kernel
theorem dX5_performWide_97 : decode cX5_performWide 97 = .ok (.invokevirtual 188, 3) := by decide +kernel
theorem dX5_performWide_100 : decode cX5_performWide 100 = .ok (.goto 35, 3) := by decide +kernel
theorem dX5_performWide_103 : decode cX5_performWide 103 = .ok (.aload_n 0, 1) := by decide +kernel
theorem dX5_performWide_104 : decode cX5_performWide 104 = .ok (.invokevirtual 191, 3) := by decide +kernel
theorem dX5_performWide_107 : decode cX5_performWide 107 = .ok (.goto 28, 3) := by decide +kernel
theorem dX5_performWide_110 : decode cX5_performWide 110 = .ok (.aload_n 0, 1) := by decide +kernel
theorem dX5_performWide_111 : decode cX5_performWide 111 = .ok (.invokevirtual 194, 3) := by decide +kernel
theorem dX5_performWide_114 : decode cX5_performWide 114 = .ok (.goto 21, 3) := by decide +kernel
theorem dX5_performWide_117 : decode cX5_performWide 117 = .ok (.aload_n 0, 1) := by decide +kernel
theorem dX5_performWide_118 : decode cX5_performWide 118 = .ok (.invokevirtual 197, 3) := by decide +kernel
theorem dX5_performWide_121 : decode cX5_performWide 121 = .ok (.goto 14, 3) := by decide +kernel
theorem dX5_performWide_124 : decode cX5_performWide 124 = .ok (.aload_n 0, 1) := by decide +kernel
theorem dX5_performWide_125 : decode cX5_performWide 125 = .ok (.invokevirtual 200, 3) := by decide +kernel
theorem dX5_performWide_128 : decode cX5_performWide 128 = .ok (.goto 7, 3) := by decide +kernel
theorem dX5_performWide_131 : decode cX5_performWide 131 = .ok (.aload_n 0, 1) := by decide +kernel
theorem dX5_performWide_132 : decode cX5_performWide 132 = .ok (.invokevirtual 203, 3) := by decide +kernel
theorem dX5_performWide_135 : decode cX5_performWide 135 = .ok (.return_, 1) := by decide +kernel
theorem dX5_operand_0 : decode cX5_operand 0 = .ok (.aload_n 0, 1) := by decide +kernel
theorem dX5_operand_1 : decode cX5_operand 1 = .ok (.getfield 60, 3) := by decide +kernel
theorem dX5_operand_4 : decode cX5_operand 4 = .ok (.getfield 206, 3) := by decide +kernel
theorem dX5_operand_7 : decode cX5_operand 7 = .ok (.aload_n 0, 1) := by decide +kernel
theorem dX5_operand_8 : decode cX5_operand 8 = .ok (.getfield 108, 3) := by decide +kernel
theorem dX5_operand_11 : decode cX5_operand 11 = .ok (.iconst 3, 1) := by decide +kernel
theorem dX5_operand_12 : decode cX5_operand 12 = .ok (.imul, 1) := by decide +kernel
theorem dX5_operand_13 : decode cX5_operand 13 = .ok (.iload_n 1, 1) := by decide +kernel
theorem dX5_operand_14 : decode cX5_operand 14 = .ok (.iadd, 1) := by decide +kernel
theorem dX5_operand_15 : decode cX5_operand 15 = .ok (.iaload, 1) := by decide +kernel
theorem dX5_operand_16 : decode cX5_operand 16 = .ok (.ireturn, 1) := by decide +kernel
theorem dX5_registerOf_0 : decode cX5_registerOf 0 = .ok (.aload_n 0, 1) := by decide +kernel
theorem dX5_registerOf_1 : decode cX5_registerOf 1 = .ok (.getfield 41, 3) := by decide +kernel
theorem dX5_registerOf_4 : decode cX5_registerOf 4 = .ok (.aload_n 0, 1) := by decide +kernel
theorem dX5_registerOf_5 : decode cX5_registerOf 5 = .ok (.iload_n 1, 1) := by decide +kernel
theorem dX5_registerOf_6 : decode cX5_registerOf 6 = .ok (.invokevirtual 209, 3) := by decide +kernel
theorem dX5_registerOf_9 : decode cX5_registerOf 9 = .ok (.bipush 7, 2) := by decide +kernel
theorem dX5_registerOf_11 : decode cX5_registerOf 11 = .ok (.iand, 1) := by decide +kernel
theorem dX5_registerOf_12 : decode cX5_registerOf 12 = .ok (.aaload, 1) := by decide +kernel
theorem dX5_registerOf_13 : decode cX5_registerOf 13 = .ok (.areturn, 1) := by decide +kernel
theorem dX5_takeRegister_0 : decode cX5_takeRegister 0 = .ok (.aload_n 1, 1) := by decide +kernel
theorem dX5_takeRegister_1 : decode cX5_takeRegister 1 = .ok (.aload_n 0, 1) := by decide +kernel
theorem dX5_takeRegister_2 : decode cX5_takeRegister 2 = .ok (.iload_n 2, 1) := by decide +kernel
theorem dX5_takeRegister_3 : decode cX5_takeRegister 3 = .ok (.invokevirtual 213, 3) := by decide +kernel
theorem dX5_takeRegister_6 : decode cX5_takeRegister 6 = .ok (.invokevirtual 217, 3) := by decide +kernel
theorem dX5_takeRegister_9 : decode cX5_takeRegister 9 = .ok (.return_, 1) := by decide +kernel
theorem dX5_takeEither_0 : decode cX5_takeEither 0 = .ok (.aload_n 0, 1) := by decide +kernel
theorem dX5_takeEither_1 : decode cX5_takeEither 1 = .ok (.getfield 60, 3) := by decide +kernel
theorem dX5_takeEither_4 : decode cX5_takeEither 4 = .ok (.getfield 221, 3) := by decide +kernel
theorem dX5_takeEither_7 : decode cX5_takeEither 7 = .ok (.aload_n 0, 1) := by decide +kernel
theorem dX5_takeEither_8 : decode cX5_takeEither 8 = .ok (.getfield 108, 3) := by decide +kernel
theorem dX5_takeEither_11 : decode cX5_takeEither 11 = .ok (.baload, 1) := by decide +kernel
theorem dX5_takeEither_12 : decode cX5_takeEither 12 = .ok (.ifCond .eq 15, 3) := by decide +kernel
theorem dX5_takeEither_15 : decode cX5_takeEither 15 = .ok (.aload_n 1, 1) := by decide +kernel
theorem dX5_takeEither_16 : decode cX5_takeEither 16 = .ok (.aload_n 0, 1) := by decide +kernel
theorem dX5_takeEither_17 : decode cX5_takeEither 17 = .ok (.iload_n 2, 1) := by decide +kernel
theorem dX5_takeEither_18 : decode cX5_takeEither 18 = .ok (.invokevirtual 209, 3) := by decide +kernel
theorem dX5_takeEither_21 : decode cX5_takeEither 21 = .ok (.invokevirtual 83, 3) := by decide +kernel
theorem dX5_takeEither_24 : decode cX5_takeEither 24 = .ok (.goto 9, 3) := by decide +kernel
theorem dX5_takeEither_27 : decode cX5_takeEither 27 = .ok (.aload_n 0, 1) := by decide +kernel
theorem dX5_takeEither_28 : decode cX5_takeEither 28 = .ok (.aload_n 1, 1) := by decide +kernel
theorem dX5_takeEither_29 : decode cX5_takeEither 29 = .ok (.iload_n 2, 1) := by decide +kernel
theorem dX5_takeEither_30 : decode cX5_takeEither 30 = .ok (.invokevirtual 225, 3) := by decide +kernel
theorem dX5_takeEither_33 : decode cX5_takeEither 33 = .ok (.return_, 1) := by decide +kernel
theorem dX5_give_0 : decode cX5_give 0 = .ok (.aload_n 0, 1) := by decide +kernel
theorem dX5_give_1 : decode cX5_give 1 = .ok (.getfield 41, 3) := by decide +kernel
theorem dX5_give_4 : decode cX5_give 4 = .ok (.iload_n 1, 1) := by decide +kernel
theorem dX5_give_5 : decode cX5_give 5 = .ok (.bipush 7, 2) := by decide +kernel
theorem dX5_give_7 : decode cX5_give 7 = .ok (.iand, 1) := by decide +kernel
theorem dX5_give_8 : decode cX5_give 8 = .ok (.aaload, 1) := by decide +kernel
theorem dX5_give_9 : decode cX5_give 9 = .ok (.astore 5, 2) := by decide +kernel
theorem dX5_give_11 : decode cX5_give 11 = .ok (.iload_n 1, 1) := by decide +kernel
theorem dX5_give_12 : decode cX5_give 12 = .ok (.bipush 7, 2) := by decide +kernel
theorem dX5_give_14 : decode cX5_give 14 = .ok (.if_icmp .ne 48, 3) := by decide +kernel
theorem dX5_give_17 : decode cX5_give 17 = .ok (.iload_n 3, 1) := by decide +kernel
theorem dX5_give_18 : decode cX5_give 18 = .ok (.ifCond .ne 17, 3) := by decide +kernel
theorem dX5_give_21 : decode cX5_give 21 = .ok (.iload_n 2, 1) := by decide +kernel
theorem dX5_give_22 : decode cX5_give 22 = .ok (.sipush 3072, 3) := by decide +kernel
theorem dX5_give_25 : decode cX5_give 25 = .ok (.if_icmp .lt 10, 3) := by decide +kernel
theorem dX5_give_28 : decode cX5_give 28 = .ok (.iload_n 2, 1) := by decide +kernel
theorem dX5_give_29 : decode cX5_give 29 = .ok (.sipush 4096, 3) := by decide +kernel
theorem dX5_give_32 : decode cX5_give 32 = .ok (.if_icmp .le 9, 3) := by decide +kernel
theorem dX5_give_35 : decode cX5_give 35 = .ok (.aload_n 0, 1) := by decide +kernel
theorem dX5_give_36 : decode cX5_give 36 = .ok (.iconst 2, 1) := by decide +kernel
theorem dX5_give_37 : decode cX5_give 37 = .ok (.invokevirtual 229, 3) := by decide +kernel
theorem dX5_give_40 : decode cX5_give 40 = .ok (.return_, 1) := by decide +kernel
theorem dX5_give_41 : decode cX5_give 41 = .ok (.aload_n 0, 1) := by decide +kernel
theorem dX5_give_42 : decode cX5_give 42 = .ok (.getfield 12, 3) := by decide +kernel
theorem dX5_give_45 : decode cX5_give 45 = .ok (.aload 5, 2) := by decide +kernel
theorem dX5_give_47 : decode cX5_give 47 = .ok (.getfield 232, 3) := by decide +kernel
theorem dX5_give_50 : decode cX5_give 50 = .ok (.iload_n 2, 1) := by decide +kernel
theorem dX5_give_51 : decode cX5_give 51 = .ok (.sipush 512, 3) := by decide +kernel
theorem dX5_give_54 : decode cX5_give 54 = .ok (.aload_n 0, 1) := by decide +kernel
theorem dX5_give_55 : decode cX5_give 55 = .ok (.getfield 108, 3) := by decide +kernel
theorem dX5_give_58 : decode cX5_give 58 = .ok (.iadd, 1) := by decide +kernel
theorem dX5_give_59 : decode cX5_give 59 = .ok (.invokevirtual 235, 3) := by decide +kernel
theorem dX5_give_62 : decode cX5_give 62 = .ok (.aload 5, 2) := by decide +kernel
theorem dX5_give_64 : decode cX5_give 64 = .ok (.iload_n 2, 1) := by decide +kernel
theorem dX5_give_65 : decode cX5_give 65 = .ok (.iload_n 3, 1) := by decide +kernel
theorem dX5_give_66 : decode cX5_give 66 = .ok (.iload 4, 2) := by decide +kernel
theorem dX5_give_68 : decode cX5_give 68 = .ok (.invokevirtual 79, 3) := by decide +kernel
theorem dX5_give_71 : decode cX5_give 71 = .ok (.return_, 1) := by decide +kernel
theorem dX5_trap_0 : decode cX5_trap 0 = .ok (.aload_n 0, 1) := by decide +kernel
theorem dX5_trap_1 : decode cX5_trap 1 = .ok (.iconst 1, 1) := by decide +kernel
theorem dX5_trap_2 : decode cX5_trap 2 = .ok (.iload_n 1, 1) := by decide +kernel
theorem dX5_trap_3 : decode cX5_trap 3 = .ok (.iadd, 1) := by decide +kernel
theorem dX5_trap_4 : decode cX5_trap 4 = .ok (.putfield 102, 3) := by decide +kernel
theorem dX5_trap_7 : decode cX5_trap 7 = .ok (.aload_n 0, 1) := by decide +kernel
theorem dX5_trap_8 : decode cX5_trap 8 = .ok (.iconst 4, 1) := by decide +kernel
theorem dX5_trap_9 : decode cX5_trap 9 = .ok (.invokevirtual 238, 3) := by decide +kernel
theorem dX5_trap_12 : decode cX5_trap 12 = .ok (.aload_n 0, 1) := by decide +kernel
theorem dX5_trap_13 : decode cX5_trap 13 = .ok (.iload_n 1, 1) := by decide +kernel
theorem dX5_trap_14 : decode cX5_trap 14 = .ok (.invokevirtual 238, 3) := by decide +kernel
theorem dX5_trap_17 : decode cX5_trap 17 = .ok (.return_, 1) := by decide +kernel
theorem dX5_addToMark_0 : decode cX5_addToMark 0 = .ok (.aload_n 0, 1) := by decide +kernel
theorem dX5_addToMark_1 : decode cX5_addToMark 1 = .ok (.aload_n 0, 1) := by decide +kernel
theorem dX5_addToMark_2 : decode cX5_addToMark 2 = .ok (.getfield 90, 3) := by decide +kernel
theorem dX5_addToMark_5 : decode cX5_addToMark 5 = .ok (.bipush 31, 2) := by decide +kernel
theorem dX5_addToMark_7 : decode cX5_addToMark 7 = .ok (.imul, 1) := by decide +kernel
theorem dX5_addToMark_8 : decode cX5_addToMark 8 = .ok (.iload_n 1, 1) := by decide +kernel
theorem dX5_addToMark_9 : decode cX5_addToMark 9 = .ok (.iadd, 1) := by decide +kernel
theorem dX5_addToMark_10 : decode cX5_addToMark 10 = .ok (.putfield 90, 3) := by decide +kernel
theorem dX5_addToMark_13 : decode cX5_addToMark 13 = .ok (.return_, 1) := by decide +kernel
theorem dX5_reportShade_0 : decode cX5_reportShade 0 = .ok (.aload_n 2, 1) := by decide +kernel
theorem dX5_reportShade_1 : decode cX5_reportShade 1 = .ok (.getfield 241, 3) := by decide +kernel
theorem dX5_reportShade_4 : decode cX5_reportShade 4 = .ok (.ifCond .eq 19, 3) := by decide +kernel
theorem dX5_reportShade_7 : decode cX5_reportShade 7 = .ok (.aload_n 0, 1) := by decide +kernel
theorem dX5_reportShade_8 : decode cX5_reportShade 8 = .ok (.getfield 35, 3) := by decide +kernel
theorem dX5_reportShade_11 : decode cX5_reportShade 11 = .ok (.iload_n 1, 1) := by decide +kernel
theorem dX5_reportShade_12 : decode cX5_reportShade 12 = .ok (.aload_n 0, 1) := by decide +kernel
theorem dX5_reportShade_13 : decode cX5_reportShade 13 = .ok (.getfield 108, 3) := by decide +kernel
theorem dX5_reportShade_16 : decode cX5_reportShade 16 = .ok (.aload_n 2, 1) := by decide +kernel
theorem dX5_reportShade_17 : decode cX5_reportShade 17 = .ok (.getfield 244, 3) := by decide +kernel
theorem dX5_reportShade_20 : decode cX5_reportShade 20 = .ok (.invokevirtual 247, 3) := by decide +kernel
theorem dX5_reportShade_23 : decode cX5_reportShade 23 = .ok (.return_, 1) := by decide +kernel
theorem dX5_isValid_0 : decode cX5_isValid 0 = .ok (.aload_n 0, 1) := by decide +kernel
theorem dX5_isValid_1 : decode cX5_isValid 1 = .ok (.getfield 12, 3) := by decide +kernel
theorem dX5_isValid_4 : decode cX5_isValid 4 = .ok (.iload_n 1, 1) := by decide +kernel
theorem dX5_isValid_5 : decode cX5_isValid 5 = .ok (.iload_n 2, 1) := by decide +kernel
theorem dX5_isValid_6 : decode cX5_isValid 6 = .ok (.invokevirtual 250, 3) := by decide +kernel
theorem dX5_isValid_9 : decode cX5_isValid 9 = .ok (.istore_n 3, 1) := by decide +kernel
theorem dX5_isValid_10 : decode cX5_isValid 10 = .ok (.iload_n 3, 1) := by decide +kernel
theorem dX5_isValid_11 : decode cX5_isValid 11 = .ok (.iconst (-1), 1) := by decide +kernel
theorem dX5_isValid_12 : decode cX5_isValid 12 = .ok (.if_icmp .ne 5, 3) := by decide +kernel
theorem dX5_isValid_15 : decode cX5_isValid 15 = .ok (.iconst 1, 1) := by decide +kernel
theorem dX5_isValid_16 : decode cX5_isValid 16 = .ok (.ireturn, 1) := by decide +kernel
theorem dX5_isValid_17 : decode cX5_isValid 17 = .ok (.aload_n 0, 1) := by decide +kernel
theorem dX5_isValid_18 : decode cX5_isValid 18 = .ok (.getfield 35, 3) := by decide +kernel
theorem dX5_isValid_21 : decode cX5_isValid 21 = .ok (.bipush 6, 2) := by decide +kernel
theorem dX5_isValid_23 : decode cX5_isValid 23 = .ok (.aload_n 0, 1) := by decide +kernel
theorem dX5_isValid_24 : decode cX5_isValid 24 = .ok (.getfield 108, 3) := by decide +kernel
theorem dX5_isValid_27 : decode cX5_isValid 27 = .ok (.aload_n 0, 1) := by decide +kernel
theorem dX5_isValid_28 : decode cX5_isValid 28 = .ok (.getfield 21, 3) := by decide +kernel
theorem dX5_isValid_31 : decode cX5_isValid 31 = .ok (.iload_n 1, 1) := by decide +kernel
theorem dX5_isValid_32 : decode cX5_isValid 32 = .ok (.iload_n 3, 1) := by decide +kernel
theorem dX5_isValid_33 : decode cX5_isValid 33 = .ok (.iadd, 1) := by decide +kernel
theorem dX5_isValid_34 : decode cX5_isValid 34 = .ok (.invokevirtual 253, 3) := by decide +kernel
theorem dX5_isValid_37 : decode cX5_isValid 37 = .ok (.invokevirtual 247, 3) := by decide +kernel
theorem dX5_isValid_40 : decode cX5_isValid 40 = .ok (.iconst 0, 1) := by decide +kernel
theorem dX5_isValid_41 : decode cX5_isValid 41 = .ok (.ireturn, 1) := by decide +kernel
theorem dX5_compute_0 : decode cX5_compute 0 = .ok (.iload_n 1, 1) := by decide +kernel
theorem dX5_compute_1 : decode cX5_compute 1 = .ok (.istore_n 2, 1) := by decide +kernel
theorem dX5_compute_2 : decode cX5_compute 2 = .ok (.iload_n 1, 1) := by decide +kernel
theorem dX5_compute_3 : decode cX5_compute 3 = .ok (.ifCond .ne 26, 3) := by decide +kernel
theorem dX5_compute_6 : decode cX5_compute 6 = .ok (.aload_n 0, 1) := by decide +kernel
theorem dX5_compute_7 : decode cX5_compute 7 = .ok (.getfield 46, 3) := by decide +kernel
theorem dX5_compute_10 : decode cX5_compute 10 = .ok (.aload_n 0, 1) := by decide +kernel
theorem dX5_compute_11 : decode cX5_compute 11 = .ok (.iconst 1, 1) := by decide +kernel
theorem dX5_compute_12 : decode cX5_compute 12 = .ok (.invokevirtual 209, 3) := by decide +kernel
theorem dX5_compute_15 : decode cX5_compute 15 = .ok (.invokevirtual 83, 3) := by decide +kernel
theorem dX5_compute_18 : decode cX5_compute 18 = .ok (.aload_n 0, 1) := by decide +kernel
theorem dX5_compute_19 : decode cX5_compute 19 = .ok (.getfield 50, 3) := by decide +kernel
theorem dX5_compute_22 : decode cX5_compute 22 = .ok (.iconst 0, 1) := by decide +kernel
theorem dX5_compute_23 : decode cX5_compute 23 = .ok (.invokevirtual 83, 3) := by decide +kernel
theorem dX5_compute_26 : decode cX5_compute 26 = .ok (.goto 70, 3) := by decide +kernel
theorem dX5_compute_29 : decode cX5_compute 29 = .ok (.iload_n 1, 1) := by decide +kernel
theorem dX5_compute_30 : decode cX5_compute 30 = .ok (.iconst 3, 1) := by decide +kernel
theorem dX5_compute_31 : decode cX5_compute 31 = .ok (.if_icmp .ne 25, 3) := by decide +kernel
theorem dX5_compute_34 : decode cX5_compute 34 = .ok (.aload_n 0, 1) := by decide +kernel
theorem dX5_compute_35 : decode cX5_compute 35 = .ok (.getfield 46, 3) := by decide +kernel
theorem dX5_compute_38 : decode cX5_compute 38 = .ok (.iconst 0, 1) := by decide +kernel
theorem dX5_compute_39 : decode cX5_compute 39 = .ok (.invokevirtual 83, 3) := by decide +kernel
theorem dX5_compute_42 : decode cX5_compute 42 = .ok (.aload_n 0, 1) := by decide +kernel
theorem dX5_compute_43 : decode cX5_compute 43 = .ok (.aload_n 0, 1) := by decide +kernel
theorem dX5_compute_44 : decode cX5_compute 44 = .ok (.getfield 50, 3) := by decide +kernel
theorem dX5_compute_47 : decode cX5_compute 47 = .ok (.iconst 1, 1) := by decide +kernel
theorem dX5_compute_48 : decode cX5_compute 48 = .ok (.invokevirtual 225, 3) := by decide +kernel
theorem dX5_compute_51 : decode cX5_compute 51 = .ok (.iconst 5, 1) := by decide +kernel
theorem dX5_compute_52 : decode cX5_compute 52 = .ok (.istore_n 2, 1) := by decide +kernel
theorem dX5_compute_53 : decode cX5_compute 53 = .ok (.goto 43, 3) := by decide +kernel
theorem dX5_compute_56 : decode cX5_compute 56 = .ok (.aload_n 0, 1) := by decide +kernel
theorem dX5_compute_57 : decode cX5_compute 57 = .ok (.aload_n 0, 1) := by decide +kernel
theorem dX5_compute_58 : decode cX5_compute 58 = .ok (.getfield 46, 3) := by decide +kernel
theorem dX5_compute_61 : decode cX5_compute 61 = .ok (.iconst 1, 1) := by decide +kernel
theorem dX5_compute_62 : decode cX5_compute 62 = .ok (.invokevirtual 225, 3) := by decide +kernel
theorem dX5_compute_65 : decode cX5_compute 65 = .ok (.iload_n 1, 1) := by decide +kernel
theorem dX5_compute_66 : decode cX5_compute 66 = .ok (.iconst 4, 1) := by decide +kernel
theorem dX5_compute_67 : decode cX5_compute 67 = .ok (.if_icmp .lt 21, 3) := by decide +kernel
theorem dX5_compute_70 : decode cX5_compute 70 = .ok (.iload_n 1, 1) := by decide +kernel
theorem dX5_compute_71 : decode cX5_compute 71 = .ok (.bipush 18, 2) := by decide +kernel
theorem dX5_compute_73 : decode cX5_compute 73 = .ok (.if_icmp .gt 15, 3) := by decide +kernel
theorem dX5_compute_76 : decode cX5_compute 76 = .ok (.aload_n 0, 1) := by decide +kernel
theorem dX5_compute_77 : decode cX5_compute 77 = .ok (.aload_n 0, 1) := by decide +kernel
theorem dX5_compute_78 : decode cX5_compute 78 = .ok (.getfield 50, 3) := by decide +kernel
theorem dX5_compute_81 : decode cX5_compute 81 = .ok (.iconst 2, 1) := by decide +kernel
theorem dX5_compute_82 : decode cX5_compute 82 = .ok (.invokevirtual 256, 3) := by decide +kernel
theorem dX5_compute_85 : decode cX5_compute 85 = .ok (.goto 11, 3) := by decide +kernel
theorem dX5_compute_88 : decode cX5_compute 88 = .ok (.aload_n 0, 1) := by decide +kernel
theorem dX5_compute_89 : decode cX5_compute 89 = .ok (.getfield 50, 3) := by decide +kernel
theorem dX5_compute_92 : decode cX5_compute 92 = .ok (.iconst 0, 1) := by decide +kernel
theorem dX5_compute_93 : decode cX5_compute 93 = .ok (.invokevirtual 83, 3) := by decide +kernel
theorem dX5_compute_96 : decode cX5_compute 96 = .ok (.iload_n 1, 1) := by decide +kernel
theorem dX5_compute_97 : decode cX5_compute 97 = .ok (.bipush 7, 2) := by decide +kernel
theorem dX5_compute_99 : decode cX5_compute 99 = .ok (.if_icmp .eq 9, 3) := by decide +kernel
theorem dX5_compute_102 : decode cX5_compute 102 = .ok (.iload_n 1, 1) := by decide +kernel
theorem dX5_compute_103 : decode cX5_compute 103 = .ok (.bipush 8, 2) := by decide +kernel
theorem dX5_compute_105 : decode cX5_compute 105 = .ok (.if_icmp .ne 28, 3) := by decide +kernel
theorem dX5_compute_108 : decode cX5_compute 108 = .ok (.aload_n 0, 1) := by decide +kernel
theorem dX5_compute_109 : decode cX5_compute 109 = .ok (.iconst 4, 1) := by decide +kernel
theorem dX5_compute_110 : decode cX5_compute 110 = .ok (.aload_n 0, 1) := by decide +kernel
theorem dX5_compute_111 : decode cX5_compute 111 = .ok (.getfield 50, 3) := by decide +kernel
theorem dX5_compute_114 : decode cX5_compute 114 = .ok (.invokevirtual 259, 3) := by decide +kernel
theorem dX5_compute_117 : decode cX5_compute 117 = .ok (.aload_n 0, 1) := by decide +kernel
theorem dX5_compute_118 : decode cX5_compute 118 = .ok (.getfield 50, 3) := by decide +kernel
theorem dX5_compute_121 : decode cX5_compute 121 = .ok (.getfield 232, 3) := by decide +kernel
theorem dX5_compute_124 : decode cX5_compute 124 = .ok (.ifCond .ne 9, 3) := by decide +kernel
theorem dX5_compute_127 : decode cX5_compute 127 = .ok (.aload_n 0, 1) := by decide +kernel
theorem dX5_compute_128 : decode cX5_compute 128 = .ok (.iconst 1, 1) := by decide +kernel
theorem dX5_compute_129 : decode cX5_compute 129 = .ok (.invokevirtual 229, 3) := by decide +kernel
theorem dX5_compute_132 : decode cX5_compute 132 = .ok (.return_, 1) := by decide +kernel
theorem dX5_compute_133 : decode cX5_compute 133 = .ok (.iload_n 2, 1) := by decide +kernel
theorem dX5_compute_134 : decode cX5_compute 134 = .ok (.aload_n 0, 1) := by decide +kernel
theorem dX5_compute_135 : decode cX5_compute 135 = .ok (.getfield 46, 3) := by decide +kernel
theorem dX5_compute_138 : decode cX5_compute 138 = .ok (.aload_n 0, 1) := by decide +kernel
theorem dX5_compute_139 : decode cX5_compute 139 = .ok (.getfield 50, 3) := by decide +kernel
theorem dX5_compute_142 : decode cX5_compute 142 = .ok (.aload_n 0, 1) := by decide +kernel
theorem dX5_compute_143 : decode cX5_compute 143 = .ok (.getfield 64, 3) := by decide +kernel
theorem dX5_compute_146 : decode cX5_compute 146 = .ok (.invokestatic 263, 3) := by decide +kernel
theorem dX5_compute_149 : decode cX5_compute 149 = .ok (.istore_n 3, 1) := by decide +kernel
theorem dX5_compute_150 : decode cX5_compute 150 = .ok (.aload_n 0, 1) := by decide +kernel
theorem dX5_compute_151 : decode cX5_compute 151 = .ok (.aload_n 0, 1) := by decide +kernel
theorem dX5_compute_152 : decode cX5_compute 152 = .ok (.iconst 0, 1) := by decide +kernel
theorem dX5_compute_153 : decode cX5_compute 153 = .ok (.invokevirtual 209, 3) := by decide +kernel
theorem dX5_compute_156 : decode cX5_compute 156 = .ok (.iload_n 2, 1) := by decide +kernel
theorem dX5_compute_157 : decode cX5_compute 157 = .ok (.aload_n 0, 1) := by decide +kernel
theorem dX5_compute_158 : decode cX5_compute 158 = .ok (.getfield 46, 3) := by decide +kernel
theorem dX5_compute_161 : decode cX5_compute 161 = .ok (.getfield 232, 3) := by decide +kernel
theorem dX5_compute_164 : decode cX5_compute 164 = .ok (.aload_n 0, 1) := by decide +kernel
theorem dX5_compute_165 : decode cX5_compute 165 = .ok (.getfield 50, 3) := by decide +kernel
theorem dX5_compute_168 : decode cX5_compute 168 = .ok (.getfield 232, 3) := by decide +kernel
theorem dX5_compute_171 : decode cX5_compute 171 = .ok (.invokestatic 268, 3) := by decide +kernel
theorem dX5_compute_174 : decode cX5_compute 174 = .ok (.iload_n 3, 1) := by decide +kernel
theorem dX5_compute_175 : decode cX5_compute 175 = .ok (.aload_n 0, 1) := by decide +kernel
theorem dX5_compute_176 : decode cX5_compute 176 = .ok (.getfield 46, 3) := by decide +kernel
theorem dX5_compute_179 : decode cX5_compute 179 = .ok (.aload_n 0, 1) := by decide +kernel
theorem dX5_compute_180 : decode cX5_compute 180 = .ok (.getfield 50, 3) := by decide +kernel
theorem dX5_compute_183 : decode cX5_compute 183 = .ok (.invokestatic 272, 3) := by decide +kernel
theorem dX5_compute_186 : decode cX5_compute 186 = .ok (.invokevirtual 275, 3) := by decide +kernel
theorem dX5_compute_189 : decode cX5_compute 189 = .ok (.return_, 1) := by decide +kernel
theorem dX5_widthOf_0 : decode cX5_widthOf 0 = .ok (.iload_n 0, 1) := by decide +kernel
theorem dX5_widthOf_1 : decode cX5_widthOf 1 = .ok (.tableswitch 47 21 27 #[43, 43, 45, 45, 47, 43, 45], 43) := by decide +kernel
theorem dX5_widthOf_44 : decode cX5_widthOf 44 = .ok (.iconst 1, 1) := by decide +kernel
theorem dX5_widthOf_45 : decode cX5_widthOf 45 = .ok (.ireturn, 1) := by decide +kernel
theorem dX5_widthOf_46 : decode cX5_widthOf 46 = .ok (.iconst 2, 1) := by decide +kernel
theorem dX5_widthOf_47 : decode cX5_widthOf 47 = .ok (.ireturn, 1) := by decide +kernel
theorem dX5_widthOf_48 : decode cX5_widthOf 48 = .ok (.iconst 4, 1) := by decide +kernel
theorem dX5_widthOf_49 : decode cX5_widthOf 49 = .ok (.ireturn, 1) := by decide +kernel
theorem dX5_loadBytes_0 : decode cX5_loadBytes 0 = .ok (.aload_n 1, 1) := by decide +kernel
theorem dX5_loadBytes_1 : decode cX5_loadBytes 1 = .ok (.getfield 232, 3) := by decide +kernel
theorem dX5_loadBytes_4 : decode cX5_loadBytes 4 = .ok (.iload_n 2, 1) := by decide +kernel
theorem dX5_loadBytes_5 : decode cX5_loadBytes 5 = .ok (.iadd, 1) := by decide +kernel
theorem dX5_loadBytes_6 : decode cX5_loadBytes 6 = .ok (.istore 4, 2) := by decide +kernel
theorem dX5_loadBytes_8 : decode cX5_loadBytes 8 = .ok (.aload_n 0, 1) := by decide +kernel
theorem dX5_loadBytes_9 : decode cX5_loadBytes 9 = .ok (.iconst 2, 1) := by decide +kernel
theorem dX5_loadBytes_10 : decode cX5_loadBytes 10 = .ok (.aload_n 1, 1) := by decide +kernel
theorem dX5_loadBytes_11 : decode cX5_loadBytes 11 = .ok (.invokevirtual 259, 3) := by decide +kernel
theorem dX5_loadBytes_14 : decode cX5_loadBytes 14 = .ok (.aload_n 0, 1) := by decide +kernel
theorem dX5_loadBytes_15 : decode cX5_loadBytes 15 = .ok (.iload 4, 2) := by decide +kernel
theorem dX5_loadBytes_17 : decode cX5_loadBytes 17 = .ok (.iload_n 3, 1) := by decide +kernel
theorem dX5_loadBytes_18 : decode cX5_loadBytes 18 = .ok (.invokevirtual 279, 3) := by decide +kernel
theorem dX5_loadBytes_21 : decode cX5_loadBytes 21 = .ok (.ifCond .eq 20, 3) := by decide +kernel
theorem dX5_loadBytes_24 : decode cX5_loadBytes 24 = .ok (.aload_n 0, 1) := by decide +kernel
theorem dX5_loadBytes_25 : decode cX5_loadBytes 25 = .ok (.getfield 12, 3) := by decide +kernel
theorem dX5_loadBytes_28 : decode cX5_loadBytes 28 = .ok (.aload_n 0, 1) := by decide +kernel
theorem dX5_loadBytes_29 : decode cX5_loadBytes 29 = .ok (.getfield 46, 3) := by decide +kernel
theorem dX5_loadBytes_32 : decode cX5_loadBytes 32 = .ok (.iload 4, 2) := by decide +kernel
theorem dX5_loadBytes_34 : decode cX5_loadBytes 34 = .ok (.iload_n 3, 1) := by decide +kernel
theorem dX5_loadBytes_35 : decode cX5_loadBytes 35 = .ok (.invokevirtual 283, 3) := by decide +kernel
theorem dX5_loadBytes_38 : decode cX5_loadBytes 38 = .ok (.goto 11, 3) := by decide +kernel
theorem dX5_loadBytes_41 : decode cX5_loadBytes 41 = .ok (.aload_n 0, 1) := by decide +kernel
theorem dX5_loadBytes_42 : decode cX5_loadBytes 42 = .ok (.getfield 46, 3) := by decide +kernel
theorem dX5_loadBytes_45 : decode cX5_loadBytes 45 = .ok (.iconst 0, 1) := by decide +kernel
theorem dX5_loadBytes_46 : decode cX5_loadBytes 46 = .ok (.invokevirtual 83, 3) := by decide +kernel
theorem dX5_loadBytes_49 : decode cX5_loadBytes 49 = .ok (.return_, 1) := by decide +kernel
theorem dX5_load_0 : decode cX5_load 0 = .ok (.aload_n 0, 1) := by decide +kernel
theorem dX5_load_1 : decode cX5_load 1 = .ok (.aload_n 0, 1) := by decide +kernel
theorem dX5_load_2 : decode cX5_load 2 = .ok (.iconst 1, 1) := by decide +kernel
theorem dX5_load_3 : decode cX5_load 3 = .ok (.invokevirtual 213, 3) := by decide +kernel
theorem dX5_load_6 : decode cX5_load 6 = .ok (.aload_n 0, 1) := by decide +kernel
theorem dX5_load_7 : decode cX5_load 7 = .ok (.iconst 2, 1) := by decide +kernel
theorem dX5_load_8 : decode cX5_load 8 = .ok (.invokevirtual 209, 3) := by decide +kernel
theorem dX5_load_11 : decode cX5_load 11 = .ok (.iload_n 1, 1) := by decide +kernel
theorem dX5_load_12 : decode cX5_load 12 = .ok (.invokestatic 287, 3) := by decide +kernel
theorem dX5_load_15 : decode cX5_load 15 = .ok (.invokevirtual 290, 3) := by decide +kernel
theorem dX5_load_18 : decode cX5_load 18 = .ok (.iload_n 1, 1) := by decide +kernel
theorem dX5_load_19 : decode cX5_load 19 = .ok (.bipush 21, 2) := by decide +kernel
theorem dX5_load_21 : decode cX5_load 21 = .ok (.if_icmp .ne 8, 3) := by decide +kernel
theorem dX5_load_24 : decode cX5_load 24 = .ok (.bipush 19, 2) := by decide +kernel
theorem dX5_load_26 : decode cX5_load 26 = .ok (.goto 15, 3) := by decide +kernel
theorem dX5_load_29 : decode cX5_load 29 = .ok (.iload_n 1, 1) := by decide +kernel
theorem dX5_load_30 : decode cX5_load 30 = .ok (.bipush 23, 2) := by decide +kernel
theorem dX5_load_32 : decode cX5_load 32 = .ok (.if_icmp .ne 8, 3) := by decide +kernel
theorem dX5_load_35 : decode cX5_load 35 = .ok (.bipush 20, 2) := by decide +kernel
theorem dX5_load_37 : decode cX5_load 37 = .ok (.goto 4, 3) := by decide +kernel
theorem dX5_load_40 : decode cX5_load 40 = .ok (.iconst 1, 1) := by decide +kernel
theorem dX5_load_41 : decode cX5_load 41 = .ok (.istore_n 2, 1) := by decide +kernel
theorem dX5_load_42 : decode cX5_load 42 = .ok (.iload_n 2, 1) := by decide +kernel
theorem dX5_load_43 : decode cX5_load 43 = .ok (.aload_n 0, 1) := by decide +kernel
theorem dX5_load_44 : decode cX5_load 44 = .ok (.getfield 46, 3) := by decide +kernel
theorem dX5_load_47 : decode cX5_load 47 = .ok (.aload_n 0, 1) := by decide +kernel
theorem dX5_load_48 : decode cX5_load 48 = .ok (.getfield 46, 3) := by decide +kernel
theorem dX5_load_51 : decode cX5_load 51 = .ok (.aload_n 0, 1) := by decide +kernel
theorem dX5_load_52 : decode cX5_load 52 = .ok (.getfield 64, 3) := by decide +kernel
theorem dX5_load_55 : decode cX5_load 55 = .ok (.invokestatic 263, 3) := by decide +kernel
theorem dX5_load_58 : decode cX5_load 58 = .ok (.istore_n 3, 1) := by decide +kernel
theorem dX5_load_59 : decode cX5_load 59 = .ok (.aload_n 0, 1) := by decide +kernel
theorem dX5_load_60 : decode cX5_load 60 = .ok (.aload_n 0, 1) := by decide +kernel
theorem dX5_load_61 : decode cX5_load 61 = .ok (.iconst 0, 1) := by decide +kernel
theorem dX5_load_62 : decode cX5_load 62 = .ok (.invokevirtual 209, 3) := by decide +kernel
theorem dX5_load_65 : decode cX5_load 65 = .ok (.iload_n 2, 1) := by decide +kernel
theorem dX5_load_66 : decode cX5_load 66 = .ok (.aload_n 0, 1) := by decide +kernel
theorem dX5_load_67 : decode cX5_load 67 = .ok (.getfield 46, 3) := by decide +kernel
theorem dX5_load_70 : decode cX5_load 70 = .ok (.getfield 232, 3) := by decide +kernel
theorem dX5_load_73 : decode cX5_load 73 = .ok (.iconst 0, 1) := by decide +kernel
theorem dX5_load_74 : decode cX5_load 74 = .ok (.invokestatic 268, 3) := by decide +kernel
theorem dX5_load_77 : decode cX5_load 77 = .ok (.iload_n 3, 1) := by decide +kernel
theorem dX5_load_78 : decode cX5_load 78 = .ok (.aload_n 0, 1) := by decide +kernel
theorem dX5_load_79 : decode cX5_load 79 = .ok (.getfield 46, 3) := by decide +kernel
theorem dX5_load_82 : decode cX5_load 82 = .ok (.getfield 244, 3) := by decide +kernel
theorem dX5_load_85 : decode cX5_load 85 = .ok (.invokevirtual 275, 3) := by decide +kernel
theorem dX5_load_88 : decode cX5_load 88 = .ok (.return_, 1) := by decide +kernel
theorem dX5_store_0 : decode cX5_store 0 = .ok (.aload_n 0, 1) := by decide +kernel
theorem dX5_store_1 : decode cX5_store 1 = .ok (.iconst 1, 1) := by decide +kernel
theorem dX5_store_2 : decode cX5_store 2 = .ok (.invokevirtual 213, 3) := by decide +kernel
theorem dX5_store_5 : decode cX5_store 5 = .ok (.astore_n 2, 1) := by decide +kernel
theorem dX5_store_6 : decode cX5_store 6 = .ok (.aload_n 2, 1) := by decide +kernel
theorem dX5_store_7 : decode cX5_store 7 = .ok (.getfield 232, 3) := by decide +kernel
theorem dX5_store_10 : decode cX5_store 10 = .ok (.aload_n 0, 1) := by decide +kernel
theorem dX5_store_11 : decode cX5_store 11 = .ok (.iconst 2, 1) := by decide +kernel
theorem dX5_store_12 : decode cX5_store 12 = .ok (.invokevirtual 209, 3) := by decide +kernel
theorem dX5_store_15 : decode cX5_store 15 = .ok (.iadd, 1) := by decide +kernel
theorem dX5_store_16 : decode cX5_store 16 = .ok (.istore_n 3, 1) := by decide +kernel
theorem dX5_store_17 : decode cX5_store 17 = .ok (.aload_n 0, 1) := by decide +kernel
theorem dX5_store_18 : decode cX5_store 18 = .ok (.iconst 2, 1) := by decide +kernel
theorem dX5_store_19 : decode cX5_store 19 = .ok (.aload_n 2, 1) := by decide +kernel
theorem dX5_store_20 : decode cX5_store 20 = .ok (.invokevirtual 259, 3) := by decide +kernel
theorem dX5_store_23 : decode cX5_store 23 = .ok (.aload_n 0, 1) := by decide +kernel
theorem dX5_store_24 : decode cX5_store 24 = .ok (.iload_n 3, 1) := by decide +kernel
theorem dX5_store_25 : decode cX5_store 25 = .ok (.iload_n 1, 1) := by decide +kernel
theorem dX5_store_26 : decode cX5_store 26 = .ok (.invokestatic 287, 3) := by decide +kernel
theorem dX5_store_29 : decode cX5_store 29 = .ok (.invokevirtual 279, 3) := by decide +kernel
theorem dX5_store_32 : decode cX5_store 32 = .ok (.ifCond .eq 20, 3) := by decide +kernel
theorem dX5_store_35 : decode cX5_store 35 = .ok (.aload_n 0, 1) := by decide +kernel
theorem dX5_store_36 : decode cX5_store 36 = .ok (.getfield 12, 3) := by decide +kernel
theorem dX5_store_39 : decode cX5_store 39 = .ok (.aload_n 0, 1) := by decide +kernel
theorem dX5_store_40 : decode cX5_store 40 = .ok (.iconst 0, 1) := by decide +kernel
theorem dX5_store_41 : decode cX5_store 41 = .ok (.invokevirtual 213, 3) := by decide +kernel
theorem dX5_store_44 : decode cX5_store 44 = .ok (.iload_n 3, 1) := by decide +kernel
theorem dX5_store_45 : decode cX5_store 45 = .ok (.iload_n 1, 1) := by decide +kernel
theorem dX5_store_46 : decode cX5_store 46 = .ok (.invokestatic 287, 3) := by decide +kernel
theorem dX5_store_49 : decode cX5_store 49 = .ok (.invokevirtual 293, 3) := by decide +kernel
theorem dX5_store_52 : decode cX5_store 52 = .ok (.return_, 1) := by decide +kernel
theorem dX5_branch_0 : decode cX5_branch 0 = .ok (.aload_n 0, 1) := by decide +kernel
theorem dX5_branch_1 : decode cX5_branch 1 = .ok (.aload_n 0, 1) := by decide +kernel
theorem dX5_branch_2 : decode cX5_branch 2 = .ok (.getfield 46, 3) := by decide +kernel
theorem dX5_branch_5 : decode cX5_branch 5 = .ok (.iconst 0, 1) := by decide +kernel
theorem dX5_branch_6 : decode cX5_branch 6 = .ok (.invokevirtual 225, 3) := by decide +kernel
theorem dX5_branch_9 : decode cX5_branch 9 = .ok (.aload_n 0, 1) := by decide +kernel
theorem dX5_branch_10 : decode cX5_branch 10 = .ok (.aload_n 0, 1) := by decide +kernel
theorem dX5_branch_11 : decode cX5_branch 11 = .ok (.getfield 50, 3) := by decide +kernel
theorem dX5_branch_14 : decode cX5_branch 14 = .ok (.iconst 1, 1) := by decide +kernel
theorem dX5_branch_15 : decode cX5_branch 15 = .ok (.invokevirtual 256, 3) := by decide +kernel
theorem dX5_branch_18 : decode cX5_branch 18 = .ok (.iload_n 1, 1) := by decide +kernel
theorem dX5_branch_19 : decode cX5_branch 19 = .ok (.bipush 30, 2) := by decide +kernel
theorem dX5_branch_21 : decode cX5_branch 21 = .ok (.if_icmp .gt 8, 3) := by decide +kernel
theorem dX5_branch_24 : decode cX5_branch 24 = .ok (.bipush 15, 2) := by decide +kernel
theorem dX5_branch_26 : decode cX5_branch 26 = .ok (.goto 16, 3) := by decide +kernel
theorem dX5_branch_29 : decode cX5_branch 29 = .ok (.iload_n 1, 1) := by decide +kernel
theorem dX5_branch_30 : decode cX5_branch 30 = .ok (.bipush 32, 2) := by decide +kernel
theorem dX5_branch_32 : decode cX5_branch 32 = .ok (.if_icmp .gt 8, 3) := by decide +kernel
theorem dX5_branch_35 : decode cX5_branch 35 = .ok (.bipush 17, 2) := by decide +kernel
theorem dX5_branch_37 : decode cX5_branch 37 = .ok (.goto 5, 3) := by decide +kernel
theorem dX5_branch_40 : decode cX5_branch 40 = .ok (.bipush 18, 2) := by decide +kernel
theorem dX5_branch_42 : decode cX5_branch 42 = .ok (.istore_n 2, 1) := by decide +kernel
theorem dX5_branch_43 : decode cX5_branch 43 = .ok (.iload_n 1, 1) := by decide +kernel
theorem dX5_branch_44 : decode cX5_branch 44 = .ok (.bipush 30, 2) := by decide +kernel
theorem dX5_branch_46 : decode cX5_branch 46 = .ok (.if_icmp .eq 15, 3) := by decide +kernel
theorem dX5_branch_49 : decode cX5_branch 49 = .ok (.iload_n 1, 1) := by decide +kernel
theorem dX5_branch_50 : decode cX5_branch 50 = .ok (.bipush 32, 2) := by decide +kernel
theorem dX5_branch_52 : decode cX5_branch 52 = .ok (.if_icmp .eq 9, 3) := by decide +kernel
theorem dX5_branch_55 : decode cX5_branch 55 = .ok (.iload_n 1, 1) := by decide +kernel
theorem dX5_branch_56 : decode cX5_branch 56 = .ok (.bipush 34, 2) := by decide +kernel
theorem dX5_branch_58 : decode cX5_branch 58 = .ok (.if_icmp .ne 7, 3) := by decide +kernel
theorem dX5_branch_61 : decode cX5_branch 61 = .ok (.iconst 1, 1) := by decide +kernel
theorem dX5_branch_62 : decode cX5_branch 62 = .ok (.goto 4, 3) := by decide +kernel
theorem dX5_branch_65 : decode cX5_branch 65 = .ok (.iconst 0, 1) := by decide +kernel
theorem dX5_branch_66 : decode cX5_branch 66 = .ok (.istore_n 3, 1) := by decide +kernel
theorem dX5_branch_67 : decode cX5_branch 67 = .ok (.iload_n 2, 1) := by decide +kernel
theorem dX5_branch_68 : decode cX5_branch 68 = .ok (.aload_n 0, 1) := by decide +kernel
theorem dX5_branch_69 : decode cX5_branch 69 = .ok (.getfield 46, 3) := by decide +kernel
theorem dX5_branch_72 : decode cX5_branch 72 = .ok (.aload_n 0, 1) := by decide +kernel
theorem dX5_branch_73 : decode cX5_branch 73 = .ok (.getfield 50, 3) := by decide +kernel
theorem dX5_branch_76 : decode cX5_branch 76 = .ok (.aload_n 0, 1) := by decide +kernel
theorem dX5_branch_77 : decode cX5_branch 77 = .ok (.getfield 64, 3) := by decide +kernel
theorem dX5_branch_80 : decode cX5_branch 80 = .ok (.invokestatic 263, 3) := by decide +kernel
theorem dX5_branch_83 : decode cX5_branch 83 = .ok (.ifCond .eq 26, 3) := by decide +kernel
theorem dX5_branch_86 : decode cX5_branch 86 = .ok (.aload_n 0, 1) := by decide +kernel
theorem dX5_branch_87 : decode cX5_branch 87 = .ok (.getfield 35, 3) := by decide +kernel
theorem dX5_branch_90 : decode cX5_branch 90 = .ok (.iconst 1, 1) := by decide +kernel
theorem dX5_branch_91 : decode cX5_branch 91 = .ok (.aload_n 0, 1) := by decide +kernel
theorem dX5_branch_92 : decode cX5_branch 92 = .ok (.getfield 108, 3) := by decide +kernel
theorem dX5_branch_95 : decode cX5_branch 95 = .ok (.aload_n 0, 1) := by decide +kernel
theorem dX5_branch_96 : decode cX5_branch 96 = .ok (.getfield 46, 3) := by decide +kernel
theorem dX5_branch_99 : decode cX5_branch 99 = .ok (.aload_n 0, 1) := by decide +kernel
theorem dX5_branch_100 : decode cX5_branch 100 = .ok (.getfield 50, 3) := by decide +kernel
theorem dX5_branch_103 : decode cX5_branch 103 = .ok (.invokestatic 272, 3) := by decide +kernel
theorem dX5_branch_106 : decode cX5_branch 106 = .ok (.invokevirtual 247, 3) := by decide +kernel
theorem dX5_branch_109 : decode cX5_branch 109 = .ok (.iload_n 2, 1) := by decide +kernel
theorem dX5_branch_110 : decode cX5_branch 110 = .ok (.aload_n 0, 1) := by decide +kernel
theorem dX5_branch_111 : decode cX5_branch 111 = .ok (.getfield 46, 3) := by decide +kernel
theorem dX5_branch_114 : decode cX5_branch 114 = .ok (.getfield 232, 3) := by decide +kernel
theorem dX5_branch_117 : decode cX5_branch 117 = .ok (.aload_n 0, 1) := by decide +kernel
theorem dX5_branch_118 : decode cX5_branch 118 = .ok (.getfield 50, 3) := by decide +kernel
theorem dX5_branch_121 : decode cX5_branch 121 = .ok (.getfield 232, 3) := by decide +kernel
theorem dX5_branch_124 : decode cX5_branch 124 = .ok (.invokestatic 268, 3) := by decide +kernel
theorem dX5_branch_127 : decode cX5_branch 127 = .ok (.ifCond .eq 7, 3) := by decide +kernel
theorem dX5_branch_130 : decode cX5_branch 130 = .ok (.iconst 1, 1) := by decide +kernel
theorem dX5_branch_131 : decode cX5_branch 131 = .ok (.goto 4, 3) := by decide +kernel
theorem dX5_branch_134 : decode cX5_branch 134 = .ok (.iconst 0, 1) := by decide +kernel
theorem dX5_branch_135 : decode cX5_branch 135 = .ok (.iload_n 3, 1) := by decide +kernel
theorem dX5_branch_136 : decode cX5_branch 136 = .ok (.ixor, 1) := by decide +kernel
theorem dX5_branch_137 : decode cX5_branch 137 = .ok (.istore 4, 2) := by decide +kernel
theorem dX5_branch_139 : decode cX5_branch 139 = .ok (.aload_n 0, 1) := by decide +kernel
theorem dX5_branch_140 : decode cX5_branch 140 = .ok (.iload 4, 2) := by decide +kernel
theorem dX5_branch_142 : decode cX5_branch 142 = .ok (.ifCond .eq 7, 3) := by decide +kernel
theorem dX5_branch_145 : decode cX5_branch 145 = .ok (.iconst 1, 1) := by decide +kernel
theorem dX5_branch_146 : decode cX5_branch 146 = .ok (.goto 4, 3) := by decide +kernel
theorem dX5_branch_149 : decode cX5_branch 149 = .ok (.iconst 2, 1) := by decide +kernel
theorem dX5_branch_150 : decode cX5_branch 150 = .ok (.invokevirtual 238, 3) := by decide +kernel
theorem dX5_branch_153 : decode cX5_branch 153 = .ok (.iload 4, 2) := by decide +kernel
theorem dX5_branch_155 : decode cX5_branch 155 = .ok (.ifCond .eq 12, 3) := by decide +kernel
theorem dX5_branch_158 : decode cX5_branch 158 = .ok (.aload_n 0, 1) := by decide +kernel
theorem dX5_branch_159 : decode cX5_branch 159 = .ok (.aload_n 0, 1) := by decide +kernel
theorem dX5_branch_160 : decode cX5_branch 160 = .ok (.iconst 2, 1) := by decide +kernel
theorem dX5_branch_161 : decode cX5_branch 161 = .ok (.invokevirtual 209, 3) := by decide +kernel
theorem dX5_branch_164 : decode cX5_branch 164 = .ok (.putfield 119, 3) := by decide +kernel
theorem dX5_branch_167 : decode cX5_branch 167 = .ok (.return_, 1) := by decide +kernel
theorem dX5_jump_0 : decode cX5_jump 0 = .ok (.iload_n 1, 1) := by decide +kernel
theorem dX5_jump_1 : decode cX5_jump 1 = .ok (.tableswitch 128 35 37 #[27, 39, 89], 27) := by decide +kernel
theorem dX5_jump_28 : decode cX5_jump 28 = .ok (.aload_n 0, 1) := by decide +kernel
theorem dX5_jump_29 : decode cX5_jump 29 = .ok (.aload_n 0, 1) := by decide +kernel
theorem dX5_jump_30 : decode cX5_jump 30 = .ok (.iconst 0, 1) := by decide +kernel
theorem dX5_jump_31 : decode cX5_jump 31 = .ok (.invokevirtual 209, 3) := by decide +kernel
theorem dX5_jump_34 : decode cX5_jump 34 = .ok (.putfield 119, 3) := by decide +kernel
theorem dX5_jump_37 : decode cX5_jump 37 = .ok (.goto 97, 3) := by decide +kernel
theorem dX5_jump_40 : decode cX5_jump 40 = .ok (.aload_n 0, 1) := by decide +kernel
theorem dX5_jump_41 : decode cX5_jump 41 = .ok (.getfield 96, 3) := by decide +kernel
theorem dX5_jump_44 : decode cX5_jump 44 = .ok (.bipush 32, 2) := by decide +kernel
theorem dX5_jump_46 : decode cX5_jump 46 = .ok (.if_icmp .lt 9, 3) := by decide +kernel
theorem dX5_jump_49 : decode cX5_jump 49 = .ok (.aload_n 0, 1) := by decide +kernel
theorem dX5_jump_50 : decode cX5_jump 50 = .ok (.iconst 3, 1) := by decide +kernel
theorem dX5_jump_51 : decode cX5_jump 51 = .ok (.invokevirtual 229, 3) := by decide +kernel
theorem dX5_jump_54 : decode cX5_jump 54 = .ok (.return_, 1) := by decide +kernel
theorem dX5_jump_55 : decode cX5_jump 55 = .ok (.aload_n 0, 1) := by decide +kernel
theorem dX5_jump_56 : decode cX5_jump 56 = .ok (.getfield 53, 3) := by decide +kernel
theorem dX5_jump_59 : decode cX5_jump 59 = .ok (.aload_n 0, 1) := by decide +kernel
theorem dX5_jump_60 : decode cX5_jump 60 = .ok (.getfield 96, 3) := by decide +kernel
theorem dX5_jump_63 : decode cX5_jump 63 = .ok (.aload_n 0, 1) := by decide +kernel
theorem dX5_jump_64 : decode cX5_jump 64 = .ok (.getfield 119, 3) := by decide +kernel
theorem dX5_jump_67 : decode cX5_jump 67 = .ok (.iastore, 1) := by decide +kernel
theorem dX5_jump_68 : decode cX5_jump 68 = .ok (.aload_n 0, 1) := by decide +kernel
theorem dX5_jump_69 : decode cX5_jump 69 = .ok (.dup, 1) := by decide +kernel
theorem dX5_jump_70 : decode cX5_jump 70 = .ok (.getfield 96, 3) := by decide +kernel
theorem dX5_jump_73 : decode cX5_jump 73 = .ok (.iconst 1, 1) := by decide +kernel
theorem dX5_jump_74 : decode cX5_jump 74 = .ok (.iadd, 1) := by decide +kernel
theorem dX5_jump_75 : decode cX5_jump 75 = .ok (.putfield 96, 3) := by decide +kernel
theorem dX5_jump_78 : decode cX5_jump 78 = .ok (.aload_n 0, 1) := by decide +kernel
theorem dX5_jump_79 : decode cX5_jump 79 = .ok (.aload_n 0, 1) := by decide +kernel
theorem dX5_jump_80 : decode cX5_jump 80 = .ok (.iconst 0, 1) := by decide +kernel
theorem dX5_jump_81 : decode cX5_jump 81 = .ok (.invokevirtual 209, 3) := by decide +kernel
theorem dX5_jump_84 : decode cX5_jump 84 = .ok (.putfield 119, 3) := by decide +kernel
theorem dX5_jump_87 : decode cX5_jump 87 = .ok (.goto 47, 3) := by decide +kernel
theorem dX5_jump_90 : decode cX5_jump 90 = .ok (.aload_n 0, 1) := by decide +kernel
theorem dX5_jump_91 : decode cX5_jump 91 = .ok (.getfield 96, 3) := by decide +kernel
theorem dX5_jump_94 : decode cX5_jump 94 = .ok (.ifCond .ne 9, 3) := by decide +kernel
theorem dX5_jump_97 : decode cX5_jump 97 = .ok (.aload_n 0, 1) := by decide +kernel
theorem dX5_jump_98 : decode cX5_jump 98 = .ok (.iconst 1, 1) := by decide +kernel
theorem dX5_jump_99 : decode cX5_jump 99 = .ok (.putfield 102, 3) := by decide +kernel
theorem dX5_jump_102 : decode cX5_jump 102 = .ok (.return_, 1) := by decide +kernel
theorem dX5_jump_103 : decode cX5_jump 103 = .ok (.aload_n 0, 1) := by decide +kernel
theorem dX5_jump_104 : decode cX5_jump 104 = .ok (.dup, 1) := by decide +kernel
theorem dX5_jump_105 : decode cX5_jump 105 = .ok (.getfield 96, 3) := by decide +kernel
theorem dX5_jump_108 : decode cX5_jump 108 = .ok (.iconst 1, 1) := by decide +kernel
theorem dX5_jump_109 : decode cX5_jump 109 = .ok (.isub, 1) := by decide +kernel
theorem dX5_jump_110 : decode cX5_jump 110 = .ok (.putfield 96, 3) := by decide +kernel
theorem dX5_jump_113 : decode cX5_jump 113 = .ok (.aload_n 0, 1) := by decide +kernel
theorem dX5_jump_114 : decode cX5_jump 114 = .ok (.aload_n 0, 1) := by decide +kernel
theorem dX5_jump_115 : decode cX5_jump 115 = .ok (.getfield 53, 3) := by decide +kernel
theorem dX5_jump_118 : decode cX5_jump 118 = .ok (.aload_n 0, 1) := by decide +kernel
theorem dX5_jump_119 : decode cX5_jump 119 = .ok (.getfield 96, 3) := by decide +kernel
theorem dX5_jump_122 : decode cX5_jump 122 = .ok (.iaload, 1) := by decide +kernel
theorem dX5_jump_123 : decode cX5_jump 123 = .ok (.putfield 119, 3) := by decide +kernel
theorem dX5_jump_126 : decode cX5_jump 126 = .ok (.goto 8, 3) := by decide +kernel
theorem dX5_jump_129 : decode cX5_jump 129 = .ok (.aload_n 0, 1) := by decide +kernel
theorem dX5_jump_130 : decode cX5_jump 130 = .ok (.iconst 1, 1) := by decide +kernel
theorem dX5_jump_131 : decode cX5_jump 131 = .ok (.putfield 102, 3) := by decide +kernel
theorem dX5_jump_134 : decode cX5_jump 134 = .ok (.return_, 1) := by decide +kernel
theorem dX5_push_0 : decode cX5_push 0 = .ok (.aload_n 0, 1) := by decide +kernel
theorem dX5_push_1 : decode cX5_push 1 = .ok (.getfield 41, 3) := by decide +kernel
theorem dX5_push_4 : decode cX5_push 4 = .ok (.bipush 7, 2) := by decide +kernel
theorem dX5_push_6 : decode cX5_push 6 = .ok (.aaload, 1) := by decide +kernel
theorem dX5_push_7 : decode cX5_push 7 = .ok (.astore_n 1, 1) := by decide +kernel
theorem dX5_push_8 : decode cX5_push 8 = .ok (.aload_n 1, 1) := by decide +kernel
theorem dX5_push_9 : decode cX5_push 9 = .ok (.getfield 232, 3) := by decide +kernel
theorem dX5_push_12 : decode cX5_push 12 = .ok (.iconst 4, 1) := by decide +kernel
theorem dX5_push_13 : decode cX5_push 13 = .ok (.isub, 1) := by decide +kernel
theorem dX5_push_14 : decode cX5_push 14 = .ok (.istore_n 2, 1) := by decide +kernel
theorem dX5_push_15 : decode cX5_push 15 = .ok (.aload_n 0, 1) := by decide +kernel
theorem dX5_push_16 : decode cX5_push 16 = .ok (.aload_n 0, 1) := by decide +kernel
theorem dX5_push_17 : decode cX5_push 17 = .ok (.getfield 46, 3) := by decide +kernel
theorem dX5_push_20 : decode cX5_push 20 = .ok (.iconst 0, 1) := by decide +kernel
theorem dX5_push_21 : decode cX5_push 21 = .ok (.invokevirtual 225, 3) := by decide +kernel
theorem dX5_push_24 : decode cX5_push 24 = .ok (.aload_n 0, 1) := by decide +kernel
theorem dX5_push_25 : decode cX5_push 25 = .ok (.iconst 2, 1) := by decide +kernel
theorem dX5_push_26 : decode cX5_push 26 = .ok (.aload_n 1, 1) := by decide +kernel
theorem dX5_push_27 : decode cX5_push 27 = .ok (.invokevirtual 259, 3) := by decide +kernel
theorem dX5_push_30 : decode cX5_push 30 = .ok (.aload_n 0, 1) := by decide +kernel
theorem dX5_push_31 : decode cX5_push 31 = .ok (.bipush 7, 2) := by decide +kernel
theorem dX5_push_33 : decode cX5_push 33 = .ok (.iload_n 2, 1) := by decide +kernel
theorem dX5_push_34 : decode cX5_push 34 = .ok (.aload_n 1, 1) := by decide +kernel
theorem dX5_push_35 : decode cX5_push 35 = .ok (.getfield 241, 3) := by decide +kernel
theorem dX5_push_38 : decode cX5_push 38 = .ok (.iconst 0, 1) := by decide +kernel
theorem dX5_push_39 : decode cX5_push 39 = .ok (.invokevirtual 275, 3) := by decide +kernel
theorem dX5_push_42 : decode cX5_push 42 = .ok (.aload_n 0, 1) := by decide +kernel
theorem dX5_push_43 : decode cX5_push 43 = .ok (.getfield 102, 3) := by decide +kernel
theorem dX5_push_46 : decode cX5_push 46 = .ok (.ifCond .ne 25, 3) := by decide +kernel
theorem dX5_push_49 : decode cX5_push 49 = .ok (.aload_n 0, 1) := by decide +kernel
theorem dX5_push_50 : decode cX5_push 50 = .ok (.iload_n 2, 1) := by decide +kernel
theorem dX5_push_51 : decode cX5_push 51 = .ok (.iconst 4, 1) := by decide +kernel
theorem dX5_push_52 : decode cX5_push 52 = .ok (.invokevirtual 279, 3) := by decide +kernel
theorem dX5_push_55 : decode cX5_push 55 = .ok (.ifCond .eq 16, 3) := by decide +kernel
theorem dX5_push_58 : decode cX5_push 58 = .ok (.aload_n 0, 1) := by decide +kernel
theorem dX5_push_59 : decode cX5_push 59 = .ok (.getfield 12, 3) := by decide +kernel
theorem dX5_push_62 : decode cX5_push 62 = .ok (.aload_n 0, 1) := by decide +kernel
theorem dX5_push_63 : decode cX5_push 63 = .ok (.getfield 46, 3) := by decide +kernel
theorem dX5_push_66 : decode cX5_push 66 = .ok (.iload_n 2, 1) := by decide +kernel
theorem dX5_push_67 : decode cX5_push 67 = .ok (.iconst 4, 1) := by decide +kernel
theorem dX5_push_68 : decode cX5_push 68 = .ok (.invokevirtual 293, 3) := by decide +kernel
theorem dX5_push_71 : decode cX5_push 71 = .ok (.return_, 1) := by decide +kernel
theorem dX5_pop_0 : decode cX5_pop 0 = .ok (.aload_n 0, 1) := by decide +kernel
theorem dX5_pop_1 : decode cX5_pop 1 = .ok (.getfield 41, 3) := by decide +kernel
theorem dX5_pop_4 : decode cX5_pop 4 = .ok (.bipush 7, 2) := by decide +kernel
theorem dX5_pop_6 : decode cX5_pop 6 = .ok (.aaload, 1) := by decide +kernel
theorem dX5_pop_7 : decode cX5_pop 7 = .ok (.astore_n 1, 1) := by decide +kernel
theorem dX5_pop_8 : decode cX5_pop 8 = .ok (.aload_n 0, 1) := by decide +kernel
theorem dX5_pop_9 : decode cX5_pop 9 = .ok (.aload_n 1, 1) := by decide +kernel
theorem dX5_pop_10 : decode cX5_pop 10 = .ok (.iconst 0, 1) := by decide +kernel
theorem dX5_pop_11 : decode cX5_pop 11 = .ok (.iconst 4, 1) := by decide +kernel
theorem dX5_pop_12 : decode cX5_pop 12 = .ok (.invokevirtual 290, 3) := by decide +kernel
theorem dX5_pop_15 : decode cX5_pop 15 = .ok (.aload_n 0, 1) := by decide +kernel
theorem dX5_pop_16 : decode cX5_pop 16 = .ok (.aload_n 0, 1) := by decide +kernel
theorem dX5_pop_17 : decode cX5_pop 17 = .ok (.iconst 0, 1) := by decide +kernel
theorem dX5_pop_18 : decode cX5_pop 18 = .ok (.invokevirtual 209, 3) := by decide +kernel
theorem dX5_pop_21 : decode cX5_pop 21 = .ok (.aload_n 0, 1) := by decide +kernel
theorem dX5_pop_22 : decode cX5_pop 22 = .ok (.getfield 46, 3) := by decide +kernel
theorem dX5_pop_25 : decode cX5_pop 25 = .ok (.getfield 232, 3) := by decide +kernel
theorem dX5_pop_28 : decode cX5_pop 28 = .ok (.aload_n 0, 1) := by decide +kernel
theorem dX5_pop_29 : decode cX5_pop 29 = .ok (.getfield 46, 3) := by decide +kernel
theorem dX5_pop_32 : decode cX5_pop 32 = .ok (.getfield 241, 3) := by decide +kernel
theorem dX5_pop_35 : decode cX5_pop 35 = .ok (.aload_n 0, 1) := by decide +kernel
theorem dX5_pop_36 : decode cX5_pop 36 = .ok (.getfield 46, 3) := by decide +kernel
theorem dX5_pop_39 : decode cX5_pop 39 = .ok (.getfield 244, 3) := by decide +kernel
theorem dX5_pop_42 : decode cX5_pop 42 = .ok (.invokevirtual 275, 3) := by decide +kernel
theorem dX5_pop_45 : decode cX5_pop 45 = .ok (.aload_n 0, 1) := by decide +kernel
theorem dX5_pop_46 : decode cX5_pop 46 = .ok (.iconst 0, 1) := by decide +kernel
theorem dX5_pop_47 : decode cX5_pop 47 = .ok (.invokevirtual 209, 3) := by decide +kernel
theorem dX5_pop_50 : decode cX5_pop 50 = .ok (.bipush 7, 2) := by decide +kernel
theorem dX5_pop_52 : decode cX5_pop 52 = .ok (.if_icmp .eq 20, 3) := by decide +kernel
theorem dX5_pop_55 : decode cX5_pop 55 = .ok (.aload_n 0, 1) := by decide +kernel
theorem dX5_pop_56 : decode cX5_pop 56 = .ok (.bipush 7, 2) := by decide +kernel
theorem dX5_pop_58 : decode cX5_pop 58 = .ok (.aload_n 1, 1) := by decide +kernel
theorem dX5_pop_59 : decode cX5_pop 59 = .ok (.getfield 232, 3) := by decide +kernel
theorem dX5_pop_62 : decode cX5_pop 62 = .ok (.iconst 4, 1) := by decide +kernel
theorem dX5_pop_63 : decode cX5_pop 63 = .ok (.iadd, 1) := by decide +kernel
theorem dX5_pop_64 : decode cX5_pop 64 = .ok (.aload_n 1, 1) := by decide +kernel
theorem dX5_pop_65 : decode cX5_pop 65 = .ok (.getfield 241, 3) := by decide +kernel
theorem dX5_pop_68 : decode cX5_pop 68 = .ok (.iconst 0, 1) := by decide +kernel
theorem dX5_pop_69 : decode cX5_pop 69 = .ok (.invokevirtual 275, 3) := by decide +kernel
theorem dX5_pop_72 : decode cX5_pop 72 = .ok (.return_, 1) := by decide +kernel
theorem dX5_allot_0 : decode cX5_allot 0 = .ok (.aload_n 0, 1) := by decide +kernel
theorem dX5_allot_1 : decode cX5_allot 1 = .ok (.aload_n 0, 1) := by decide +kernel
theorem dX5_allot_2 : decode cX5_allot 2 = .ok (.getfield 50, 3) := by decide +kernel
theorem dX5_allot_5 : decode cX5_allot 5 = .ok (.iconst 1, 1) := by decide +kernel
theorem dX5_allot_6 : decode cX5_allot 6 = .ok (.invokevirtual 256, 3) := by decide +kernel
theorem dX5_allot_9 : decode cX5_allot 9 = .ok (.aload_n 0, 1) := by decide +kernel
theorem dX5_allot_10 : decode cX5_allot 10 = .ok (.iconst 5, 1) := by decide +kernel
theorem dX5_allot_11 : decode cX5_allot 11 = .ok (.aload_n 0, 1) := by decide +kernel
theorem dX5_allot_12 : decode cX5_allot 12 = .ok (.getfield 50, 3) := by decide +kernel
theorem dX5_allot_15 : decode cX5_allot 15 = .ok (.invokevirtual 259, 3) := by decide +kernel
theorem dX5_allot_18 : decode cX5_allot 18 = .ok (.aload_n 0, 1) := by decide +kernel
theorem dX5_allot_19 : decode cX5_allot 19 = .ok (.aload_n 0, 1) := by decide +kernel
theorem dX5_allot_20 : decode cX5_allot 20 = .ok (.iconst 0, 1) := by decide +kernel
theorem dX5_allot_21 : decode cX5_allot 21 = .ok (.invokevirtual 209, 3) := by decide +kernel
theorem dX5_allot_24 : decode cX5_allot 24 = .ok (.aload_n 0, 1) := by decide +kernel
theorem dX5_allot_25 : decode cX5_allot 25 = .ok (.aload_n 0, 1) := by decide +kernel
theorem dX5_allot_26 : decode cX5_allot 26 = .ok (.getfield 50, 3) := by decide +kernel
theorem dX5_allot_29 : decode cX5_allot 29 = .ok (.getfield 232, 3) := by decide +kernel
theorem dX5_allot_32 : decode cX5_allot 32 = .ok (.iload_n 1, 1) := by decide +kernel
theorem dX5_allot_33 : decode cX5_allot 33 = .ok (.bipush 42, 2) := by decide +kernel
theorem dX5_allot_35 : decode cX5_allot 35 = .ok (.if_icmp .ne 7, 3) := by decide +kernel
theorem dX5_allot_38 : decode cX5_allot 38 = .ok (.iconst 1, 1) := by decide +kernel
theorem dX5_allot_39 : decode cX5_allot 39 = .ok (.goto 4, 3) := by decide +kernel
theorem dX5_allot_42 : decode cX5_allot 42 = .ok (.iconst 0, 1) := by decide +kernel
theorem dX5_allot_43 : decode cX5_allot 43 = .ok (.invokevirtual 296, 3) := by decide +kernel
theorem dX5_allot_46 : decode cX5_allot 46 = .ok (.iconst 0, 1) := by decide +kernel
theorem dX5_allot_47 : decode cX5_allot 47 = .ok (.iconst 0, 1) := by decide +kernel
theorem dX5_allot_48 : decode cX5_allot 48 = .ok (.invokevirtual 275, 3) := by decide +kernel
theorem dX5_allot_51 : decode cX5_allot 51 = .ok (.return_, 1) := by decide +kernel
theorem dX5_allotBlock_0 : decode cX5_allotBlock 0 = .ok (.aload_n 0, 1) := by decide +kernel
theorem dX5_allotBlock_1 : decode cX5_allotBlock 1 = .ok (.getfield 21, 3) := by decide +kernel
theorem dX5_allotBlock_4 : decode cX5_allotBlock 4 = .ok (.iload_n 1, 1) := by decide +kernel
theorem dX5_allotBlock_5 : decode cX5_allotBlock 5 = .ok (.aload_n 0, 1) := by decide +kernel
theorem dX5_allotBlock_6 : decode cX5_allotBlock 6 = .ok (.getfield 108, 3) := by decide +kernel
theorem dX5_allotBlock_9 : decode cX5_allotBlock 9 = .ok (.invokevirtual 300, 3) := by decide +kernel
theorem dX5_allotBlock_12 : decode cX5_allotBlock 12 = .ok (.istore_n 3, 1) := by decide +kernel
theorem dX5_allotBlock_13 : decode cX5_allotBlock 13 = .ok (.iload_n 3, 1) := by decide +kernel
theorem dX5_allotBlock_14 : decode cX5_allotBlock 14 = .ok (.ifCond .ne 5, 3) := by decide +kernel
theorem dX5_allotBlock_17 : decode cX5_allotBlock 17 = .ok (.iconst 0, 1) := by decide +kernel
theorem dX5_allotBlock_18 : decode cX5_allotBlock 18 = .ok (.ireturn, 1) := by decide +kernel
theorem dX5_allotBlock_19 : decode cX5_allotBlock 19 = .ok (.aload_n 0, 1) := by decide +kernel
theorem dX5_allotBlock_20 : decode cX5_allotBlock 20 = .ok (.getfield 21, 3) := by decide +kernel
theorem dX5_allotBlock_23 : decode cX5_allotBlock 23 = .ok (.getfield 303, 3) := by decide +kernel
theorem dX5_allotBlock_26 : decode cX5_allotBlock 26 = .ok (.iload_n 3, 1) := by decide +kernel
theorem dX5_allotBlock_27 : decode cX5_allotBlock 27 = .ok (.iaload, 1) := by decide +kernel
theorem dX5_allotBlock_28 : decode cX5_allotBlock 28 = .ok (.istore 4, 2) := by decide +kernel
theorem dX5_allotBlock_30 : decode cX5_allotBlock 30 = .ok (.iload_n 2, 1) := by decide +kernel
theorem dX5_allotBlock_31 : decode cX5_allotBlock 31 = .ok (.ifCond .eq 16, 3) := by decide +kernel
theorem dX5_allotBlock_34 : decode cX5_allotBlock 34 = .ok (.aload_n 0, 1) := by decide +kernel
theorem dX5_allotBlock_35 : decode cX5_allotBlock 35 = .ok (.getfield 12, 3) := by decide +kernel
theorem dX5_allotBlock_38 : decode cX5_allotBlock 38 = .ok (.iload 4, 2) := by decide +kernel
theorem dX5_allotBlock_40 : decode cX5_allotBlock 40 = .ok (.iload_n 1, 1) := by decide +kernel
theorem dX5_allotBlock_41 : decode cX5_allotBlock 41 = .ok (.invokevirtual 306, 3) := by decide +kernel
theorem dX5_allotBlock_44 : decode cX5_allotBlock 44 = .ok (.goto 17, 3) := by decide +kernel
theorem dX5_allotBlock_47 : decode cX5_allotBlock 47 = .ok (.aload_n 0, 1) := by decide +kernel
theorem dX5_allotBlock_48 : decode cX5_allotBlock 48 = .ok (.getfield 12, 3) := by decide +kernel
theorem dX5_allotBlock_51 : decode cX5_allotBlock 51 = .ok (.iload 4, 2) := by decide +kernel
theorem dX5_allotBlock_53 : decode cX5_allotBlock 53 = .ok (.iload_n 1, 1) := by decide +kernel
theorem dX5_allotBlock_54 : decode cX5_allotBlock 54 = .ok (.bipush 8, 2) := by decide +kernel
theorem dX5_allotBlock_56 : decode cX5_allotBlock 56 = .ok (.iload_n 3, 1) := by decide +kernel
theorem dX5_allotBlock_57 : decode cX5_allotBlock 57 = .ok (.iadd, 1) := by decide +kernel
theorem dX5_allotBlock_58 : decode cX5_allotBlock 58 = .ok (.invokevirtual 310, 3) := by decide +kernel
theorem dX5_allotBlock_61 : decode cX5_allotBlock 61 = .ok (.iload 4, 2) := by decide +kernel
theorem dX5_allotBlock_63 : decode cX5_allotBlock 63 = .ok (.ireturn, 1) := by decide +kernel
theorem dX5_giveBack_0 : decode cX5_giveBack 0 = .ok (.aload_n 0, 1) := by decide +kernel
theorem dX5_giveBack_1 : decode cX5_giveBack 1 = .ok (.aload_n 0, 1) := by decide +kernel
theorem dX5_giveBack_2 : decode cX5_giveBack 2 = .ok (.getfield 46, 3) := by decide +kernel
theorem dX5_giveBack_5 : decode cX5_giveBack 5 = .ok (.iconst 0, 1) := by decide +kernel
theorem dX5_giveBack_6 : decode cX5_giveBack 6 = .ok (.invokevirtual 225, 3) := by decide +kernel
theorem dX5_giveBack_9 : decode cX5_giveBack 9 = .ok (.aload_n 0, 1) := by decide +kernel
theorem dX5_giveBack_10 : decode cX5_giveBack 10 = .ok (.iconst 2, 1) := by decide +kernel
theorem dX5_giveBack_11 : decode cX5_giveBack 11 = .ok (.aload_n 0, 1) := by decide +kernel
theorem dX5_giveBack_12 : decode cX5_giveBack 12 = .ok (.getfield 46, 3) := by decide +kernel
theorem dX5_giveBack_15 : decode cX5_giveBack 15 = .ok (.invokevirtual 259, 3) := by decide +kernel
theorem dX5_giveBack_18 : decode cX5_giveBack 18 = .ok (.aload_n 0, 1) := by decide +kernel
theorem dX5_giveBack_19 : decode cX5_giveBack 19 = .ok (.getfield 46, 3) := by decide +kernel
theorem dX5_giveBack_22 : decode cX5_giveBack 22 = .ok (.getfield 232, 3) := by decide +kernel
theorem dX5_giveBack_25 : decode cX5_giveBack 25 = .ok (.ifCond .eq 24, 3) := by decide +kernel
theorem dX5_giveBack_28 : decode cX5_giveBack 28 = .ok (.aload_n 0, 1) := by decide +kernel
theorem dX5_giveBack_29 : decode cX5_giveBack 29 = .ok (.aload_n 0, 1) := by decide +kernel
theorem dX5_giveBack_30 : decode cX5_giveBack 30 = .ok (.getfield 46, 3) := by decide +kernel
theorem dX5_giveBack_33 : decode cX5_giveBack 33 = .ok (.getfield 232, 3) := by decide +kernel
theorem dX5_giveBack_36 : decode cX5_giveBack 36 = .ok (.invokevirtual 313, 3) := by decide +kernel
theorem dX5_giveBack_39 : decode cX5_giveBack 39 = .ok (.istore_n 1, 1) := by decide +kernel
theorem dX5_giveBack_40 : decode cX5_giveBack 40 = .ok (.iload_n 1, 1) := by decide +kernel
theorem dX5_giveBack_41 : decode cX5_giveBack 41 = .ok (.ifCond .eq 8, 3) := by decide +kernel
theorem dX5_giveBack_44 : decode cX5_giveBack 44 = .ok (.aload_n 0, 1) := by decide +kernel
theorem dX5_giveBack_45 : decode cX5_giveBack 45 = .ok (.iload_n 1, 1) := by decide +kernel
theorem dX5_giveBack_46 : decode cX5_giveBack 46 = .ok (.invokevirtual 316, 3) := by decide +kernel
theorem dX5_giveBack_49 : decode cX5_giveBack 49 = .ok (.return_, 1) := by decide +kernel
theorem dX5_blockToFree_0 : decode cX5_blockToFree 0 = .ok (.aload_n 0, 1) := by decide +kernel
theorem dX5_blockToFree_1 : decode cX5_blockToFree 1 = .ok (.getfield 21, 3) := by decide +kernel
theorem dX5_blockToFree_4 : decode cX5_blockToFree 4 = .ok (.iload_n 1, 1) := by decide +kernel
theorem dX5_blockToFree_5 : decode cX5_blockToFree 5 = .ok (.invokevirtual 319, 3) := by decide +kernel
theorem dX5_blockToFree_8 : decode cX5_blockToFree 8 = .ok (.istore_n 2, 1) := by decide +kernel
theorem dX5_blockToFree_9 : decode cX5_blockToFree 9 = .ok (.iload_n 2, 1) := by decide +kernel
theorem dX5_blockToFree_10 : decode cX5_blockToFree 10 = .ok (.ifCond .ne 24, 3) := by decide +kernel
theorem dX5_blockToFree_13 : decode cX5_blockToFree 13 = .ok (.aload_n 0, 1) := by decide +kernel
theorem dX5_blockToFree_14 : decode cX5_blockToFree 14 = .ok (.getfield 35, 3) := by decide +kernel
theorem dX5_blockToFree_17 : decode cX5_blockToFree 17 = .ok (.bipush 7, 2) := by decide +kernel
theorem dX5_blockToFree_19 : decode cX5_blockToFree 19 = .ok (.aload_n 0, 1) := by decide +kernel
theorem dX5_blockToFree_20 : decode cX5_blockToFree 20 = .ok (.getfield 108, 3) := by decide +kernel
theorem dX5_blockToFree_23 : decode cX5_blockToFree 23 = .ok (.aload_n 0, 1) := by decide +kernel
theorem dX5_blockToFree_24 : decode cX5_blockToFree 24 = .ok (.getfield 21, 3) := by decide +kernel
theorem dX5_blockToFree_27 : decode cX5_blockToFree 27 = .ok (.iload_n 1, 1) := by decide +kernel
theorem dX5_blockToFree_28 : decode cX5_blockToFree 28 = .ok (.invokevirtual 253, 3) := by decide +kernel
theorem dX5_blockToFree_31 : decode cX5_blockToFree 31 = .ok (.invokevirtual 247, 3) := by decide +kernel
theorem dX5_blockToFree_34 : decode cX5_blockToFree 34 = .ok (.iload_n 2, 1) := by decide +kernel
theorem dX5_blockToFree_35 : decode cX5_blockToFree 35 = .ok (.ireturn, 1) := by decide +kernel
theorem dX5_keepBlock_0 : decode cX5_keepBlock 0 = .ok (.aload_n 0, 1) := by decide +kernel
theorem dX5_keepBlock_1 : decode cX5_keepBlock 1 = .ok (.getfield 12, 3) := by decide +kernel
theorem dX5_keepBlock_4 : decode cX5_keepBlock 4 = .ok (.aload_n 0, 1) := by decide +kernel
theorem dX5_keepBlock_5 : decode cX5_keepBlock 5 = .ok (.getfield 21, 3) := by decide +kernel
theorem dX5_keepBlock_8 : decode cX5_keepBlock 8 = .ok (.getfield 303, 3) := by decide +kernel
theorem dX5_keepBlock_11 : decode cX5_keepBlock 11 = .ok (.iload_n 1, 1) := by decide +kernel
theorem dX5_keepBlock_12 : decode cX5_keepBlock 12 = .ok (.iaload, 1) := by decide +kernel
theorem dX5_keepBlock_13 : decode cX5_keepBlock 13 = .ok (.aload_n 0, 1) := by decide +kernel
theorem dX5_keepBlock_14 : decode cX5_keepBlock 14 = .ok (.getfield 21, 3) := by decide +kernel
theorem dX5_keepBlock_17 : decode cX5_keepBlock 17 = .ok (.getfield 322, 3) := by decide +kernel
theorem dX5_keepBlock_20 : decode cX5_keepBlock 20 = .ok (.iload_n 1, 1) := by decide +kernel
theorem dX5_keepBlock_21 : decode cX5_keepBlock 21 = .ok (.iaload, 1) := by decide +kernel
theorem dX5_keepBlock_22 : decode cX5_keepBlock 22 = .ok (.invokevirtual 325, 3) := by decide +kernel
theorem dX5_keepBlock_25 : decode cX5_keepBlock 25 = .ok (.aload_n 0, 1) := by decide +kernel
theorem dX5_keepBlock_26 : decode cX5_keepBlock 26 = .ok (.getfield 21, 3) := by decide +kernel
theorem dX5_keepBlock_29 : decode cX5_keepBlock 29 = .ok (.iload_n 1, 1) := by decide +kernel
theorem dX5_keepBlock_30 : decode cX5_keepBlock 30 = .ok (.aload_n 0, 1) := by decide +kernel
theorem dX5_keepBlock_31 : decode cX5_keepBlock 31 = .ok (.getfield 108, 3) := by decide +kernel
theorem dX5_keepBlock_34 : decode cX5_keepBlock 34 = .ok (.invokevirtual 328, 3) := by decide +kernel
theorem dX5_keepBlock_37 : decode cX5_keepBlock 37 = .ok (.return_, 1) := by decide +kernel
theorem dX5_grow_0 : decode cX5_grow 0 = .ok (.aload_n 0, 1) := by decide +kernel
theorem dX5_grow_1 : decode cX5_grow 1 = .ok (.aload_n 0, 1) := by decide +kernel
theorem dX5_grow_2 : decode cX5_grow 2 = .ok (.getfield 46, 3) := by decide +kernel
theorem dX5_grow_5 : decode cX5_grow 5 = .ok (.iconst 1, 1) := by decide +kernel
theorem dX5_grow_6 : decode cX5_grow 6 = .ok (.invokevirtual 225, 3) := by decide +kernel
theorem dX5_grow_9 : decode cX5_grow 9 = .ok (.aload_n 0, 1) := by decide +kernel
theorem dX5_grow_10 : decode cX5_grow 10 = .ok (.aload_n 0, 1) := by decide +kernel
theorem dX5_grow_11 : decode cX5_grow 11 = .ok (.getfield 50, 3) := by decide +kernel
theorem dX5_grow_14 : decode cX5_grow 14 = .ok (.iconst 2, 1) := by decide +kernel
theorem dX5_grow_15 : decode cX5_grow 15 = .ok (.invokevirtual 256, 3) := by decide +kernel
theorem dX5_grow_18 : decode cX5_grow 18 = .ok (.aload_n 0, 1) := by decide +kernel
theorem dX5_grow_19 : decode cX5_grow 19 = .ok (.iconst 2, 1) := by decide +kernel
theorem dX5_grow_20 : decode cX5_grow 20 = .ok (.aload_n 0, 1) := by decide +kernel
theorem dX5_grow_21 : decode cX5_grow 21 = .ok (.getfield 46, 3) := by decide +kernel
theorem dX5_grow_24 : decode cX5_grow 24 = .ok (.invokevirtual 259, 3) := by decide +kernel
theorem dX5_grow_27 : decode cX5_grow 27 = .ok (.aload_n 0, 1) := by decide +kernel
theorem dX5_grow_28 : decode cX5_grow 28 = .ok (.iconst 5, 1) := by decide +kernel
theorem dX5_grow_29 : decode cX5_grow 29 = .ok (.aload_n 0, 1) := by decide +kernel
theorem dX5_grow_30 : decode cX5_grow 30 = .ok (.getfield 50, 3) := by decide +kernel
theorem dX5_grow_33 : decode cX5_grow 33 = .ok (.invokevirtual 259, 3) := by decide +kernel
theorem dX5_grow_36 : decode cX5_grow 36 = .ok (.aload_n 0, 1) := by decide +kernel
theorem dX5_grow_37 : decode cX5_grow 37 = .ok (.getfield 46, 3) := by decide +kernel
theorem dX5_grow_40 : decode cX5_grow 40 = .ok (.getfield 232, 3) := by decide +kernel
theorem dX5_grow_43 : decode cX5_grow 43 = .ok (.ifCond .ne 7, 3) := by decide +kernel
theorem dX5_grow_46 : decode cX5_grow 46 = .ok (.iconst 0, 1) := by decide +kernel
theorem dX5_grow_47 : decode cX5_grow 47 = .ok (.goto 14, 3) := by decide +kernel
theorem dX5_grow_50 : decode cX5_grow 50 = .ok (.aload_n 0, 1) := by decide +kernel
theorem dX5_grow_51 : decode cX5_grow 51 = .ok (.aload_n 0, 1) := by decide +kernel
theorem dX5_grow_52 : decode cX5_grow 52 = .ok (.getfield 46, 3) := by decide +kernel
theorem dX5_grow_55 : decode cX5_grow 55 = .ok (.getfield 232, 3) := by decide +kernel
theorem dX5_grow_58 : decode cX5_grow 58 = .ok (.invokevirtual 313, 3) := by decide +kernel
theorem dX5_grow_61 : decode cX5_grow 61 = .ok (.istore_n 1, 1) := by decide +kernel
theorem dX5_grow_62 : decode cX5_grow 62 = .ok (.aload_n 0, 1) := by decide +kernel
theorem dX5_grow_63 : decode cX5_grow 63 = .ok (.getfield 46, 3) := by decide +kernel
theorem dX5_grow_66 : decode cX5_grow 66 = .ok (.getfield 232, 3) := by decide +kernel
theorem dX5_grow_69 : decode cX5_grow 69 = .ok (.ifCond .eq 11, 3) := by decide +kernel
theorem dX5_grow_72 : decode cX5_grow 72 = .ok (.iload_n 1, 1) := by decide +kernel
theorem dX5_grow_73 : decode cX5_grow 73 = .ok (.ifCond .ne 7, 3) := by decide +kernel
theorem dX5_grow_76 : decode cX5_grow 76 = .ok (.iconst 1, 1) := by decide +kernel
theorem dX5_grow_77 : decode cX5_grow 77 = .ok (.goto 4, 3) := by decide +kernel
theorem dX5_grow_80 : decode cX5_grow 80 = .ok (.iconst 0, 1) := by decide +kernel
theorem dX5_grow_81 : decode cX5_grow 81 = .ok (.istore_n 2, 1) := by decide +kernel
theorem dX5_grow_82 : decode cX5_grow 82 = .ok (.iload_n 2, 1) := by decide +kernel
theorem dX5_grow_83 : decode cX5_grow 83 = .ok (.ifCond .eq 7, 3) := by decide +kernel
theorem dX5_grow_86 : decode cX5_grow 86 = .ok (.iconst 0, 1) := by decide +kernel
theorem dX5_grow_87 : decode cX5_grow 87 = .ok (.goto 15, 3) := by decide +kernel
theorem dX5_grow_90 : decode cX5_grow 90 = .ok (.aload_n 0, 1) := by decide +kernel
theorem dX5_grow_91 : decode cX5_grow 91 = .ok (.aload_n 0, 1) := by decide +kernel
theorem dX5_grow_92 : decode cX5_grow 92 = .ok (.getfield 50, 3) := by decide +kernel
theorem dX5_grow_95 : decode cX5_grow 95 = .ok (.getfield 232, 3) := by decide +kernel
theorem dX5_grow_98 : decode cX5_grow 98 = .ok (.iconst 0, 1) := by decide +kernel
theorem dX5_grow_99 : decode cX5_grow 99 = .ok (.invokevirtual 296, 3) := by decide +kernel
theorem dX5_grow_102 : decode cX5_grow 102 = .ok (.istore_n 3, 1) := by decide +kernel
theorem dX5_grow_103 : decode cX5_grow 103 = .ok (.iload_n 3, 1) := by decide +kernel
theorem dX5_grow_104 : decode cX5_grow 104 = .ok (.ifCond .eq 46, 3) := by decide +kernel
theorem dX5_grow_107 : decode cX5_grow 107 = .ok (.iload_n 1, 1) := by decide +kernel
theorem dX5_grow_108 : decode cX5_grow 108 = .ok (.ifCond .eq 42, 3) := by decide +kernel
theorem dX5_grow_111 : decode cX5_grow 111 = .ok (.aload_n 0, 1) := by decide +kernel
theorem dX5_grow_112 : decode cX5_grow 112 = .ok (.getfield 12, 3) := by decide +kernel
theorem dX5_grow_115 : decode cX5_grow 115 = .ok (.aload_n 0, 1) := by decide +kernel
theorem dX5_grow_116 : decode cX5_grow 116 = .ok (.getfield 46, 3) := by decide +kernel
theorem dX5_grow_119 : decode cX5_grow 119 = .ok (.getfield 232, 3) := by decide +kernel
theorem dX5_grow_122 : decode cX5_grow 122 = .ok (.iload_n 3, 1) := by decide +kernel
theorem dX5_grow_123 : decode cX5_grow 123 = .ok (.aload_n 0, 1) := by decide +kernel
theorem dX5_grow_124 : decode cX5_grow 124 = .ok (.getfield 21, 3) := by decide +kernel
theorem dX5_grow_127 : decode cX5_grow 127 = .ok (.getfield 322, 3) := by decide +kernel
theorem dX5_grow_130 : decode cX5_grow 130 = .ok (.iload_n 1, 1) := by decide +kernel
theorem dX5_grow_131 : decode cX5_grow 131 = .ok (.iaload, 1) := by decide +kernel
theorem dX5_grow_132 : decode cX5_grow 132 = .ok (.aload_n 0, 1) := by decide +kernel
theorem dX5_grow_133 : decode cX5_grow 133 = .ok (.getfield 50, 3) := by decide +kernel
theorem dX5_grow_136 : decode cX5_grow 136 = .ok (.getfield 232, 3) := by decide +kernel
theorem dX5_grow_139 : decode cX5_grow 139 = .ok (.invokestatic 331, 3) := by decide +kernel
theorem dX5_grow_142 : decode cX5_grow 142 = .ok (.invokevirtual 336, 3) := by decide +kernel
theorem dX5_grow_145 : decode cX5_grow 145 = .ok (.aload_n 0, 1) := by decide +kernel
theorem dX5_grow_146 : decode cX5_grow 146 = .ok (.iload_n 1, 1) := by decide +kernel
theorem dX5_grow_147 : decode cX5_grow 147 = .ok (.invokevirtual 316, 3) := by decide +kernel
theorem dX5_grow_150 : decode cX5_grow 150 = .ok (.aload_n 0, 1) := by decide +kernel
theorem dX5_grow_151 : decode cX5_grow 151 = .ok (.aload_n 0, 1) := by decide +kernel
theorem dX5_grow_152 : decode cX5_grow 152 = .ok (.iconst 0, 1) := by decide +kernel
theorem dX5_grow_153 : decode cX5_grow 153 = .ok (.invokevirtual 209, 3) := by decide +kernel
theorem dX5_grow_156 : decode cX5_grow 156 = .ok (.iload_n 3, 1) := by decide +kernel
theorem dX5_grow_157 : decode cX5_grow 157 = .ok (.iconst 0, 1) := by decide +kernel
theorem dX5_grow_158 : decode cX5_grow 158 = .ok (.iconst 0, 1) := by decide +kernel
theorem dX5_grow_159 : decode cX5_grow 159 = .ok (.invokevirtual 275, 3) := by decide +kernel
theorem dX5_grow_162 : decode cX5_grow 162 = .ok (.return_, 1) := by decide +kernel
theorem dX5_isCount_0 : decode cX5_isCount 0 = .ok (.iload_n 0, 1) := by decide +kernel
theorem dX5_isCount_1 : decode cX5_isCount 1 = .ok (.ifCond .lt 14, 3) := by decide +kernel
theorem dX5_isCount_4 : decode cX5_isCount 4 = .ok (.iload_n 0, 1) := by decide +kernel
theorem dX5_isCount_5 : decode cX5_isCount 5 = .ok (.sipush 256, 3) := by decide +kernel
theorem dX5_isCount_8 : decode cX5_isCount 8 = .ok (.if_icmp .gt 7, 3) := by decide +kernel
theorem dX5_isCount_11 : decode cX5_isCount 11 = .ok (.iconst 1, 1) := by decide +kernel
theorem dX5_isCount_12 : decode cX5_isCount 12 = .ok (.goto 4, 3) := by decide +kernel
theorem dX5_isCount_15 : decode cX5_isCount 15 = .ok (.iconst 0, 1) := by decide +kernel
theorem dX5_isCount_16 : decode cX5_isCount 16 = .ok (.ireturn, 1) := by decide +kernel
theorem dX5_copyBytes_0 : decode cX5_copyBytes 0 = .ok (.aload_n 0, 1) := by decide +kernel
theorem dX5_copyBytes_1 : decode cX5_copyBytes 1 = .ok (.iconst 0, 1) := by decide +kernel
theorem dX5_copyBytes_2 : decode cX5_copyBytes 2 = .ok (.invokevirtual 213, 3) := by decide +kernel
theorem dX5_copyBytes_5 : decode cX5_copyBytes 5 = .ok (.getfield 232, 3) := by decide +kernel
theorem dX5_copyBytes_8 : decode cX5_copyBytes 8 = .ok (.istore_n 1, 1) := by decide +kernel
theorem dX5_copyBytes_9 : decode cX5_copyBytes 9 = .ok (.aload_n 0, 1) := by decide +kernel
theorem dX5_copyBytes_10 : decode cX5_copyBytes 10 = .ok (.aload_n 0, 1) := by decide +kernel
theorem dX5_copyBytes_11 : decode cX5_copyBytes 11 = .ok (.getfield 46, 3) := by decide +kernel
theorem dX5_copyBytes_14 : decode cX5_copyBytes 14 = .ok (.iconst 1, 1) := by decide +kernel
theorem dX5_copyBytes_15 : decode cX5_copyBytes 15 = .ok (.invokevirtual 225, 3) := by decide +kernel
theorem dX5_copyBytes_18 : decode cX5_copyBytes 18 = .ok (.aload_n 0, 1) := by decide +kernel
theorem dX5_copyBytes_19 : decode cX5_copyBytes 19 = .ok (.aload_n 0, 1) := by decide +kernel
theorem dX5_copyBytes_20 : decode cX5_copyBytes 20 = .ok (.getfield 50, 3) := by decide +kernel
theorem dX5_copyBytes_23 : decode cX5_copyBytes 23 = .ok (.iconst 2, 1) := by decide +kernel
theorem dX5_copyBytes_24 : decode cX5_copyBytes 24 = .ok (.invokevirtual 256, 3) := by decide +kernel
theorem dX5_copyBytes_27 : decode cX5_copyBytes 27 = .ok (.aload_n 0, 1) := by decide +kernel
theorem dX5_copyBytes_28 : decode cX5_copyBytes 28 = .ok (.iconst 2, 1) := by decide +kernel
theorem dX5_copyBytes_29 : decode cX5_copyBytes 29 = .ok (.aload_n 0, 1) := by decide +kernel
theorem dX5_copyBytes_30 : decode cX5_copyBytes 30 = .ok (.iconst 0, 1) := by decide +kernel
theorem dX5_copyBytes_31 : decode cX5_copyBytes 31 = .ok (.invokevirtual 213, 3) := by decide +kernel
theorem dX5_copyBytes_34 : decode cX5_copyBytes 34 = .ok (.invokevirtual 259, 3) := by decide +kernel
