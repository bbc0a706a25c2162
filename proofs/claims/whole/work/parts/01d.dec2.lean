theorem dX5_copyBytes_37 : decode cX5_copyBytes 37 = .ok (.aload_n 0, 1) := by decide +kernel
theorem dX5_copyBytes_38 : decode cX5_copyBytes 38 = .ok (.iconst 2, 1) := by decide +kernel
theorem dX5_copyBytes_39 : decode cX5_copyBytes 39 = .ok (.aload_n 0, 1) := by decide +kernel
theorem dX5_copyBytes_40 : decode cX5_copyBytes 40 = .ok (.getfield 46, 3) := by decide +kernel
theorem dX5_copyBytes_43 : decode cX5_copyBytes 43 = .ok (.invokevirtual 259, 3) := by decide +kernel
theorem dX5_copyBytes_46 : decode cX5_copyBytes 46 = .ok (.aload_n 0, 1) := by decide +kernel
theorem dX5_copyBytes_47 : decode cX5_copyBytes 47 = .ok (.iconst 5, 1) := by decide +kernel
theorem dX5_copyBytes_48 : decode cX5_copyBytes 48 = .ok (.aload_n 0, 1) := by decide +kernel
theorem dX5_copyBytes_49 : decode cX5_copyBytes 49 = .ok (.getfield 50, 3) := by decide +kernel
theorem dX5_copyBytes_52 : decode cX5_copyBytes 52 = .ok (.invokevirtual 259, 3) := by decide +kernel
theorem dX5_copyBytes_55 : decode cX5_copyBytes 55 = .ok (.aload_n 0, 1) := by decide +kernel
theorem dX5_copyBytes_56 : decode cX5_copyBytes 56 = .ok (.getfield 50, 3) := by decide +kernel
theorem dX5_copyBytes_59 : decode cX5_copyBytes 59 = .ok (.getfield 232, 3) := by decide +kernel
theorem dX5_copyBytes_62 : decode cX5_copyBytes 62 = .ok (.invokestatic 339, 3) := by decide +kernel
theorem dX5_copyBytes_65 : decode cX5_copyBytes 65 = .ok (.ifCond .ne 11, 3) := by decide +kernel
theorem dX5_copyBytes_68 : decode cX5_copyBytes 68 = .ok (.aload_n 0, 1) := by decide +kernel
theorem dX5_copyBytes_69 : decode cX5_copyBytes 69 = .ok (.iconst 4, 1) := by decide +kernel
theorem dX5_copyBytes_70 : decode cX5_copyBytes 70 = .ok (.invokevirtual 229, 3) := by decide +kernel
theorem dX5_copyBytes_73 : decode cX5_copyBytes 73 = .ok (.goto 61, 3) := by decide +kernel
theorem dX5_copyBytes_76 : decode cX5_copyBytes 76 = .ok (.aload_n 0, 1) := by decide +kernel
theorem dX5_copyBytes_77 : decode cX5_copyBytes 77 = .ok (.aload_n 0, 1) := by decide +kernel
theorem dX5_copyBytes_78 : decode cX5_copyBytes 78 = .ok (.getfield 46, 3) := by decide +kernel
theorem dX5_copyBytes_81 : decode cX5_copyBytes 81 = .ok (.getfield 232, 3) := by decide +kernel
theorem dX5_copyBytes_84 : decode cX5_copyBytes 84 = .ok (.aload_n 0, 1) := by decide +kernel
theorem dX5_copyBytes_85 : decode cX5_copyBytes 85 = .ok (.getfield 50, 3) := by decide +kernel
theorem dX5_copyBytes_88 : decode cX5_copyBytes 88 = .ok (.getfield 232, 3) := by decide +kernel
theorem dX5_copyBytes_91 : decode cX5_copyBytes 91 = .ok (.invokevirtual 279, 3) := by decide +kernel
theorem dX5_copyBytes_94 : decode cX5_copyBytes 94 = .ok (.ifCond .eq 40, 3) := by decide +kernel
theorem dX5_copyBytes_97 : decode cX5_copyBytes 97 = .ok (.aload_n 0, 1) := by decide +kernel
theorem dX5_copyBytes_98 : decode cX5_copyBytes 98 = .ok (.iload_n 1, 1) := by decide +kernel
theorem dX5_copyBytes_99 : decode cX5_copyBytes 99 = .ok (.aload_n 0, 1) := by decide +kernel
theorem dX5_copyBytes_100 : decode cX5_copyBytes 100 = .ok (.getfield 50, 3) := by decide +kernel
theorem dX5_copyBytes_103 : decode cX5_copyBytes 103 = .ok (.getfield 232, 3) := by decide +kernel
theorem dX5_copyBytes_106 : decode cX5_copyBytes 106 = .ok (.invokevirtual 279, 3) := by decide +kernel
theorem dX5_copyBytes_109 : decode cX5_copyBytes 109 = .ok (.ifCond .eq 25, 3) := by decide +kernel
theorem dX5_copyBytes_112 : decode cX5_copyBytes 112 = .ok (.aload_n 0, 1) := by decide +kernel
theorem dX5_copyBytes_113 : decode cX5_copyBytes 113 = .ok (.getfield 12, 3) := by decide +kernel
theorem dX5_copyBytes_116 : decode cX5_copyBytes 116 = .ok (.aload_n 0, 1) := by decide +kernel
theorem dX5_copyBytes_117 : decode cX5_copyBytes 117 = .ok (.getfield 46, 3) := by decide +kernel
theorem dX5_copyBytes_120 : decode cX5_copyBytes 120 = .ok (.getfield 232, 3) := by decide +kernel
theorem dX5_copyBytes_123 : decode cX5_copyBytes 123 = .ok (.iload_n 1, 1) := by decide +kernel
theorem dX5_copyBytes_124 : decode cX5_copyBytes 124 = .ok (.aload_n 0, 1) := by decide +kernel
theorem dX5_copyBytes_125 : decode cX5_copyBytes 125 = .ok (.getfield 50, 3) := by decide +kernel
theorem dX5_copyBytes_128 : decode cX5_copyBytes 128 = .ok (.getfield 232, 3) := by decide +kernel
theorem dX5_copyBytes_131 : decode cX5_copyBytes 131 = .ok (.invokevirtual 336, 3) := by decide +kernel
theorem dX5_copyBytes_134 : decode cX5_copyBytes 134 = .ok (.return_, 1) := by decide +kernel
theorem dX5_fillBytes_0 : decode cX5_fillBytes 0 = .ok (.aload_n 0, 1) := by decide +kernel
theorem dX5_fillBytes_1 : decode cX5_fillBytes 1 = .ok (.iconst 0, 1) := by decide +kernel
theorem dX5_fillBytes_2 : decode cX5_fillBytes 2 = .ok (.invokevirtual 213, 3) := by decide +kernel
theorem dX5_fillBytes_5 : decode cX5_fillBytes 5 = .ok (.getfield 232, 3) := by decide +kernel
theorem dX5_fillBytes_8 : decode cX5_fillBytes 8 = .ok (.istore_n 1, 1) := by decide +kernel
theorem dX5_fillBytes_9 : decode cX5_fillBytes 9 = .ok (.aload_n 0, 1) := by decide +kernel
theorem dX5_fillBytes_10 : decode cX5_fillBytes 10 = .ok (.aload_n 0, 1) := by decide +kernel
theorem dX5_fillBytes_11 : decode cX5_fillBytes 11 = .ok (.getfield 46, 3) := by decide +kernel
theorem dX5_fillBytes_14 : decode cX5_fillBytes 14 = .ok (.iconst 1, 1) := by decide +kernel
theorem dX5_fillBytes_15 : decode cX5_fillBytes 15 = .ok (.invokevirtual 225, 3) := by decide +kernel
theorem dX5_fillBytes_18 : decode cX5_fillBytes 18 = .ok (.aload_n 0, 1) := by decide +kernel
theorem dX5_fillBytes_19 : decode cX5_fillBytes 19 = .ok (.aload_n 0, 1) := by decide +kernel
theorem dX5_fillBytes_20 : decode cX5_fillBytes 20 = .ok (.getfield 50, 3) := by decide +kernel
theorem dX5_fillBytes_23 : decode cX5_fillBytes 23 = .ok (.iconst 2, 1) := by decide +kernel
theorem dX5_fillBytes_24 : decode cX5_fillBytes 24 = .ok (.invokevirtual 256, 3) := by decide +kernel
theorem dX5_fillBytes_27 : decode cX5_fillBytes 27 = .ok (.aload_n 0, 1) := by decide +kernel
theorem dX5_fillBytes_28 : decode cX5_fillBytes 28 = .ok (.iconst 2, 1) := by decide +kernel
theorem dX5_fillBytes_29 : decode cX5_fillBytes 29 = .ok (.aload_n 0, 1) := by decide +kernel
theorem dX5_fillBytes_30 : decode cX5_fillBytes 30 = .ok (.iconst 0, 1) := by decide +kernel
theorem dX5_fillBytes_31 : decode cX5_fillBytes 31 = .ok (.invokevirtual 213, 3) := by decide +kernel
theorem dX5_fillBytes_34 : decode cX5_fillBytes 34 = .ok (.invokevirtual 259, 3) := by decide +kernel
theorem dX5_fillBytes_37 : decode cX5_fillBytes 37 = .ok (.aload_n 0, 1) := by decide +kernel
theorem dX5_fillBytes_38 : decode cX5_fillBytes 38 = .ok (.iconst 5, 1) := by decide +kernel
theorem dX5_fillBytes_39 : decode cX5_fillBytes 39 = .ok (.aload_n 0, 1) := by decide +kernel
theorem dX5_fillBytes_40 : decode cX5_fillBytes 40 = .ok (.getfield 50, 3) := by decide +kernel
theorem dX5_fillBytes_43 : decode cX5_fillBytes 43 = .ok (.invokevirtual 259, 3) := by decide +kernel
theorem dX5_fillBytes_46 : decode cX5_fillBytes 46 = .ok (.aload_n 0, 1) := by decide +kernel
theorem dX5_fillBytes_47 : decode cX5_fillBytes 47 = .ok (.getfield 50, 3) := by decide +kernel
theorem dX5_fillBytes_50 : decode cX5_fillBytes 50 = .ok (.getfield 232, 3) := by decide +kernel
theorem dX5_fillBytes_53 : decode cX5_fillBytes 53 = .ok (.invokestatic 339, 3) := by decide +kernel
theorem dX5_fillBytes_56 : decode cX5_fillBytes 56 = .ok (.ifCond .ne 11, 3) := by decide +kernel
theorem dX5_fillBytes_59 : decode cX5_fillBytes 59 = .ok (.aload_n 0, 1) := by decide +kernel
theorem dX5_fillBytes_60 : decode cX5_fillBytes 60 = .ok (.iconst 4, 1) := by decide +kernel
theorem dX5_fillBytes_61 : decode cX5_fillBytes 61 = .ok (.invokevirtual 229, 3) := by decide +kernel
theorem dX5_fillBytes_64 : decode cX5_fillBytes 64 = .ok (.goto 37, 3) := by decide +kernel
theorem dX5_fillBytes_67 : decode cX5_fillBytes 67 = .ok (.aload_n 0, 1) := by decide +kernel
theorem dX5_fillBytes_68 : decode cX5_fillBytes 68 = .ok (.iload_n 1, 1) := by decide +kernel
theorem dX5_fillBytes_69 : decode cX5_fillBytes 69 = .ok (.aload_n 0, 1) := by decide +kernel
theorem dX5_fillBytes_70 : decode cX5_fillBytes 70 = .ok (.getfield 50, 3) := by decide +kernel
theorem dX5_fillBytes_73 : decode cX5_fillBytes 73 = .ok (.getfield 232, 3) := by decide +kernel
theorem dX5_fillBytes_76 : decode cX5_fillBytes 76 = .ok (.invokevirtual 279, 3) := by decide +kernel
theorem dX5_fillBytes_79 : decode cX5_fillBytes 79 = .ok (.ifCond .eq 22, 3) := by decide +kernel
theorem dX5_fillBytes_82 : decode cX5_fillBytes 82 = .ok (.aload_n 0, 1) := by decide +kernel
theorem dX5_fillBytes_83 : decode cX5_fillBytes 83 = .ok (.getfield 12, 3) := by decide +kernel
theorem dX5_fillBytes_86 : decode cX5_fillBytes 86 = .ok (.aload_n 0, 1) := by decide +kernel
theorem dX5_fillBytes_87 : decode cX5_fillBytes 87 = .ok (.getfield 46, 3) := by decide +kernel
theorem dX5_fillBytes_90 : decode cX5_fillBytes 90 = .ok (.iload_n 1, 1) := by decide +kernel
theorem dX5_fillBytes_91 : decode cX5_fillBytes 91 = .ok (.aload_n 0, 1) := by decide +kernel
theorem dX5_fillBytes_92 : decode cX5_fillBytes 92 = .ok (.getfield 50, 3) := by decide +kernel
theorem dX5_fillBytes_95 : decode cX5_fillBytes 95 = .ok (.getfield 232, 3) := by decide +kernel
theorem dX5_fillBytes_98 : decode cX5_fillBytes 98 = .ok (.invokevirtual 342, 3) := by decide +kernel
theorem dX5_fillBytes_101 : decode cX5_fillBytes 101 = .ok (.return_, 1) := by decide +kernel
theorem dX5_readInput_0 : decode cX5_readInput 0 = .ok (.iconst (-1), 1) := by decide +kernel
theorem dX5_readInput_1 : decode cX5_readInput 1 = .ok (.istore_n 1, 1) := by decide +kernel
theorem dX5_readInput_2 : decode cX5_readInput 2 = .ok (.aload_n 0, 1) := by decide +kernel
theorem dX5_readInput_3 : decode cX5_readInput 3 = .ok (.getfield 93, 3) := by decide +kernel
theorem dX5_readInput_6 : decode cX5_readInput 6 = .ok (.aload_n 0, 1) := by decide +kernel
theorem dX5_readInput_7 : decode cX5_readInput 7 = .ok (.getfield 60, 3) := by decide +kernel
theorem dX5_readInput_10 : decode cX5_readInput 10 = .ok (.getfield 345, 3) := by decide +kernel
theorem dX5_readInput_13 : decode cX5_readInput 13 = .ok (.if_icmp .ge 26, 3) := by decide +kernel
theorem dX5_readInput_16 : decode cX5_readInput 16 = .ok (.aload_n 0, 1) := by decide +kernel
theorem dX5_readInput_17 : decode cX5_readInput 17 = .ok (.getfield 60, 3) := by decide +kernel
theorem dX5_readInput_20 : decode cX5_readInput 20 = .ok (.getfield 348, 3) := by decide +kernel
theorem dX5_readInput_23 : decode cX5_readInput 23 = .ok (.aload_n 0, 1) := by decide +kernel
theorem dX5_readInput_24 : decode cX5_readInput 24 = .ok (.getfield 93, 3) := by decide +kernel
theorem dX5_readInput_27 : decode cX5_readInput 27 = .ok (.iaload, 1) := by decide +kernel
theorem dX5_readInput_28 : decode cX5_readInput 28 = .ok (.istore_n 1, 1) := by decide +kernel
theorem dX5_readInput_29 : decode cX5_readInput 29 = .ok (.aload_n 0, 1) := by decide +kernel
theorem dX5_readInput_30 : decode cX5_readInput 30 = .ok (.dup, 1) := by decide +kernel
theorem dX5_readInput_31 : decode cX5_readInput 31 = .ok (.getfield 93, 3) := by decide +kernel
theorem dX5_readInput_34 : decode cX5_readInput 34 = .ok (.iconst 1, 1) := by decide +kernel
theorem dX5_readInput_35 : decode cX5_readInput 35 = .ok (.iadd, 1) := by decide +kernel
theorem dX5_readInput_36 : decode cX5_readInput 36 = .ok (.putfield 93, 3) := by decide +kernel
theorem dX5_readInput_39 : decode cX5_readInput 39 = .ok (.aload_n 0, 1) := by decide +kernel
theorem dX5_readInput_40 : decode cX5_readInput 40 = .ok (.aload_n 0, 1) := by decide +kernel
theorem dX5_readInput_41 : decode cX5_readInput 41 = .ok (.iconst 0, 1) := by decide +kernel
theorem dX5_readInput_42 : decode cX5_readInput 42 = .ok (.invokevirtual 209, 3) := by decide +kernel
theorem dX5_readInput_45 : decode cX5_readInput 45 = .ok (.iload_n 1, 1) := by decide +kernel
theorem dX5_readInput_46 : decode cX5_readInput 46 = .ok (.iconst 0, 1) := by decide +kernel
theorem dX5_readInput_47 : decode cX5_readInput 47 = .ok (.iconst 0, 1) := by decide +kernel
theorem dX5_readInput_48 : decode cX5_readInput 48 = .ok (.invokevirtual 275, 3) := by decide +kernel
theorem dX5_readInput_51 : decode cX5_readInput 51 = .ok (.return_, 1) := by decide +kernel
theorem dX5_putOut_0 : decode cX5_putOut 0 = .ok (.aload_n 0, 1) := by decide +kernel
theorem dX5_putOut_1 : decode cX5_putOut 1 = .ok (.iconst 0, 1) := by decide +kernel
theorem dX5_putOut_2 : decode cX5_putOut 2 = .ok (.invokevirtual 213, 3) := by decide +kernel
theorem dX5_putOut_5 : decode cX5_putOut 5 = .ok (.astore_n 1, 1) := by decide +kernel
theorem dX5_putOut_6 : decode cX5_putOut 6 = .ok (.aload_n 0, 1) := by decide +kernel
theorem dX5_putOut_7 : decode cX5_putOut 7 = .ok (.iconst 3, 1) := by decide +kernel
theorem dX5_putOut_8 : decode cX5_putOut 8 = .ok (.aload_n 1, 1) := by decide +kernel
theorem dX5_putOut_9 : decode cX5_putOut 9 = .ok (.invokevirtual 259, 3) := by decide +kernel
theorem dX5_putOut_12 : decode cX5_putOut 12 = .ok (.aload_n 0, 1) := by decide +kernel
theorem dX5_putOut_13 : decode cX5_putOut 13 = .ok (.getfield 99, 3) := by decide +kernel
theorem dX5_putOut_16 : decode cX5_putOut 16 = .ok (.bipush 100, 2) := by decide +kernel
theorem dX5_putOut_18 : decode cX5_putOut 18 = .ok (.if_icmp .ge 16, 3) := by decide +kernel
theorem dX5_putOut_21 : decode cX5_putOut 21 = .ok (.aload_n 0, 1) := by decide +kernel
theorem dX5_putOut_22 : decode cX5_putOut 22 = .ok (.getfield 57, 3) := by decide +kernel
theorem dX5_putOut_25 : decode cX5_putOut 25 = .ok (.aload_n 0, 1) := by decide +kernel
theorem dX5_putOut_26 : decode cX5_putOut 26 = .ok (.getfield 99, 3) := by decide +kernel
theorem dX5_putOut_29 : decode cX5_putOut 29 = .ok (.aload_n 1, 1) := by decide +kernel
theorem dX5_putOut_30 : decode cX5_putOut 30 = .ok (.getfield 232, 3) := by decide +kernel
theorem dX5_putOut_33 : decode cX5_putOut 33 = .ok (.iastore, 1) := by decide +kernel
theorem dX5_putOut_34 : decode cX5_putOut 34 = .ok (.aload_n 0, 1) := by decide +kernel
theorem dX5_putOut_35 : decode cX5_putOut 35 = .ok (.dup, 1) := by decide +kernel
theorem dX5_putOut_36 : decode cX5_putOut 36 = .ok (.getfield 99, 3) := by decide +kernel
theorem dX5_putOut_39 : decode cX5_putOut 39 = .ok (.iconst 1, 1) := by decide +kernel
theorem dX5_putOut_40 : decode cX5_putOut 40 = .ok (.iadd, 1) := by decide +kernel
theorem dX5_putOut_41 : decode cX5_putOut 41 = .ok (.putfield 99, 3) := by decide +kernel
theorem dX5_putOut_44 : decode cX5_putOut 44 = .ok (.aload_n 0, 1) := by decide +kernel
theorem dX5_putOut_45 : decode cX5_putOut 45 = .ok (.iconst 3, 1) := by decide +kernel
theorem dX5_putOut_46 : decode cX5_putOut 46 = .ok (.invokevirtual 238, 3) := by decide +kernel
theorem dX5_putOut_49 : decode cX5_putOut 49 = .ok (.aload_n 0, 1) := by decide +kernel
theorem dX5_putOut_50 : decode cX5_putOut 50 = .ok (.aload_n 1, 1) := by decide +kernel
theorem dX5_putOut_51 : decode cX5_putOut 51 = .ok (.getfield 232, 3) := by decide +kernel
theorem dX5_putOut_54 : decode cX5_putOut 54 = .ok (.invokevirtual 238, 3) := by decide +kernel
theorem dX5_putOut_57 : decode cX5_putOut 57 = .ok (.return_, 1) := by decide +kernel
theorem dX5_isRange_0 : decode cX5_isRange 0 = .ok (.iload_n 2, 1) := by decide +kernel
theorem dX5_isRange_1 : decode cX5_isRange 1 = .ok (.invokestatic 339, 3) := by decide +kernel
theorem dX5_isRange_4 : decode cX5_isRange 4 = .ok (.ifCond .eq 15, 3) := by decide +kernel
theorem dX5_isRange_7 : decode cX5_isRange 7 = .ok (.iload_n 1, 1) := by decide +kernel
theorem dX5_isRange_8 : decode cX5_isRange 8 = .ok (.iload_n 2, 1) := by decide +kernel
theorem dX5_isRange_9 : decode cX5_isRange 9 = .ok (.invokestatic 351, 3) := by decide +kernel
theorem dX5_isRange_12 : decode cX5_isRange 12 = .ok (.ifCond .eq 7, 3) := by decide +kernel
theorem dX5_isRange_15 : decode cX5_isRange 15 = .ok (.iconst 1, 1) := by decide +kernel
theorem dX5_isRange_16 : decode cX5_isRange 16 = .ok (.goto 4, 3) := by decide +kernel
theorem dX5_isRange_19 : decode cX5_isRange 19 = .ok (.iconst 0, 1) := by decide +kernel
theorem dX5_isRange_20 : decode cX5_isRange 20 = .ok (.ireturn, 1) := by decide +kernel
theorem dX5_markBytes_0 : decode cX5_markBytes 0 = .ok (.aload_n 0, 1) := by decide +kernel
theorem dX5_markBytes_1 : decode cX5_markBytes 1 = .ok (.aload_n 0, 1) := by decide +kernel
theorem dX5_markBytes_2 : decode cX5_markBytes 2 = .ok (.getfield 46, 3) := by decide +kernel
theorem dX5_markBytes_5 : decode cX5_markBytes 5 = .ok (.iconst 0, 1) := by decide +kernel
theorem dX5_markBytes_6 : decode cX5_markBytes 6 = .ok (.invokevirtual 225, 3) := by decide +kernel
theorem dX5_markBytes_9 : decode cX5_markBytes 9 = .ok (.aload_n 0, 1) := by decide +kernel
theorem dX5_markBytes_10 : decode cX5_markBytes 10 = .ok (.aload_n 0, 1) := by decide +kernel
theorem dX5_markBytes_11 : decode cX5_markBytes 11 = .ok (.getfield 50, 3) := by decide +kernel
theorem dX5_markBytes_14 : decode cX5_markBytes 14 = .ok (.iconst 1, 1) := by decide +kernel
theorem dX5_markBytes_15 : decode cX5_markBytes 15 = .ok (.invokevirtual 256, 3) := by decide +kernel
theorem dX5_markBytes_18 : decode cX5_markBytes 18 = .ok (.aload_n 0, 1) := by decide +kernel
theorem dX5_markBytes_19 : decode cX5_markBytes 19 = .ok (.iconst 2, 1) := by decide +kernel
theorem dX5_markBytes_20 : decode cX5_markBytes 20 = .ok (.invokevirtual 209, 3) := by decide +kernel
theorem dX5_markBytes_23 : decode cX5_markBytes 23 = .ok (.istore_n 1, 1) := by decide +kernel
theorem dX5_markBytes_24 : decode cX5_markBytes 24 = .ok (.aload_n 0, 1) := by decide +kernel
theorem dX5_markBytes_25 : decode cX5_markBytes 25 = .ok (.iconst 2, 1) := by decide +kernel
theorem dX5_markBytes_26 : decode cX5_markBytes 26 = .ok (.aload_n 0, 1) := by decide +kernel
theorem dX5_markBytes_27 : decode cX5_markBytes 27 = .ok (.getfield 46, 3) := by decide +kernel
theorem dX5_markBytes_30 : decode cX5_markBytes 30 = .ok (.invokevirtual 259, 3) := by decide +kernel
theorem dX5_markBytes_33 : decode cX5_markBytes 33 = .ok (.aload_n 0, 1) := by decide +kernel
theorem dX5_markBytes_34 : decode cX5_markBytes 34 = .ok (.iconst 5, 1) := by decide +kernel
theorem dX5_markBytes_35 : decode cX5_markBytes 35 = .ok (.aload_n 0, 1) := by decide +kernel
theorem dX5_markBytes_36 : decode cX5_markBytes 36 = .ok (.getfield 50, 3) := by decide +kernel
theorem dX5_markBytes_39 : decode cX5_markBytes 39 = .ok (.invokevirtual 259, 3) := by decide +kernel
theorem dX5_markBytes_42 : decode cX5_markBytes 42 = .ok (.iload_n 1, 1) := by decide +kernel
theorem dX5_markBytes_43 : decode cX5_markBytes 43 = .ok (.ifCond .lt 29, 3) := by decide +kernel
theorem dX5_markBytes_46 : decode cX5_markBytes 46 = .ok (.iload_n 1, 1) := by decide +kernel
theorem dX5_markBytes_47 : decode cX5_markBytes 47 = .ok (.iconst 2, 1) := by decide +kernel
theorem dX5_markBytes_48 : decode cX5_markBytes 48 = .ok (.if_icmp .gt 24, 3) := by decide +kernel
theorem dX5_markBytes_51 : decode cX5_markBytes 51 = .ok (.aload_n 0, 1) := by decide +kernel
theorem dX5_markBytes_52 : decode cX5_markBytes 52 = .ok (.aload_n 0, 1) := by decide +kernel
theorem dX5_markBytes_53 : decode cX5_markBytes 53 = .ok (.getfield 46, 3) := by decide +kernel
theorem dX5_markBytes_56 : decode cX5_markBytes 56 = .ok (.getfield 232, 3) := by decide +kernel
theorem dX5_markBytes_59 : decode cX5_markBytes 59 = .ok (.aload_n 0, 1) := by decide +kernel
theorem dX5_markBytes_60 : decode cX5_markBytes 60 = .ok (.getfield 50, 3) := by decide +kernel
theorem dX5_markBytes_63 : decode cX5_markBytes 63 = .ok (.getfield 232, 3) := by decide +kernel
theorem dX5_markBytes_66 : decode cX5_markBytes 66 = .ok (.invokevirtual 354, 3) := by decide +kernel
theorem dX5_markBytes_69 : decode cX5_markBytes 69 = .ok (.ifCond .ne 9, 3) := by decide +kernel
theorem dX5_markBytes_72 : decode cX5_markBytes 72 = .ok (.aload_n 0, 1) := by decide +kernel
theorem dX5_markBytes_73 : decode cX5_markBytes 73 = .ok (.iconst 4, 1) := by decide +kernel
theorem dX5_markBytes_74 : decode cX5_markBytes 74 = .ok (.invokevirtual 229, 3) := by decide +kernel
theorem dX5_markBytes_77 : decode cX5_markBytes 77 = .ok (.return_, 1) := by decide +kernel
theorem dX5_markBytes_78 : decode cX5_markBytes 78 = .ok (.aload_n 0, 1) := by decide +kernel
theorem dX5_markBytes_79 : decode cX5_markBytes 79 = .ok (.getfield 12, 3) := by decide +kernel
theorem dX5_markBytes_82 : decode cX5_markBytes 82 = .ok (.aload_n 0, 1) := by decide +kernel
theorem dX5_markBytes_83 : decode cX5_markBytes 83 = .ok (.getfield 46, 3) := by decide +kernel
theorem dX5_markBytes_86 : decode cX5_markBytes 86 = .ok (.getfield 232, 3) := by decide +kernel
theorem dX5_markBytes_89 : decode cX5_markBytes 89 = .ok (.aload_n 0, 1) := by decide +kernel
theorem dX5_markBytes_90 : decode cX5_markBytes 90 = .ok (.getfield 50, 3) := by decide +kernel
theorem dX5_markBytes_93 : decode cX5_markBytes 93 = .ok (.getfield 232, 3) := by decide +kernel
theorem dX5_markBytes_96 : decode cX5_markBytes 96 = .ok (.invokevirtual 357, 3) := by decide +kernel
theorem dX5_markBytes_99 : decode cX5_markBytes 99 = .ok (.iload_n 1, 1) := by decide +kernel
theorem dX5_markBytes_100 : decode cX5_markBytes 100 = .ok (.ifCond .ne 27, 3) := by decide +kernel
theorem dX5_markBytes_103 : decode cX5_markBytes 103 = .ok (.aload_n 0, 1) := by decide +kernel
theorem dX5_markBytes_104 : decode cX5_markBytes 104 = .ok (.getfield 12, 3) := by decide +kernel
theorem dX5_markBytes_107 : decode cX5_markBytes 107 = .ok (.aload_n 0, 1) := by decide +kernel
theorem dX5_markBytes_108 : decode cX5_markBytes 108 = .ok (.getfield 46, 3) := by decide +kernel
theorem dX5_markBytes_111 : decode cX5_markBytes 111 = .ok (.getfield 232, 3) := by decide +kernel
theorem dX5_markBytes_114 : decode cX5_markBytes 114 = .ok (.aload_n 0, 1) := by decide +kernel
theorem dX5_markBytes_115 : decode cX5_markBytes 115 = .ok (.getfield 50, 3) := by decide +kernel
theorem dX5_markBytes_118 : decode cX5_markBytes 118 = .ok (.getfield 232, 3) := by decide +kernel
theorem dX5_markBytes_121 : decode cX5_markBytes 121 = .ok (.invokevirtual 325, 3) := by decide +kernel
theorem dX5_markBytes_124 : decode cX5_markBytes 124 = .ok (.goto 67, 3) := by decide +kernel
theorem dX5_markBytes_127 : decode cX5_markBytes 127 = .ok (.iload_n 1, 1) := by decide +kernel
theorem dX5_markBytes_128 : decode cX5_markBytes 128 = .ok (.iconst 1, 1) := by decide +kernel
theorem dX5_markBytes_129 : decode cX5_markBytes 129 = .ok (.if_icmp .ne 41, 3) := by decide +kernel
theorem dX5_markBytes_132 : decode cX5_markBytes 132 = .ok (.aload_n 0, 1) := by decide +kernel
theorem dX5_markBytes_133 : decode cX5_markBytes 133 = .ok (.getfield 12, 3) := by decide +kernel
theorem dX5_markBytes_136 : decode cX5_markBytes 136 = .ok (.aload_n 0, 1) := by decide +kernel
theorem dX5_markBytes_137 : decode cX5_markBytes 137 = .ok (.getfield 46, 3) := by decide +kernel
theorem dX5_markBytes_140 : decode cX5_markBytes 140 = .ok (.getfield 232, 3) := by decide +kernel
theorem dX5_markBytes_143 : decode cX5_markBytes 143 = .ok (.aload_n 0, 1) := by decide +kernel
theorem dX5_markBytes_144 : decode cX5_markBytes 144 = .ok (.getfield 50, 3) := by decide +kernel
theorem dX5_markBytes_147 : decode cX5_markBytes 147 = .ok (.getfield 232, 3) := by decide +kernel
theorem dX5_markBytes_150 : decode cX5_markBytes 150 = .ok (.sipush 256, 3) := by decide +kernel
theorem dX5_markBytes_153 : decode cX5_markBytes 153 = .ok (.aload_n 0, 1) := by decide +kernel
theorem dX5_markBytes_154 : decode cX5_markBytes 154 = .ok (.getfield 108, 3) := by decide +kernel
theorem dX5_markBytes_157 : decode cX5_markBytes 157 = .ok (.sipush 255, 3) := by decide +kernel
theorem dX5_markBytes_160 : decode cX5_markBytes 160 = .ok (.invokestatic 331, 3) := by decide +kernel
theorem dX5_markBytes_163 : decode cX5_markBytes 163 = .ok (.iadd, 1) := by decide +kernel
theorem dX5_markBytes_164 : decode cX5_markBytes 164 = .ok (.invokevirtual 310, 3) := by decide +kernel
theorem dX5_markBytes_167 : decode cX5_markBytes 167 = .ok (.goto 24, 3) := by decide +kernel
theorem dX5_markBytes_170 : decode cX5_markBytes 170 = .ok (.aload_n 0, 1) := by decide +kernel
theorem dX5_markBytes_171 : decode cX5_markBytes 171 = .ok (.getfield 12, 3) := by decide +kernel
theorem dX5_markBytes_174 : decode cX5_markBytes 174 = .ok (.aload_n 0, 1) := by decide +kernel
theorem dX5_markBytes_175 : decode cX5_markBytes 175 = .ok (.getfield 46, 3) := by decide +kernel
theorem dX5_markBytes_178 : decode cX5_markBytes 178 = .ok (.getfield 232, 3) := by decide +kernel
theorem dX5_markBytes_181 : decode cX5_markBytes 181 = .ok (.aload_n 0, 1) := by decide +kernel
theorem dX5_markBytes_182 : decode cX5_markBytes 182 = .ok (.getfield 50, 3) := by decide +kernel
theorem dX5_markBytes_185 : decode cX5_markBytes 185 = .ok (.getfield 232, 3) := by decide +kernel
theorem dX5_markBytes_188 : decode cX5_markBytes 188 = .ok (.invokevirtual 360, 3) := by decide +kernel
theorem dX5_markBytes_191 : decode cX5_markBytes 191 = .ok (.return_, 1) := by decide +kernel
theorem dX5_look_0 : decode cX5_look 0 = .ok (.aload_n 0, 1) := by decide +kernel
theorem dX5_look_1 : decode cX5_look 1 = .ok (.aload_n 0, 1) := by decide +kernel
theorem dX5_look_2 : decode cX5_look 2 = .ok (.getfield 46, 3) := by decide +kernel
theorem dX5_look_5 : decode cX5_look 5 = .ok (.iconst 1, 1) := by decide +kernel
theorem dX5_look_6 : decode cX5_look 6 = .ok (.invokevirtual 225, 3) := by decide +kernel
theorem dX5_look_9 : decode cX5_look 9 = .ok (.aload_n 0, 1) := by decide +kernel
theorem dX5_look_10 : decode cX5_look 10 = .ok (.aload_n 0, 1) := by decide +kernel
theorem dX5_look_11 : decode cX5_look 11 = .ok (.getfield 50, 3) := by decide +kernel
theorem dX5_look_14 : decode cX5_look 14 = .ok (.iconst 2, 1) := by decide +kernel
theorem dX5_look_15 : decode cX5_look 15 = .ok (.invokevirtual 256, 3) := by decide +kernel
theorem dX5_look_18 : decode cX5_look 18 = .ok (.aload_n 0, 1) := by decide +kernel
theorem dX5_look_19 : decode cX5_look 19 = .ok (.iconst 2, 1) := by decide +kernel
theorem dX5_look_20 : decode cX5_look 20 = .ok (.aload_n 0, 1) := by decide +kernel
theorem dX5_look_21 : decode cX5_look 21 = .ok (.getfield 46, 3) := by decide +kernel
theorem dX5_look_24 : decode cX5_look 24 = .ok (.invokevirtual 259, 3) := by decide +kernel
theorem dX5_look_27 : decode cX5_look 27 = .ok (.aload_n 0, 1) := by decide +kernel
theorem dX5_look_28 : decode cX5_look 28 = .ok (.iconst 5, 1) := by decide +kernel
theorem dX5_look_29 : decode cX5_look 29 = .ok (.aload_n 0, 1) := by decide +kernel
theorem dX5_look_30 : decode cX5_look 30 = .ok (.getfield 50, 3) := by decide +kernel
theorem dX5_look_33 : decode cX5_look 33 = .ok (.invokevirtual 259, 3) := by decide +kernel
theorem dX5_look_36 : decode cX5_look 36 = .ok (.aload_n 0, 1) := by decide +kernel
theorem dX5_look_37 : decode cX5_look 37 = .ok (.aload_n 0, 1) := by decide +kernel
theorem dX5_look_38 : decode cX5_look 38 = .ok (.getfield 46, 3) := by decide +kernel
theorem dX5_look_41 : decode cX5_look 41 = .ok (.getfield 232, 3) := by decide +kernel
theorem dX5_look_44 : decode cX5_look 44 = .ok (.aload_n 0, 1) := by decide +kernel
theorem dX5_look_45 : decode cX5_look 45 = .ok (.getfield 50, 3) := by decide +kernel
theorem dX5_look_48 : decode cX5_look 48 = .ok (.getfield 232, 3) := by decide +kernel
theorem dX5_look_51 : decode cX5_look 51 = .ok (.invokevirtual 354, 3) := by decide +kernel
theorem dX5_look_54 : decode cX5_look 54 = .ok (.ifCond .ne 9, 3) := by decide +kernel
theorem dX5_look_57 : decode cX5_look 57 = .ok (.aload_n 0, 1) := by decide +kernel
theorem dX5_look_58 : decode cX5_look 58 = .ok (.iconst 4, 1) := by decide +kernel
theorem dX5_look_59 : decode cX5_look 59 = .ok (.invokevirtual 229, 3) := by decide +kernel
theorem dX5_look_62 : decode cX5_look 62 = .ok (.return_, 1) := by decide +kernel
theorem dX5_look_63 : decode cX5_look 63 = .ok (.aload_n 0, 1) := by decide +kernel
theorem dX5_look_64 : decode cX5_look 64 = .ok (.aload_n 0, 1) := by decide +kernel
theorem dX5_look_65 : decode cX5_look 65 = .ok (.iconst 0, 1) := by decide +kernel
theorem dX5_look_66 : decode cX5_look 66 = .ok (.invokevirtual 209, 3) := by decide +kernel
theorem dX5_look_69 : decode cX5_look 69 = .ok (.aload_n 0, 1) := by decide +kernel
theorem dX5_look_70 : decode cX5_look 70 = .ok (.getfield 12, 3) := by decide +kernel
theorem dX5_look_73 : decode cX5_look 73 = .ok (.aload_n 0, 1) := by decide +kernel
theorem dX5_look_74 : decode cX5_look 74 = .ok (.getfield 46, 3) := by decide +kernel
theorem dX5_look_77 : decode cX5_look 77 = .ok (.getfield 232, 3) := by decide +kernel
theorem dX5_look_80 : decode cX5_look 80 = .ok (.aload_n 0, 1) := by decide +kernel
theorem dX5_look_81 : decode cX5_look 81 = .ok (.getfield 50, 3) := by decide +kernel
theorem dX5_look_84 : decode cX5_look 84 = .ok (.getfield 232, 3) := by decide +kernel
theorem dX5_look_87 : decode cX5_look 87 = .ok (.invokevirtual 363, 3) := by decide +kernel
theorem dX5_look_90 : decode cX5_look 90 = .ok (.iconst 0, 1) := by decide +kernel
theorem dX5_look_91 : decode cX5_look 91 = .ok (.iconst 0, 1) := by decide +kernel
theorem dX5_look_92 : decode cX5_look 92 = .ok (.invokevirtual 275, 3) := by decide +kernel
theorem dX5_look_95 : decode cX5_look 95 = .ok (.return_, 1) := by decide +kernel
theorem dX6_init_0 : decode cX6_init 0 = .ok (.aload_n 0, 1) := by decide +kernel
theorem dX6_init_1 : decode cX6_init 1 = .ok (.invokespecial 3, 3) := by decide +kernel
theorem dX6_init_4 : decode cX6_init 4 = .ok (.aload_n 0, 1) := by decide +kernel
theorem dX6_init_5 : decode cX6_init 5 = .ok (.sipush 4096, 3) := by decide +kernel
theorem dX6_init_8 : decode cX6_init 8 = .ok (.newarray .int, 2) := by decide +kernel
theorem dX6_init_10 : decode cX6_init 10 = .ok (.putfield 11, 3) := by decide +kernel
theorem dX6_init_13 : decode cX6_init 13 = .ok (.aload_n 0, 1) := by decide +kernel
theorem dX6_init_14 : decode cX6_init 14 = .ok (.sipush 4096, 3) := by decide +kernel
theorem dX6_init_17 : decode cX6_init 17 = .ok (.newarray .int, 2) := by decide +kernel
theorem dX6_init_19 : decode cX6_init 19 = .ok (.putfield 15, 3) := by decide +kernel
theorem dX6_init_22 : decode cX6_init 22 = .ok (.aload_n 0, 1) := by decide +kernel
theorem dX6_init_23 : decode cX6_init 23 = .ok (.sipush 4096, 3) := by decide +kernel
theorem dX6_init_26 : decode cX6_init 26 = .ok (.newarray .int, 2) := by decide +kernel
theorem dX6_init_28 : decode cX6_init 28 = .ok (.putfield 18, 3) := by decide +kernel
theorem dX6_init_31 : decode cX6_init 31 = .ok (.aload_n 0, 1) := by decide +kernel
theorem dX6_init_32 : decode cX6_init 32 = .ok (.sipush 4096, 3) := by decide +kernel
theorem dX6_init_35 : decode cX6_init 35 = .ok (.newarray .boolean, 2) := by decide +kernel
theorem dX6_init_37 : decode cX6_init 37 = .ok (.putfield 21, 3) := by decide +kernel
theorem dX6_init_40 : decode cX6_init 40 = .ok (.return_, 1) := by decide +kernel
theorem dX6_clear_0 : decode cX6_clear 0 = .ok (.aload_n 0, 1) := by decide +kernel
theorem dX6_clear_1 : decode cX6_clear 1 = .ok (.iload_n 1, 1) := by decide +kernel
theorem dX6_clear_2 : decode cX6_clear 2 = .ok (.putfield 25, 3) := by decide +kernel
theorem dX6_clear_5 : decode cX6_clear 5 = .ok (.aload_n 0, 1) := by decide +kernel
theorem dX6_clear_6 : decode cX6_clear 6 = .ok (.iconst 0, 1) := by decide +kernel
theorem dX6_clear_7 : decode cX6_clear 7 = .ok (.putfield 29, 3) := by decide +kernel
theorem dX6_clear_10 : decode cX6_clear 10 = .ok (.iconst 0, 1) := by decide +kernel
theorem dX6_clear_11 : decode cX6_clear 11 = .ok (.istore_n 2, 1) := by decide +kernel
theorem dX6_clear_12 : decode cX6_clear 12 = .ok (.iload_n 2, 1) := by decide +kernel
theorem dX6_clear_13 : decode cX6_clear 13 = .ok (.sipush 4096, 3) := by decide +kernel
theorem dX6_clear_16 : decode cX6_clear 16 = .ok (.if_icmp .ge 67, 3) := by decide +kernel
theorem dX6_clear_19 : decode cX6_clear 19 = .ok (.iload_n 2, 1) := by decide +kernel
theorem dX6_clear_20 : decode cX6_clear 20 = .ok (.sipush 256, 3) := by decide +kernel
theorem dX6_clear_23 : decode cX6_clear 23 = .ok (.if_icmp .lt 14, 3) := by decide +kernel
theorem dX6_clear_26 : decode cX6_clear 26 = .ok (.iload_n 2, 1) := by decide +kernel
theorem dX6_clear_27 : decode cX6_clear 27 = .ok (.sipush 512, 3) := by decide +kernel
theorem dX6_clear_30 : decode cX6_clear 30 = .ok (.if_icmp .ge 7, 3) := by decide +kernel
theorem dX6_clear_33 : decode cX6_clear 33 = .ok (.iconst 1, 1) := by decide +kernel
theorem dX6_clear_34 : decode cX6_clear 34 = .ok (.goto 4, 3) := by decide +kernel
theorem dX6_clear_37 : decode cX6_clear 37 = .ok (.iconst 0, 1) := by decide +kernel
theorem dX6_clear_38 : decode cX6_clear 38 = .ok (.istore_n 3, 1) := by decide +kernel
theorem dX6_clear_39 : decode cX6_clear 39 = .ok (.aload_n 0, 1) := by decide +kernel
theorem dX6_clear_40 : decode cX6_clear 40 = .ok (.getfield 11, 3) := by decide +kernel
theorem dX6_clear_43 : decode cX6_clear 43 = .ok (.iload_n 2, 1) := by decide +kernel
theorem dX6_clear_44 : decode cX6_clear 44 = .ok (.iconst 0, 1) := by decide +kernel
theorem dX6_clear_45 : decode cX6_clear 45 = .ok (.iastore, 1) := by decide +kernel
theorem dX6_clear_46 : decode cX6_clear 46 = .ok (.aload_n 0, 1) := by decide +kernel
theorem dX6_clear_47 : decode cX6_clear 47 = .ok (.getfield 15, 3) := by decide +kernel
theorem dX6_clear_50 : decode cX6_clear 50 = .ok (.iload_n 2, 1) := by decide +kernel
theorem dX6_clear_51 : decode cX6_clear 51 = .ok (.iload_n 3, 1) := by decide +kernel
theorem dX6_clear_52 : decode cX6_clear 52 = .ok (.ifCond .eq 7, 3) := by decide +kernel
theorem dX6_clear_55 : decode cX6_clear 55 = .ok (.iconst 0, 1) := by decide +kernel
theorem dX6_clear_56 : decode cX6_clear 56 = .ok (.goto 6, 3) := by decide +kernel
theorem dX6_clear_59 : decode cX6_clear 59 = .ok (.sipush 255, 3) := by decide +kernel
theorem dX6_clear_62 : decode cX6_clear 62 = .ok (.iastore, 1) := by decide +kernel
theorem dX6_clear_63 : decode cX6_clear 63 = .ok (.aload_n 0, 1) := by decide +kernel
theorem dX6_clear_64 : decode cX6_clear 64 = .ok (.getfield 18, 3) := by decide +kernel
theorem dX6_clear_67 : decode cX6_clear 67 = .ok (.iload_n 2, 1) := by decide +kernel
theorem dX6_clear_68 : decode cX6_clear 68 = .ok (.iconst 0, 1) := by decide +kernel
theorem dX6_clear_69 : decode cX6_clear 69 = .ok (.iastore, 1) := by decide +kernel
theorem dX6_clear_70 : decode cX6_clear 70 = .ok (.aload_n 0, 1) := by decide +kernel
theorem dX6_clear_71 : decode cX6_clear 71 = .ok (.getfield 21, 3) := by decide +kernel
theorem dX6_clear_74 : decode cX6_clear 74 = .ok (.iload_n 2, 1) := by decide +kernel
theorem dX6_clear_75 : decode cX6_clear 75 = .ok (.iload_n 3, 1) := by decide +kernel
theorem dX6_clear_76 : decode cX6_clear 76 = .ok (.bastore, 1) := by decide +kernel
theorem dX6_clear_77 : decode cX6_clear 77 = .ok (.iinc 2 1, 3) := by decide +kernel
theorem dX6_clear_80 : decode cX6_clear 80 = .ok (.goto (-68), 3) := by decide +kernel
theorem dX6_clear_83 : decode cX6_clear 83 = .ok (.return_, 1) := by decide +kernel
theorem dX6_nextFilling_0 : decode cX6_nextFilling 0 = .ok (.aload_n 0, 1) := by decide +kernel
theorem dX6_nextFilling_1 : decode cX6_nextFilling 1 = .ok (.aload_n 0, 1) := by decide +kernel
theorem dX6_nextFilling_2 : decode cX6_nextFilling 2 = .ok (.getfield 25, 3) := by decide +kernel
theorem dX6_nextFilling_5 : decode cX6_nextFilling 5 = .ok (.ldc 33, 2) := by decide +kernel
theorem dX6_nextFilling_7 : decode cX6_nextFilling 7 = .ok (.imul, 1) := by decide +kernel
theorem dX6_nextFilling_8 : decode cX6_nextFilling 8 = .ok (.ldc 34, 2) := by decide +kernel
theorem dX6_nextFilling_10 : decode cX6_nextFilling 10 = .ok (.iadd, 1) := by decide +kernel
theorem dX6_nextFilling_11 : decode cX6_nextFilling 11 = .ok (.putfield 25, 3) := by decide +kernel
theorem dX6_nextFilling_14 : decode cX6_nextFilling 14 = .ok (.aload_n 0, 1) := by decide +kernel
theorem dX6_nextFilling_15 : decode cX6_nextFilling 15 = .ok (.getfield 25, 3) := by decide +kernel
theorem dX6_nextFilling_18 : decode cX6_nextFilling 18 = .ok (.aload_n 0, 1) := by decide +kernel
theorem dX6_nextFilling_19 : decode cX6_nextFilling 19 = .ok (.getfield 25, 3) := by decide +kernel
theorem dX6_nextFilling_22 : decode cX6_nextFilling 22 = .ok (.bipush 16, 2) := by decide +kernel
theorem dX6_nextFilling_24 : decode cX6_nextFilling 24 = .ok (.iushr, 1) := by decide +kernel
theorem dX6_nextFilling_25 : decode cX6_nextFilling 25 = .ok (.ixor, 1) := by decide +kernel
theorem dX6_nextFilling_26 : decode cX6_nextFilling 26 = .ok (.ireturn, 1) := by decide +kernel
theorem dX6_isByte_0 : decode cX6_isByte 0 = .ok (.iload_n 0, 1) := by decide +kernel
theorem dX6_isByte_1 : decode cX6_isByte 1 = .ok (.ifCond .lt 14, 3) := by decide +kernel
theorem dX6_isByte_4 : decode cX6_isByte 4 = .ok (.iload_n 0, 1) := by decide +kernel
theorem dX6_isByte_5 : decode cX6_isByte 5 = .ok (.sipush 4096, 3) := by decide +kernel
theorem dX6_isByte_8 : decode cX6_isByte 8 = .ok (.if_icmp .ge 7, 3) := by decide +kernel
theorem dX6_isByte_11 : decode cX6_isByte 11 = .ok (.iconst 1, 1) := by decide +kernel
theorem dX6_isByte_12 : decode cX6_isByte 12 = .ok (.goto 4, 3) := by decide +kernel
theorem dX6_isByte_15 : decode cX6_isByte 15 = .ok (.iconst 0, 1) := by decide +kernel
theorem dX6_isByte_16 : decode cX6_isByte 16 = .ok (.ireturn, 1) := by decide +kernel
theorem dX6_holds_0 : decode cX6_holds 0 = .ok (.iload_n 1, 1) := by decide +kernel
theorem dX6_holds_1 : decode cX6_holds 1 = .ok (.ifCond .eq 27, 3) := by decide +kernel
theorem dX6_holds_4 : decode cX6_holds 4 = .ok (.iload_n 0, 1) := by decide +kernel
theorem dX6_holds_5 : decode cX6_holds 5 = .ok (.ifCond .lt 27, 3) := by decide +kernel
theorem dX6_holds_8 : decode cX6_holds 8 = .ok (.iload_n 1, 1) := by decide +kernel
theorem dX6_holds_9 : decode cX6_holds 9 = .ok (.ifCond .le 23, 3) := by decide +kernel
theorem dX6_holds_12 : decode cX6_holds 12 = .ok (.iload_n 1, 1) := by decide +kernel
theorem dX6_holds_13 : decode cX6_holds 13 = .ok (.sipush 4096, 3) := by decide +kernel
theorem dX6_holds_16 : decode cX6_holds 16 = .ok (.if_icmp .gt 16, 3) := by decide +kernel
theorem dX6_holds_19 : decode cX6_holds 19 = .ok (.iload_n 0, 1) := by decide +kernel
theorem dX6_holds_20 : decode cX6_holds 20 = .ok (.sipush 4096, 3) := by decide +kernel
theorem dX6_holds_23 : decode cX6_holds 23 = .ok (.iload_n 1, 1) := by decide +kernel
theorem dX6_holds_24 : decode cX6_holds 24 = .ok (.isub, 1) := by decide +kernel
theorem dX6_holds_25 : decode cX6_holds 25 = .ok (.if_icmp .gt 7, 3) := by decide +kernel
theorem dX6_holds_28 : decode cX6_holds 28 = .ok (.iconst 1, 1) := by decide +kernel
theorem dX6_holds_29 : decode cX6_holds 29 = .ok (.goto 4, 3) := by decide +kernel
theorem dX6_holds_32 : decode cX6_holds 32 = .ok (.iconst 0, 1) := by decide +kernel
theorem dX6_holds_33 : decode cX6_holds 33 = .ok (.ireturn, 1) := by decide +kernel
theorem dX6_tell_0 : decode cX6_tell 0 = .ok (.iload_n 1, 1) := by decide +kernel
theorem dX6_tell_1 : decode cX6_tell 1 = .ok (.invokestatic 35, 3) := by decide +kernel
theorem dX6_tell_4 : decode cX6_tell 4 = .ok (.ifCond .ne 5, 3) := by decide +kernel
theorem dX6_tell_7 : decode cX6_tell 7 = .ok (.iconst (-1), 1) := by decide +kernel
theorem dX6_tell_8 : decode cX6_tell 8 = .ok (.ireturn, 1) := by decide +kernel
theorem dX6_tell_9 : decode cX6_tell 9 = .ok (.iload_n 2, 1) := by decide +kernel
theorem dX6_tell_10 : decode cX6_tell 10 = .ok (.tableswitch 66 0 3 #[30, 37, 44, 51], 30) := by decide +kernel
theorem dX6_tell_40 : decode cX6_tell 40 = .ok (.aload_n 0, 1) := by decide +kernel
theorem dX6_tell_41 : decode cX6_tell 41 = .ok (.getfield 11, 3) := by decide +kernel
theorem dX6_tell_44 : decode cX6_tell 44 = .ok (.iload_n 1, 1) := by decide +kernel
theorem dX6_tell_45 : decode cX6_tell 45 = .ok (.iaload, 1) := by decide +kernel
theorem dX6_tell_46 : decode cX6_tell 46 = .ok (.ireturn, 1) := by decide +kernel
theorem dX6_tell_47 : decode cX6_tell 47 = .ok (.aload_n 0, 1) := by decide +kernel
theorem dX6_tell_48 : decode cX6_tell 48 = .ok (.getfield 15, 3) := by decide +kernel
theorem dX6_tell_51 : decode cX6_tell 51 = .ok (.iload_n 1, 1) := by decide +kernel
theorem dX6_tell_52 : decode cX6_tell 52 = .ok (.iaload, 1) := by decide +kernel
theorem dX6_tell_53 : decode cX6_tell 53 = .ok (.ireturn, 1) := by decide +kernel
theorem dX6_tell_54 : decode cX6_tell 54 = .ok (.aload_n 0, 1) := by decide +kernel
theorem dX6_tell_55 : decode cX6_tell 55 = .ok (.getfield 18, 3) := by decide +kernel
theorem dX6_tell_58 : decode cX6_tell 58 = .ok (.iload_n 1, 1) := by decide +kernel
theorem dX6_tell_59 : decode cX6_tell 59 = .ok (.iaload, 1) := by decide +kernel
theorem dX6_tell_60 : decode cX6_tell 60 = .ok (.ireturn, 1) := by decide +kernel
theorem dX6_tell_61 : decode cX6_tell 61 = .ok (.aload_n 0, 1) := by decide +kernel
theorem dX6_tell_62 : decode cX6_tell 62 = .ok (.getfield 21, 3) := by decide +kernel
theorem dX6_tell_65 : decode cX6_tell 65 = .ok (.iload_n 1, 1) := by decide +kernel
theorem dX6_tell_66 : decode cX6_tell 66 = .ok (.baload, 1) := by decide +kernel
theorem dX6_tell_67 : decode cX6_tell 67 = .ok (.ifCond .eq 7, 3) := by decide +kernel
theorem dX6_tell_70 : decode cX6_tell 70 = .ok (.iconst 1, 1) := by decide +kernel
theorem dX6_tell_71 : decode cX6_tell 71 = .ok (.goto 4, 3) := by decide +kernel
theorem dX6_tell_74 : decode cX6_tell 74 = .ok (.iconst 0, 1) := by decide +kernel
theorem dX6_tell_75 : decode cX6_tell 75 = .ok (.ireturn, 1) := by decide +kernel
theorem dX6_tell_76 : decode cX6_tell 76 = .ok (.iconst (-1), 1) := by decide +kernel
theorem dX6_tell_77 : decode cX6_tell 77 = .ok (.ireturn, 1) := by decide +kernel
theorem dX6_putByte_0 : decode cX6_putByte 0 = .ok (.aload_n 0, 1) := by decide +kernel
theorem dX6_putByte_1 : decode cX6_putByte 1 = .ok (.getfield 11, 3) := by decide +kernel
theorem dX6_putByte_4 : decode cX6_putByte 4 = .ok (.iload_n 1, 1) := by decide +kernel
theorem dX6_putByte_5 : decode cX6_putByte 5 = .ok (.iload_n 2, 1) := by decide +kernel
theorem dX6_putByte_6 : decode cX6_putByte 6 = .ok (.sipush 255, 3) := by decide +kernel
theorem dX6_putByte_9 : decode cX6_putByte 9 = .ok (.iand, 1) := by decide +kernel
theorem dX6_putByte_10 : decode cX6_putByte 10 = .ok (.iastore, 1) := by decide +kernel
theorem dX6_putByte_11 : decode cX6_putByte 11 = .ok (.aload_n 0, 1) := by decide +kernel
theorem dX6_putByte_12 : decode cX6_putByte 12 = .ok (.getfield 15, 3) := by decide +kernel
theorem dX6_putByte_15 : decode cX6_putByte 15 = .ok (.iload_n 1, 1) := by decide +kernel
theorem dX6_putByte_16 : decode cX6_putByte 16 = .ok (.iload_n 3, 1) := by decide +kernel
theorem dX6_putByte_17 : decode cX6_putByte 17 = .ok (.sipush 255, 3) := by decide +kernel
theorem dX6_putByte_20 : decode cX6_putByte 20 = .ok (.iand, 1) := by decide +kernel
theorem dX6_putByte_21 : decode cX6_putByte 21 = .ok (.iastore, 1) := by decide +kernel
theorem dX6_putByte_22 : decode cX6_putByte 22 = .ok (.aload_n 0, 1) := by decide +kernel
theorem dX6_putByte_23 : decode cX6_putByte 23 = .ok (.getfield 18, 3) := by decide +kernel
theorem dX6_putByte_26 : decode cX6_putByte 26 = .ok (.iload_n 1, 1) := by decide +kernel
theorem dX6_putByte_27 : decode cX6_putByte 27 = .ok (.aload_n 0, 1) := by decide +kernel
theorem dX6_putByte_28 : decode cX6_putByte 28 = .ok (.getfield 15, 3) := by decide +kernel
theorem dX6_putByte_31 : decode cX6_putByte 31 = .ok (.iload_n 1, 1) := by decide +kernel
theorem dX6_putByte_32 : decode cX6_putByte 32 = .ok (.iaload, 1) := by decide +kernel
theorem dX6_putByte_33 : decode cX6_putByte 33 = .ok (.ifCond .ne 7, 3) := by decide +kernel
theorem dX6_putByte_36 : decode cX6_putByte 36 = .ok (.iconst 0, 1) := by decide +kernel
theorem dX6_putByte_37 : decode cX6_putByte 37 = .ok (.goto 5, 3) := by decide +kernel
theorem dX6_putByte_40 : decode cX6_putByte 40 = .ok (.iload 4, 2) := by decide +kernel
theorem dX6_putByte_42 : decode cX6_putByte 42 = .ok (.iastore, 1) := by decide +kernel
theorem dX6_putByte_43 : decode cX6_putByte 43 = .ok (.return_, 1) := by decide +kernel
theorem dX6_unset_0 : decode cX6_unset 0 = .ok (.iconst 0, 1) := by decide +kernel
theorem dX6_unset_1 : decode cX6_unset 1 = .ok (.istore 4, 2) := by decide +kernel
theorem dX6_unset_3 : decode cX6_unset 3 = .ok (.iload 4, 2) := by decide +kernel
theorem dX6_unset_5 : decode cX6_unset 5 = .ok (.iload_n 2, 1) := by decide +kernel
theorem dX6_unset_6 : decode cX6_unset 6 = .ok (.if_icmp .ge 45, 3) := by decide +kernel
theorem dX6_unset_9 : decode cX6_unset 9 = .ok (.iload_n 1, 1) := by decide +kernel
theorem dX6_unset_10 : decode cX6_unset 10 = .ok (.iload 4, 2) := by decide +kernel
theorem dX6_unset_12 : decode cX6_unset 12 = .ok (.iadd, 1) := by decide +kernel
theorem dX6_unset_13 : decode cX6_unset 13 = .ok (.invokestatic 35, 3) := by decide +kernel
theorem dX6_unset_16 : decode cX6_unset 16 = .ok (.ifCond .eq 35, 3) := by decide +kernel
theorem dX6_unset_19 : decode cX6_unset 19 = .ok (.aload_n 0, 1) := by decide +kernel
theorem dX6_unset_20 : decode cX6_unset 20 = .ok (.getfield 21, 3) := by decide +kernel
theorem dX6_unset_23 : decode cX6_unset 23 = .ok (.iload_n 1, 1) := by decide +kernel
theorem dX6_unset_24 : decode cX6_unset 24 = .ok (.iload 4, 2) := by decide +kernel
theorem dX6_unset_26 : decode cX6_unset 26 = .ok (.iadd, 1) := by decide +kernel
theorem dX6_unset_27 : decode cX6_unset 27 = .ok (.iconst 1, 1) := by decide +kernel
theorem dX6_unset_28 : decode cX6_unset 28 = .ok (.bastore, 1) := by decide +kernel
theorem dX6_unset_29 : decode cX6_unset 29 = .ok (.aload_n 0, 1) := by decide +kernel
theorem dX6_unset_30 : decode cX6_unset 30 = .ok (.iload_n 1, 1) := by decide +kernel
theorem dX6_unset_31 : decode cX6_unset 31 = .ok (.iload 4, 2) := by decide +kernel
theorem dX6_unset_33 : decode cX6_unset 33 = .ok (.iadd, 1) := by decide +kernel
theorem dX6_unset_34 : decode cX6_unset 34 = .ok (.aload_n 0, 1) := by decide +kernel
theorem dX6_unset_35 : decode cX6_unset 35 = .ok (.invokevirtual 39, 3) := by decide +kernel
theorem dX6_unset_38 : decode cX6_unset 38 = .ok (.sipush 255, 3) := by decide +kernel
theorem dX6_unset_41 : decode cX6_unset 41 = .ok (.iload_n 3, 1) := by decide +kernel
theorem dX6_unset_42 : decode cX6_unset 42 = .ok (.invokevirtual 43, 3) := by decide +kernel
theorem dX6_unset_45 : decode cX6_unset 45 = .ok (.iinc 4 1, 3) := by decide +kernel
theorem dX6_unset_48 : decode cX6_unset 48 = .ok (.goto (-45), 3) := by decide +kernel
theorem dX6_unset_51 : decode cX6_unset 51 = .ok (.return_, 1) := by decide +kernel
theorem dX6_close_0 : decode cX6_close 0 = .ok (.iconst 0, 1) := by decide +kernel
theorem dX6_close_1 : decode cX6_close 1 = .ok (.istore_n 3, 1) := by decide +kernel
theorem dX6_close_2 : decode cX6_close 2 = .ok (.iload_n 3, 1) := by decide +kernel
theorem dX6_close_3 : decode cX6_close 3 = .ok (.iload_n 2, 1) := by decide +kernel
theorem dX6_close_4 : decode cX6_close 4 = .ok (.if_icmp .ge 27, 3) := by decide +kernel
theorem dX6_close_7 : decode cX6_close 7 = .ok (.iload_n 1, 1) := by decide +kernel
theorem dX6_close_8 : decode cX6_close 8 = .ok (.iload_n 3, 1) := by decide +kernel
theorem dX6_close_9 : decode cX6_close 9 = .ok (.iadd, 1) := by decide +kernel
theorem dX6_close_10 : decode cX6_close 10 = .ok (.invokestatic 35, 3) := by decide +kernel
theorem dX6_close_13 : decode cX6_close 13 = .ok (.ifCond .eq 18, 3) := by decide +kernel
theorem dX6_close_16 : decode cX6_close 16 = .ok (.aload_n 0, 1) := by decide +kernel
theorem dX6_close_17 : decode cX6_close 17 = .ok (.getfield 21, 3) := by decide +kernel
theorem dX6_close_20 : decode cX6_close 20 = .ok (.iload_n 1, 1) := by decide +kernel
theorem dX6_close_21 : decode cX6_close 21 = .ok (.iload_n 3, 1) := by decide +kernel
theorem dX6_close_22 : decode cX6_close 22 = .ok (.iadd, 1) := by decide +kernel
theorem dX6_close_23 : decode cX6_close 23 = .ok (.iconst 0, 1) := by decide +kernel
theorem dX6_close_24 : decode cX6_close 24 = .ok (.bastore, 1) := by decide +kernel
theorem dX6_close_25 : decode cX6_close 25 = .ok (.iinc 3 1, 3) := by decide +kernel
theorem dX6_close_28 : decode cX6_close 28 = .ok (.goto (-26), 3) := by decide +kernel
theorem dX6_close_31 : decode cX6_close 31 = .ok (.return_, 1) := by decide +kernel
theorem dX6_setAsTheyAre_0 : decode cX6_setAsTheyAre 0 = .ok (.iconst 0, 1) := by decide +kernel
theorem dX6_setAsTheyAre_1 : decode cX6_setAsTheyAre 1 = .ok (.istore_n 3, 1) := by decide +kernel
theorem dX6_setAsTheyAre_2 : decode cX6_setAsTheyAre 2 = .ok (.iload_n 3, 1) := by decide +kernel
theorem dX6_setAsTheyAre_3 : decode cX6_setAsTheyAre 3 = .ok (.iload_n 2, 1) := by decide +kernel
theorem dX6_setAsTheyAre_4 : decode cX6_setAsTheyAre 4 = .ok (.if_icmp .ge 44, 3) := by decide +kernel
theorem dX6_setAsTheyAre_7 : decode cX6_setAsTheyAre 7 = .ok (.iload_n 1, 1) := by decide +kernel
theorem dX6_setAsTheyAre_8 : decode cX6_setAsTheyAre 8 = .ok (.iload_n 3, 1) := by decide +kernel
theorem dX6_setAsTheyAre_9 : decode cX6_setAsTheyAre 9 = .ok (.iadd, 1) := by decide +kernel
theorem dX6_setAsTheyAre_10 : decode cX6_setAsTheyAre 10 = .ok (.invokestatic 35, 3) := by decide +kernel
theorem dX6_setAsTheyAre_13 : decode cX6_setAsTheyAre 13 = .ok (.ifCond .eq 35, 3) := by decide +kernel
theorem dX6_setAsTheyAre_16 : decode cX6_setAsTheyAre 16 = .ok (.aload_n 0, 1) := by decide +kernel
theorem dX6_setAsTheyAre_17 : decode cX6_setAsTheyAre 17 = .ok (.getfield 21, 3) := by decide +kernel
theorem dX6_setAsTheyAre_20 : decode cX6_setAsTheyAre 20 = .ok (.iload_n 1, 1) := by decide +kernel
theorem dX6_setAsTheyAre_21 : decode cX6_setAsTheyAre 21 = .ok (.iload_n 3, 1) := by decide +kernel
theorem dX6_setAsTheyAre_22 : decode cX6_setAsTheyAre 22 = .ok (.iadd, 1) := by decide +kernel
theorem dX6_setAsTheyAre_23 : decode cX6_setAsTheyAre 23 = .ok (.iconst 1, 1) := by decide +kernel
theorem dX6_setAsTheyAre_24 : decode cX6_setAsTheyAre 24 = .ok (.bastore, 1) := by decide +kernel
theorem dX6_setAsTheyAre_25 : decode cX6_setAsTheyAre 25 = .ok (.aload_n 0, 1) := by decide +kernel
theorem dX6_setAsTheyAre_26 : decode cX6_setAsTheyAre 26 = .ok (.iload_n 1, 1) := by decide +kernel
theorem dX6_setAsTheyAre_27 : decode cX6_setAsTheyAre 27 = .ok (.iload_n 3, 1) := by decide +kernel
theorem dX6_setAsTheyAre_28 : decode cX6_setAsTheyAre 28 = .ok (.iadd, 1) := by decide +kernel
theorem dX6_setAsTheyAre_29 : decode cX6_setAsTheyAre 29 = .ok (.aload_n 0, 1) := by decide +kernel
theorem dX6_setAsTheyAre_30 : decode cX6_setAsTheyAre 30 = .ok (.getfield 11, 3) := by decide +kernel
theorem dX6_setAsTheyAre_33 : decode cX6_setAsTheyAre 33 = .ok (.iload_n 1, 1) := by decide +kernel
theorem dX6_setAsTheyAre_34 : decode cX6_setAsTheyAre 34 = .ok (.iload_n 3, 1) := by decide +kernel
theorem dX6_setAsTheyAre_35 : decode cX6_setAsTheyAre 35 = .ok (.iadd, 1) := by decide +kernel
theorem dX6_setAsTheyAre_36 : decode cX6_setAsTheyAre 36 = .ok (.iaload, 1) := by decide +kernel
theorem dX6_setAsTheyAre_37 : decode cX6_setAsTheyAre 37 = .ok (.iconst 0, 1) := by decide +kernel
theorem dX6_setAsTheyAre_38 : decode cX6_setAsTheyAre 38 = .ok (.iconst 0, 1) := by decide +kernel
theorem dX6_setAsTheyAre_39 : decode cX6_setAsTheyAre 39 = .ok (.invokevirtual 43, 3) := by decide +kernel
theorem dX6_setAsTheyAre_42 : decode cX6_setAsTheyAre 42 = .ok (.iinc 3 1, 3) := by decide +kernel
theorem dX6_setAsTheyAre_45 : decode cX6_setAsTheyAre 45 = .ok (.goto (-43), 3) := by decide +kernel
theorem dX6_setAsTheyAre_48 : decode cX6_setAsTheyAre 48 = .ok (.return_, 1) := by decide +kernel
theorem dX6_setToZero_0 : decode cX6_setToZero 0 = .ok (.iconst 0, 1) := by decide +kernel
theorem dX6_setToZero_1 : decode cX6_setToZero 1 = .ok (.istore_n 3, 1) := by decide +kernel
theorem dX6_setToZero_2 : decode cX6_setToZero 2 = .ok (.iload_n 3, 1) := by decide +kernel
theorem dX6_setToZero_3 : decode cX6_setToZero 3 = .ok (.iload_n 2, 1) := by decide +kernel
theorem dX6_setToZero_4 : decode cX6_setToZero 4 = .ok (.if_icmp .ge 37, 3) := by decide +kernel
theorem dX6_setToZero_7 : decode cX6_setToZero 7 = .ok (.iload_n 1, 1) := by decide +kernel
theorem dX6_setToZero_8 : decode cX6_setToZero 8 = .ok (.iload_n 3, 1) := by decide +kernel
theorem dX6_setToZero_9 : decode cX6_setToZero 9 = .ok (.iadd, 1) := by decide +kernel
theorem dX6_setToZero_10 : decode cX6_setToZero 10 = .ok (.invokestatic 35, 3) := by decide +kernel
theorem dX6_setToZero_13 : decode cX6_setToZero 13 = .ok (.ifCond .eq 28, 3) := by decide +kernel
theorem dX6_setToZero_16 : decode cX6_setToZero 16 = .ok (.aload_n 0, 1) := by decide +kernel
theorem dX6_setToZero_17 : decode cX6_setToZero 17 = .ok (.getfield 21, 3) := by decide +kernel
theorem dX6_setToZero_20 : decode cX6_setToZero 20 = .ok (.iload_n 1, 1) := by decide +kernel
theorem dX6_setToZero_21 : decode cX6_setToZero 21 = .ok (.iload_n 3, 1) := by decide +kernel
theorem dX6_setToZero_22 : decode cX6_setToZero 22 = .ok (.iadd, 1) := by decide +kernel
theorem dX6_setToZero_23 : decode cX6_setToZero 23 = .ok (.iconst 1, 1) := by decide +kernel
theorem dX6_setToZero_24 : decode cX6_setToZero 24 = .ok (.bastore, 1) := by decide +kernel
theorem dX6_setToZero_25 : decode cX6_setToZero 25 = .ok (.aload_n 0, 1) := by decide +kernel
theorem dX6_setToZero_26 : decode cX6_setToZero 26 = .ok (.iload_n 1, 1) := by decide +kernel
theorem dX6_setToZero_27 : decode cX6_setToZero 27 = .ok (.iload_n 3, 1) := by decide +kernel
theorem dX6_setToZero_28 : decode cX6_setToZero 28 = .ok (.iadd, 1) := by decide +kernel
theorem dX6_setToZero_29 : decode cX6_setToZero 29 = .ok (.iconst 0, 1) := by decide +kernel
theorem dX6_setToZero_30 : decode cX6_setToZero 30 = .ok (.iconst 0, 1) := by decide +kernel
theorem dX6_setToZero_31 : decode cX6_setToZero 31 = .ok (.iconst 0, 1) := by decide +kernel
theorem dX6_setToZero_32 : decode cX6_setToZero 32 = .ok (.invokevirtual 43, 3) := by decide +kernel
theorem dX6_setToZero_35 : decode cX6_setToZero 35 = .ok (.iinc 3 1, 3) := by decide +kernel
theorem dX6_setToZero_38 : decode cX6_setToZero 38 = .ok (.goto (-36), 3) := by decide +kernel
theorem dX6_setToZero_41 : decode cX6_setToZero 41 = .ok (.return_, 1) := by decide +kernel
theorem dX6_noteMark_0 : decode cX6_noteMark 0 = .ok (.aload_n 0, 1) := by decide +kernel
theorem dX6_noteMark_1 : decode cX6_noteMark 1 = .ok (.aload_n 0, 1) := by decide +kernel
theorem dX6_noteMark_2 : decode cX6_noteMark 2 = .ok (.getfield 29, 3) := by decide +kernel
theorem dX6_noteMark_5 : decode cX6_noteMark 5 = .ok (.ifCond .ne 16, 3) := by decide +kernel
theorem dX6_noteMark_8 : decode cX6_noteMark 8 = .ok (.iload_n 2, 1) := by decide +kernel
theorem dX6_noteMark_9 : decode cX6_noteMark 9 = .ok (.ifCond .le 16, 3) := by decide +kernel
theorem dX6_noteMark_12 : decode cX6_noteMark 12 = .ok (.iload_n 1, 1) := by decide +kernel
theorem dX6_noteMark_13 : decode cX6_noteMark 13 = .ok (.iload_n 2, 1) := by decide +kernel
theorem dX6_noteMark_14 : decode cX6_noteMark 14 = .ok (.iadd, 1) := by decide +kernel
theorem dX6_noteMark_15 : decode cX6_noteMark 15 = .ok (.sipush 3072, 3) := by decide +kernel
theorem dX6_noteMark_18 : decode cX6_noteMark 18 = .ok (.if_icmp .le 7, 3) := by decide +kernel
theorem dX6_noteMark_21 : decode cX6_noteMark 21 = .ok (.iconst 1, 1) := by decide +kernel
theorem dX6_noteMark_22 : decode cX6_noteMark 22 = .ok (.goto 4, 3) := by decide +kernel
theorem dX6_noteMark_25 : decode cX6_noteMark 25 = .ok (.iconst 0, 1) := by decide +kernel
theorem dX6_noteMark_26 : decode cX6_noteMark 26 = .ok (.putfield 29, 3) := by decide +kernel
theorem dX6_noteMark_29 : decode cX6_noteMark 29 = .ok (.return_, 1) := by decide +kernel
theorem dX6_moveStack_0 : decode cX6_moveStack 0 = .ok (.aload_n 0, 1) := by decide +kernel
theorem dX6_moveStack_1 : decode cX6_moveStack 1 = .ok (.getfield 29, 3) := by decide +kernel
theorem dX6_moveStack_4 : decode cX6_moveStack 4 = .ok (.ifCond .eq 9, 3) := by decide +kernel
theorem dX6_moveStack_7 : decode cX6_moveStack 7 = .ok (.sipush 3072, 3) := by decide +kernel
theorem dX6_moveStack_10 : decode cX6_moveStack 10 = .ok (.goto 8, 3) := by decide +kernel
theorem dX6_moveStack_13 : decode cX6_moveStack 13 = .ok (.iload_n 1, 1) := by decide +kernel
theorem dX6_moveStack_14 : decode cX6_moveStack 14 = .ok (.iload_n 2, 1) := by decide +kernel
theorem dX6_moveStack_15 : decode cX6_moveStack 15 = .ok (.invokestatic 47, 3) := by decide +kernel
theorem dX6_moveStack_18 : decode cX6_moveStack 18 = .ok (.istore 4, 2) := by decide +kernel
theorem dX6_moveStack_20 : decode cX6_moveStack 20 = .ok (.aload_n 0, 1) := by decide +kernel
theorem dX6_moveStack_21 : decode cX6_moveStack 21 = .ok (.getfield 29, 3) := by decide +kernel
theorem dX6_moveStack_24 : decode cX6_moveStack 24 = .ok (.ifCond .eq 9, 3) := by decide +kernel
theorem dX6_moveStack_27 : decode cX6_moveStack 27 = .ok (.sipush 4096, 3) := by decide +kernel
theorem dX6_moveStack_30 : decode cX6_moveStack 30 = .ok (.goto 8, 3) := by decide +kernel
theorem dX6_moveStack_33 : decode cX6_moveStack 33 = .ok (.iload_n 1, 1) := by decide +kernel
theorem dX6_moveStack_34 : decode cX6_moveStack 34 = .ok (.iload_n 2, 1) := by decide +kernel
theorem dX6_moveStack_35 : decode cX6_moveStack 35 = .ok (.invokestatic 53, 3) := by decide +kernel
theorem dX6_moveStack_38 : decode cX6_moveStack 38 = .ok (.istore 5, 2) := by decide +kernel
theorem dX6_moveStack_40 : decode cX6_moveStack 40 = .ok (.iload 4, 2) := by decide +kernel
theorem dX6_moveStack_42 : decode cX6_moveStack 42 = .ok (.istore 6, 2) := by decide +kernel
theorem dX6_moveStack_44 : decode cX6_moveStack 44 = .ok (.iload 6, 2) := by decide +kernel
theorem dX6_moveStack_46 : decode cX6_moveStack 46 = .ok (.iload 5, 2) := by decide +kernel
theorem dX6_moveStack_48 : decode cX6_moveStack 48 = .ok (.if_icmp .ge 44, 3) := by decide +kernel
theorem dX6_moveStack_51 : decode cX6_moveStack 51 = .ok (.iload 6, 2) := by decide +kernel
theorem dX6_moveStack_53 : decode cX6_moveStack 53 = .ok (.iload_n 2, 1) := by decide +kernel
theorem dX6_moveStack_54 : decode cX6_moveStack 54 = .ok (.if_icmp .ge 14, 3) := by decide +kernel
theorem dX6_moveStack_57 : decode cX6_moveStack 57 = .ok (.aload_n 0, 1) := by decide +kernel
theorem dX6_moveStack_58 : decode cX6_moveStack 58 = .ok (.getfield 21, 3) := by decide +kernel
theorem dX6_moveStack_61 : decode cX6_moveStack 61 = .ok (.iload 6, 2) := by decide +kernel
theorem dX6_moveStack_63 : decode cX6_moveStack 63 = .ok (.iconst 0, 1) := by decide +kernel
theorem dX6_moveStack_64 : decode cX6_moveStack 64 = .ok (.bastore, 1) := by decide +kernel
theorem dX6_moveStack_65 : decode cX6_moveStack 65 = .ok (.goto 21, 3) := by decide +kernel
theorem dX6_moveStack_68 : decode cX6_moveStack 68 = .ok (.aload_n 0, 1) := by decide +kernel
theorem dX6_moveStack_69 : decode cX6_moveStack 69 = .ok (.getfield 21, 3) := by decide +kernel
theorem dX6_moveStack_72 : decode cX6_moveStack 72 = .ok (.iload 6, 2) := by decide +kernel
theorem dX6_moveStack_74 : decode cX6_moveStack 74 = .ok (.baload, 1) := by decide +kernel
theorem dX6_moveStack_75 : decode cX6_moveStack 75 = .ok (.ifCond .ne 11, 3) := by decide +kernel
theorem dX6_moveStack_78 : decode cX6_moveStack 78 = .ok (.aload_n 0, 1) := by decide +kernel
theorem dX6_moveStack_79 : decode cX6_moveStack 79 = .ok (.iload 6, 2) := by decide +kernel
theorem dX6_moveStack_81 : decode cX6_moveStack 81 = .ok (.iconst 1, 1) := by decide +kernel
theorem dX6_moveStack_82 : decode cX6_moveStack 82 = .ok (.iload_n 3, 1) := by decide +kernel
theorem dX6_moveStack_83 : decode cX6_moveStack 83 = .ok (.invokevirtual 56, 3) := by decide +kernel
theorem dX6_moveStack_86 : decode cX6_moveStack 86 = .ok (.iinc 6 1, 3) := by decide +kernel
theorem dX6_moveStack_89 : decode cX6_moveStack 89 = .ok (.goto (-45), 3) := by decide +kernel
theorem dX6_moveStack_92 : decode cX6_moveStack 92 = .ok (.aload_n 0, 1) := by decide +kernel
theorem dX6_moveStack_93 : decode cX6_moveStack 93 = .ok (.iconst 0, 1) := by decide +kernel
theorem dX6_moveStack_94 : decode cX6_moveStack 94 = .ok (.putfield 29, 3) := by decide +kernel
theorem dX6_moveStack_97 : decode cX6_moveStack 97 = .ok (.return_, 1) := by decide +kernel
theorem dX6_firstClosed_0 : decode cX6_firstClosed 0 = .ok (.iconst 0, 1) := by decide +kernel
theorem dX6_firstClosed_1 : decode cX6_firstClosed 1 = .ok (.istore_n 3, 1) := by decide +kernel
theorem dX6_firstClosed_2 : decode cX6_firstClosed 2 = .ok (.iload_n 3, 1) := by decide +kernel
theorem dX6_firstClosed_3 : decode cX6_firstClosed 3 = .ok (.iload_n 2, 1) := by decide +kernel
theorem dX6_firstClosed_4 : decode cX6_firstClosed 4 = .ok (.if_icmp .ge 31, 3) := by decide +kernel
theorem dX6_firstClosed_7 : decode cX6_firstClosed 7 = .ok (.iload_n 1, 1) := by decide +kernel
theorem dX6_firstClosed_8 : decode cX6_firstClosed 8 = .ok (.iload_n 3, 1) := by decide +kernel
theorem dX6_firstClosed_9 : decode cX6_firstClosed 9 = .ok (.iadd, 1) := by decide +kernel
theorem dX6_firstClosed_10 : decode cX6_firstClosed 10 = .ok (.invokestatic 35, 3) := by decide +kernel
theorem dX6_firstClosed_13 : decode cX6_firstClosed 13 = .ok (.ifCond .eq 14, 3) := by decide +kernel
theorem dX6_firstClosed_16 : decode cX6_firstClosed 16 = .ok (.aload_n 0, 1) := by decide +kernel
theorem dX6_firstClosed_17 : decode cX6_firstClosed 17 = .ok (.getfield 21, 3) := by decide +kernel
theorem dX6_firstClosed_20 : decode cX6_firstClosed 20 = .ok (.iload_n 1, 1) := by decide +kernel
theorem dX6_firstClosed_21 : decode cX6_firstClosed 21 = .ok (.iload_n 3, 1) := by decide +kernel
theorem dX6_firstClosed_22 : decode cX6_firstClosed 22 = .ok (.iadd, 1) := by decide +kernel
theorem dX6_firstClosed_23 : decode cX6_firstClosed 23 = .ok (.baload, 1) := by decide +kernel
theorem dX6_firstClosed_24 : decode cX6_firstClosed 24 = .ok (.ifCond .ne 5, 3) := by decide +kernel
theorem dX6_firstClosed_27 : decode cX6_firstClosed 27 = .ok (.iload_n 3, 1) := by decide +kernel
theorem dX6_firstClosed_28 : decode cX6_firstClosed 28 = .ok (.ireturn, 1) := by decide +kernel
theorem dX6_firstClosed_29 : decode cX6_firstClosed 29 = .ok (.iinc 3 1, 3) := by decide +kernel
theorem dX6_firstClosed_32 : decode cX6_firstClosed 32 = .ok (.goto (-30), 3) := by decide +kernel
theorem dX6_firstClosed_35 : decode cX6_firstClosed 35 = .ok (.iconst (-1), 1) := by decide +kernel
theorem dX6_firstClosed_36 : decode cX6_firstClosed 36 = .ok (.ireturn, 1) := by decide +kernel
theorem dX6_firstDoubtful_0 : decode cX6_firstDoubtful 0 = .ok (.iconst 0, 1) := by decide +kernel
theorem dX6_firstDoubtful_1 : decode cX6_firstDoubtful 1 = .ok (.istore_n 3, 1) := by decide +kernel
theorem dX6_firstDoubtful_2 : decode cX6_firstDoubtful 2 = .ok (.iload_n 3, 1) := by decide +kernel
theorem dX6_firstDoubtful_3 : decode cX6_firstDoubtful 3 = .ok (.iload_n 2, 1) := by decide +kernel
theorem dX6_firstDoubtful_4 : decode cX6_firstDoubtful 4 = .ok (.if_icmp .ge 44, 3) := by decide +kernel
theorem dX6_firstDoubtful_7 : decode cX6_firstDoubtful 7 = .ok (.iload_n 1, 1) := by decide +kernel
theorem dX6_firstDoubtful_8 : decode cX6_firstDoubtful 8 = .ok (.iload_n 3, 1) := by decide +kernel
theorem dX6_firstDoubtful_9 : decode cX6_firstDoubtful 9 = .ok (.iadd, 1) := by decide +kernel
theorem dX6_firstDoubtful_10 : decode cX6_firstDoubtful 10 = .ok (.invokestatic 35, 3) := by decide +kernel
theorem dX6_firstDoubtful_13 : decode cX6_firstDoubtful 13 = .ok (.ifCond .eq 35, 3) := by decide +kernel
theorem dX6_firstDoubtful_16 : decode cX6_firstDoubtful 16 = .ok (.aload_n 0, 1) := by decide +kernel
theorem dX6_firstDoubtful_17 : decode cX6_firstDoubtful 17 = .ok (.getfield 21, 3) := by decide +kernel
theorem dX6_firstDoubtful_20 : decode cX6_firstDoubtful 20 = .ok (.iload_n 1, 1) := by decide +kernel
theorem dX6_firstDoubtful_21 : decode cX6_firstDoubtful 21 = .ok (.iload_n 3, 1) := by decide +kernel
theorem dX6_firstDoubtful_22 : decode cX6_firstDoubtful 22 = .ok (.iadd, 1) := by decide +kernel
theorem dX6_firstDoubtful_23 : decode cX6_firstDoubtful 23 = .ok (.baload, 1) := by decide +kernel
theorem dX6_firstDoubtful_24 : decode cX6_firstDoubtful 24 = .ok (.ifCond .eq 14, 3) := by decide +kernel
theorem dX6_firstDoubtful_27 : decode cX6_firstDoubtful 27 = .ok (.aload_n 0, 1) := by decide +kernel
theorem dX6_firstDoubtful_28 : decode cX6_firstDoubtful 28 = .ok (.getfield 15, 3) := by decide +kernel
theorem dX6_firstDoubtful_31 : decode cX6_firstDoubtful 31 = .ok (.iload_n 1, 1) := by decide +kernel
theorem dX6_firstDoubtful_32 : decode cX6_firstDoubtful 32 = .ok (.iload_n 3, 1) := by decide +kernel
theorem dX6_firstDoubtful_33 : decode cX6_firstDoubtful 33 = .ok (.iadd, 1) := by decide +kernel
theorem dX6_firstDoubtful_34 : decode cX6_firstDoubtful 34 = .ok (.iaload, 1) := by decide +kernel
theorem dX6_firstDoubtful_35 : decode cX6_firstDoubtful 35 = .ok (.ifCond .eq 7, 3) := by decide +kernel
theorem dX6_firstDoubtful_38 : decode cX6_firstDoubtful 38 = .ok (.iload_n 1, 1) := by decide +kernel
theorem dX6_firstDoubtful_39 : decode cX6_firstDoubtful 39 = .ok (.iload_n 3, 1) := by decide +kernel
theorem dX6_firstDoubtful_40 : decode cX6_firstDoubtful 40 = .ok (.iadd, 1) := by decide +kernel
theorem dX6_firstDoubtful_41 : decode cX6_firstDoubtful 41 = .ok (.ireturn, 1) := by decide +kernel
theorem dX6_firstDoubtful_42 : decode cX6_firstDoubtful 42 = .ok (.iinc 3 1, 3) := by decide +kernel
theorem dX6_firstDoubtful_45 : decode cX6_firstDoubtful 45 = .ok (.goto (-43), 3) := by decide +kernel
theorem dX6_firstDoubtful_48 : decode cX6_firstDoubtful 48 = .ok (.iconst (-1), 1) := by decide +kernel
theorem dX6_firstDoubtful_49 : decode cX6_firstDoubtful 49 = .ok (.ireturn, 1) := by decide +kernel
theorem dX6_readInto_0 : decode cX6_readInto 0 = .ok (.iconst 0, 1) := by decide +kernel
theorem dX6_readInto_1 : decode cX6_readInto 1 = .ok (.istore 4, 2) := by decide +kernel
theorem dX6_readInto_3 : decode cX6_readInto 3 = .ok (.iconst 0, 1) := by decide +kernel
theorem dX6_readInto_4 : decode cX6_readInto 4 = .ok (.istore 5, 2) := by decide +kernel
theorem dX6_readInto_6 : decode cX6_readInto 6 = .ok (.iconst 0, 1) := by decide +kernel
theorem dX6_readInto_7 : decode cX6_readInto 7 = .ok (.istore 6, 2) := by decide +kernel
theorem dX6_readInto_9 : decode cX6_readInto 9 = .ok (.iload_n 3, 1) := by decide +kernel
theorem dX6_readInto_10 : decode cX6_readInto 10 = .ok (.iconst 1, 1) := by decide +kernel
theorem dX6_readInto_11 : decode cX6_readInto 11 = .ok (.isub, 1) := by decide +kernel
theorem dX6_readInto_12 : decode cX6_readInto 12 = .ok (.istore 7, 2) := by decide +kernel
theorem dX6_readInto_14 : decode cX6_readInto 14 = .ok (.iload 7, 2) := by decide +kernel
theorem dX6_readInto_16 : decode cX6_readInto 16 = .ok (.ifCond .lt 64, 3) := by decide +kernel
theorem dX6_readInto_19 : decode cX6_readInto 19 = .ok (.iload_n 2, 1) := by decide +kernel
theorem dX6_readInto_20 : decode cX6_readInto 20 = .ok (.iload 7, 2) := by decide +kernel
theorem dX6_readInto_22 : decode cX6_readInto 22 = .ok (.iadd, 1) := by decide +kernel
theorem dX6_readInto_23 : decode cX6_readInto 23 = .ok (.istore 8, 2) := by decide +kernel
theorem dX6_readInto_25 : decode cX6_readInto 25 = .ok (.iload 4, 2) := by decide +kernel
theorem dX6_readInto_27 : decode cX6_readInto 27 = .ok (.bipush 8, 2) := by decide +kernel
theorem dX6_readInto_29 : decode cX6_readInto 29 = .ok (.ishl, 1) := by decide +kernel
theorem dX6_readInto_30 : decode cX6_readInto 30 = .ok (.aload_n 0, 1) := by decide +kernel
theorem dX6_readInto_31 : decode cX6_readInto 31 = .ok (.getfield 11, 3) := by decide +kernel
theorem dX6_readInto_34 : decode cX6_readInto 34 = .ok (.iload 8, 2) := by decide +kernel
theorem dX6_readInto_36 : decode cX6_readInto 36 = .ok (.iaload, 1) := by decide +kernel
theorem dX6_readInto_37 : decode cX6_readInto 37 = .ok (.ior, 1) := by decide +kernel
theorem dX6_readInto_38 : decode cX6_readInto 38 = .ok (.istore 4, 2) := by decide +kernel
theorem dX6_readInto_40 : decode cX6_readInto 40 = .ok (.iload 5, 2) := by decide +kernel
theorem dX6_readInto_42 : decode cX6_readInto 42 = .ok (.bipush 8, 2) := by decide +kernel
theorem dX6_readInto_44 : decode cX6_readInto 44 = .ok (.ishl, 1) := by decide +kernel
theorem dX6_readInto_45 : decode cX6_readInto 45 = .ok (.aload_n 0, 1) := by decide +kernel
theorem dX6_readInto_46 : decode cX6_readInto 46 = .ok (.getfield 15, 3) := by decide +kernel
theorem dX6_readInto_49 : decode cX6_readInto 49 = .ok (.iload 8, 2) := by decide +kernel
theorem dX6_readInto_51 : decode cX6_readInto 51 = .ok (.iaload, 1) := by decide +kernel
theorem dX6_readInto_52 : decode cX6_readInto 52 = .ok (.ior, 1) := by decide +kernel
theorem dX6_readInto_53 : decode cX6_readInto 53 = .ok (.istore 5, 2) := by decide +kernel
theorem dX6_readInto_55 : decode cX6_readInto 55 = .ok (.aload_n 0, 1) := by decide +kernel
theorem dX6_readInto_56 : decode cX6_readInto 56 = .ok (.getfield 15, 3) := by decide +kernel
theorem dX6_readInto_59 : decode cX6_readInto 59 = .ok (.iload 8, 2) := by decide +kernel
theorem dX6_readInto_61 : decode cX6_readInto 61 = .ok (.iaload, 1) := by decide +kernel
theorem dX6_readInto_62 : decode cX6_readInto 62 = .ok (.ifCond .eq 12, 3) := by decide +kernel
theorem dX6_readInto_65 : decode cX6_readInto 65 = .ok (.aload_n 0, 1) := by decide +kernel
theorem dX6_readInto_66 : decode cX6_readInto 66 = .ok (.getfield 18, 3) := by decide +kernel
theorem dX6_readInto_69 : decode cX6_readInto 69 = .ok (.iload 8, 2) := by decide +kernel
theorem dX6_readInto_71 : decode cX6_readInto 71 = .ok (.iaload, 1) := by decide +kernel
theorem dX6_readInto_72 : decode cX6_readInto 72 = .ok (.istore 6, 2) := by decide +kernel
theorem dX6_readInto_74 : decode cX6_readInto 74 = .ok (.iinc 7 (-1), 3) := by decide +kernel
theorem dX6_readInto_77 : decode cX6_readInto 77 = .ok (.goto (-63), 3) := by decide +kernel
theorem dX6_readInto_80 : decode cX6_readInto 80 = .ok (.aload_n 1, 1) := by decide +kernel
theorem dX6_readInto_81 : decode cX6_readInto 81 = .ok (.iload 4, 2) := by decide +kernel
theorem dX6_readInto_83 : decode cX6_readInto 83 = .ok (.iload 5, 2) := by decide +kernel
theorem dX6_readInto_85 : decode cX6_readInto 85 = .ok (.iload 6, 2) := by decide +kernel
theorem dX6_readInto_87 : decode cX6_readInto 87 = .ok (.invokevirtual 60, 3) := by decide +kernel
theorem dX6_readInto_90 : decode cX6_readInto 90 = .ok (.return_, 1) := by decide +kernel
theorem dX6_write_0 : decode cX6_write 0 = .ok (.iconst 0, 1) := by decide +kernel
theorem dX6_write_1 : decode cX6_write 1 = .ok (.istore 4, 2) := by decide +kernel
theorem dX6_write_3 : decode cX6_write 3 = .ok (.iload 4, 2) := by decide +kernel
theorem dX6_write_5 : decode cX6_write 5 = .ok (.iload_n 3, 1) := by decide +kernel
theorem dX6_write_6 : decode cX6_write 6 = .ok (.if_icmp .ge 41, 3) := by decide +kernel
theorem dX6_write_9 : decode cX6_write 9 = .ok (.aload_n 0, 1) := by decide +kernel
theorem dX6_write_10 : decode cX6_write 10 = .ok (.iload_n 2, 1) := by decide +kernel
theorem dX6_write_11 : decode cX6_write 11 = .ok (.iload 4, 2) := by decide +kernel
theorem dX6_write_13 : decode cX6_write 13 = .ok (.iadd, 1) := by decide +kernel
theorem dX6_write_14 : decode cX6_write 14 = .ok (.aload_n 1, 1) := by decide +kernel
theorem dX6_write_15 : decode cX6_write 15 = .ok (.getfield 65, 3) := by decide +kernel
theorem dX6_write_18 : decode cX6_write 18 = .ok (.bipush 8, 2) := by decide +kernel
theorem dX6_write_20 : decode cX6_write 20 = .ok (.iload 4, 2) := by decide +kernel
theorem dX6_write_22 : decode cX6_write 22 = .ok (.imul, 1) := by decide +kernel
theorem dX6_write_23 : decode cX6_write 23 = .ok (.iushr, 1) := by decide +kernel
theorem dX6_write_24 : decode cX6_write 24 = .ok (.aload_n 1, 1) := by decide +kernel
theorem dX6_write_25 : decode cX6_write 25 = .ok (.getfield 67, 3) := by decide +kernel
theorem dX6_write_28 : decode cX6_write 28 = .ok (.bipush 8, 2) := by decide +kernel
theorem dX6_write_30 : decode cX6_write 30 = .ok (.iload 4, 2) := by decide +kernel
theorem dX6_write_32 : decode cX6_write 32 = .ok (.imul, 1) := by decide +kernel
theorem dX6_write_33 : decode cX6_write 33 = .ok (.iushr, 1) := by decide +kernel
theorem dX6_write_34 : decode cX6_write 34 = .ok (.aload_n 1, 1) := by decide +kernel
theorem dX6_write_35 : decode cX6_write 35 = .ok (.getfield 70, 3) := by decide +kernel
theorem dX6_write_38 : decode cX6_write 38 = .ok (.invokevirtual 43, 3) := by decide +kernel
theorem dX6_write_41 : decode cX6_write 41 = .ok (.iinc 4 1, 3) := by decide +kernel
theorem dX6_write_44 : decode cX6_write 44 = .ok (.goto (-41), 3) := by decide +kernel
theorem dX6_write_47 : decode cX6_write 47 = .ok (.return_, 1) := by decide +kernel
theorem dX6_repeat_0 : decode cX6_repeat 0 = .ok (.iconst 0, 1) := by decide +kernel
theorem dX6_repeat_1 : decode cX6_repeat 1 = .ok (.istore 4, 2) := by decide +kernel
theorem dX6_repeat_3 : decode cX6_repeat 3 = .ok (.iload 4, 2) := by decide +kernel
theorem dX6_repeat_5 : decode cX6_repeat 5 = .ok (.iload_n 3, 1) := by decide +kernel
theorem dX6_repeat_6 : decode cX6_repeat 6 = .ok (.if_icmp .ge 29, 3) := by decide +kernel
theorem dX6_repeat_9 : decode cX6_repeat 9 = .ok (.aload_n 0, 1) := by decide +kernel
theorem dX6_repeat_10 : decode cX6_repeat 10 = .ok (.iload_n 2, 1) := by decide +kernel
theorem dX6_repeat_11 : decode cX6_repeat 11 = .ok (.iload 4, 2) := by decide +kernel
theorem dX6_repeat_13 : decode cX6_repeat 13 = .ok (.iadd, 1) := by decide +kernel
theorem dX6_repeat_14 : decode cX6_repeat 14 = .ok (.aload_n 1, 1) := by decide +kernel
theorem dX6_repeat_15 : decode cX6_repeat 15 = .ok (.getfield 65, 3) := by decide +kernel
theorem dX6_repeat_18 : decode cX6_repeat 18 = .ok (.aload_n 1, 1) := by decide +kernel
theorem dX6_repeat_19 : decode cX6_repeat 19 = .ok (.getfield 67, 3) := by decide +kernel
theorem dX6_repeat_22 : decode cX6_repeat 22 = .ok (.aload_n 1, 1) := by decide +kernel
theorem dX6_repeat_23 : decode cX6_repeat 23 = .ok (.getfield 70, 3) := by decide +kernel
theorem dX6_repeat_26 : decode cX6_repeat 26 = .ok (.invokevirtual 43, 3) := by decide +kernel
theorem dX6_repeat_29 : decode cX6_repeat 29 = .ok (.iinc 4 1, 3) := by decide +kernel
theorem dX6_repeat_32 : decode cX6_repeat 32 = .ok (.goto (-29), 3) := by decide +kernel
theorem dX6_repeat_35 : decode cX6_repeat 35 = .ok (.return_, 1) := by decide +kernel
theorem dX6_move_0 : decode cX6_move 0 = .ok (.iload_n 3, 1) := by decide +kernel
theorem dX6_move_1 : decode cX6_move 1 = .ok (.ifCond .le 61, 3) := by decide +kernel
theorem dX6_move_4 : decode cX6_move 4 = .ok (.iload_n 1, 1) := by decide +kernel
theorem dX6_move_5 : decode cX6_move 5 = .ok (.iload_n 3, 1) := by decide +kernel
theorem dX6_move_6 : decode cX6_move 6 = .ok (.invokestatic 73, 3) := by decide +kernel
theorem dX6_move_9 : decode cX6_move 9 = .ok (.ifCond .eq 53, 3) := by decide +kernel
theorem dX6_move_12 : decode cX6_move 12 = .ok (.iload_n 2, 1) := by decide +kernel
theorem dX6_move_13 : decode cX6_move 13 = .ok (.iload_n 3, 1) := by decide +kernel
theorem dX6_move_14 : decode cX6_move 14 = .ok (.invokestatic 73, 3) := by decide +kernel
theorem dX6_move_17 : decode cX6_move 17 = .ok (.ifCond .eq 45, 3) := by decide +kernel
theorem dX6_move_20 : decode cX6_move 20 = .ok (.aload_n 0, 1) := by decide +kernel
theorem dX6_move_21 : decode cX6_move 21 = .ok (.getfield 11, 3) := by decide +kernel
theorem dX6_move_24 : decode cX6_move 24 = .ok (.iload_n 1, 1) := by decide +kernel
theorem dX6_move_25 : decode cX6_move 25 = .ok (.aload_n 0, 1) := by decide +kernel
theorem dX6_move_26 : decode cX6_move 26 = .ok (.getfield 11, 3) := by decide +kernel
theorem dX6_move_29 : decode cX6_move 29 = .ok (.iload_n 2, 1) := by decide +kernel
theorem dX6_move_30 : decode cX6_move 30 = .ok (.iload_n 3, 1) := by decide +kernel
theorem dX6_move_31 : decode cX6_move 31 = .ok (.invokestatic 77, 3) := by decide +kernel
theorem dX6_move_34 : decode cX6_move 34 = .ok (.aload_n 0, 1) := by decide +kernel
theorem dX6_move_35 : decode cX6_move 35 = .ok (.getfield 15, 3) := by decide +kernel
theorem dX6_move_38 : decode cX6_move 38 = .ok (.iload_n 1, 1) := by decide +kernel
theorem dX6_move_39 : decode cX6_move 39 = .ok (.aload_n 0, 1) := by decide +kernel
theorem dX6_move_40 : decode cX6_move 40 = .ok (.getfield 15, 3) := by decide +kernel
theorem dX6_move_43 : decode cX6_move 43 = .ok (.iload_n 2, 1) := by decide +kernel
theorem dX6_move_44 : decode cX6_move 44 = .ok (.iload_n 3, 1) := by decide +kernel
theorem dX6_move_45 : decode cX6_move 45 = .ok (.invokestatic 77, 3) := by decide +kernel
theorem dX6_move_48 : decode cX6_move 48 = .ok (.aload_n 0, 1) := by decide +kernel
theorem dX6_move_49 : decode cX6_move 49 = .ok (.getfield 18, 3) := by decide +kernel
theorem dX6_move_52 : decode cX6_move 52 = .ok (.iload_n 1, 1) := by decide +kernel
theorem dX6_move_53 : decode cX6_move 53 = .ok (.aload_n 0, 1) := by decide +kernel
theorem dX6_move_54 : decode cX6_move 54 = .ok (.getfield 18, 3) := by decide +kernel
theorem dX6_move_57 : decode cX6_move 57 = .ok (.iload_n 2, 1) := by decide +kernel
theorem dX6_move_58 : decode cX6_move 58 = .ok (.iload_n 3, 1) := by decide +kernel
theorem dX6_move_59 : decode cX6_move 59 = .ok (.invokestatic 77, 3) := by decide +kernel
theorem dX6_move_62 : decode cX6_move 62 = .ok (.return_, 1) := by decide +kernel
theorem dX6_isSetWord_0 : decode cX6_isSetWord 0 = .ok (.iload_n 1, 1) := by decide +kernel
theorem dX6_isSetWord_1 : decode cX6_isSetWord 1 = .ok (.iconst 4, 1) := by decide +kernel
theorem dX6_isSetWord_2 : decode cX6_isSetWord 2 = .ok (.invokestatic 73, 3) := by decide +kernel
theorem dX6_isSetWord_5 : decode cX6_isSetWord 5 = .ok (.ifCond .eq 17, 3) := by decide +kernel
theorem dX6_isSetWord_8 : decode cX6_isSetWord 8 = .ok (.aload_n 0, 1) := by decide +kernel
theorem dX6_isSetWord_9 : decode cX6_isSetWord 9 = .ok (.iload_n 1, 1) := by decide +kernel
theorem dX6_isSetWord_10 : decode cX6_isSetWord 10 = .ok (.iconst 4, 1) := by decide +kernel
theorem dX6_isSetWord_11 : decode cX6_isSetWord 11 = .ok (.invokevirtual 83, 3) := by decide +kernel
theorem dX6_isSetWord_14 : decode cX6_isSetWord 14 = .ok (.iconst (-1), 1) := by decide +kernel
theorem dX6_isSetWord_15 : decode cX6_isSetWord 15 = .ok (.if_icmp .ne 7, 3) := by decide +kernel
theorem dX6_isSetWord_18 : decode cX6_isSetWord 18 = .ok (.iconst 1, 1) := by decide +kernel
theorem dX6_isSetWord_19 : decode cX6_isSetWord 19 = .ok (.goto 4, 3) := by decide +kernel
theorem dX6_isSetWord_22 : decode cX6_isSetWord 22 = .ok (.iconst 0, 1) := by decide +kernel
theorem dX6_isSetWord_23 : decode cX6_isSetWord 23 = .ok (.ireturn, 1) := by decide +kernel
theorem dX6_wordAt_0 : decode cX6_wordAt 0 = .ok (.aload_n 0, 1) := by decide +kernel
theorem dX6_wordAt_1 : decode cX6_wordAt 1 = .ok (.getfield 11, 3) := by decide +kernel
theorem dX6_wordAt_4 : decode cX6_wordAt 4 = .ok (.iload_n 1, 1) := by decide +kernel
theorem dX6_wordAt_5 : decode cX6_wordAt 5 = .ok (.iaload, 1) := by decide +kernel
theorem dX6_wordAt_6 : decode cX6_wordAt 6 = .ok (.aload_n 0, 1) := by decide +kernel
theorem dX6_wordAt_7 : decode cX6_wordAt 7 = .ok (.getfield 11, 3) := by decide +kernel
theorem dX6_wordAt_10 : decode cX6_wordAt 10 = .ok (.iload_n 1, 1) := by decide +kernel
theorem dX6_wordAt_11 : decode cX6_wordAt 11 = .ok (.iconst 1, 1) := by decide +kernel
theorem dX6_wordAt_12 : decode cX6_wordAt 12 = .ok (.iadd, 1) := by decide +kernel
theorem dX6_wordAt_13 : decode cX6_wordAt 13 = .ok (.iaload, 1) := by decide +kernel
theorem dX6_wordAt_14 : decode cX6_wordAt 14 = .ok (.bipush 8, 2) := by decide +kernel
theorem dX6_wordAt_16 : decode cX6_wordAt 16 = .ok (.ishl, 1) := by decide +kernel
theorem dX6_wordAt_17 : decode cX6_wordAt 17 = .ok (.ior, 1) := by decide +kernel
theorem dX6_wordAt_18 : decode cX6_wordAt 18 = .ok (.aload_n 0, 1) := by decide +kernel
theorem dX6_wordAt_19 : decode cX6_wordAt 19 = .ok (.getfield 11, 3) := by decide +kernel
theorem dX6_wordAt_22 : decode cX6_wordAt 22 = .ok (.iload_n 1, 1) := by decide +kernel
theorem dX6_wordAt_23 : decode cX6_wordAt 23 = .ok (.iconst 2, 1) := by decide +kernel
theorem dX6_wordAt_24 : decode cX6_wordAt 24 = .ok (.iadd, 1) := by decide +kernel
theorem dX6_wordAt_25 : decode cX6_wordAt 25 = .ok (.iaload, 1) := by decide +kernel
theorem dX6_wordAt_26 : decode cX6_wordAt 26 = .ok (.bipush 16, 2) := by decide +kernel
theorem dX6_wordAt_28 : decode cX6_wordAt 28 = .ok (.ishl, 1) := by decide +kernel
theorem dX6_wordAt_29 : decode cX6_wordAt 29 = .ok (.ior, 1) := by decide +kernel
theorem dX6_wordAt_30 : decode cX6_wordAt 30 = .ok (.aload_n 0, 1) := by decide +kernel
theorem dX6_wordAt_31 : decode cX6_wordAt 31 = .ok (.getfield 11, 3) := by decide +kernel
theorem dX6_wordAt_34 : decode cX6_wordAt 34 = .ok (.iload_n 1, 1) := by decide +kernel
theorem dX6_wordAt_35 : decode cX6_wordAt 35 = .ok (.iconst 3, 1) := by decide +kernel
theorem dX6_wordAt_36 : decode cX6_wordAt 36 = .ok (.iadd, 1) := by decide +kernel
theorem dX6_wordAt_37 : decode cX6_wordAt 37 = .ok (.iaload, 1) := by decide +kernel
theorem dX6_wordAt_38 : decode cX6_wordAt 38 = .ok (.bipush 24, 2) := by decide +kernel
theorem dX6_wordAt_40 : decode cX6_wordAt 40 = .ok (.ishl, 1) := by decide +kernel
theorem dX6_wordAt_41 : decode cX6_wordAt 41 = .ok (.ior, 1) := by decide +kernel
theorem dX6_wordAt_42 : decode cX6_wordAt 42 = .ok (.ireturn, 1) := by decide +kernel
theorem dX7_shapeOf_0 : decode cX7_shapeOf 0 = .ok (.iload_n 0, 1) := by decide +kernel
theorem dX7_shapeOf_1 : decode cX7_shapeOf 1 = .ok (.ifCond .ne 6, 3) := by decide +kernel
theorem dX7_shapeOf_4 : decode cX7_shapeOf 4 = .ok (.ldc 7, 2) := by decide +kernel
theorem dX7_shapeOf_6 : decode cX7_shapeOf 6 = .ok (.areturn, 1) := by decide +kernel
theorem dX7_shapeOf_7 : decode cX7_shapeOf 7 = .ok (.iload_n 0, 1) := by decide +kernel
theorem dX7_shapeOf_8 : decode cX7_shapeOf 8 = .ok (.iconst 3, 1) := by decide +kernel
theorem dX7_shapeOf_9 : decode cX7_shapeOf 9 = .ok (.if_icmp .le 15, 3) := by decide +kernel
theorem dX7_shapeOf_12 : decode cX7_shapeOf 12 = .ok (.iload_n 0, 1) := by decide +kernel
theorem dX7_shapeOf_13 : decode cX7_shapeOf 13 = .ok (.bipush 19, 2) := by decide +kernel
theorem dX7_shapeOf_15 : decode cX7_shapeOf 15 = .ok (.if_icmp .eq 9, 3) := by decide +kernel
theorem dX7_shapeOf_18 : decode cX7_shapeOf 18 = .ok (.iload_n 0, 1) := by decide +kernel
theorem dX7_shapeOf_19 : decode cX7_shapeOf 19 = .ok (.bipush 20, 2) := by decide +kernel
theorem dX7_shapeOf_21 : decode cX7_shapeOf 21 = .ok (.if_icmp .ne 6, 3) := by decide +kernel
theorem dX7_shapeOf_24 : decode cX7_shapeOf 24 = .ok (.ldc 11, 2) := by decide +kernel
theorem dX7_shapeOf_26 : decode cX7_shapeOf 26 = .ok (.areturn, 1) := by decide +kernel
theorem dX7_shapeOf_27 : decode cX7_shapeOf 27 = .ok (.iload_n 0, 1) := by decide +kernel
theorem dX7_shapeOf_28 : decode cX7_shapeOf 28 = .ok (.bipush 18, 2) := by decide +kernel
theorem dX7_shapeOf_30 : decode cX7_shapeOf 30 = .ok (.if_icmp .gt 6, 3) := by decide +kernel
theorem dX7_shapeOf_33 : decode cX7_shapeOf 33 = .ok (.ldc 13, 2) := by decide +kernel
theorem dX7_shapeOf_35 : decode cX7_shapeOf 35 = .ok (.areturn, 1) := by decide +kernel
theorem dX7_shapeOf_36 : decode cX7_shapeOf 36 = .ok (.iload_n 0, 1) := by decide +kernel
theorem dX7_shapeOf_37 : decode cX7_shapeOf 37 = .ok (.bipush 28, 2) := by decide +kernel
theorem dX7_shapeOf_39 : decode cX7_shapeOf 39 = .ok (.if_icmp .gt 6, 3) := by decide +kernel
theorem dX7_shapeOf_42 : decode cX7_shapeOf 42 = .ok (.ldc 15, 2) := by decide +kernel
theorem dX7_shapeOf_44 : decode cX7_shapeOf 44 = .ok (.areturn, 1) := by decide +kernel
theorem dX7_shapeOf_45 : decode cX7_shapeOf 45 = .ok (.iload_n 0, 1) := by decide +kernel
theorem dX7_shapeOf_46 : decode cX7_shapeOf 46 = .ok (.bipush 34, 2) := by decide +kernel
theorem dX7_shapeOf_48 : decode cX7_shapeOf 48 = .ok (.if_icmp .gt 6, 3) := by decide +kernel
theorem dX7_shapeOf_51 : decode cX7_shapeOf 51 = .ok (.ldc 17, 2) := by decide +kernel
theorem dX7_shapeOf_53 : decode cX7_shapeOf 53 = .ok (.areturn, 1) := by decide +kernel
theorem dX7_shapeOf_54 : decode cX7_shapeOf 54 = .ok (.iload_n 0, 1) := by decide +kernel
theorem dX7_shapeOf_55 : decode cX7_shapeOf 55 = .ok (.invokestatic 19, 3) := by decide +kernel
theorem dX7_shapeOf_58 : decode cX7_shapeOf 58 = .ok (.areturn, 1) := by decide +kernel
theorem dX7_shapeOfOther_0 : decode cX7_shapeOfOther 0 = .ok (.iload_n 0, 1) := by decide +kernel
theorem dX7_shapeOfOther_1 : decode cX7_shapeOfOther 1 = .ok (.tableswitch 94 35 50 #[79, 79, 82, 82, 94, 94, 85, 85, 88, 94, 88, 88, 94, 94, 91, 88], 79) := by decide +kernel
theorem dX7_shapeOfOther_80 : decode cX7_shapeOfOther 80 = .ok (.ldc 23, 2) := by decide +kernel
theorem dX7_shapeOfOther_82 : decode cX7_shapeOfOther 82 = .ok (.areturn, 1) := by decide +kernel
theorem dX7_shapeOfOther_83 : decode cX7_shapeOfOther 83 = .ok (.ldc 25, 2) := by decide +kernel
theorem dX7_shapeOfOther_85 : decode cX7_shapeOfOther 85 = .ok (.areturn, 1) := by decide +kernel
theorem dX7_shapeOfOther_86 : decode cX7_shapeOfOther 86 = .ok (.ldc 27, 2) := by decide +kernel
theorem dX7_shapeOfOther_88 : decode cX7_shapeOfOther 88 = .ok (.areturn, 1) := by decide +kernel
theorem dX7_shapeOfOther_89 : decode cX7_shapeOfOther 89 = .ok (.ldc 13, 2) := by decide +kernel
theorem dX7_shapeOfOther_91 : decode cX7_shapeOfOther 91 = .ok (.areturn, 1) := by decide +kernel
theorem dX7_shapeOfOther_92 : decode cX7_shapeOfOther 92 = .ok (.ldc 29, 2) := by decide +kernel
theorem dX7_shapeOfOther_94 : decode cX7_shapeOfOther 94 = .ok (.areturn, 1) := by decide +kernel
theorem dX7_shapeOfOther_95 : decode cX7_shapeOfOther 95 = .ok (.ldc 31, 2) := by decide +kernel
theorem dX7_shapeOfOther_97 : decode cX7_shapeOfOther 97 = .ok (.areturn, 1) := by decide +kernel
theorem dX8_init_0 : decode cX8_init 0 = .ok (.aload_n 0, 1) := by decide +kernel
theorem dX8_init_1 : decode cX8_init 1 = .ok (.invokespecial 3, 3) := by decide +kernel
theorem dX8_init_4 : decode cX8_init 4 = .ok (.aload_n 0, 1) := by decide +kernel
theorem dX8_init_5 : decode cX8_init 5 = .ok (.sipush 200, 3) := by decide +kernel
theorem dX8_init_8 : decode cX8_init 8 = .ok (.newarray .int, 2) := by decide +kernel
theorem dX8_init_10 : decode cX8_init 10 = .ok (.putfield 11, 3) := by decide +kernel
theorem dX8_init_13 : decode cX8_init 13 = .ok (.aload_n 0, 1) := by decide +kernel
theorem dX8_init_14 : decode cX8_init 14 = .ok (.sipush 600, 3) := by decide +kernel
theorem dX8_init_17 : decode cX8_init 17 = .ok (.newarray .int, 2) := by decide +kernel
theorem dX8_init_19 : decode cX8_init 19 = .ok (.putfield 15, 3) := by decide +kernel
theorem dX8_init_22 : decode cX8_init 22 = .ok (.aload_n 0, 1) := by decide +kernel
theorem dX8_init_23 : decode cX8_init 23 = .ok (.sipush 200, 3) := by decide +kernel
theorem dX8_init_26 : decode cX8_init 26 = .ok (.newarray .boolean, 2) := by decide +kernel
theorem dX8_init_28 : decode cX8_init 28 = .ok (.putfield 18, 3) := by decide +kernel
theorem dX8_init_31 : decode cX8_init 31 = .ok (.aload_n 0, 1) := by decide +kernel
theorem dX8_init_32 : decode cX8_init 32 = .ok (.bipush 100, 2) := by decide +kernel
theorem dX8_init_34 : decode cX8_init 34 = .ok (.newarray .int, 2) := by decide +kernel
theorem dX8_init_36 : decode cX8_init 36 = .ok (.putfield 22, 3) := by decide +kernel
theorem dX8_init_39 : decode cX8_init 39 = .ok (.return_, 1) := by decide +kernel
theorem dX8_clear_0 : decode cX8_clear 0 = .ok (.aload_n 0, 1) := by decide +kernel
theorem dX8_clear_1 : decode cX8_clear 1 = .ok (.iconst 0, 1) := by decide +kernel
theorem dX8_clear_2 : decode cX8_clear 2 = .ok (.putfield 25, 3) := by decide +kernel
theorem dX8_clear_5 : decode cX8_clear 5 = .ok (.aload_n 0, 1) := by decide +kernel
theorem dX8_clear_6 : decode cX8_clear 6 = .ok (.iconst 0, 1) := by decide +kernel
theorem dX8_clear_7 : decode cX8_clear 7 = .ok (.putfield 29, 3) := by decide +kernel
theorem dX8_clear_10 : decode cX8_clear 10 = .ok (.return_, 1) := by decide +kernel
theorem dX8_setOperand_0 : decode cX8_setOperand 0 = .ok (.aload_n 0, 1) := by decide +kernel
theorem dX8_setOperand_1 : decode cX8_setOperand 1 = .ok (.getfield 15, 3) := by decide +kernel
theorem dX8_setOperand_4 : decode cX8_setOperand 4 = .ok (.iload_n 1, 1) := by decide +kernel
theorem dX8_setOperand_5 : decode cX8_setOperand 5 = .ok (.iconst 3, 1) := by decide +kernel
theorem dX8_setOperand_6 : decode cX8_setOperand 6 = .ok (.imul, 1) := by decide +kernel
theorem dX8_setOperand_7 : decode cX8_setOperand 7 = .ok (.iload_n 2, 1) := by decide +kernel
theorem dX8_setOperand_8 : decode cX8_setOperand 8 = .ok (.iadd, 1) := by decide +kernel
theorem dX8_setOperand_9 : decode cX8_setOperand 9 = .ok (.iload_n 3, 1) := by decide +kernel
theorem dX8_setOperand_10 : decode cX8_setOperand 10 = .ok (.iastore, 1) := by decide +kernel
theorem dX8_setOperand_11 : decode cX8_setOperand 11 = .ok (.return_, 1) := by decide +kernel
theorem dX8_addInput_0 : decode cX8_addInput 0 = .ok (.aload_n 0, 1) := by decide +kernel
theorem dX8_addInput_1 : decode cX8_addInput 1 = .ok (.getfield 29, 3) := by decide +kernel
theorem dX8_addInput_4 : decode cX8_addInput 4 = .ok (.bipush 100, 2) := by decide +kernel
theorem dX8_addInput_6 : decode cX8_addInput 6 = .ok (.if_icmp .lt 5, 3) := by decide +kernel
theorem dX8_addInput_9 : decode cX8_addInput 9 = .ok (.iconst (-1), 1) := by decide +kernel
theorem dX8_addInput_10 : decode cX8_addInput 10 = .ok (.ireturn, 1) := by decide +kernel
theorem dX8_addInput_11 : decode cX8_addInput 11 = .ok (.aload_n 0, 1) := by decide +kernel
theorem dX8_addInput_12 : decode cX8_addInput 12 = .ok (.getfield 22, 3) := by decide +kernel
theorem dX8_addInput_15 : decode cX8_addInput 15 = .ok (.aload_n 0, 1) := by decide +kernel
theorem dX8_addInput_16 : decode cX8_addInput 16 = .ok (.getfield 29, 3) := by decide +kernel
theorem dX8_addInput_19 : decode cX8_addInput 19 = .ok (.iload_n 1, 1) := by decide +kernel
theorem dX8_addInput_20 : decode cX8_addInput 20 = .ok (.iastore, 1) := by decide +kernel
theorem dX8_addInput_21 : decode cX8_addInput 21 = .ok (.aload_n 0, 1) := by decide +kernel
theorem dX8_addInput_22 : decode cX8_addInput 22 = .ok (.dup, 1) := by decide +kernel
theorem dX8_addInput_23 : decode cX8_addInput 23 = .ok (.getfield 29, 3) := by decide +kernel
theorem dX8_addInput_26 : decode cX8_addInput 26 = .ok (.iconst 1, 1) := by decide +kernel
theorem dX8_addInput_27 : decode cX8_addInput 27 = .ok (.iadd, 1) := by decide +kernel
theorem dX8_addInput_28 : decode cX8_addInput 28 = .ok (.putfield 29, 3) := by decide +kernel
theorem dX8_addInput_31 : decode cX8_addInput 31 = .ok (.aload_n 0, 1) := by decide +kernel
theorem dX8_addInput_32 : decode cX8_addInput 32 = .ok (.getfield 29, 3) := by decide +kernel
theorem dX8_addInput_35 : decode cX8_addInput 35 = .ok (.ireturn, 1) := by decide +kernel
theorem dX9_value_0 : decode cX9_value 0 = .ok (.iload_n 0, 1) := by decide +kernel
theorem dX9_value_1 : decode cX9_value 1 = .ok (.tableswitch 182 2 18 #[83, 182, 87, 91, 95, 99, 111, 123, 127, 131, 182, 182, 182, 135, 146, 157, 168], 83) := by decide +kernel
theorem dX9_value_84 : decode cX9_value 84 = .ok (.iload_n 1, 1) := by decide +kernel
theorem dX9_value_85 : decode cX9_value 85 = .ok (.iconst (-1), 1) := by decide +kernel
theorem dX9_value_86 : decode cX9_value 86 = .ok (.ixor, 1) := by decide +kernel
theorem dX9_value_87 : decode cX9_value 87 = .ok (.ireturn, 1) := by decide +kernel
theorem dX9_value_88 : decode cX9_value 88 = .ok (.iload_n 1, 1) := by decide +kernel
theorem dX9_value_89 : decode cX9_value 89 = .ok (.iload_n 2, 1) := by decide +kernel
theorem dX9_value_90 : decode cX9_value 90 = .ok (.iadd, 1) := by decide +kernel
theorem dX9_value_91 : decode cX9_value 91 = .ok (.ireturn, 1) := by decide +kernel
theorem dX9_value_92 : decode cX9_value 92 = .ok (.iload_n 1, 1) := by decide +kernel
theorem dX9_value_93 : decode cX9_value 93 = .ok (.iload_n 2, 1) := by decide +kernel
theorem dX9_value_94 : decode cX9_value 94 = .ok (.isub, 1) := by decide +kernel
theorem dX9_value_95 : decode cX9_value 95 = .ok (.ireturn, 1) := by decide +kernel
theorem dX9_value_96 : decode cX9_value 96 = .ok (.iload_n 1, 1) := by decide +kernel
theorem dX9_value_97 : decode cX9_value 97 = .ok (.iload_n 2, 1) := by decide +kernel
theorem dX9_value_98 : decode cX9_value 98 = .ok (.imul, 1) := by decide +kernel
theorem dX9_value_99 : decode cX9_value 99 = .ok (.ireturn, 1) := by decide +kernel
theorem dX9_value_100 : decode cX9_value 100 = .ok (.iload_n 2, 1) := by decide +kernel
theorem dX9_value_101 : decode cX9_value 101 = .ok (.ifCond .ne 7, 3) := by decide +kernel
theorem dX9_value_104 : decode cX9_value 104 = .ok (.iconst 0, 1) := by decide +kernel
theorem dX9_value_105 : decode cX9_value 105 = .ok (.goto 6, 3) := by decide +kernel
theorem dX9_value_108 : decode cX9_value 108 = .ok (.iload_n 1, 1) := by decide +kernel
theorem dX9_value_109 : decode cX9_value 109 = .ok (.iload_n 2, 1) := by decide +kernel
theorem dX9_value_110 : decode cX9_value 110 = .ok (.idiv, 1) := by decide +kernel
theorem dX9_value_111 : decode cX9_value 111 = .ok (.ireturn, 1) := by decide +kernel
theorem dX9_value_112 : decode cX9_value 112 = .ok (.iload_n 2, 1) := by decide +kernel
theorem dX9_value_113 : decode cX9_value 113 = .ok (.ifCond .ne 7, 3) := by decide +kernel
theorem dX9_value_116 : decode cX9_value 116 = .ok (.iconst 0, 1) := by decide +kernel
theorem dX9_value_117 : decode cX9_value 117 = .ok (.goto 6, 3) := by decide +kernel
theorem dX9_value_120 : decode cX9_value 120 = .ok (.iload_n 1, 1) := by decide +kernel
theorem dX9_value_121 : decode cX9_value 121 = .ok (.iload_n 2, 1) := by decide +kernel
theorem dX9_value_122 : decode cX9_value 122 = .ok (.irem, 1) := by decide +kernel
theorem dX9_value_123 : decode cX9_value 123 = .ok (.ireturn, 1) := by decide +kernel
theorem dX9_value_124 : decode cX9_value 124 = .ok (.iload_n 1, 1) := by decide +kernel
theorem dX9_value_125 : decode cX9_value 125 = .ok (.iload_n 2, 1) := by decide +kernel
theorem dX9_value_126 : decode cX9_value 126 = .ok (.iand, 1) := by decide +kernel
theorem dX9_value_127 : decode cX9_value 127 = .ok (.ireturn, 1) := by decide +kernel
theorem dX9_value_128 : decode cX9_value 128 = .ok (.iload_n 1, 1) := by decide +kernel
theorem dX9_value_129 : decode cX9_value 129 = .ok (.iload_n 2, 1) := by decide +kernel
theorem dX9_value_130 : decode cX9_value 130 = .ok (.ior, 1) := by decide +kernel
theorem dX9_value_131 : decode cX9_value 131 = .ok (.ireturn, 1) := by decide +kernel
theorem dX9_value_132 : decode cX9_value 132 = .ok (.iload_n 1, 1) := by decide +kernel
theorem dX9_value_133 : decode cX9_value 133 = .ok (.iload_n 2, 1) := by decide +kernel
theorem dX9_value_134 : decode cX9_value 134 = .ok (.ixor, 1) := by decide +kernel
theorem dX9_value_135 : decode cX9_value 135 = .ok (.ireturn, 1) := by decide +kernel
theorem dX9_value_136 : decode cX9_value 136 = .ok (.iload_n 1, 1) := by decide +kernel
theorem dX9_value_137 : decode cX9_value 137 = .ok (.iload_n 2, 1) := by decide +kernel
theorem dX9_value_138 : decode cX9_value 138 = .ok (.if_icmp .ne 7, 3) := by decide +kernel
theorem dX9_value_141 : decode cX9_value 141 = .ok (.iconst 1, 1) := by decide +kernel
theorem dX9_value_142 : decode cX9_value 142 = .ok (.goto 4, 3) := by decide +kernel
theorem dX9_value_145 : decode cX9_value 145 = .ok (.iconst 0, 1) := by decide +kernel
theorem dX9_value_146 : decode cX9_value 146 = .ok (.ireturn, 1) := by decide +kernel
theorem dX9_value_147 : decode cX9_value 147 = .ok (.iload_n 1, 1) := by decide +kernel
theorem dX9_value_148 : decode cX9_value 148 = .ok (.iload_n 2, 1) := by decide +kernel
theorem dX9_value_149 : decode cX9_value 149 = .ok (.if_icmp .eq 7, 3) := by decide +kernel
theorem dX9_value_152 : decode cX9_value 152 = .ok (.iconst 1, 1) := by decide +kernel
theorem dX9_value_153 : decode cX9_value 153 = .ok (.goto 4, 3) := by decide +kernel
theorem dX9_value_156 : decode cX9_value 156 = .ok (.iconst 0, 1) := by decide +kernel
theorem dX9_value_157 : decode cX9_value 157 = .ok (.ireturn, 1) := by decide +kernel
theorem dX9_value_158 : decode cX9_value 158 = .ok (.iload_n 1, 1) := by decide +kernel
theorem dX9_value_159 : decode cX9_value 159 = .ok (.iload_n 2, 1) := by decide +kernel
theorem dX9_value_160 : decode cX9_value 160 = .ok (.if_icmp .ge 7, 3) := by decide +kernel
theorem dX9_value_163 : decode cX9_value 163 = .ok (.iconst 1, 1) := by decide +kernel
theorem dX9_value_164 : decode cX9_value 164 = .ok (.goto 4, 3) := by decide +kernel
theorem dX9_value_167 : decode cX9_value 167 = .ok (.iconst 0, 1) := by decide +kernel
theorem dX9_value_168 : decode cX9_value 168 = .ok (.ireturn, 1) := by decide +kernel
theorem dX9_value_169 : decode cX9_value 169 = .ok (.iload_n 1, 1) := by decide +kernel
theorem dX9_value_170 : decode cX9_value 170 = .ok (.iload_n 2, 1) := by decide +kernel
theorem dX9_value_171 : decode cX9_value 171 = .ok (.invokestatic 7, 3) := by decide +kernel
theorem dX9_value_174 : decode cX9_value 174 = .ok (.ifCond .eq 7, 3) := by decide +kernel
theorem dX9_value_177 : decode cX9_value 177 = .ok (.iconst 1, 1) := by decide +kernel
theorem dX9_value_178 : decode cX9_value 178 = .ok (.goto 4, 3) := by decide +kernel
theorem dX9_value_181 : decode cX9_value 181 = .ok (.iconst 0, 1) := by decide +kernel
theorem dX9_value_182 : decode cX9_value 182 = .ok (.ireturn, 1) := by decide +kernel
theorem dX9_value_183 : decode cX9_value 183 = .ok (.iload_n 0, 1) := by decide +kernel
theorem dX9_value_184 : decode cX9_value 184 = .ok (.iload_n 1, 1) := by decide +kernel
theorem dX9_value_185 : decode cX9_value 185 = .ok (.iload_n 2, 1) := by decide +kernel
theorem dX9_value_186 : decode cX9_value 186 = .ok (.invokestatic 13, 3) := by decide +kernel
theorem dX9_value_189 : decode cX9_value 189 = .ok (.ireturn, 1) := by decide +kernel
theorem dX9_moved_0 : decode cX9_moved 0 = .ok (.iload_n 0, 1) := by decide +kernel
theorem dX9_moved_1 : decode cX9_moved 1 = .ok (.tableswitch 88 12 20 #[51, 58, 65, 88, 88, 88, 88, 72, 80], 51) := by decide +kernel
theorem dX9_moved_52 : decode cX9_moved 52 = .ok (.iload_n 1, 1) := by decide +kernel
theorem dX9_moved_53 : decode cX9_moved 53 = .ok (.iload_n 2, 1) := by decide +kernel
theorem dX9_moved_54 : decode cX9_moved 54 = .ok (.bipush 31, 2) := by decide +kernel
theorem dX9_moved_56 : decode cX9_moved 56 = .ok (.iand, 1) := by decide +kernel
theorem dX9_moved_57 : decode cX9_moved 57 = .ok (.ishl, 1) := by decide +kernel
theorem dX9_moved_58 : decode cX9_moved 58 = .ok (.ireturn, 1) := by decide +kernel
theorem dX9_moved_59 : decode cX9_moved 59 = .ok (.iload_n 1, 1) := by decide +kernel
theorem dX9_moved_60 : decode cX9_moved 60 = .ok (.iload_n 2, 1) := by decide +kernel
theorem dX9_moved_61 : decode cX9_moved 61 = .ok (.bipush 31, 2) := by decide +kernel
theorem dX9_moved_63 : decode cX9_moved 63 = .ok (.iand, 1) := by decide +kernel
theorem dX9_moved_64 : decode cX9_moved 64 = .ok (.iushr, 1) := by decide +kernel
theorem dX9_moved_65 : decode cX9_moved 65 = .ok (.ireturn, 1) := by decide +kernel
theorem dX9_moved_66 : decode cX9_moved 66 = .ok (.iload_n 1, 1) := by decide +kernel
theorem dX9_moved_67 : decode cX9_moved 67 = .ok (.iload_n 2, 1) := by decide +kernel
theorem dX9_moved_68 : decode cX9_moved 68 = .ok (.bipush 31, 2) := by decide +kernel
theorem dX9_moved_70 : decode cX9_moved 70 = .ok (.iand, 1) := by decide +kernel
theorem dX9_moved_71 : decode cX9_moved 71 = .ok (.ishr, 1) := by decide +kernel
theorem dX9_moved_72 : decode cX9_moved 72 = .ok (.ireturn, 1) := by decide +kernel
theorem dX9_moved_73 : decode cX9_moved 73 = .ok (.iload_n 1, 1) := by decide +kernel
theorem dX9_moved_74 : decode cX9_moved 74 = .ok (.bipush 24, 2) := by decide +kernel
theorem dX9_moved_76 : decode cX9_moved 76 = .ok (.ishl, 1) := by decide +kernel
theorem dX9_moved_77 : decode cX9_moved 77 = .ok (.bipush 24, 2) := by decide +kernel
theorem dX9_moved_79 : decode cX9_moved 79 = .ok (.ishr, 1) := by decide +kernel
theorem dX9_moved_80 : decode cX9_moved 80 = .ok (.ireturn, 1) := by decide +kernel
theorem dX9_moved_81 : decode cX9_moved 81 = .ok (.iload_n 1, 1) := by decide +kernel
theorem dX9_moved_82 : decode cX9_moved 82 = .ok (.bipush 16, 2) := by decide +kernel
theorem dX9_moved_84 : decode cX9_moved 84 = .ok (.ishl, 1) := by decide +kernel
theorem dX9_moved_85 : decode cX9_moved 85 = .ok (.bipush 16, 2) := by decide +kernel
theorem dX9_moved_87 : decode cX9_moved 87 = .ok (.ishr, 1) := by decide +kernel
theorem dX9_moved_88 : decode cX9_moved 88 = .ok (.ireturn, 1) := by decide +kernel
theorem dX9_moved_89 : decode cX9_moved 89 = .ok (.iload_n 1, 1) := by decide +kernel
theorem dX9_moved_90 : decode cX9_moved 90 = .ok (.ireturn, 1) := by decide +kernel
theorem dX9_shade_0 : decode cX9_shade 0 = .ok (.aload_n 1, 1) := by decide +kernel
theorem dX9_shade_1 : decode cX9_shade 1 = .ok (.getfield 17, 3) := by decide +kernel
theorem dX9_shade_4 : decode cX9_shade 4 = .ok (.aload_n 2, 1) := by decide +kernel
theorem dX9_shade_5 : decode cX9_shade 5 = .ok (.getfield 17, 3) := by decide +kernel
theorem dX9_shade_8 : decode cX9_shade 8 = .ok (.ior, 1) := by decide +kernel
theorem dX9_shade_9 : decode cX9_shade 9 = .ok (.istore 4, 2) := by decide +kernel
theorem dX9_shade_11 : decode cX9_shade 11 = .ok (.iload_n 0, 1) := by decide +kernel
theorem dX9_shade_12 : decode cX9_shade 12 = .ok (.tableswitch 287 4 18 #[76, 111, 146, 174, 174, 180, 203, 230, 233, 233, 233, 263, 263, 270, 279], 76) := by decide +kernel
theorem dX9_shade_88 : decode cX9_shade 88 = .ok (.iload_n 3, 1) := by decide +kernel
theorem dX9_shade_89 : decode cX9_shade 89 = .ok (.ifCond .eq 28, 3) := by decide +kernel
theorem dX9_shade_92 : decode cX9_shade 92 = .ok (.aload_n 1, 1) := by decide +kernel
theorem dX9_shade_93 : decode cX9_shade 93 = .ok (.invokestatic 23, 3) := by decide +kernel
theorem dX9_shade_96 : decode cX9_shade 96 = .ok (.aload_n 2, 1) := by decide +kernel
theorem dX9_shade_97 : decode cX9_shade 97 = .ok (.invokestatic 23, 3) := by decide +kernel
theorem dX9_shade_100 : decode cX9_shade 100 = .ok (.iadd, 1) := by decide +kernel
theorem dX9_shade_101 : decode cX9_shade 101 = .ok (.aload_n 1, 1) := by decide +kernel
theorem dX9_shade_102 : decode cX9_shade 102 = .ok (.invokestatic 27, 3) := by decide +kernel
theorem dX9_shade_105 : decode cX9_shade 105 = .ok (.aload_n 2, 1) := by decide +kernel
theorem dX9_shade_106 : decode cX9_shade 106 = .ok (.invokestatic 27, 3) := by decide +kernel
theorem dX9_shade_109 : decode cX9_shade 109 = .ok (.iadd, 1) := by decide +kernel
theorem dX9_shade_110 : decode cX9_shade 110 = .ok (.ixor, 1) := by decide +kernel
theorem dX9_shade_111 : decode cX9_shade 111 = .ok (.iload 4, 2) := by decide +kernel
theorem dX9_shade_113 : decode cX9_shade 113 = .ok (.ior, 1) := by decide +kernel
theorem dX9_shade_114 : decode cX9_shade 114 = .ok (.goto 8, 3) := by decide +kernel
theorem dX9_shade_117 : decode cX9_shade 117 = .ok (.iload 4, 2) := by decide +kernel
theorem dX9_shade_119 : decode cX9_shade 119 = .ok (.invokestatic 30, 3) := by decide +kernel
theorem dX9_shade_122 : decode cX9_shade 122 = .ok (.ireturn, 1) := by decide +kernel
theorem dX9_shade_123 : decode cX9_shade 123 = .ok (.iload_n 3, 1) := by decide +kernel
theorem dX9_shade_124 : decode cX9_shade 124 = .ok (.ifCond .eq 28, 3) := by decide +kernel
theorem dX9_shade_127 : decode cX9_shade 127 = .ok (.aload_n 1, 1) := by decide +kernel
theorem dX9_shade_128 : decode cX9_shade 128 = .ok (.invokestatic 23, 3) := by decide +kernel
theorem dX9_shade_131 : decode cX9_shade 131 = .ok (.aload_n 2, 1) := by decide +kernel
theorem dX9_shade_132 : decode cX9_shade 132 = .ok (.invokestatic 27, 3) := by decide +kernel
theorem dX9_shade_135 : decode cX9_shade 135 = .ok (.isub, 1) := by decide +kernel
theorem dX9_shade_136 : decode cX9_shade 136 = .ok (.aload_n 1, 1) := by decide +kernel
theorem dX9_shade_137 : decode cX9_shade 137 = .ok (.invokestatic 27, 3) := by decide +kernel
theorem dX9_shade_140 : decode cX9_shade 140 = .ok (.aload_n 2, 1) := by decide +kernel
theorem dX9_shade_141 : decode cX9_shade 141 = .ok (.invokestatic 23, 3) := by decide +kernel
theorem dX9_shade_144 : decode cX9_shade 144 = .ok (.isub, 1) := by decide +kernel
theorem dX9_shade_145 : decode cX9_shade 145 = .ok (.ixor, 1) := by decide +kernel
theorem dX9_shade_146 : decode cX9_shade 146 = .ok (.iload 4, 2) := by decide +kernel
theorem dX9_shade_148 : decode cX9_shade 148 = .ok (.ior, 1) := by decide +kernel
theorem dX9_shade_149 : decode cX9_shade 149 = .ok (.goto 8, 3) := by decide +kernel
theorem dX9_shade_152 : decode cX9_shade 152 = .ok (.iload 4, 2) := by decide +kernel
theorem dX9_shade_154 : decode cX9_shade 154 = .ok (.invokestatic 30, 3) := by decide +kernel
theorem dX9_shade_157 : decode cX9_shade 157 = .ok (.ireturn, 1) := by decide +kernel
theorem dX9_shade_158 : decode cX9_shade 158 = .ok (.iload_n 3, 1) := by decide +kernel
theorem dX9_shade_159 : decode cX9_shade 159 = .ok (.ifCond .eq 21, 3) := by decide +kernel
theorem dX9_shade_162 : decode cX9_shade 162 = .ok (.aload_n 1, 1) := by decide +kernel
theorem dX9_shade_163 : decode cX9_shade 163 = .ok (.invokestatic 34, 3) := by decide +kernel
theorem dX9_shade_166 : decode cX9_shade 166 = .ok (.ifCond .ne 10, 3) := by decide +kernel
theorem dX9_shade_169 : decode cX9_shade 169 = .ok (.aload_n 2, 1) := by decide +kernel
theorem dX9_shade_170 : decode cX9_shade 170 = .ok (.invokestatic 34, 3) := by decide +kernel
theorem dX9_shade_173 : decode cX9_shade 173 = .ok (.ifCond .eq 7, 3) := by decide +kernel
theorem dX9_shade_176 : decode cX9_shade 176 = .ok (.iconst 0, 1) := by decide +kernel
theorem dX9_shade_177 : decode cX9_shade 177 = .ok (.goto 8, 3) := by decide +kernel
theorem dX9_shade_180 : decode cX9_shade 180 = .ok (.iload 4, 2) := by decide +kernel
theorem dX9_shade_182 : decode cX9_shade 182 = .ok (.invokestatic 30, 3) := by decide +kernel
theorem dX9_shade_185 : decode cX9_shade 185 = .ok (.ireturn, 1) := by decide +kernel
theorem dX9_shade_186 : decode cX9_shade 186 = .ok (.iload 4, 2) := by decide +kernel
theorem dX9_shade_188 : decode cX9_shade 188 = .ok (.invokestatic 38, 3) := by decide +kernel
theorem dX9_shade_191 : decode cX9_shade 191 = .ok (.ireturn, 1) := by decide +kernel
theorem dX9_shade_192 : decode cX9_shade 192 = .ok (.iload 4, 2) := by decide +kernel
theorem dX9_shade_194 : decode cX9_shade 194 = .ok (.aload_n 1, 1) := by decide +kernel
theorem dX9_shade_195 : decode cX9_shade 195 = .ok (.getfield 41, 3) := by decide +kernel
theorem dX9_shade_198 : decode cX9_shade 198 = .ok (.aload_n 1, 1) := by decide +kernel
theorem dX9_shade_199 : decode cX9_shade 199 = .ok (.getfield 17, 3) := by decide +kernel
theorem dX9_shade_202 : decode cX9_shade 202 = .ok (.ior, 1) := by decide +kernel
theorem dX9_shade_203 : decode cX9_shade 203 = .ok (.iand, 1) := by decide +kernel
theorem dX9_shade_204 : decode cX9_shade 204 = .ok (.aload_n 2, 1) := by decide +kernel
theorem dX9_shade_205 : decode cX9_shade 205 = .ok (.getfield 41, 3) := by decide +kernel
theorem dX9_shade_208 : decode cX9_shade 208 = .ok (.aload_n 2, 1) := by decide +kernel
theorem dX9_shade_209 : decode cX9_shade 209 = .ok (.getfield 17, 3) := by decide +kernel
theorem dX9_shade_212 : decode cX9_shade 212 = .ok (.ior, 1) := by decide +kernel
theorem dX9_shade_213 : decode cX9_shade 213 = .ok (.iand, 1) := by decide +kernel
theorem dX9_shade_214 : decode cX9_shade 214 = .ok (.ireturn, 1) := by decide +kernel
theorem dX9_shade_215 : decode cX9_shade 215 = .ok (.iload 4, 2) := by decide +kernel
theorem dX9_shade_217 : decode cX9_shade 217 = .ok (.aload_n 1, 1) := by decide +kernel
theorem dX9_shade_218 : decode cX9_shade 218 = .ok (.getfield 41, 3) := by decide +kernel
theorem dX9_shade_221 : decode cX9_shade 221 = .ok (.iconst (-1), 1) := by decide +kernel
theorem dX9_shade_222 : decode cX9_shade 222 = .ok (.ixor, 1) := by decide +kernel
theorem dX9_shade_223 : decode cX9_shade 223 = .ok (.aload_n 1, 1) := by decide +kernel
theorem dX9_shade_224 : decode cX9_shade 224 = .ok (.getfield 17, 3) := by decide +kernel
theorem dX9_shade_227 : decode cX9_shade 227 = .ok (.ior, 1) := by decide +kernel
theorem dX9_shade_228 : decode cX9_shade 228 = .ok (.iand, 1) := by decide +kernel
theorem dX9_shade_229 : decode cX9_shade 229 = .ok (.aload_n 2, 1) := by decide +kernel
theorem dX9_shade_230 : decode cX9_shade 230 = .ok (.getfield 41, 3) := by decide +kernel
theorem dX9_shade_233 : decode cX9_shade 233 = .ok (.iconst (-1), 1) := by decide +kernel
theorem dX9_shade_234 : decode cX9_shade 234 = .ok (.ixor, 1) := by decide +kernel
theorem dX9_shade_235 : decode cX9_shade 235 = .ok (.aload_n 2, 1) := by decide +kernel
theorem dX9_shade_236 : decode cX9_shade 236 = .ok (.getfield 17, 3) := by decide +kernel
theorem dX9_shade_239 : decode cX9_shade 239 = .ok (.ior, 1) := by decide +kernel
theorem dX9_shade_240 : decode cX9_shade 240 = .ok (.iand, 1) := by decide +kernel
theorem dX9_shade_241 : decode cX9_shade 241 = .ok (.ireturn, 1) := by decide +kernel
theorem dX9_shade_242 : decode cX9_shade 242 = .ok (.iload 4, 2) := by decide +kernel
theorem dX9_shade_244 : decode cX9_shade 244 = .ok (.ireturn, 1) := by decide +kernel
theorem dX9_shade_245 : decode cX9_shade 245 = .ok (.aload_n 2, 1) := by decide +kernel
theorem dX9_shade_246 : decode cX9_shade 246 = .ok (.getfield 17, 3) := by decide +kernel
theorem dX9_shade_249 : decode cX9_shade 249 = .ok (.bipush 31, 2) := by decide +kernel
theorem dX9_shade_251 : decode cX9_shade 251 = .ok (.iand, 1) := by decide +kernel
theorem dX9_shade_252 : decode cX9_shade 252 = .ok (.ifCond .eq 10, 3) := by decide +kernel
theorem dX9_shade_255 : decode cX9_shade 255 = .ok (.iconst 1, 1) := by decide +kernel
theorem dX9_shade_256 : decode cX9_shade 256 = .ok (.invokestatic 38, 3) := by decide +kernel
theorem dX9_shade_259 : decode cX9_shade 259 = .ok (.goto 15, 3) := by decide +kernel
theorem dX9_shade_262 : decode cX9_shade 262 = .ok (.iload_n 0, 1) := by decide +kernel
theorem dX9_shade_263 : decode cX9_shade 263 = .ok (.aload_n 1, 1) := by decide +kernel
theorem dX9_shade_264 : decode cX9_shade 264 = .ok (.getfield 17, 3) := by decide +kernel
theorem dX9_shade_267 : decode cX9_shade 267 = .ok (.aload_n 2, 1) := by decide +kernel
theorem dX9_shade_268 : decode cX9_shade 268 = .ok (.getfield 41, 3) := by decide +kernel
theorem dX9_shade_271 : decode cX9_shade 271 = .ok (.invokestatic 13, 3) := by decide +kernel
theorem dX9_shade_274 : decode cX9_shade 274 = .ok (.ireturn, 1) := by decide +kernel
theorem dX9_shade_275 : decode cX9_shade 275 = .ok (.aload_n 1, 1) := by decide +kernel
theorem dX9_shade_276 : decode cX9_shade 276 = .ok (.aload_n 2, 1) := by decide +kernel
theorem dX9_shade_277 : decode cX9_shade 277 = .ok (.iload_n 3, 1) := by decide +kernel
theorem dX9_shade_278 : decode cX9_shade 278 = .ok (.invokestatic 44, 3) := by decide +kernel
theorem dX9_shade_281 : decode cX9_shade 281 = .ok (.ireturn, 1) := by decide +kernel
theorem dX9_shade_282 : decode cX9_shade 282 = .ok (.aload_n 1, 1) := by decide +kernel
theorem dX9_shade_283 : decode cX9_shade 283 = .ok (.aload_n 2, 1) := by decide +kernel
theorem dX9_shade_284 : decode cX9_shade 284 = .ok (.ldc 48, 2) := by decide +kernel
theorem dX9_shade_286 : decode cX9_shade 286 = .ok (.iload_n 3, 1) := by decide +kernel
theorem dX9_shade_287 : decode cX9_shade 287 = .ok (.invokestatic 49, 3) := by decide +kernel
theorem dX9_shade_290 : decode cX9_shade 290 = .ok (.ireturn, 1) := by decide +kernel
theorem dX9_shade_291 : decode cX9_shade 291 = .ok (.aload_n 1, 1) := by decide +kernel
theorem dX9_shade_292 : decode cX9_shade 292 = .ok (.aload_n 2, 1) := by decide +kernel
theorem dX9_shade_293 : decode cX9_shade 293 = .ok (.iconst 0, 1) := by decide +kernel
theorem dX9_shade_294 : decode cX9_shade 294 = .ok (.iload_n 3, 1) := by decide +kernel
theorem dX9_shade_295 : decode cX9_shade 295 = .ok (.invokestatic 49, 3) := by decide +kernel
theorem dX9_shade_298 : decode cX9_shade 298 = .ok (.ireturn, 1) := by decide +kernel
theorem dX9_shade_299 : decode cX9_shade 299 = .ok (.iload_n 0, 1) := by decide +kernel
theorem dX9_shade_300 : decode cX9_shade 300 = .ok (.aload_n 1, 1) := by decide +kernel
theorem dX9_shade_301 : decode cX9_shade 301 = .ok (.getfield 17, 3) := by decide +kernel
theorem dX9_shade_304 : decode cX9_shade 304 = .ok (.iconst 0, 1) := by decide +kernel
theorem dX9_shade_305 : decode cX9_shade 305 = .ok (.invokestatic 13, 3) := by decide +kernel
theorem dX9_shade_308 : decode cX9_shade 308 = .ok (.ireturn, 1) := by decide +kernel
theorem dX9_shadeOfEqual_0 : decode cX9_shadeOfEqual 0 = .ok (.aload_n 0, 1) := by decide +kernel
theorem dX9_shadeOfEqual_1 : decode cX9_shadeOfEqual 1 = .ok (.getfield 17, 3) := by decide +kernel
theorem dX9_shadeOfEqual_4 : decode cX9_shadeOfEqual 4 = .ok (.aload_n 1, 1) := by decide +kernel
theorem dX9_shadeOfEqual_5 : decode cX9_shadeOfEqual 5 = .ok (.getfield 17, 3) := by decide +kernel
theorem dX9_shadeOfEqual_8 : decode cX9_shadeOfEqual 8 = .ok (.ior, 1) := by decide +kernel
theorem dX9_shadeOfEqual_9 : decode cX9_shadeOfEqual 9 = .ok (.istore_n 3, 1) := by decide +kernel
theorem dX9_shadeOfEqual_10 : decode cX9_shadeOfEqual 10 = .ok (.iload_n 3, 1) := by decide +kernel
theorem dX9_shadeOfEqual_11 : decode cX9_shadeOfEqual 11 = .ok (.ifCond .eq 23, 3) := by decide +kernel
theorem dX9_shadeOfEqual_14 : decode cX9_shadeOfEqual 14 = .ok (.iload_n 2, 1) := by decide +kernel
theorem dX9_shadeOfEqual_15 : decode cX9_shadeOfEqual 15 = .ok (.ifCond .eq 21, 3) := by decide +kernel
theorem dX9_shadeOfEqual_18 : decode cX9_shadeOfEqual 18 = .ok (.aload_n 0, 1) := by decide +kernel
theorem dX9_shadeOfEqual_19 : decode cX9_shadeOfEqual 19 = .ok (.getfield 41, 3) := by decide +kernel
theorem dX9_shadeOfEqual_22 : decode cX9_shadeOfEqual 22 = .ok (.aload_n 1, 1) := by decide +kernel
theorem dX9_shadeOfEqual_23 : decode cX9_shadeOfEqual 23 = .ok (.getfield 41, 3) := by decide +kernel
theorem dX9_shadeOfEqual_26 : decode cX9_shadeOfEqual 26 = .ok (.ixor, 1) := by decide +kernel
theorem dX9_shadeOfEqual_27 : decode cX9_shadeOfEqual 27 = .ok (.iload_n 3, 1) := by decide +kernel
theorem dX9_shadeOfEqual_28 : decode cX9_shadeOfEqual 28 = .ok (.iconst (-1), 1) := by decide +kernel
theorem dX9_shadeOfEqual_29 : decode cX9_shadeOfEqual 29 = .ok (.ixor, 1) := by decide +kernel
theorem dX9_shadeOfEqual_30 : decode cX9_shadeOfEqual 30 = .ok (.iand, 1) := by decide +kernel
theorem dX9_shadeOfEqual_31 : decode cX9_shadeOfEqual 31 = .ok (.ifCond .eq 5, 3) := by decide +kernel
theorem dX9_shadeOfEqual_34 : decode cX9_shadeOfEqual 34 = .ok (.iconst 0, 1) := by decide +kernel
theorem dX9_shadeOfEqual_35 : decode cX9_shadeOfEqual 35 = .ok (.ireturn, 1) := by decide +kernel
theorem dX9_shadeOfEqual_36 : decode cX9_shadeOfEqual 36 = .ok (.iconst 1, 1) := by decide +kernel
theorem dX9_shadeOfEqual_37 : decode cX9_shadeOfEqual 37 = .ok (.ireturn, 1) := by decide +kernel
theorem dX9_shadeOfBelow_0 : decode cX9_shadeOfBelow 0 = .ok (.aload_n 0, 1) := by decide +kernel
theorem dX9_shadeOfBelow_1 : decode cX9_shadeOfBelow 1 = .ok (.getfield 17, 3) := by decide +kernel
theorem dX9_shadeOfBelow_4 : decode cX9_shadeOfBelow 4 = .ok (.aload_n 1, 1) := by decide +kernel
theorem dX9_shadeOfBelow_5 : decode cX9_shadeOfBelow 5 = .ok (.getfield 17, 3) := by decide +kernel
theorem dX9_shadeOfBelow_8 : decode cX9_shadeOfBelow 8 = .ok (.ior, 1) := by decide +kernel
theorem dX9_shadeOfBelow_9 : decode cX9_shadeOfBelow 9 = .ok (.ifCond .ne 5, 3) := by decide +kernel
theorem dX9_shadeOfBelow_12 : decode cX9_shadeOfBelow 12 = .ok (.iconst 0, 1) := by decide +kernel
theorem dX9_shadeOfBelow_13 : decode cX9_shadeOfBelow 13 = .ok (.ireturn, 1) := by decide +kernel
theorem dX9_shadeOfBelow_14 : decode cX9_shadeOfBelow 14 = .ok (.aload_n 0, 1) := by decide +kernel
theorem dX9_shadeOfBelow_15 : decode cX9_shadeOfBelow 15 = .ok (.getfield 41, 3) := by decide +kernel
theorem dX9_shadeOfBelow_18 : decode cX9_shadeOfBelow 18 = .ok (.iload_n 2, 1) := by decide +kernel
theorem dX9_shadeOfBelow_19 : decode cX9_shadeOfBelow 19 = .ok (.ixor, 1) := by decide +kernel
theorem dX9_shadeOfBelow_20 : decode cX9_shadeOfBelow 20 = .ok (.istore 4, 2) := by decide +kernel
theorem dX9_shadeOfBelow_22 : decode cX9_shadeOfBelow 22 = .ok (.aload_n 1, 1) := by decide +kernel
theorem dX9_shadeOfBelow_23 : decode cX9_shadeOfBelow 23 = .ok (.getfield 41, 3) := by decide +kernel
theorem dX9_shadeOfBelow_26 : decode cX9_shadeOfBelow 26 = .ok (.iload_n 2, 1) := by decide +kernel
theorem dX9_shadeOfBelow_27 : decode cX9_shadeOfBelow 27 = .ok (.ixor, 1) := by decide +kernel
theorem dX9_shadeOfBelow_28 : decode cX9_shadeOfBelow 28 = .ok (.istore 5, 2) := by decide +kernel
theorem dX9_shadeOfBelow_30 : decode cX9_shadeOfBelow 30 = .ok (.iload 4, 2) := by decide +kernel
theorem dX9_shadeOfBelow_32 : decode cX9_shadeOfBelow 32 = .ok (.aload_n 0, 1) := by decide +kernel
theorem dX9_shadeOfBelow_33 : decode cX9_shadeOfBelow 33 = .ok (.getfield 17, 3) := by decide +kernel
theorem dX9_shadeOfBelow_36 : decode cX9_shadeOfBelow 36 = .ok (.iconst (-1), 1) := by decide +kernel
theorem dX9_shadeOfBelow_37 : decode cX9_shadeOfBelow 37 = .ok (.ixor, 1) := by decide +kernel
theorem dX9_shadeOfBelow_38 : decode cX9_shadeOfBelow 38 = .ok (.iand, 1) := by decide +kernel
theorem dX9_shadeOfBelow_39 : decode cX9_shadeOfBelow 39 = .ok (.iload 5, 2) := by decide +kernel
theorem dX9_shadeOfBelow_41 : decode cX9_shadeOfBelow 41 = .ok (.aload_n 1, 1) := by decide +kernel
theorem dX9_shadeOfBelow_42 : decode cX9_shadeOfBelow 42 = .ok (.getfield 17, 3) := by decide +kernel
theorem dX9_shadeOfBelow_45 : decode cX9_shadeOfBelow 45 = .ok (.ior, 1) := by decide +kernel
theorem dX9_shadeOfBelow_46 : decode cX9_shadeOfBelow 46 = .ok (.invokestatic 7, 3) := by decide +kernel
theorem dX9_shadeOfBelow_49 : decode cX9_shadeOfBelow 49 = .ok (.ifCond .ne 7, 3) := by decide +kernel
theorem dX9_shadeOfBelow_52 : decode cX9_shadeOfBelow 52 = .ok (.iconst 1, 1) := by decide +kernel
theorem dX9_shadeOfBelow_53 : decode cX9_shadeOfBelow 53 = .ok (.goto 4, 3) := by decide +kernel
theorem dX9_shadeOfBelow_56 : decode cX9_shadeOfBelow 56 = .ok (.iconst 0, 1) := by decide +kernel
theorem dX9_shadeOfBelow_57 : decode cX9_shadeOfBelow 57 = .ok (.istore 6, 2) := by decide +kernel
theorem dX9_shadeOfBelow_59 : decode cX9_shadeOfBelow 59 = .ok (.iload 4, 2) := by decide +kernel
theorem dX9_shadeOfBelow_61 : decode cX9_shadeOfBelow 61 = .ok (.aload_n 0, 1) := by decide +kernel
theorem dX9_shadeOfBelow_62 : decode cX9_shadeOfBelow 62 = .ok (.getfield 17, 3) := by decide +kernel
theorem dX9_shadeOfBelow_65 : decode cX9_shadeOfBelow 65 = .ok (.ior, 1) := by decide +kernel
theorem dX9_shadeOfBelow_66 : decode cX9_shadeOfBelow 66 = .ok (.iload 5, 2) := by decide +kernel
theorem dX9_shadeOfBelow_68 : decode cX9_shadeOfBelow 68 = .ok (.aload_n 1, 1) := by decide +kernel
theorem dX9_shadeOfBelow_69 : decode cX9_shadeOfBelow 69 = .ok (.getfield 17, 3) := by decide +kernel
theorem dX9_shadeOfBelow_72 : decode cX9_shadeOfBelow 72 = .ok (.iconst (-1), 1) := by decide +kernel
theorem dX9_shadeOfBelow_73 : decode cX9_shadeOfBelow 73 = .ok (.ixor, 1) := by decide +kernel
theorem dX9_shadeOfBelow_74 : decode cX9_shadeOfBelow 74 = .ok (.iand, 1) := by decide +kernel
theorem dX9_shadeOfBelow_75 : decode cX9_shadeOfBelow 75 = .ok (.invokestatic 7, 3) := by decide +kernel
theorem dX9_shadeOfBelow_78 : decode cX9_shadeOfBelow 78 = .ok (.istore 7, 2) := by decide +kernel
theorem dX9_shadeOfBelow_80 : decode cX9_shadeOfBelow 80 = .ok (.iload_n 3, 1) := by decide +kernel
theorem dX9_shadeOfBelow_81 : decode cX9_shadeOfBelow 81 = .ok (.ifCond .eq 17, 3) := by decide +kernel
theorem dX9_shadeOfBelow_84 : decode cX9_shadeOfBelow 84 = .ok (.iload 6, 2) := by decide +kernel
theorem dX9_shadeOfBelow_86 : decode cX9_shadeOfBelow 86 = .ok (.ifCond .ne 8, 3) := by decide +kernel
theorem dX9_shadeOfBelow_89 : decode cX9_shadeOfBelow 89 = .ok (.iload 7, 2) := by decide +kernel
theorem dX9_shadeOfBelow_91 : decode cX9_shadeOfBelow 91 = .ok (.ifCond .eq 7, 3) := by decide +kernel
theorem dX9_shadeOfBelow_94 : decode cX9_shadeOfBelow 94 = .ok (.iconst 0, 1) := by decide +kernel
theorem dX9_shadeOfBelow_95 : decode cX9_shadeOfBelow 95 = .ok (.goto 4, 3) := by decide +kernel
theorem dX9_shadeOfBelow_98 : decode cX9_shadeOfBelow 98 = .ok (.iconst 1, 1) := by decide +kernel
theorem dX9_shadeOfBelow_99 : decode cX9_shadeOfBelow 99 = .ok (.ireturn, 1) := by decide +kernel
theorem dX9_origin_0 : decode cX9_origin 0 = .ok (.aload_n 1, 1) := by decide +kernel
theorem dX9_origin_1 : decode cX9_origin 1 = .ok (.getfield 17, 3) := by decide +kernel
theorem dX9_origin_4 : decode cX9_origin 4 = .ok (.ifCond .eq 26, 3) := by decide +kernel
theorem dX9_origin_7 : decode cX9_origin 7 = .ok (.aload_n 0, 1) := by decide +kernel
theorem dX9_origin_8 : decode cX9_origin 8 = .ok (.getfield 17, 3) := by decide +kernel
theorem dX9_origin_11 : decode cX9_origin 11 = .ok (.ifCond .eq 14, 3) := by decide +kernel
theorem dX9_origin_14 : decode cX9_origin 14 = .ok (.aload_n 1, 1) := by decide +kernel
theorem dX9_origin_15 : decode cX9_origin 15 = .ok (.getfield 53, 3) := by decide +kernel
theorem dX9_origin_18 : decode cX9_origin 18 = .ok (.aload_n 0, 1) := by decide +kernel
theorem dX9_origin_19 : decode cX9_origin 19 = .ok (.getfield 53, 3) := by decide +kernel
theorem dX9_origin_22 : decode cX9_origin 22 = .ok (.if_icmp .le 8, 3) := by decide +kernel
theorem dX9_origin_25 : decode cX9_origin 25 = .ok (.aload_n 1, 1) := by decide +kernel
theorem dX9_origin_26 : decode cX9_origin 26 = .ok (.getfield 53, 3) := by decide +kernel
theorem dX9_origin_29 : decode cX9_origin 29 = .ok (.ireturn, 1) := by decide +kernel
theorem dX9_origin_30 : decode cX9_origin 30 = .ok (.aload_n 0, 1) := by decide +kernel
theorem dX9_origin_31 : decode cX9_origin 31 = .ok (.getfield 17, 3) := by decide +kernel
theorem dX9_origin_34 : decode cX9_origin 34 = .ok (.ifCond .eq 10, 3) := by decide +kernel
theorem dX9_origin_37 : decode cX9_origin 37 = .ok (.aload_n 0, 1) := by decide +kernel
theorem dX9_origin_38 : decode cX9_origin 38 = .ok (.getfield 53, 3) := by decide +kernel
theorem dX9_origin_41 : decode cX9_origin 41 = .ok (.goto 4, 3) := by decide +kernel
theorem dX9_origin_44 : decode cX9_origin 44 = .ok (.iconst 0, 1) := by decide +kernel
theorem dX9_origin_45 : decode cX9_origin 45 = .ok (.ireturn, 1) := by decide +kernel
theorem dX9_isBelow_0 : decode cX9_isBelow 0 = .ok (.iload_n 0, 1) := by decide +kernel
theorem dX9_isBelow_1 : decode cX9_isBelow 1 = .ok (.ldc 48, 2) := by decide +kernel
theorem dX9_isBelow_3 : decode cX9_isBelow 3 = .ok (.iadd, 1) := by decide +kernel
theorem dX9_isBelow_4 : decode cX9_isBelow 4 = .ok (.iload_n 1, 1) := by decide +kernel
theorem dX9_isBelow_5 : decode cX9_isBelow 5 = .ok (.ldc 48, 2) := by decide +kernel
theorem dX9_isBelow_7 : decode cX9_isBelow 7 = .ok (.iadd, 1) := by decide +kernel
theorem dX9_isBelow_8 : decode cX9_isBelow 8 = .ok (.if_icmp .ge 7, 3) := by decide +kernel
theorem dX9_isBelow_11 : decode cX9_isBelow 11 = .ok (.iconst 1, 1) := by decide +kernel
theorem dX9_isBelow_12 : decode cX9_isBelow 12 = .ok (.goto 4, 3) := by decide +kernel
theorem dX9_isBelow_15 : decode cX9_isBelow 15 = .ok (.iconst 0, 1) := by decide +kernel
theorem dX9_isBelow_16 : decode cX9_isBelow 16 = .ok (.ireturn, 1) := by decide +kernel
theorem dX9_isSetZero_0 : decode cX9_isSetZero 0 = .ok (.aload_n 0, 1) := by decide +kernel
theorem dX9_isSetZero_1 : decode cX9_isSetZero 1 = .ok (.getfield 17, 3) := by decide +kernel
theorem dX9_isSetZero_4 : decode cX9_isSetZero 4 = .ok (.ifCond .ne 14, 3) := by decide +kernel
theorem dX9_isSetZero_7 : decode cX9_isSetZero 7 = .ok (.aload_n 0, 1) := by decide +kernel
theorem dX9_isSetZero_8 : decode cX9_isSetZero 8 = .ok (.getfield 41, 3) := by decide +kernel
theorem dX9_isSetZero_11 : decode cX9_isSetZero 11 = .ok (.ifCond .ne 7, 3) := by decide +kernel
theorem dX9_isSetZero_14 : decode cX9_isSetZero 14 = .ok (.iconst 1, 1) := by decide +kernel
theorem dX9_isSetZero_15 : decode cX9_isSetZero 15 = .ok (.goto 4, 3) := by decide +kernel
theorem dX9_isSetZero_18 : decode cX9_isSetZero 18 = .ok (.iconst 0, 1) := by decide +kernel
theorem dX9_isSetZero_19 : decode cX9_isSetZero 19 = .ok (.ireturn, 1) := by decide +kernel
theorem dX9_least_0 : decode cX9_least 0 = .ok (.aload_n 0, 1) := by decide +kernel
theorem dX9_least_1 : decode cX9_least 1 = .ok (.getfield 41, 3) := by decide +kernel
theorem dX9_least_4 : decode cX9_least 4 = .ok (.aload_n 0, 1) := by decide +kernel
theorem dX9_least_5 : decode cX9_least 5 = .ok (.getfield 17, 3) := by decide +kernel
theorem dX9_least_8 : decode cX9_least 8 = .ok (.iconst (-1), 1) := by decide +kernel
theorem dX9_least_9 : decode cX9_least 9 = .ok (.ixor, 1) := by decide +kernel
theorem dX9_least_10 : decode cX9_least 10 = .ok (.iand, 1) := by decide +kernel
theorem dX9_least_11 : decode cX9_least 11 = .ok (.ireturn, 1) := by decide +kernel
theorem dX9_most_0 : decode cX9_most 0 = .ok (.aload_n 0, 1) := by decide +kernel
theorem dX9_most_1 : decode cX9_most 1 = .ok (.getfield 41, 3) := by decide +kernel
theorem dX9_most_4 : decode cX9_most 4 = .ok (.aload_n 0, 1) := by decide +kernel
theorem dX9_most_5 : decode cX9_most 5 = .ok (.getfield 17, 3) := by decide +kernel
theorem dX9_most_8 : decode cX9_most 8 = .ok (.ior, 1) := by decide +kernel
theorem dX9_most_9 : decode cX9_most 9 = .ok (.ireturn, 1) := by decide +kernel
theorem dX9_left_0 : decode cX9_left 0 = .ok (.iload_n 0, 1) := by decide +kernel
theorem dX9_left_1 : decode cX9_left 1 = .ok (.iload_n 0, 1) := by decide +kernel
theorem dX9_left_2 : decode cX9_left 2 = .ok (.ineg, 1) := by decide +kernel
theorem dX9_left_3 : decode cX9_left 3 = .ok (.ior, 1) := by decide +kernel
theorem dX9_left_4 : decode cX9_left 4 = .ok (.ireturn, 1) := by decide +kernel
theorem dX9_any_0 : decode cX9_any 0 = .ok (.iload_n 0, 1) := by decide +kernel
theorem dX9_any_1 : decode cX9_any 1 = .ok (.ifCond .eq 7, 3) := by decide +kernel
theorem dX9_any_4 : decode cX9_any 4 = .ok (.iconst (-1), 1) := by decide +kernel
theorem dX9_any_5 : decode cX9_any 5 = .ok (.goto 4, 3) := by decide +kernel
theorem dX9_any_8 : decode cX9_any 8 = .ok (.iconst 0, 1) := by decide +kernel
theorem dX9_any_9 : decode cX9_any 9 = .ok (.ireturn, 1) := by decide +kernel
theorem dX10_init_0 : decode cX10_init 0 = .ok (.aload_n 0, 1) := by decide +kernel
theorem dX10_init_1 : decode cX10_init 1 = .ok (.invokespecial 3, 3) := by decide +kernel
theorem dX10_init_4 : decode cX10_init 4 = .ok (.return_, 1) := by decide +kernel
theorem dX10_openLine_0 : decode cX10_openLine 0 = .ok (.aload_n 0, 1) := by decide +kernel
theorem dX10_openLine_1 : decode cX10_openLine 1 = .ok (.aload_n 1, 1) := by decide +kernel
theorem dX10_openLine_2 : decode cX10_openLine 2 = .ok (.putfield 9, 3) := by decide +kernel
theorem dX10_openLine_5 : decode cX10_openLine 5 = .ok (.aload_n 0, 1) := by decide +kernel
theorem dX10_openLine_6 : decode cX10_openLine 6 = .ok (.iload_n 2, 1) := by decide +kernel
theorem dX10_openLine_7 : decode cX10_openLine 7 = .ok (.putfield 15, 3) := by decide +kernel
theorem dX10_openLine_10 : decode cX10_openLine 10 = .ok (.aload_n 0, 1) := by decide +kernel
theorem dX10_openLine_11 : decode cX10_openLine 11 = .ok (.iload_n 3, 1) := by decide +kernel
theorem dX10_openLine_12 : decode cX10_openLine 12 = .ok (.putfield 19, 3) := by decide +kernel
theorem dX10_openLine_15 : decode cX10_openLine 15 = .ok (.return_, 1) := by decide +kernel
theorem dX10_readPiece_0 : decode cX10_readPiece 0 = .ok (.aload_n 0, 1) := by decide +kernel
theorem dX10_readPiece_1 : decode cX10_readPiece 1 = .ok (.getfield 15, 3) := by decide +kernel
theorem dX10_readPiece_4 : decode cX10_readPiece 4 = .ok (.aload_n 0, 1) := by decide +kernel
theorem dX10_readPiece_5 : decode cX10_readPiece 5 = .ok (.getfield 19, 3) := by decide +kernel
theorem dX10_readPiece_8 : decode cX10_readPiece 8 = .ok (.if_icmp .ge 30, 3) := by decide +kernel
theorem dX10_readPiece_11 : decode cX10_readPiece 11 = .ok (.aload_n 0, 1) := by decide +kernel
theorem dX10_readPiece_12 : decode cX10_readPiece 12 = .ok (.getfield 9, 3) := by decide +kernel
theorem dX10_readPiece_15 : decode cX10_readPiece 15 = .ok (.aload_n 0, 1) := by decide +kernel
theorem dX10_readPiece_16 : decode cX10_readPiece 16 = .ok (.getfield 15, 3) := by decide +kernel
theorem dX10_readPiece_19 : decode cX10_readPiece 19 = .ok (.iaload, 1) := by decide +kernel
theorem dX10_readPiece_20 : decode cX10_readPiece 20 = .ok (.bipush 32, 2) := by decide +kernel
theorem dX10_readPiece_22 : decode cX10_readPiece 22 = .ok (.if_icmp .ne 16, 3) := by decide +kernel
theorem dX10_readPiece_25 : decode cX10_readPiece 25 = .ok (.aload_n 0, 1) := by decide +kernel
theorem dX10_readPiece_26 : decode cX10_readPiece 26 = .ok (.dup, 1) := by decide +kernel
theorem dX10_readPiece_27 : decode cX10_readPiece 27 = .ok (.getfield 15, 3) := by decide +kernel
theorem dX10_readPiece_30 : decode cX10_readPiece 30 = .ok (.iconst 1, 1) := by decide +kernel
theorem dX10_readPiece_31 : decode cX10_readPiece 31 = .ok (.iadd, 1) := by decide +kernel
theorem dX10_readPiece_32 : decode cX10_readPiece 32 = .ok (.putfield 15, 3) := by decide +kernel
theorem dX10_readPiece_35 : decode cX10_readPiece 35 = .ok (.goto (-35), 3) := by decide +kernel
theorem dX10_readPiece_38 : decode cX10_readPiece 38 = .ok (.aload_n 0, 1) := by decide +kernel
theorem dX10_readPiece_39 : decode cX10_readPiece 39 = .ok (.aload_n 0, 1) := by decide +kernel
theorem dX10_readPiece_40 : decode cX10_readPiece 40 = .ok (.getfield 15, 3) := by decide +kernel
theorem dX10_readPiece_43 : decode cX10_readPiece 43 = .ok (.putfield 22, 3) := by decide +kernel
theorem dX10_readPiece_46 : decode cX10_readPiece 46 = .ok (.aload_n 0, 1) := by decide +kernel
theorem dX10_readPiece_47 : decode cX10_readPiece 47 = .ok (.aload_n 0, 1) := by decide +kernel
theorem dX10_readPiece_48 : decode cX10_readPiece 48 = .ok (.getfield 15, 3) := by decide +kernel
theorem dX10_readPiece_51 : decode cX10_readPiece 51 = .ok (.invokevirtual 25, 3) := by decide +kernel
theorem dX10_readPiece_54 : decode cX10_readPiece 54 = .ok (.istore_n 1, 1) := by decide +kernel
theorem dX10_readPiece_55 : decode cX10_readPiece 55 = .ok (.iload_n 1, 1) := by decide +kernel
theorem dX10_readPiece_56 : decode cX10_readPiece 56 = .ok (.iconst (-1), 1) := by decide +kernel
theorem dX10_readPiece_57 : decode cX10_readPiece 57 = .ok (.if_icmp .eq 9, 3) := by decide +kernel
theorem dX10_readPiece_60 : decode cX10_readPiece 60 = .ok (.iload_n 1, 1) := by decide +kernel
theorem dX10_readPiece_61 : decode cX10_readPiece 61 = .ok (.bipush 59, 2) := by decide +kernel
theorem dX10_readPiece_63 : decode cX10_readPiece 63 = .ok (.if_icmp .ne 27, 3) := by decide +kernel
theorem dX10_readPiece_66 : decode cX10_readPiece 66 = .ok (.aload_n 0, 1) := by decide +kernel
theorem dX10_readPiece_67 : decode cX10_readPiece 67 = .ok (.aload_n 0, 1) := by decide +kernel
theorem dX10_readPiece_68 : decode cX10_readPiece 68 = .ok (.getfield 19, 3) := by decide +kernel
theorem dX10_readPiece_71 : decode cX10_readPiece 71 = .ok (.putfield 22, 3) := by decide +kernel
theorem dX10_readPiece_74 : decode cX10_readPiece 74 = .ok (.aload_n 0, 1) := by decide +kernel
theorem dX10_readPiece_75 : decode cX10_readPiece 75 = .ok (.aload_n 0, 1) := by decide +kernel
theorem dX10_readPiece_76 : decode cX10_readPiece 76 = .ok (.getfield 19, 3) := by decide +kernel
theorem dX10_readPiece_79 : decode cX10_readPiece 79 = .ok (.putfield 15, 3) := by decide +kernel
theorem dX10_readPiece_82 : decode cX10_readPiece 82 = .ok (.aload_n 0, 1) := by decide +kernel
theorem dX10_readPiece_83 : decode cX10_readPiece 83 = .ok (.iconst 0, 1) := by decide +kernel
theorem dX10_readPiece_84 : decode cX10_readPiece 84 = .ok (.putfield 29, 3) := by decide +kernel
theorem dX10_readPiece_87 : decode cX10_readPiece 87 = .ok (.goto 73, 3) := by decide +kernel
theorem dX10_readPiece_90 : decode cX10_readPiece 90 = .ok (.iload_n 1, 1) := by decide +kernel
theorem dX10_readPiece_91 : decode cX10_readPiece 91 = .ok (.invokestatic 32, 3) := by decide +kernel
theorem dX10_readPiece_94 : decode cX10_readPiece 94 = .ok (.ifCond .eq 10, 3) := by decide +kernel
theorem dX10_readPiece_97 : decode cX10_readPiece 97 = .ok (.aload_n 0, 1) := by decide +kernel
theorem dX10_readPiece_98 : decode cX10_readPiece 98 = .ok (.invokevirtual 36, 3) := by decide +kernel
theorem dX10_readPiece_101 : decode cX10_readPiece 101 = .ok (.goto 59, 3) := by decide +kernel
theorem dX10_readPiece_104 : decode cX10_readPiece 104 = .ok (.iload_n 1, 1) := by decide +kernel
theorem dX10_readPiece_105 : decode cX10_readPiece 105 = .ok (.bipush 45, 2) := by decide +kernel
theorem dX10_readPiece_107 : decode cX10_readPiece 107 = .ok (.if_icmp .eq 10, 3) := by decide +kernel
theorem dX10_readPiece_110 : decode cX10_readPiece 110 = .ok (.iload_n 1, 1) := by decide +kernel
theorem dX10_readPiece_111 : decode cX10_readPiece 111 = .ok (.invokestatic 39, 3) := by decide +kernel
theorem dX10_readPiece_114 : decode cX10_readPiece 114 = .ok (.ifCond .eq 11, 3) := by decide +kernel
theorem dX10_readPiece_117 : decode cX10_readPiece 117 = .ok (.aload_n 0, 1) := by decide +kernel
theorem dX10_readPiece_118 : decode cX10_readPiece 118 = .ok (.iload_n 1, 1) := by decide +kernel
theorem dX10_readPiece_119 : decode cX10_readPiece 119 = .ok (.invokevirtual 42, 3) := by decide +kernel
theorem dX10_readPiece_122 : decode cX10_readPiece 122 = .ok (.goto 38, 3) := by decide +kernel
theorem dX10_readPiece_125 : decode cX10_readPiece 125 = .ok (.aload_n 0, 1) := by decide +kernel
theorem dX10_readPiece_126 : decode cX10_readPiece 126 = .ok (.dup, 1) := by decide +kernel
theorem dX10_readPiece_127 : decode cX10_readPiece 127 = .ok (.getfield 15, 3) := by decide +kernel
theorem dX10_readPiece_130 : decode cX10_readPiece 130 = .ok (.iconst 1, 1) := by decide +kernel
theorem dX10_readPiece_131 : decode cX10_readPiece 131 = .ok (.iadd, 1) := by decide +kernel
theorem dX10_readPiece_132 : decode cX10_readPiece 132 = .ok (.putfield 15, 3) := by decide +kernel
theorem dX10_readPiece_135 : decode cX10_readPiece 135 = .ok (.aload_n 0, 1) := by decide +kernel
theorem dX10_readPiece_136 : decode cX10_readPiece 136 = .ok (.iload_n 1, 1) := by decide +kernel
theorem dX10_readPiece_137 : decode cX10_readPiece 137 = .ok (.bipush 44, 2) := by decide +kernel
theorem dX10_readPiece_139 : decode cX10_readPiece 139 = .ok (.if_icmp .ne 7, 3) := by decide +kernel
theorem dX10_readPiece_142 : decode cX10_readPiece 142 = .ok (.iconst 3, 1) := by decide +kernel
theorem dX10_readPiece_143 : decode cX10_readPiece 143 = .ok (.goto 14, 3) := by decide +kernel
theorem dX10_readPiece_146 : decode cX10_readPiece 146 = .ok (.iload_n 1, 1) := by decide +kernel
theorem dX10_readPiece_147 : decode cX10_readPiece 147 = .ok (.bipush 58, 2) := by decide +kernel
theorem dX10_readPiece_149 : decode cX10_readPiece 149 = .ok (.if_icmp .ne 7, 3) := by decide +kernel
theorem dX10_readPiece_152 : decode cX10_readPiece 152 = .ok (.iconst 4, 1) := by decide +kernel
theorem dX10_readPiece_153 : decode cX10_readPiece 153 = .ok (.goto 4, 3) := by decide +kernel
theorem dX10_readPiece_156 : decode cX10_readPiece 156 = .ok (.iconst 5, 1) := by decide +kernel
theorem dX10_readPiece_157 : decode cX10_readPiece 157 = .ok (.putfield 29, 3) := by decide +kernel
theorem dX10_readPiece_160 : decode cX10_readPiece 160 = .ok (.return_, 1) := by decide +kernel
theorem dX10_byteAt_0 : decode cX10_byteAt 0 = .ok (.iload_n 1, 1) := by decide +kernel
theorem dX10_byteAt_1 : decode cX10_byteAt 1 = .ok (.aload_n 0, 1) := by decide +kernel
theorem dX10_byteAt_2 : decode cX10_byteAt 2 = .ok (.getfield 19, 3) := by decide +kernel
theorem dX10_byteAt_5 : decode cX10_byteAt 5 = .ok (.if_icmp .ge 12, 3) := by decide +kernel
theorem dX10_byteAt_8 : decode cX10_byteAt 8 = .ok (.aload_n 0, 1) := by decide +kernel
theorem dX10_byteAt_9 : decode cX10_byteAt 9 = .ok (.getfield 9, 3) := by decide +kernel
theorem dX10_byteAt_12 : decode cX10_byteAt 12 = .ok (.iload_n 1, 1) := by decide +kernel
theorem dX10_byteAt_13 : decode cX10_byteAt 13 = .ok (.iaload, 1) := by decide +kernel
theorem dX10_byteAt_14 : decode cX10_byteAt 14 = .ok (.goto 4, 3) := by decide +kernel
theorem dX10_byteAt_17 : decode cX10_byteAt 17 = .ok (.iconst (-1), 1) := by decide +kernel
theorem dX10_byteAt_18 : decode cX10_byteAt 18 = .ok (.ireturn, 1) := by decide +kernel
theorem dX10_readWord_0 : decode cX10_readWord 0 = .ok (.aload_n 0, 1) := by decide +kernel
theorem dX10_readWord_1 : decode cX10_readWord 1 = .ok (.lconst 0, 1) := by decide +kernel
theorem dX10_readWord_2 : decode cX10_readWord 2 = .ok (.putfield 46, 3) := by decide +kernel
theorem dX10_readWord_5 : decode cX10_readWord 5 = .ok (.aload_n 0, 1) := by decide +kernel
theorem dX10_readWord_6 : decode cX10_readWord 6 = .ok (.getfield 15, 3) := by decide +kernel
theorem dX10_readWord_9 : decode cX10_readWord 9 = .ok (.aload_n 0, 1) := by decide +kernel
theorem dX10_readWord_10 : decode cX10_readWord 10 = .ok (.getfield 19, 3) := by decide +kernel
theorem dX10_readWord_13 : decode cX10_readWord 13 = .ok (.if_icmp .ge 68, 3) := by decide +kernel
theorem dX10_readWord_16 : decode cX10_readWord 16 = .ok (.aload_n 0, 1) := by decide +kernel
theorem dX10_readWord_17 : decode cX10_readWord 17 = .ok (.getfield 9, 3) := by decide +kernel
theorem dX10_readWord_20 : decode cX10_readWord 20 = .ok (.aload_n 0, 1) := by decide +kernel
theorem dX10_readWord_21 : decode cX10_readWord 21 = .ok (.getfield 15, 3) := by decide +kernel
theorem dX10_readWord_24 : decode cX10_readWord 24 = .ok (.iaload, 1) := by decide +kernel
theorem dX10_readWord_25 : decode cX10_readWord 25 = .ok (.invokestatic 32, 3) := by decide +kernel
theorem dX10_readWord_28 : decode cX10_readWord 28 = .ok (.ifCond .ne 18, 3) := by decide +kernel
theorem dX10_readWord_31 : decode cX10_readWord 31 = .ok (.aload_n 0, 1) := by decide +kernel
theorem dX10_readWord_32 : decode cX10_readWord 32 = .ok (.getfield 9, 3) := by decide +kernel
theorem dX10_readWord_35 : decode cX10_readWord 35 = .ok (.aload_n 0, 1) := by decide +kernel
theorem dX10_readWord_36 : decode cX10_readWord 36 = .ok (.getfield 15, 3) := by decide +kernel
theorem dX10_readWord_39 : decode cX10_readWord 39 = .ok (.iaload, 1) := by decide +kernel
theorem dX10_readWord_40 : decode cX10_readWord 40 = .ok (.invokestatic 39, 3) := by decide +kernel
theorem dX10_readWord_43 : decode cX10_readWord 43 = .ok (.ifCond .eq 38, 3) := by decide +kernel
theorem dX10_readWord_46 : decode cX10_readWord 46 = .ok (.aload_n 0, 1) := by decide +kernel
theorem dX10_readWord_47 : decode cX10_readWord 47 = .ok (.aload_n 0, 1) := by decide +kernel
theorem dX10_readWord_48 : decode cX10_readWord 48 = .ok (.getfield 46, 3) := by decide +kernel
theorem dX10_readWord_51 : decode cX10_readWord 51 = .ok (.bipush 8, 2) := by decide +kernel
theorem dX10_readWord_53 : decode cX10_readWord 53 = .ok (.lshl, 1) := by decide +kernel
theorem dX10_readWord_54 : decode cX10_readWord 54 = .ok (.aload_n 0, 1) := by decide +kernel
theorem dX10_readWord_55 : decode cX10_readWord 55 = .ok (.getfield 9, 3) := by decide +kernel
theorem dX10_readWord_58 : decode cX10_readWord 58 = .ok (.aload_n 0, 1) := by decide +kernel
theorem dX10_readWord_59 : decode cX10_readWord 59 = .ok (.getfield 15, 3) := by decide +kernel
theorem dX10_readWord_62 : decode cX10_readWord 62 = .ok (.iaload, 1) := by decide +kernel
theorem dX10_readWord_63 : decode cX10_readWord 63 = .ok (.i2l, 1) := by decide +kernel
theorem dX10_readWord_64 : decode cX10_readWord 64 = .ok (.lor, 1) := by decide +kernel
theorem dX10_readWord_65 : decode cX10_readWord 65 = .ok (.putfield 46, 3) := by decide +kernel
theorem dX10_readWord_68 : decode cX10_readWord 68 = .ok (.aload_n 0, 1) := by decide +kernel
theorem dX10_readWord_69 : decode cX10_readWord 69 = .ok (.dup, 1) := by decide +kernel
theorem dX10_readWord_70 : decode cX10_readWord 70 = .ok (.getfield 15, 3) := by decide +kernel
theorem dX10_readWord_73 : decode cX10_readWord 73 = .ok (.iconst 1, 1) := by decide +kernel
theorem dX10_readWord_74 : decode cX10_readWord 74 = .ok (.iadd, 1) := by decide +kernel
theorem dX10_readWord_75 : decode cX10_readWord 75 = .ok (.putfield 15, 3) := by decide +kernel
theorem dX10_readWord_78 : decode cX10_readWord 78 = .ok (.goto (-73), 3) := by decide +kernel
theorem dX10_readWord_81 : decode cX10_readWord 81 = .ok (.aload_n 0, 1) := by decide +kernel
theorem dX10_readWord_82 : decode cX10_readWord 82 = .ok (.aload_n 0, 1) := by decide +kernel
theorem dX10_readWord_83 : decode cX10_readWord 83 = .ok (.getfield 15, 3) := by decide +kernel
theorem dX10_readWord_86 : decode cX10_readWord 86 = .ok (.aload_n 0, 1) := by decide +kernel
theorem dX10_readWord_87 : decode cX10_readWord 87 = .ok (.getfield 22, 3) := by decide +kernel
theorem dX10_readWord_90 : decode cX10_readWord 90 = .ok (.isub, 1) := by decide +kernel
theorem dX10_readWord_91 : decode cX10_readWord 91 = .ok (.bipush 8, 2) := by decide +kernel
theorem dX10_readWord_93 : decode cX10_readWord 93 = .ok (.if_icmp .le 7, 3) := by decide +kernel
theorem dX10_readWord_96 : decode cX10_readWord 96 = .ok (.iconst 5, 1) := by decide +kernel
theorem dX10_readWord_97 : decode cX10_readWord 97 = .ok (.goto 4, 3) := by decide +kernel
theorem dX10_readWord_100 : decode cX10_readWord 100 = .ok (.iconst 1, 1) := by decide +kernel
theorem dX10_readWord_101 : decode cX10_readWord 101 = .ok (.putfield 29, 3) := by decide +kernel
theorem dX10_readWord_104 : decode cX10_readWord 104 = .ok (.return_, 1) := by decide +kernel
theorem dX10_readNumber_0 : decode cX10_readNumber 0 = .ok (.iload_n 1, 1) := by decide +kernel
theorem dX10_readNumber_1 : decode cX10_readNumber 1 = .ok (.bipush 48, 2) := by decide +kernel
theorem dX10_readNumber_3 : decode cX10_readNumber 3 = .ok (.if_icmp .ne 36, 3) := by decide +kernel
theorem dX10_readNumber_6 : decode cX10_readNumber 6 = .ok (.aload_n 0, 1) := by decide +kernel
theorem dX10_readNumber_7 : decode cX10_readNumber 7 = .ok (.aload_n 0, 1) := by decide +kernel
theorem dX10_readNumber_8 : decode cX10_readNumber 8 = .ok (.getfield 15, 3) := by decide +kernel
theorem dX10_readNumber_11 : decode cX10_readNumber 11 = .ok (.iconst 1, 1) := by decide +kernel
theorem dX10_readNumber_12 : decode cX10_readNumber 12 = .ok (.iadd, 1) := by decide +kernel
theorem dX10_readNumber_13 : decode cX10_readNumber 13 = .ok (.invokevirtual 25, 3) := by decide +kernel
theorem dX10_readNumber_16 : decode cX10_readNumber 16 = .ok (.bipush 120, 2) := by decide +kernel
theorem dX10_readNumber_18 : decode cX10_readNumber 18 = .ok (.if_icmp .ne 21, 3) := by decide +kernel
theorem dX10_readNumber_21 : decode cX10_readNumber 21 = .ok (.aload_n 0, 1) := by decide +kernel
theorem dX10_readNumber_22 : decode cX10_readNumber 22 = .ok (.dup, 1) := by decide +kernel
theorem dX10_readNumber_23 : decode cX10_readNumber 23 = .ok (.getfield 15, 3) := by decide +kernel
theorem dX10_readNumber_26 : decode cX10_readNumber 26 = .ok (.iconst 2, 1) := by decide +kernel
theorem dX10_readNumber_27 : decode cX10_readNumber 27 = .ok (.iadd, 1) := by decide +kernel
theorem dX10_readNumber_28 : decode cX10_readNumber 28 = .ok (.putfield 15, 3) := by decide +kernel
theorem dX10_readNumber_31 : decode cX10_readNumber 31 = .ok (.aload_n 0, 1) := by decide +kernel
theorem dX10_readNumber_32 : decode cX10_readNumber 32 = .ok (.invokevirtual 50, 3) := by decide +kernel
theorem dX10_readNumber_35 : decode cX10_readNumber 35 = .ok (.istore_n 2, 1) := by decide +kernel
theorem dX10_readNumber_36 : decode cX10_readNumber 36 = .ok (.goto 35, 3) := by decide +kernel
theorem dX10_readNumber_39 : decode cX10_readNumber 39 = .ok (.iload_n 1, 1) := by decide +kernel
theorem dX10_readNumber_40 : decode cX10_readNumber 40 = .ok (.bipush 45, 2) := by decide +kernel
theorem dX10_readNumber_42 : decode cX10_readNumber 42 = .ok (.if_icmp .ne 13, 3) := by decide +kernel
theorem dX10_readNumber_45 : decode cX10_readNumber 45 = .ok (.aload_n 0, 1) := by decide +kernel
theorem dX10_readNumber_46 : decode cX10_readNumber 46 = .ok (.dup, 1) := by decide +kernel
theorem dX10_readNumber_47 : decode cX10_readNumber 47 = .ok (.getfield 15, 3) := by decide +kernel
theorem dX10_readNumber_50 : decode cX10_readNumber 50 = .ok (.iconst 1, 1) := by decide +kernel
theorem dX10_readNumber_51 : decode cX10_readNumber 51 = .ok (.iadd, 1) := by decide +kernel
theorem dX10_readNumber_52 : decode cX10_readNumber 52 = .ok (.putfield 15, 3) := by decide +kernel
theorem dX10_readNumber_55 : decode cX10_readNumber 55 = .ok (.aload_n 0, 1) := by decide +kernel
theorem dX10_readNumber_56 : decode cX10_readNumber 56 = .ok (.iload_n 1, 1) := by decide +kernel
theorem dX10_readNumber_57 : decode cX10_readNumber 57 = .ok (.bipush 45, 2) := by decide +kernel
theorem dX10_readNumber_59 : decode cX10_readNumber 59 = .ok (.if_icmp .ne 7, 3) := by decide +kernel
theorem dX10_readNumber_62 : decode cX10_readNumber 62 = .ok (.iconst 1, 1) := by decide +kernel
theorem dX10_readNumber_63 : decode cX10_readNumber 63 = .ok (.goto 4, 3) := by decide +kernel
theorem dX10_readNumber_66 : decode cX10_readNumber 66 = .ok (.iconst 0, 1) := by decide +kernel
theorem dX10_readNumber_67 : decode cX10_readNumber 67 = .ok (.invokevirtual 54, 3) := by decide +kernel
theorem dX10_readNumber_70 : decode cX10_readNumber 70 = .ok (.istore_n 2, 1) := by decide +kernel
theorem dX10_readNumber_71 : decode cX10_readNumber 71 = .ok (.aload_n 0, 1) := by decide +kernel
theorem dX10_readNumber_72 : decode cX10_readNumber 72 = .ok (.aload_n 0, 1) := by decide +kernel
theorem dX10_readNumber_73 : decode cX10_readNumber 73 = .ok (.getfield 15, 3) := by decide +kernel
theorem dX10_readNumber_76 : decode cX10_readNumber 76 = .ok (.invokevirtual 25, 3) := by decide +kernel
theorem dX10_readNumber_79 : decode cX10_readNumber 79 = .ok (.istore_n 3, 1) := by decide +kernel
theorem dX10_readNumber_80 : decode cX10_readNumber 80 = .ok (.iload_n 3, 1) := by decide +kernel
theorem dX10_readNumber_81 : decode cX10_readNumber 81 = .ok (.invokestatic 32, 3) := by decide +kernel
theorem dX10_readNumber_84 : decode cX10_readNumber 84 = .ok (.ifCond .ne 22, 3) := by decide +kernel
theorem dX10_readNumber_87 : decode cX10_readNumber 87 = .ok (.iload_n 3, 1) := by decide +kernel
theorem dX10_readNumber_88 : decode cX10_readNumber 88 = .ok (.invokestatic 39, 3) := by decide +kernel
theorem dX10_readNumber_91 : decode cX10_readNumber 91 = .ok (.ifCond .ne 15, 3) := by decide +kernel
theorem dX10_readNumber_94 : decode cX10_readNumber 94 = .ok (.iload_n 3, 1) := by decide +kernel
theorem dX10_readNumber_95 : decode cX10_readNumber 95 = .ok (.bipush 65, 2) := by decide +kernel
theorem dX10_readNumber_97 : decode cX10_readNumber 97 = .ok (.if_icmp .lt 13, 3) := by decide +kernel
theorem dX10_readNumber_100 : decode cX10_readNumber 100 = .ok (.iload_n 3, 1) := by decide +kernel
theorem dX10_readNumber_101 : decode cX10_readNumber 101 = .ok (.bipush 90, 2) := by decide +kernel
theorem dX10_readNumber_103 : decode cX10_readNumber 103 = .ok (.if_icmp .gt 7, 3) := by decide +kernel
theorem dX10_readNumber_106 : decode cX10_readNumber 106 = .ok (.iconst 1, 1) := by decide +kernel
theorem dX10_readNumber_107 : decode cX10_readNumber 107 = .ok (.goto 4, 3) := by decide +kernel
theorem dX10_readNumber_110 : decode cX10_readNumber 110 = .ok (.iconst 0, 1) := by decide +kernel
theorem dX10_readNumber_111 : decode cX10_readNumber 111 = .ok (.istore 4, 2) := by decide +kernel
theorem dX10_readNumber_113 : decode cX10_readNumber 113 = .ok (.aload_n 0, 1) := by decide +kernel
theorem dX10_readNumber_114 : decode cX10_readNumber 114 = .ok (.iload_n 2, 1) := by decide +kernel
theorem dX10_readNumber_115 : decode cX10_readNumber 115 = .ok (.ifCond .eq 12, 3) := by decide +kernel
theorem dX10_readNumber_118 : decode cX10_readNumber 118 = .ok (.iload 4, 2) := by decide +kernel
theorem dX10_readNumber_120 : decode cX10_readNumber 120 = .ok (.ifCond .ne 7, 3) := by decide +kernel
theorem dX10_readNumber_123 : decode cX10_readNumber 123 = .ok (.iconst 2, 1) := by decide +kernel
theorem dX10_readNumber_124 : decode cX10_readNumber 124 = .ok (.goto 4, 3) := by decide +kernel
theorem dX10_readNumber_127 : decode cX10_readNumber 127 = .ok (.iconst 5, 1) := by decide +kernel
theorem dX10_readNumber_128 : decode cX10_readNumber 128 = .ok (.putfield 29, 3) := by decide +kernel
theorem dX10_readNumber_131 : decode cX10_readNumber 131 = .ok (.return_, 1) := by decide +kernel
theorem dX10_readHex_0 : decode cX10_readHex 0 = .ok (.iconst 0, 1) := by decide +kernel
theorem dX10_readHex_1 : decode cX10_readHex 1 = .ok (.istore_n 1, 1) := by decide +kernel
theorem dX10_readHex_2 : decode cX10_readHex 2 = .ok (.iconst 0, 1) := by decide +kernel
theorem dX10_readHex_3 : decode cX10_readHex 3 = .ok (.istore_n 2, 1) := by decide +kernel
theorem dX10_readHex_4 : decode cX10_readHex 4 = .ok (.iload_n 2, 1) := by decide +kernel
theorem dX10_readHex_5 : decode cX10_readHex 5 = .ok (.bipush 8, 2) := by decide +kernel
theorem dX10_readHex_7 : decode cX10_readHex 7 = .ok (.if_icmp .ge 50, 3) := by decide +kernel
theorem dX10_readHex_10 : decode cX10_readHex 10 = .ok (.aload_n 0, 1) := by decide +kernel
theorem dX10_readHex_11 : decode cX10_readHex 11 = .ok (.aload_n 0, 1) := by decide +kernel
theorem dX10_readHex_12 : decode cX10_readHex 12 = .ok (.getfield 15, 3) := by decide +kernel
theorem dX10_readHex_15 : decode cX10_readHex 15 = .ok (.invokevirtual 25, 3) := by decide +kernel
theorem dX10_readHex_18 : decode cX10_readHex 18 = .ok (.invokestatic 58, 3) := by decide +kernel
theorem dX10_readHex_21 : decode cX10_readHex 21 = .ok (.iconst (-1), 1) := by decide +kernel
theorem dX10_readHex_22 : decode cX10_readHex 22 = .ok (.if_icmp .eq 35, 3) := by decide +kernel
theorem dX10_readHex_25 : decode cX10_readHex 25 = .ok (.iload_n 1, 1) := by decide +kernel
theorem dX10_readHex_26 : decode cX10_readHex 26 = .ok (.iconst 4, 1) := by decide +kernel
theorem dX10_readHex_27 : decode cX10_readHex 27 = .ok (.ishl, 1) := by decide +kernel
theorem dX10_readHex_28 : decode cX10_readHex 28 = .ok (.aload_n 0, 1) := by decide +kernel
theorem dX10_readHex_29 : decode cX10_readHex 29 = .ok (.aload_n 0, 1) := by decide +kernel
theorem dX10_readHex_30 : decode cX10_readHex 30 = .ok (.getfield 15, 3) := by decide +kernel
theorem dX10_readHex_33 : decode cX10_readHex 33 = .ok (.invokevirtual 25, 3) := by decide +kernel
theorem dX10_readHex_36 : decode cX10_readHex 36 = .ok (.invokestatic 58, 3) := by decide +kernel
theorem dX10_readHex_39 : decode cX10_readHex 39 = .ok (.ior, 1) := by decide +kernel
theorem dX10_readHex_40 : decode cX10_readHex 40 = .ok (.istore_n 1, 1) := by decide +kernel
theorem dX10_readHex_41 : decode cX10_readHex 41 = .ok (.aload_n 0, 1) := by decide +kernel
theorem dX10_readHex_42 : decode cX10_readHex 42 = .ok (.dup, 1) := by decide +kernel
theorem dX10_readHex_43 : decode cX10_readHex 43 = .ok (.getfield 15, 3) := by decide +kernel
theorem dX10_readHex_46 : decode cX10_readHex 46 = .ok (.iconst 1, 1) := by decide +kernel
theorem dX10_readHex_47 : decode cX10_readHex 47 = .ok (.iadd, 1) := by decide +kernel
theorem dX10_readHex_48 : decode cX10_readHex 48 = .ok (.putfield 15, 3) := by decide +kernel
theorem dX10_readHex_51 : decode cX10_readHex 51 = .ok (.iinc 2 1, 3) := by decide +kernel
theorem dX10_readHex_54 : decode cX10_readHex 54 = .ok (.goto (-50), 3) := by decide +kernel
theorem dX10_readHex_57 : decode cX10_readHex 57 = .ok (.aload_n 0, 1) := by decide +kernel
theorem dX10_readHex_58 : decode cX10_readHex 58 = .ok (.iload_n 1, 1) := by decide +kernel
theorem dX10_readHex_59 : decode cX10_readHex 59 = .ok (.putfield 61, 3) := by decide +kernel
theorem dX10_readHex_62 : decode cX10_readHex 62 = .ok (.iload_n 2, 1) := by decide +kernel
theorem dX10_readHex_63 : decode cX10_readHex 63 = .ok (.ifCond .le 7, 3) := by decide +kernel
theorem dX10_readHex_66 : decode cX10_readHex 66 = .ok (.iconst 1, 1) := by decide +kernel
theorem dX10_readHex_67 : decode cX10_readHex 67 = .ok (.goto 4, 3) := by decide +kernel
theorem dX10_readHex_70 : decode cX10_readHex 70 = .ok (.iconst 0, 1) := by decide +kernel
theorem dX10_readHex_71 : decode cX10_readHex 71 = .ok (.ireturn, 1) := by decide +kernel
theorem dX10_readDecimal_0 : decode cX10_readDecimal 0 = .ok (.lconst 0, 1) := by decide +kernel
theorem dX10_readDecimal_1 : decode cX10_readDecimal 1 = .ok (.lstore_n 2, 1) := by decide +kernel
theorem dX10_readDecimal_2 : decode cX10_readDecimal 2 = .ok (.iconst 0, 1) := by decide +kernel
theorem dX10_readDecimal_3 : decode cX10_readDecimal 3 = .ok (.istore 4, 2) := by decide +kernel
theorem dX10_readDecimal_5 : decode cX10_readDecimal 5 = .ok (.iload 4, 2) := by decide +kernel
theorem dX10_readDecimal_7 : decode cX10_readDecimal 7 = .ok (.bipush 10, 2) := by decide +kernel
theorem dX10_readDecimal_9 : decode cX10_readDecimal 9 = .ok (.if_icmp .ge 53, 3) := by decide +kernel
theorem dX10_readDecimal_12 : decode cX10_readDecimal 12 = .ok (.aload_n 0, 1) := by decide +kernel
theorem dX10_readDecimal_13 : decode cX10_readDecimal 13 = .ok (.aload_n 0, 1) := by decide +kernel
theorem dX10_readDecimal_14 : decode cX10_readDecimal 14 = .ok (.getfield 15, 3) := by decide +kernel
theorem dX10_readDecimal_17 : decode cX10_readDecimal 17 = .ok (.invokevirtual 25, 3) := by decide +kernel
theorem dX10_readDecimal_20 : decode cX10_readDecimal 20 = .ok (.invokestatic 39, 3) := by decide +kernel
theorem dX10_readDecimal_23 : decode cX10_readDecimal 23 = .ok (.ifCond .eq 39, 3) := by decide +kernel
theorem dX10_readDecimal_26 : decode cX10_readDecimal 26 = .ok (.lload_n 2, 1) := by decide +kernel
theorem dX10_readDecimal_27 : decode cX10_readDecimal 27 = .ok (.ldc2_w 64, 3) := by decide +kernel
theorem dX10_readDecimal_30 : decode cX10_readDecimal 30 = .ok (.lmul, 1) := by decide +kernel
theorem dX10_readDecimal_31 : decode cX10_readDecimal 31 = .ok (.aload_n 0, 1) := by decide +kernel
theorem dX10_readDecimal_32 : decode cX10_readDecimal 32 = .ok (.getfield 9, 3) := by decide +kernel
theorem dX10_readDecimal_35 : decode cX10_readDecimal 35 = .ok (.aload_n 0, 1) := by decide +kernel
theorem dX10_readDecimal_36 : decode cX10_readDecimal 36 = .ok (.getfield 15, 3) := by decide +kernel
theorem dX10_readDecimal_39 : decode cX10_readDecimal 39 = .ok (.iaload, 1) := by decide +kernel
theorem dX10_readDecimal_40 : decode cX10_readDecimal 40 = .ok (.bipush 48, 2) := by decide +kernel
theorem dX10_readDecimal_42 : decode cX10_readDecimal 42 = .ok (.isub, 1) := by decide +kernel
theorem dX10_readDecimal_43 : decode cX10_readDecimal 43 = .ok (.i2l, 1) := by decide +kernel
theorem dX10_readDecimal_44 : decode cX10_readDecimal 44 = .ok (.ladd, 1) := by decide +kernel
theorem dX10_readDecimal_45 : decode cX10_readDecimal 45 = .ok (.lstore_n 2, 1) := by decide +kernel
theorem dX10_readDecimal_46 : decode cX10_readDecimal 46 = .ok (.aload_n 0, 1) := by decide +kernel
theorem dX10_readDecimal_47 : decode cX10_readDecimal 47 = .ok (.dup, 1) := by decide +kernel
theorem dX10_readDecimal_48 : decode cX10_readDecimal 48 = .ok (.getfield 15, 3) := by decide +kernel
theorem dX10_readDecimal_51 : decode cX10_readDecimal 51 = .ok (.iconst 1, 1) := by decide +kernel
theorem dX10_readDecimal_52 : decode cX10_readDecimal 52 = .ok (.iadd, 1) := by decide +kernel
theorem dX10_readDecimal_53 : decode cX10_readDecimal 53 = .ok (.putfield 15, 3) := by decide +kernel
theorem dX10_readDecimal_56 : decode cX10_readDecimal 56 = .ok (.iinc 4 1, 3) := by decide +kernel
theorem dX10_readDecimal_59 : decode cX10_readDecimal 59 = .ok (.goto (-54), 3) := by decide +kernel
theorem dX10_readDecimal_62 : decode cX10_readDecimal 62 = .ok (.iload_n 1, 1) := by decide +kernel
theorem dX10_readDecimal_63 : decode cX10_readDecimal 63 = .ok (.ifCond .eq 6, 3) := by decide +kernel
theorem dX10_readDecimal_66 : decode cX10_readDecimal 66 = .ok (.lload_n 2, 1) := by decide +kernel
theorem dX10_readDecimal_67 : decode cX10_readDecimal 67 = .ok (.lneg, 1) := by decide +kernel
theorem dX10_readDecimal_68 : decode cX10_readDecimal 68 = .ok (.lstore_n 2, 1) := by decide +kernel
theorem dX10_readDecimal_69 : decode cX10_readDecimal 69 = .ok (.aload_n 0, 1) := by decide +kernel
theorem dX10_readDecimal_70 : decode cX10_readDecimal 70 = .ok (.lload_n 2, 1) := by decide +kernel
theorem dX10_readDecimal_71 : decode cX10_readDecimal 71 = .ok (.l2i, 1) := by decide +kernel
theorem dX10_readDecimal_72 : decode cX10_readDecimal 72 = .ok (.putfield 61, 3) := by decide +kernel
theorem dX10_readDecimal_75 : decode cX10_readDecimal 75 = .ok (.iload 4, 2) := by decide +kernel
theorem dX10_readDecimal_77 : decode cX10_readDecimal 77 = .ok (.ifCond .le 23, 3) := by decide +kernel
theorem dX10_readDecimal_80 : decode cX10_readDecimal 80 = .ok (.lload_n 2, 1) := by decide +kernel
theorem dX10_readDecimal_81 : decode cX10_readDecimal 81 = .ok (.ldc2_w 66, 3) := by decide +kernel
theorem dX10_readDecimal_84 : decode cX10_readDecimal 84 = .ok (.lcmp, 1) := by decide +kernel
theorem dX10_readDecimal_85 : decode cX10_readDecimal 85 = .ok (.ifCond .lt 15, 3) := by decide +kernel
theorem dX10_readDecimal_88 : decode cX10_readDecimal 88 = .ok (.lload_n 2, 1) := by decide +kernel
theorem dX10_readDecimal_89 : decode cX10_readDecimal 89 = .ok (.ldc2_w 68, 3) := by decide +kernel
theorem dX10_readDecimal_92 : decode cX10_readDecimal 92 = .ok (.lcmp, 1) := by decide +kernel
theorem dX10_readDecimal_93 : decode cX10_readDecimal 93 = .ok (.ifCond .gt 7, 3) := by decide +kernel
theorem dX10_readDecimal_96 : decode cX10_readDecimal 96 = .ok (.iconst 1, 1) := by decide +kernel
theorem dX10_readDecimal_97 : decode cX10_readDecimal 97 = .ok (.goto 4, 3) := by decide +kernel
theorem dX10_readDecimal_100 : decode cX10_readDecimal 100 = .ok (.iconst 0, 1) := by decide +kernel
theorem dX10_readDecimal_101 : decode cX10_readDecimal 101 = .ok (.ireturn, 1) := by decide +kernel
theorem dX10_hexDigit_0 : decode cX10_hexDigit 0 = .ok (.iload_n 0, 1) := by decide +kernel
theorem dX10_hexDigit_1 : decode cX10_hexDigit 1 = .ok (.bipush 48, 2) := by decide +kernel
theorem dX10_hexDigit_3 : decode cX10_hexDigit 3 = .ok (.if_icmp .lt 14, 3) := by decide +kernel
theorem dX10_hexDigit_6 : decode cX10_hexDigit 6 = .ok (.iload_n 0, 1) := by decide +kernel
theorem dX10_hexDigit_7 : decode cX10_hexDigit 7 = .ok (.bipush 57, 2) := by decide +kernel
theorem dX10_hexDigit_9 : decode cX10_hexDigit 9 = .ok (.if_icmp .gt 8, 3) := by decide +kernel
theorem dX10_hexDigit_12 : decode cX10_hexDigit 12 = .ok (.iload_n 0, 1) := by decide +kernel
theorem dX10_hexDigit_13 : decode cX10_hexDigit 13 = .ok (.bipush 48, 2) := by decide +kernel
theorem dX10_hexDigit_15 : decode cX10_hexDigit 15 = .ok (.isub, 1) := by decide +kernel
theorem dX10_hexDigit_16 : decode cX10_hexDigit 16 = .ok (.ireturn, 1) := by decide +kernel
theorem dX10_hexDigit_17 : decode cX10_hexDigit 17 = .ok (.iload_n 0, 1) := by decide +kernel
theorem dX10_hexDigit_18 : decode cX10_hexDigit 18 = .ok (.bipush 97, 2) := by decide +kernel
theorem dX10_hexDigit_20 : decode cX10_hexDigit 20 = .ok (.if_icmp .lt 19, 3) := by decide +kernel
theorem dX10_hexDigit_23 : decode cX10_hexDigit 23 = .ok (.iload_n 0, 1) := by decide +kernel
theorem dX10_hexDigit_24 : decode cX10_hexDigit 24 = .ok (.bipush 102, 2) := by decide +kernel
theorem dX10_hexDigit_26 : decode cX10_hexDigit 26 = .ok (.if_icmp .gt 13, 3) := by decide +kernel
theorem dX10_hexDigit_29 : decode cX10_hexDigit 29 = .ok (.iload_n 0, 1) := by decide +kernel
theorem dX10_hexDigit_30 : decode cX10_hexDigit 30 = .ok (.bipush 97, 2) := by decide +kernel
theorem dX10_hexDigit_32 : decode cX10_hexDigit 32 = .ok (.isub, 1) := by decide +kernel
theorem dX10_hexDigit_33 : decode cX10_hexDigit 33 = .ok (.bipush 10, 2) := by decide +kernel
theorem dX10_hexDigit_35 : decode cX10_hexDigit 35 = .ok (.iadd, 1) := by decide +kernel
theorem dX10_hexDigit_36 : decode cX10_hexDigit 36 = .ok (.goto 4, 3) := by decide +kernel
theorem dX10_hexDigit_39 : decode cX10_hexDigit 39 = .ok (.iconst (-1), 1) := by decide +kernel
theorem dX10_hexDigit_40 : decode cX10_hexDigit 40 = .ok (.ireturn, 1) := by decide +kernel
theorem dX10_isLetter_0 : decode cX10_isLetter 0 = .ok (.iload_n 0, 1) := by decide +kernel
theorem dX10_isLetter_1 : decode cX10_isLetter 1 = .ok (.bipush 97, 2) := by decide +kernel
theorem dX10_isLetter_3 : decode cX10_isLetter 3 = .ok (.if_icmp .lt 13, 3) := by decide +kernel
theorem dX10_isLetter_6 : decode cX10_isLetter 6 = .ok (.iload_n 0, 1) := by decide +kernel
theorem dX10_isLetter_7 : decode cX10_isLetter 7 = .ok (.bipush 122, 2) := by decide +kernel
theorem dX10_isLetter_9 : decode cX10_isLetter 9 = .ok (.if_icmp .gt 7, 3) := by decide +kernel
theorem dX10_isLetter_12 : decode cX10_isLetter 12 = .ok (.iconst 1, 1) := by decide +kernel
theorem dX10_isLetter_13 : decode cX10_isLetter 13 = .ok (.goto 4, 3) := by decide +kernel
theorem dX10_isLetter_16 : decode cX10_isLetter 16 = .ok (.iconst 0, 1) := by decide +kernel
theorem dX10_isLetter_17 : decode cX10_isLetter 17 = .ok (.ireturn, 1) := by decide +kernel
theorem dX10_isDigit_0 : decode cX10_isDigit 0 = .ok (.iload_n 0, 1) := by decide +kernel
theorem dX10_isDigit_1 : decode cX10_isDigit 1 = .ok (.bipush 48, 2) := by decide +kernel
theorem dX10_isDigit_3 : decode cX10_isDigit 3 = .ok (.if_icmp .lt 13, 3) := by decide +kernel
theorem dX10_isDigit_6 : decode cX10_isDigit 6 = .ok (.iload_n 0, 1) := by decide +kernel
theorem dX10_isDigit_7 : decode cX10_isDigit 7 = .ok (.bipush 57, 2) := by decide +kernel
theorem dX10_isDigit_9 : decode cX10_isDigit 9 = .ok (.if_icmp .gt 7, 3) := by decide +kernel
theorem dX10_isDigit_12 : decode cX10_isDigit 12 = .ok (.iconst 1, 1) := by decide +kernel
theorem dX10_isDigit_13 : decode cX10_isDigit 13 = .ok (.goto 4, 3) := by decide +kernel
theorem dX10_isDigit_16 : decode cX10_isDigit 16 = .ok (.iconst 0, 1) := by decide +kernel
theorem dX10_isDigit_17 : decode cX10_isDigit 17 = .ok (.ireturn, 1) := by decide +kernel
theorem dX11_init_0 : decode cX11_init 0 = .ok (.aload_n 0, 1) := by decide +kernel
theorem dX11_init_1 : decode cX11_init 1 = .ok (.invokespecial 1, 3) := by decide +kernel
theorem dX11_init_4 : decode cX11_init 4 = .ok (.aload_n 0, 1) := by decide +kernel
theorem dX11_init_5 : decode cX11_init 5 = .ok (.sipush 4000, 3) := by decide +kernel
theorem dX11_init_8 : decode cX11_init 8 = .ok (.newarray .int, 2) := by decide +kernel
theorem dX11_init_10 : decode cX11_init 10 = .ok (.putfield 9, 3) := by decide +kernel
theorem dX11_init_13 : decode cX11_init 13 = .ok (.aload_n 0, 1) := by decide +kernel
theorem dX11_init_14 : decode cX11_init 14 = .ok (.new 13, 3) := by decide +kernel
theorem dX11_init_17 : decode cX11_init 17 = .ok (.dup, 1) := by decide +kernel
theorem dX11_init_18 : decode cX11_init 18 = .ok (.invokespecial 15, 3) := by decide +kernel
theorem dX11_init_21 : decode cX11_init 21 = .ok (.putfield 16, 3) := by decide +kernel
theorem dX11_init_24 : decode cX11_init 24 = .ok (.aload_n 0, 1) := by decide +kernel
theorem dX11_init_25 : decode cX11_init 25 = .ok (.new 20, 3) := by decide +kernel
theorem dX11_init_28 : decode cX11_init 28 = .ok (.dup, 1) := by decide +kernel
theorem dX11_init_29 : decode cX11_init 29 = .ok (.invokespecial 22, 3) := by decide +kernel
theorem dX11_init_32 : decode cX11_init 32 = .ok (.putfield 23, 3) := by decide +kernel
theorem dX11_init_35 : decode cX11_init 35 = .ok (.aload_n 0, 1) := by decide +kernel
theorem dX11_init_36 : decode cX11_init 36 = .ok (.new 20, 3) := by decide +kernel
theorem dX11_init_39 : decode cX11_init 39 = .ok (.dup, 1) := by decide +kernel
theorem dX11_init_40 : decode cX11_init 40 = .ok (.invokespecial 22, 3) := by decide +kernel
theorem dX11_init_43 : decode cX11_init 43 = .ok (.putfield 27, 3) := by decide +kernel
theorem dX11_init_46 : decode cX11_init 46 = .ok (.aload_n 0, 1) := by decide +kernel
theorem dX11_init_47 : decode cX11_init 47 = .ok (.new 30, 3) := by decide +kernel
theorem dX11_init_50 : decode cX11_init 50 = .ok (.dup, 1) := by decide +kernel
theorem dX11_init_51 : decode cX11_init 51 = .ok (.invokespecial 32, 3) := by decide +kernel
theorem dX11_init_54 : decode cX11_init 54 = .ok (.putfield 33, 3) := by decide +kernel
theorem dX11_init_57 : decode cX11_init 57 = .ok (.aload_n 0, 1) := by decide +kernel
theorem dX11_init_58 : decode cX11_init 58 = .ok (.new 30, 3) := by decide +kernel
theorem dX11_init_61 : decode cX11_init 61 = .ok (.dup, 1) := by decide +kernel
theorem dX11_init_62 : decode cX11_init 62 = .ok (.invokespecial 32, 3) := by decide +kernel
theorem dX11_init_65 : decode cX11_init 65 = .ok (.putfield 37, 3) := by decide +kernel
theorem dX11_init_68 : decode cX11_init 68 = .ok (.aload_n 0, 1) := by decide +kernel
theorem dX11_init_69 : decode cX11_init 69 = .ok (.ldc 40, 2) := by decide +kernel
theorem dX11_init_71 : decode cX11_init 71 = .ok (.putfield 41, 3) := by decide +kernel
theorem dX11_init_74 : decode cX11_init 74 = .ok (.return_, 1) := by decide +kernel
theorem dX11_feed_0 : decode cX11_feed 0 = .ok (.aload_n 0, 1) := by decide +kernel
theorem dX11_feed_1 : decode cX11_feed 1 = .ok (.getfield 45, 3) := by decide +kernel
theorem dX11_feed_4 : decode cX11_feed 4 = .ok (.bipush 20, 2) := by decide +kernel
theorem dX11_feed_6 : decode cX11_feed 6 = .ok (.iadd, 1) := by decide +kernel
theorem dX11_feed_7 : decode cX11_feed 7 = .ok (.sipush 4000, 3) := by decide +kernel
theorem dX11_feed_10 : decode cX11_feed 10 = .ok (.if_icmp .le 5, 3) := by decide +kernel
theorem dX11_feed_13 : decode cX11_feed 13 = .ok (.iconst (-1), 1) := by decide +kernel
theorem dX11_feed_14 : decode cX11_feed 14 = .ok (.ireturn, 1) := by decide +kernel
theorem dX11_feed_15 : decode cX11_feed 15 = .ok (.aload_n 0, 1) := by decide +kernel
theorem dX11_feed_16 : decode cX11_feed 16 = .ok (.iload_n 1, 1) := by decide +kernel
theorem dX11_feed_17 : decode cX11_feed 17 = .ok (.invokevirtual 48, 3) := by decide +kernel
theorem dX11_feed_20 : decode cX11_feed 20 = .ok (.aload_n 0, 1) := by decide +kernel
theorem dX11_feed_21 : decode cX11_feed 21 = .ok (.iload_n 2, 1) := by decide +kernel
theorem dX11_feed_22 : decode cX11_feed 22 = .ok (.invokevirtual 48, 3) := by decide +kernel
theorem dX11_feed_25 : decode cX11_feed 25 = .ok (.aload_n 0, 1) := by decide +kernel
theorem dX11_feed_26 : decode cX11_feed 26 = .ok (.iload_n 3, 1) := by decide +kernel
theorem dX11_feed_27 : decode cX11_feed 27 = .ok (.invokevirtual 48, 3) := by decide +kernel
theorem dX11_feed_30 : decode cX11_feed 30 = .ok (.aload_n 0, 1) := by decide +kernel
theorem dX11_feed_31 : decode cX11_feed 31 = .ok (.iload 4, 2) := by decide +kernel
theorem dX11_feed_33 : decode cX11_feed 33 = .ok (.invokevirtual 48, 3) := by decide +kernel
theorem dX11_feed_36 : decode cX11_feed 36 = .ok (.aload_n 0, 1) := by decide +kernel
theorem dX11_feed_37 : decode cX11_feed 37 = .ok (.iload 5, 2) := by decide +kernel
theorem dX11_feed_39 : decode cX11_feed 39 = .ok (.invokevirtual 48, 3) := by decide +kernel
theorem dX11_feed_42 : decode cX11_feed 42 = .ok (.aload_n 0, 1) := by decide +kernel
theorem dX11_feed_43 : decode cX11_feed 43 = .ok (.getfield 45, 3) := by decide +kernel
theorem dX11_feed_46 : decode cX11_feed 46 = .ok (.ireturn, 1) := by decide +kernel
theorem dX11_layOnTape_0 : decode cX11_layOnTape 0 = .ok (.bipush 24, 2) := by decide +kernel
theorem dX11_layOnTape_2 : decode cX11_layOnTape 2 = .ok (.istore_n 2, 1) := by decide +kernel
theorem dX11_layOnTape_3 : decode cX11_layOnTape 3 = .ok (.iload_n 2, 1) := by decide +kernel
theorem dX11_layOnTape_4 : decode cX11_layOnTape 4 = .ok (.ifCond .lt 35, 3) := by decide +kernel
theorem dX11_layOnTape_7 : decode cX11_layOnTape 7 = .ok (.aload_n 0, 1) := by decide +kernel
theorem dX11_layOnTape_8 : decode cX11_layOnTape 8 = .ok (.getfield 9, 3) := by decide +kernel
theorem dX11_layOnTape_11 : decode cX11_layOnTape 11 = .ok (.aload_n 0, 1) := by decide +kernel
theorem dX11_layOnTape_12 : decode cX11_layOnTape 12 = .ok (.getfield 45, 3) := by decide +kernel
theorem dX11_layOnTape_15 : decode cX11_layOnTape 15 = .ok (.iload_n 1, 1) := by decide +kernel
theorem dX11_layOnTape_16 : decode cX11_layOnTape 16 = .ok (.iload_n 2, 1) := by decide +kernel
theorem dX11_layOnTape_17 : decode cX11_layOnTape 17 = .ok (.iushr, 1) := by decide +kernel
theorem dX11_layOnTape_18 : decode cX11_layOnTape 18 = .ok (.sipush 255, 3) := by decide +kernel
theorem dX11_layOnTape_21 : decode cX11_layOnTape 21 = .ok (.iand, 1) := by decide +kernel
theorem dX11_layOnTape_22 : decode cX11_layOnTape 22 = .ok (.iastore, 1) := by decide +kernel
theorem dX11_layOnTape_23 : decode cX11_layOnTape 23 = .ok (.aload_n 0, 1) := by decide +kernel
theorem dX11_layOnTape_24 : decode cX11_layOnTape 24 = .ok (.dup, 1) := by decide +kernel
theorem dX11_layOnTape_25 : decode cX11_layOnTape 25 = .ok (.getfield 45, 3) := by decide +kernel
theorem dX11_layOnTape_28 : decode cX11_layOnTape 28 = .ok (.iconst 1, 1) := by decide +kernel
theorem dX11_layOnTape_29 : decode cX11_layOnTape 29 = .ok (.iadd, 1) := by decide +kernel
theorem dX11_layOnTape_30 : decode cX11_layOnTape 30 = .ok (.putfield 45, 3) := by decide +kernel
theorem dX11_layOnTape_33 : decode cX11_layOnTape 33 = .ok (.iinc 2 (-8), 3) := by decide +kernel
theorem dX11_layOnTape_36 : decode cX11_layOnTape 36 = .ok (.goto (-33), 3) := by decide +kernel
theorem dX11_layOnTape_39 : decode cX11_layOnTape 39 = .ok (.return_, 1) := by decide +kernel
theorem dX11_end_0 : decode cX11_end 0 = .ok (.iload_n 1, 1) := by decide +kernel
theorem dX11_end_1 : decode cX11_end 1 = .ok (.ifCond .lt 11, 3) := by decide +kernel
theorem dX11_end_4 : decode cX11_end 4 = .ok (.iload_n 1, 1) := by decide +kernel
theorem dX11_end_5 : decode cX11_end 5 = .ok (.aload_n 0, 1) := by decide +kernel
theorem dX11_end_6 : decode cX11_end 6 = .ok (.getfield 45, 3) := by decide +kernel
theorem dX11_end_9 : decode cX11_end 9 = .ok (.if_icmp .le 5, 3) := by decide +kernel
theorem dX11_end_12 : decode cX11_end 12 = .ok (.iconst (-1), 1) := by decide +kernel
theorem dX11_end_13 : decode cX11_end 13 = .ok (.ireturn, 1) := by decide +kernel
theorem dX11_end_14 : decode cX11_end 14 = .ok (.aload_n 0, 1) := by decide +kernel
theorem dX11_end_15 : decode cX11_end 15 = .ok (.iload_n 1, 1) := by decide +kernel
theorem dX11_end_16 : decode cX11_end 16 = .ok (.putfield 45, 3) := by decide +kernel
theorem dX11_end_19 : decode cX11_end 19 = .ok (.iload_n 1, 1) := by decide +kernel
theorem dX11_end_20 : decode cX11_end 20 = .ok (.ireturn, 1) := by decide +kernel
theorem dX11_assemble_0 : decode cX11_assemble 0 = .ok (.aload_n 0, 1) := by decide +kernel
theorem dX11_assemble_1 : decode cX11_assemble 1 = .ok (.getfield 45, 3) := by decide +kernel
theorem dX11_assemble_4 : decode cX11_assemble 4 = .ok (.istore_n 1, 1) := by decide +kernel
theorem dX11_assemble_5 : decode cX11_assemble 5 = .ok (.aload_n 0, 1) := by decide +kernel
theorem dX11_assemble_6 : decode cX11_assemble 6 = .ok (.iconst 0, 1) := by decide +kernel
theorem dX11_assemble_7 : decode cX11_assemble 7 = .ok (.putfield 45, 3) := by decide +kernel
theorem dX11_assemble_10 : decode cX11_assemble 10 = .ok (.aload_n 0, 1) := by decide +kernel
theorem dX11_assemble_11 : decode cX11_assemble 11 = .ok (.getfield 16, 3) := by decide +kernel
theorem dX11_assemble_14 : decode cX11_assemble 14 = .ok (.aload_n 0, 1) := by decide +kernel
theorem dX11_assemble_15 : decode cX11_assemble 15 = .ok (.getfield 9, 3) := by decide +kernel
theorem dX11_assemble_18 : decode cX11_assemble 18 = .ok (.iload_n 1, 1) := by decide +kernel
theorem dX11_assemble_19 : decode cX11_assemble 19 = .ok (.aload_n 0, 1) := by decide +kernel
theorem dX11_assemble_20 : decode cX11_assemble 20 = .ok (.getfield 27, 3) := by decide +kernel
theorem dX11_assemble_23 : decode cX11_assemble 23 = .ok (.invokevirtual 52, 3) := by decide +kernel
theorem dX11_assemble_26 : decode cX11_assemble 26 = .ok (.ifCond .ne 5, 3) := by decide +kernel
theorem dX11_assemble_29 : decode cX11_assemble 29 = .ok (.iconst (-1), 1) := by decide +kernel
theorem dX11_assemble_30 : decode cX11_assemble 30 = .ok (.ireturn, 1) := by decide +kernel
theorem dX11_assemble_31 : decode cX11_assemble 31 = .ok (.aload_n 0, 1) := by decide +kernel
theorem dX11_assemble_32 : decode cX11_assemble 32 = .ok (.getfield 23, 3) := by decide +kernel
theorem dX11_assemble_35 : decode cX11_assemble 35 = .ok (.astore_n 2, 1) := by decide +kernel
theorem dX11_assemble_36 : decode cX11_assemble 36 = .ok (.aload_n 0, 1) := by decide +kernel
theorem dX11_assemble_37 : decode cX11_assemble 37 = .ok (.aload_n 0, 1) := by decide +kernel
theorem dX11_assemble_38 : decode cX11_assemble 38 = .ok (.getfield 27, 3) := by decide +kernel
theorem dX11_assemble_41 : decode cX11_assemble 41 = .ok (.putfield 23, 3) := by decide +kernel
theorem dX11_assemble_44 : decode cX11_assemble 44 = .ok (.aload_n 0, 1) := by decide +kernel
theorem dX11_assemble_45 : decode cX11_assemble 45 = .ok (.aload_n 2, 1) := by decide +kernel
theorem dX11_assemble_46 : decode cX11_assemble 46 = .ok (.putfield 27, 3) := by decide +kernel
theorem dX11_assemble_49 : decode cX11_assemble 49 = .ok (.aload_n 0, 1) := by decide +kernel
theorem dX11_assemble_50 : decode cX11_assemble 50 = .ok (.iconst 1, 1) := by decide +kernel
theorem dX11_assemble_51 : decode cX11_assemble 51 = .ok (.putfield 56, 3) := by decide +kernel
theorem dX11_assemble_54 : decode cX11_assemble 54 = .ok (.aload_n 0, 1) := by decide +kernel
theorem dX11_assemble_55 : decode cX11_assemble 55 = .ok (.getfield 33, 3) := by decide +kernel
theorem dX11_assemble_58 : decode cX11_assemble 58 = .ok (.getfield 60, 3) := by decide +kernel
theorem dX11_assemble_61 : decode cX11_assemble 61 = .ok (.invokevirtual 64, 3) := by decide +kernel
theorem dX11_assemble_64 : decode cX11_assemble 64 = .ok (.aload_n 0, 1) := by decide +kernel
theorem dX11_assemble_65 : decode cX11_assemble 65 = .ok (.getfield 33, 3) := by decide +kernel
theorem dX11_assemble_68 : decode cX11_assemble 68 = .ok (.aload_n 0, 1) := by decide +kernel
theorem dX11_assemble_69 : decode cX11_assemble 69 = .ok (.getfield 23, 3) := by decide +kernel
theorem dX11_assemble_72 : decode cX11_assemble 72 = .ok (.iconst 0, 1) := by decide +kernel
theorem dX11_assemble_73 : decode cX11_assemble 73 = .ok (.iconst 0, 1) := by decide +kernel
theorem dX11_assemble_74 : decode cX11_assemble 74 = .ok (.invokevirtual 69, 3) := by decide +kernel
theorem dX11_assemble_77 : decode cX11_assemble 77 = .ok (.aload_n 0, 1) := by decide +kernel
theorem dX11_assemble_78 : decode cX11_assemble 78 = .ok (.getfield 23, 3) := by decide +kernel
theorem dX11_assemble_81 : decode cX11_assemble 81 = .ok (.getfield 73, 3) := by decide +kernel
theorem dX11_assemble_84 : decode cX11_assemble 84 = .ok (.ireturn, 1) := by decide +kernel
theorem dX11_fault_0 : decode cX11_fault 0 = .ok (.iload_n 1, 1) := by decide +kernel
theorem dX11_fault_1 : decode cX11_fault 1 = .ok (.tableswitch 51 0 2 #[27, 35, 43], 27) := by decide +kernel
theorem dX11_fault_28 : decode cX11_fault 28 = .ok (.aload_n 0, 1) := by decide +kernel
theorem dX11_fault_29 : decode cX11_fault 29 = .ok (.getfield 16, 3) := by decide +kernel
theorem dX11_fault_32 : decode cX11_fault 32 = .ok (.getfield 76, 3) := by decide +kernel
theorem dX11_fault_35 : decode cX11_fault 35 = .ok (.ireturn, 1) := by decide +kernel
theorem dX11_fault_36 : decode cX11_fault 36 = .ok (.aload_n 0, 1) := by decide +kernel
theorem dX11_fault_37 : decode cX11_fault 37 = .ok (.getfield 16, 3) := by decide +kernel
theorem dX11_fault_40 : decode cX11_fault 40 = .ok (.getfield 79, 3) := by decide +kernel
theorem dX11_fault_43 : decode cX11_fault 43 = .ok (.ireturn, 1) := by decide +kernel
theorem dX11_fault_44 : decode cX11_fault 44 = .ok (.aload_n 0, 1) := by decide +kernel
theorem dX11_fault_45 : decode cX11_fault 45 = .ok (.getfield 16, 3) := by decide +kernel
theorem dX11_fault_48 : decode cX11_fault 48 = .ok (.getfield 82, 3) := by decide +kernel
theorem dX11_fault_51 : decode cX11_fault 51 = .ok (.ireturn, 1) := by decide +kernel
theorem dX11_fault_52 : decode cX11_fault 52 = .ok (.iconst (-1), 1) := by decide +kernel
theorem dX11_fault_53 : decode cX11_fault 53 = .ok (.ireturn, 1) := by decide +kernel
theorem dX11_begin_0 : decode cX11_begin 0 = .ok (.aload_n 0, 1) := by decide +kernel
theorem dX11_begin_1 : decode cX11_begin 1 = .ok (.getfield 56, 3) := by decide +kernel
theorem dX11_begin_4 : decode cX11_begin 4 = .ok (.ifCond .eq 12, 3) := by decide +kernel
theorem dX11_begin_7 : decode cX11_begin 7 = .ok (.iload_n 2, 1) := by decide +kernel
theorem dX11_begin_8 : decode cX11_begin 8 = .ok (.ifCond .lt 8, 3) := by decide +kernel
theorem dX11_begin_11 : decode cX11_begin 11 = .ok (.iload_n 2, 1) := by decide +kernel
theorem dX11_begin_12 : decode cX11_begin 12 = .ok (.iconst 1, 1) := by decide +kernel
theorem dX11_begin_13 : decode cX11_begin 13 = .ok (.if_icmp .le 5, 3) := by decide +kernel
theorem dX11_begin_16 : decode cX11_begin 16 = .ok (.iconst 0, 1) := by decide +kernel
theorem dX11_begin_17 : decode cX11_begin 17 = .ok (.ireturn, 1) := by decide +kernel
theorem dX11_begin_18 : decode cX11_begin 18 = .ok (.aload_n 0, 1) := by decide +kernel
theorem dX11_begin_19 : decode cX11_begin 19 = .ok (.getfield 33, 3) := by decide +kernel
theorem dX11_begin_22 : decode cX11_begin 22 = .ok (.aload_n 0, 1) := by decide +kernel
theorem dX11_begin_23 : decode cX11_begin 23 = .ok (.getfield 23, 3) := by decide +kernel
theorem dX11_begin_26 : decode cX11_begin 26 = .ok (.iload_n 1, 1) := by decide +kernel
theorem dX11_begin_27 : decode cX11_begin 27 = .ok (.iload_n 2, 1) := by decide +kernel
theorem dX11_begin_28 : decode cX11_begin 28 = .ok (.iconst 1, 1) := by decide +kernel
theorem dX11_begin_29 : decode cX11_begin 29 = .ok (.if_icmp .ne 7, 3) := by decide +kernel
theorem dX11_begin_32 : decode cX11_begin 32 = .ok (.iconst 1, 1) := by decide +kernel
theorem dX11_begin_33 : decode cX11_begin 33 = .ok (.goto 4, 3) := by decide +kernel
theorem dX11_begin_36 : decode cX11_begin 36 = .ok (.iconst 0, 1) := by decide +kernel
theorem dX11_begin_37 : decode cX11_begin 37 = .ok (.invokevirtual 69, 3) := by decide +kernel
theorem dX11_begin_40 : decode cX11_begin 40 = .ok (.iconst 1, 1) := by decide +kernel
theorem dX11_begin_41 : decode cX11_begin 41 = .ok (.ireturn, 1) := by decide +kernel
theorem dX11_input_0 : decode cX11_input 0 = .ok (.aload_n 0, 1) := by decide +kernel
theorem dX11_input_1 : decode cX11_input 1 = .ok (.getfield 56, 3) := by decide +kernel
theorem dX11_input_4 : decode cX11_input 4 = .ok (.ifCond .eq 14, 3) := by decide +kernel
theorem dX11_input_7 : decode cX11_input 7 = .ok (.aload_n 0, 1) := by decide +kernel
theorem dX11_input_8 : decode cX11_input 8 = .ok (.getfield 23, 3) := by decide +kernel
theorem dX11_input_11 : decode cX11_input 11 = .ok (.iload_n 1, 1) := by decide +kernel
theorem dX11_input_12 : decode cX11_input 12 = .ok (.invokevirtual 85, 3) := by decide +kernel
theorem dX11_input_15 : decode cX11_input 15 = .ok (.goto 4, 3) := by decide +kernel
theorem dX11_input_18 : decode cX11_input 18 = .ok (.iconst (-1), 1) := by decide +kernel
theorem dX11_input_19 : decode cX11_input 19 = .ok (.ireturn, 1) := by decide +kernel
theorem dX11_suppress_0 : decode cX11_suppress 0 = .ok (.aload_n 0, 1) := by decide +kernel
theorem dX11_suppress_1 : decode cX11_suppress 1 = .ok (.getfield 56, 3) := by decide +kernel
theorem dX11_suppress_4 : decode cX11_suppress 4 = .ok (.ifCond .eq 19, 3) := by decide +kernel
theorem dX11_suppress_7 : decode cX11_suppress 7 = .ok (.aload_n 0, 1) := by decide +kernel
theorem dX11_suppress_8 : decode cX11_suppress 8 = .ok (.getfield 33, 3) := by decide +kernel
theorem dX11_suppress_11 : decode cX11_suppress 11 = .ok (.getfield 60, 3) := by decide +kernel
theorem dX11_suppress_14 : decode cX11_suppress 14 = .ok (.iload_n 1, 1) := by decide +kernel
theorem dX11_suppress_15 : decode cX11_suppress 15 = .ok (.iload_n 2, 1) := by decide +kernel
theorem dX11_suppress_16 : decode cX11_suppress 16 = .ok (.iload_n 3, 1) := by decide +kernel
theorem dX11_suppress_17 : decode cX11_suppress 17 = .ok (.invokevirtual 89, 3) := by decide +kernel
theorem dX11_suppress_20 : decode cX11_suppress 20 = .ok (.goto 4, 3) := by decide +kernel
theorem dX11_suppress_23 : decode cX11_suppress 23 = .ok (.iconst (-1), 1) := by decide +kernel
theorem dX11_suppress_24 : decode cX11_suppress 24 = .ok (.ireturn, 1) := by decide +kernel
theorem dX11_run_0 : decode cX11_run 0 = .ok (.aload_n 0, 1) := by decide +kernel
theorem dX11_run_1 : decode cX11_run 1 = .ok (.getfield 56, 3) := by decide +kernel
theorem dX11_run_4 : decode cX11_run 4 = .ok (.ifCond .eq 14, 3) := by decide +kernel
theorem dX11_run_7 : decode cX11_run 7 = .ok (.iload_n 1, 1) := by decide +kernel
theorem dX11_run_8 : decode cX11_run 8 = .ok (.ifCond .lt 10, 3) := by decide +kernel
theorem dX11_run_11 : decode cX11_run 11 = .ok (.iload_n 1, 1) := by decide +kernel
theorem dX11_run_12 : decode cX11_run 12 = .ok (.sipush 20000, 3) := by decide +kernel
theorem dX11_run_15 : decode cX11_run 15 = .ok (.if_icmp .le 5, 3) := by decide +kernel
theorem dX11_run_18 : decode cX11_run 18 = .ok (.iconst (-1), 1) := by decide +kernel
theorem dX11_run_19 : decode cX11_run 19 = .ok (.ireturn, 1) := by decide +kernel
theorem dX11_run_20 : decode cX11_run 20 = .ok (.aload_n 0, 1) := by decide +kernel
theorem dX11_run_21 : decode cX11_run 21 = .ok (.getfield 33, 3) := by decide +kernel
theorem dX11_run_24 : decode cX11_run 24 = .ok (.iload_n 1, 1) := by decide +kernel
theorem dX11_run_25 : decode cX11_run 25 = .ok (.aload_n 0, 1) := by decide +kernel
theorem dX11_run_26 : decode cX11_run 26 = .ok (.getfield 41, 3) := by decide +kernel
theorem dX11_run_29 : decode cX11_run 29 = .ok (.invokestatic 93, 3) := by decide +kernel
theorem dX11_run_32 : decode cX11_run 32 = .ok (.invokevirtual 99, 3) := by decide +kernel
theorem dX11_run_35 : decode cX11_run 35 = .ok (.istore_n 2, 1) := by decide +kernel
theorem dX11_run_36 : decode cX11_run 36 = .ok (.aload_n 0, 1) := by decide +kernel
theorem dX11_run_37 : decode cX11_run 37 = .ok (.dup, 1) := by decide +kernel
theorem dX11_run_38 : decode cX11_run 38 = .ok (.getfield 41, 3) := by decide +kernel
theorem dX11_run_41 : decode cX11_run 41 = .ok (.iload_n 2, 1) := by decide +kernel
theorem dX11_run_42 : decode cX11_run 42 = .ok (.isub, 1) := by decide +kernel
theorem dX11_run_43 : decode cX11_run 43 = .ok (.putfield 41, 3) := by decide +kernel
theorem dX11_run_46 : decode cX11_run 46 = .ok (.iload_n 2, 1) := by decide +kernel
theorem dX11_run_47 : decode cX11_run 47 = .ok (.ireturn, 1) := by decide +kernel
theorem dX11_state_0 : decode cX11_state 0 = .ok (.aload_n 0, 1) := by decide +kernel
theorem dX11_state_1 : decode cX11_state 1 = .ok (.getfield 56, 3) := by decide +kernel
theorem dX11_state_4 : decode cX11_state 4 = .ok (.ifCond .eq 14, 3) := by decide +kernel
theorem dX11_state_7 : decode cX11_state 7 = .ok (.aload_n 0, 1) := by decide +kernel
theorem dX11_state_8 : decode cX11_state 8 = .ok (.getfield 33, 3) := by decide +kernel
theorem dX11_state_11 : decode cX11_state 11 = .ok (.iload_n 1, 1) := by decide +kernel
theorem dX11_state_12 : decode cX11_state 12 = .ok (.invokevirtual 102, 3) := by decide +kernel
theorem dX11_state_15 : decode cX11_state 15 = .ok (.goto 4, 3) := by decide +kernel
theorem dX11_state_18 : decode cX11_state 18 = .ok (.iconst (-1), 1) := by decide +kernel
theorem dX11_state_19 : decode cX11_state 19 = .ok (.ireturn, 1) := by decide +kernel
theorem dX11_register_0 : decode cX11_register 0 = .ok (.aload_n 0, 1) := by decide +kernel
theorem dX11_register_1 : decode cX11_register 1 = .ok (.getfield 56, 3) := by decide +kernel
theorem dX11_register_4 : decode cX11_register 4 = .ok (.ifCond .eq 13, 3) := by decide +kernel
theorem dX11_register_7 : decode cX11_register 7 = .ok (.iload_n 1, 1) := by decide +kernel
theorem dX11_register_8 : decode cX11_register 8 = .ok (.ifCond .lt 9, 3) := by decide +kernel
theorem dX11_register_11 : decode cX11_register 11 = .ok (.iload_n 1, 1) := by decide +kernel
theorem dX11_register_12 : decode cX11_register 12 = .ok (.bipush 8, 2) := by decide +kernel
theorem dX11_register_14 : decode cX11_register 14 = .ok (.if_icmp .lt 5, 3) := by decide +kernel
theorem dX11_register_17 : decode cX11_register 17 = .ok (.iconst (-1), 1) := by decide +kernel
theorem dX11_register_18 : decode cX11_register 18 = .ok (.ireturn, 1) := by decide +kernel
theorem dX11_register_19 : decode cX11_register 19 = .ok (.aload_n 0, 1) := by decide +kernel
theorem dX11_register_20 : decode cX11_register 20 = .ok (.getfield 33, 3) := by decide +kernel
theorem dX11_register_23 : decode cX11_register 23 = .ok (.getfield 105, 3) := by decide +kernel
theorem dX11_register_26 : decode cX11_register 26 = .ok (.iload_n 1, 1) := by decide +kernel
theorem dX11_register_27 : decode cX11_register 27 = .ok (.aaload, 1) := by decide +kernel
theorem dX11_register_28 : decode cX11_register 28 = .ok (.iload_n 2, 1) := by decide +kernel
theorem dX11_register_29 : decode cX11_register 29 = .ok (.invokevirtual 109, 3) := by decide +kernel
theorem dX11_register_32 : decode cX11_register 32 = .ok (.ireturn, 1) := by decide +kernel
theorem dX11_memory_0 : decode cX11_memory 0 = .ok (.aload_n 0, 1) := by decide +kernel
theorem dX11_memory_1 : decode cX11_memory 1 = .ok (.getfield 56, 3) := by decide +kernel
theorem dX11_memory_4 : decode cX11_memory 4 = .ok (.ifCond .eq 18, 3) := by decide +kernel
theorem dX11_memory_7 : decode cX11_memory 7 = .ok (.aload_n 0, 1) := by decide +kernel
theorem dX11_memory_8 : decode cX11_memory 8 = .ok (.getfield 33, 3) := by decide +kernel
theorem dX11_memory_11 : decode cX11_memory 11 = .ok (.getfield 112, 3) := by decide +kernel
theorem dX11_memory_14 : decode cX11_memory 14 = .ok (.iload_n 1, 1) := by decide +kernel
theorem dX11_memory_15 : decode cX11_memory 15 = .ok (.iload_n 2, 1) := by decide +kernel
theorem dX11_memory_16 : decode cX11_memory 16 = .ok (.invokevirtual 116, 3) := by decide +kernel
theorem dX11_memory_19 : decode cX11_memory 19 = .ok (.goto 4, 3) := by decide +kernel
theorem dX11_memory_22 : decode cX11_memory 22 = .ok (.iconst (-1), 1) := by decide +kernel
theorem dX11_memory_23 : decode cX11_memory 23 = .ok (.ireturn, 1) := by decide +kernel
theorem dX11_report_0 : decode cX11_report 0 = .ok (.aload_n 0, 1) := by decide +kernel
theorem dX11_report_1 : decode cX11_report 1 = .ok (.getfield 56, 3) := by decide +kernel
theorem dX11_report_4 : decode cX11_report 4 = .ok (.ifCond .eq 18, 3) := by decide +kernel
theorem dX11_report_7 : decode cX11_report 7 = .ok (.aload_n 0, 1) := by decide +kernel
theorem dX11_report_8 : decode cX11_report 8 = .ok (.getfield 33, 3) := by decide +kernel
theorem dX11_report_11 : decode cX11_report 11 = .ok (.getfield 60, 3) := by decide +kernel
theorem dX11_report_14 : decode cX11_report 14 = .ok (.iload_n 1, 1) := by decide +kernel
theorem dX11_report_15 : decode cX11_report 15 = .ok (.iload_n 2, 1) := by decide +kernel
theorem dX11_report_16 : decode cX11_report 16 = .ok (.invokevirtual 120, 3) := by decide +kernel
theorem dX11_report_19 : decode cX11_report 19 = .ok (.goto 4, 3) := by decide +kernel
theorem dX11_report_22 : decode cX11_report 22 = .ok (.iconst (-1), 1) := by decide +kernel
theorem dX11_report_23 : decode cX11_report 23 = .ok (.ireturn, 1) := by decide +kernel
theorem dX11_output_0 : decode cX11_output 0 = .ok (.aload_n 0, 1) := by decide +kernel
theorem dX11_output_1 : decode cX11_output 1 = .ok (.getfield 56, 3) := by decide +kernel
theorem dX11_output_4 : decode cX11_output 4 = .ok (.ifCond .eq 14, 3) := by decide +kernel
theorem dX11_output_7 : decode cX11_output 7 = .ok (.aload_n 0, 1) := by decide +kernel
theorem dX11_output_8 : decode cX11_output 8 = .ok (.getfield 33, 3) := by decide +kernel
theorem dX11_output_11 : decode cX11_output 11 = .ok (.iload_n 1, 1) := by decide +kernel
theorem dX11_output_12 : decode cX11_output 12 = .ok (.invokevirtual 121, 3) := by decide +kernel
theorem dX11_output_15 : decode cX11_output 15 = .ok (.goto 4, 3) := by decide +kernel
theorem dX11_output_18 : decode cX11_output 18 = .ok (.iconst (-1), 1) := by decide +kernel
theorem dX11_output_19 : decode cX11_output 19 = .ok (.ireturn, 1) := by decide +kernel
theorem dX11_block_0 : decode cX11_block 0 = .ok (.aload_n 0, 1) := by decide +kernel
theorem dX11_block_1 : decode cX11_block 1 = .ok (.getfield 56, 3) := by decide +kernel
theorem dX11_block_4 : decode cX11_block 4 = .ok (.ifCond .eq 15, 3) := by decide +kernel
theorem dX11_block_7 : decode cX11_block 7 = .ok (.aload_n 0, 1) := by decide +kernel
theorem dX11_block_8 : decode cX11_block 8 = .ok (.getfield 33, 3) := by decide +kernel
theorem dX11_block_11 : decode cX11_block 11 = .ok (.iload_n 1, 1) := by decide +kernel
theorem dX11_block_12 : decode cX11_block 12 = .ok (.iload_n 2, 1) := by decide +kernel
theorem dX11_block_13 : decode cX11_block 13 = .ok (.invokevirtual 124, 3) := by decide +kernel
theorem dX11_block_16 : decode cX11_block 16 = .ok (.goto 4, 3) := by decide +kernel
theorem dX11_block_19 : decode cX11_block 19 = .ok (.iconst (-1), 1) := by decide +kernel
theorem dX11_block_20 : decode cX11_block 20 = .ok (.ireturn, 1) := by decide +kernel
theorem dX11_twin_0 : decode cX11_twin 0 = .ok (.aload_n 0, 1) := by decide +kernel
theorem dX11_twin_1 : decode cX11_twin 1 = .ok (.getfield 56, 3) := by decide +kernel
theorem dX11_twin_4 : decode cX11_twin 4 = .ok (.ifCond .ne 5, 3) := by decide +kernel
theorem dX11_twin_7 : decode cX11_twin 7 = .ok (.iconst (-1), 1) := by decide +kernel
theorem dX11_twin_8 : decode cX11_twin 8 = .ok (.ireturn, 1) := by decide +kernel
theorem dX11_twin_9 : decode cX11_twin 9 = .ok (.aload_n 0, 1) := by decide +kernel
theorem dX11_twin_10 : decode cX11_twin 10 = .ok (.getfield 37, 3) := by decide +kernel
theorem dX11_twin_13 : decode cX11_twin 13 = .ok (.aload_n 0, 1) := by decide +kernel
theorem dX11_twin_14 : decode cX11_twin 14 = .ok (.getfield 23, 3) := by decide +kernel
theorem dX11_twin_17 : decode cX11_twin 17 = .ok (.iload_n 1, 1) := by decide +kernel
theorem dX11_twin_18 : decode cX11_twin 18 = .ok (.aload_n 0, 1) := by decide +kernel
theorem dX11_twin_19 : decode cX11_twin 19 = .ok (.getfield 33, 3) := by decide +kernel
theorem dX11_twin_22 : decode cX11_twin 22 = .ok (.getfield 127, 3) := by decide +kernel
theorem dX11_twin_25 : decode cX11_twin 25 = .ok (.invokevirtual 69, 3) := by decide +kernel
theorem dX11_twin_28 : decode cX11_twin 28 = .ok (.aload_n 0, 1) := by decide +kernel
theorem dX11_twin_29 : decode cX11_twin 29 = .ok (.dup, 1) := by decide +kernel
theorem dX11_twin_30 : decode cX11_twin 30 = .ok (.getfield 41, 3) := by decide +kernel
theorem dX11_twin_33 : decode cX11_twin 33 = .ok (.aload_n 0, 1) := by decide +kernel
theorem dX11_twin_34 : decode cX11_twin 34 = .ok (.getfield 37, 3) := by decide +kernel
theorem dX11_twin_37 : decode cX11_twin 37 = .ok (.aload_n 0, 1) := by decide +kernel
theorem dX11_twin_38 : decode cX11_twin 38 = .ok (.getfield 33, 3) := by decide +kernel
theorem dX11_twin_41 : decode cX11_twin 41 = .ok (.getfield 130, 3) := by decide +kernel
theorem dX11_twin_44 : decode cX11_twin 44 = .ok (.aload_n 0, 1) := by decide +kernel
theorem dX11_twin_45 : decode cX11_twin 45 = .ok (.getfield 41, 3) := by decide +kernel
theorem dX11_twin_48 : decode cX11_twin 48 = .ok (.invokestatic 93, 3) := by decide +kernel
theorem dX11_twin_51 : decode cX11_twin 51 = .ok (.invokevirtual 99, 3) := by decide +kernel
theorem dX11_twin_54 : decode cX11_twin 54 = .ok (.isub, 1) := by decide +kernel
theorem dX11_twin_55 : decode cX11_twin 55 = .ok (.putfield 41, 3) := by decide +kernel
theorem dX11_twin_58 : decode cX11_twin 58 = .ok (.aload_n 0, 1) := by decide +kernel
theorem dX11_twin_59 : decode cX11_twin 59 = .ok (.getfield 37, 3) := by decide +kernel
theorem dX11_twin_62 : decode cX11_twin 62 = .ok (.getfield 133, 3) := by decide +kernel
theorem dX11_twin_65 : decode cX11_twin 65 = .ok (.ireturn, 1) := by decide +kernel
theorem dX12_init_0 : decode cX12_init 0 = .ok (.aload_n 0, 1) := by decide +kernel
theorem dX12_init_1 : decode cX12_init 1 = .ok (.invokespecial 1, 3) := by decide +kernel
theorem dX12_init_4 : decode cX12_init 4 = .ok (.aload_n 0, 1) := by decide +kernel
theorem dX12_init_5 : decode cX12_init 5 = .ok (.sipush 4000, 3) := by decide +kernel
theorem dX12_init_8 : decode cX12_init 8 = .ok (.newarray .byte, 2) := by decide +kernel
theorem dX12_init_10 : decode cX12_init 10 = .ok (.putfield 7, 3) := by decide +kernel
theorem dX12_init_13 : decode cX12_init 13 = .ok (.aload_n 0, 1) := by decide +kernel
theorem dX12_init_14 : decode cX12_init 14 = .ok (.sipush 3000, 3) := by decide +kernel
theorem dX12_init_17 : decode cX12_init 17 = .ok (.newarray .byte, 2) := by decide +kernel
theorem dX12_init_19 : decode cX12_init 19 = .ok (.putfield 13, 3) := by decide +kernel
theorem dX12_init_22 : decode cX12_init 22 = .ok (.aload_n 0, 1) := by decide +kernel
theorem dX12_init_23 : decode cX12_init 23 = .ok (.sipush 400, 3) := by decide +kernel
theorem dX12_init_26 : decode cX12_init 26 = .ok (.newarray .int, 2) := by decide +kernel
theorem dX12_init_28 : decode cX12_init 28 = .ok (.putfield 16, 3) := by decide +kernel
theorem dX12_init_31 : decode cX12_init 31 = .ok (.aload_n 0, 1) := by decide +kernel
theorem dX12_init_32 : decode cX12_init 32 = .ok (.sipush 1200, 3) := by decide +kernel
theorem dX12_init_35 : decode cX12_init 35 = .ok (.newarray .boolean, 2) := by decide +kernel
theorem dX12_init_37 : decode cX12_init 37 = .ok (.putfield 20, 3) := by decide +kernel
theorem dX12_init_40 : decode cX12_init 40 = .ok (.aload_n 0, 1) := by decide +kernel
theorem dX12_init_41 : decode cX12_init 41 = .ok (.sipush 1200, 3) := by decide +kernel
theorem dX12_init_44 : decode cX12_init 44 = .ok (.newarray .int, 2) := by decide +kernel
theorem dX12_init_46 : decode cX12_init 46 = .ok (.putfield 24, 3) := by decide +kernel
theorem dX12_init_49 : decode cX12_init 49 = .ok (.aload_n 0, 1) := by decide +kernel
theorem dX12_init_50 : decode cX12_init 50 = .ok (.sipush 201, 3) := by decide +kernel
theorem dX12_init_53 : decode cX12_init 53 = .ok (.newarray .int, 2) := by decide +kernel
theorem dX12_init_55 : decode cX12_init 55 = .ok (.putfield 27, 3) := by decide +kernel
theorem dX12_init_58 : decode cX12_init 58 = .ok (.aload_n 0, 1) := by decide +kernel
theorem dX12_init_59 : decode cX12_init 59 = .ok (.sipush 201, 3) := by decide +kernel
theorem dX12_init_62 : decode cX12_init 62 = .ok (.newarray .int, 2) := by decide +kernel
theorem dX12_init_64 : decode cX12_init 64 = .ok (.putfield 30, 3) := by decide +kernel
theorem dX12_init_67 : decode cX12_init 67 = .ok (.aload_n 0, 1) := by decide +kernel
theorem dX12_init_68 : decode cX12_init 68 = .ok (.sipush 201, 3) := by decide +kernel
theorem dX12_init_71 : decode cX12_init 71 = .ok (.newarray .int, 2) := by decide +kernel
theorem dX12_init_73 : decode cX12_init 73 = .ok (.putfield 33, 3) := by decide +kernel
theorem dX12_init_76 : decode cX12_init 76 = .ok (.aload_n 0, 1) := by decide +kernel
theorem dX12_init_77 : decode cX12_init 77 = .ok (.sipush 201, 3) := by decide +kernel
theorem dX12_init_80 : decode cX12_init 80 = .ok (.newarray .int, 2) := by decide +kernel
theorem dX12_init_82 : decode cX12_init 82 = .ok (.putfield 36, 3) := by decide +kernel
theorem dX12_init_85 : decode cX12_init 85 = .ok (.aload_n 0, 1) := by decide +kernel
theorem dX12_init_86 : decode cX12_init 86 = .ok (.sipush 201, 3) := by decide +kernel
theorem dX12_init_89 : decode cX12_init 89 = .ok (.newarray .int, 2) := by decide +kernel
theorem dX12_init_91 : decode cX12_init 91 = .ok (.putfield 39, 3) := by decide +kernel
theorem dX12_init_94 : decode cX12_init 94 = .ok (.aload_n 0, 1) := by decide +kernel
theorem dX12_init_95 : decode cX12_init 95 = .ok (.sipush 201, 3) := by decide +kernel
theorem dX12_init_98 : decode cX12_init 98 = .ok (.newarray .int, 2) := by decide +kernel
theorem dX12_init_100 : decode cX12_init 100 = .ok (.putfield 42, 3) := by decide +kernel
theorem dX12_init_103 : decode cX12_init 103 = .ok (.aload_n 0, 1) := by decide +kernel
theorem dX12_init_104 : decode cX12_init 104 = .ok (.sipush 201, 3) := by decide +kernel
theorem dX12_init_107 : decode cX12_init 107 = .ok (.newarray .int, 2) := by decide +kernel
theorem dX12_init_109 : decode cX12_init 109 = .ok (.putfield 45, 3) := by decide +kernel
theorem dX12_init_112 : decode cX12_init 112 = .ok (.aload_n 0, 1) := by decide +kernel
theorem dX12_init_113 : decode cX12_init 113 = .ok (.iconst (-1), 1) := by decide +kernel
theorem dX12_init_114 : decode cX12_init 114 = .ok (.putfield 48, 3) := by decide +kernel
theorem dX12_init_117 : decode cX12_init 117 = .ok (.aload_n 0, 1) := by decide +kernel
theorem dX12_init_118 : decode cX12_init 118 = .ok (.iconst (-1), 1) := by decide +kernel
theorem dX12_init_119 : decode cX12_init 119 = .ok (.putfield 52, 3) := by decide +kernel
theorem dX12_init_122 : decode cX12_init 122 = .ok (.aload_n 0, 1) := by decide +kernel
theorem dX12_init_123 : decode cX12_init 123 = .ok (.bipush 16, 2) := by decide +kernel
theorem dX12_init_125 : decode cX12_init 125 = .ok (.newarray .int, 2) := by decide +kernel
theorem dX12_init_127 : decode cX12_init 127 = .ok (.putfield 55, 3) := by decide +kernel
theorem dX12_init_130 : decode cX12_init 130 = .ok (.aload_n 0, 1) := by decide +kernel
theorem dX12_init_131 : decode cX12_init 131 = .ok (.bipush 16, 2) := by decide +kernel
theorem dX12_init_133 : decode cX12_init 133 = .ok (.newarray .int, 2) := by decide +kernel
theorem dX12_init_135 : decode cX12_init 135 = .ok (.putfield 58, 3) := by decide +kernel
theorem dX12_init_138 : decode cX12_init 138 = .ok (.aload_n 0, 1) := by decide +kernel
theorem dX12_init_139 : decode cX12_init 139 = .ok (.bipush 16, 2) := by decide +kernel
theorem dX12_init_141 : decode cX12_init 141 = .ok (.newarray .int, 2) := by decide +kernel
theorem dX12_init_143 : decode cX12_init 143 = .ok (.putfield 61, 3) := by decide +kernel
theorem dX12_init_146 : decode cX12_init 146 = .ok (.aload_n 0, 1) := by decide +kernel
theorem dX12_init_147 : decode cX12_init 147 = .ok (.sipush 8192, 3) := by decide +kernel
theorem dX12_init_150 : decode cX12_init 150 = .ok (.newarray .int, 2) := by decide +kernel
theorem dX12_init_152 : decode cX12_init 152 = .ok (.putfield 64, 3) := by decide +kernel
theorem dX12_init_155 : decode cX12_init 155 = .ok (.aload_n 0, 1) := by decide +kernel
theorem dX12_init_156 : decode cX12_init 156 = .ok (.sipush 8192, 3) := by decide +kernel
theorem dX12_init_159 : decode cX12_init 159 = .ok (.newarray .int, 2) := by decide +kernel
theorem dX12_init_161 : decode cX12_init 161 = .ok (.putfield 67, 3) := by decide +kernel
theorem dX12_init_164 : decode cX12_init 164 = .ok (.aload_n 0, 1) := by decide +kernel
theorem dX12_init_165 : decode cX12_init 165 = .ok (.sipush 8192, 3) := by decide +kernel
theorem dX12_init_168 : decode cX12_init 168 = .ok (.newarray .int, 2) := by decide +kernel
theorem dX12_init_170 : decode cX12_init 170 = .ok (.putfield 70, 3) := by decide +kernel
theorem dX12_init_173 : decode cX12_init 173 = .ok (.aload_n 0, 1) := by decide +kernel
theorem dX12_init_174 : decode cX12_init 174 = .ok (.sipush 8192, 3) := by decide +kernel
theorem dX12_init_177 : decode cX12_init 177 = .ok (.newarray .boolean, 2) := by decide +kernel
theorem dX12_init_179 : decode cX12_init 179 = .ok (.putfield 73, 3) := by decide +kernel
theorem dX12_init_182 : decode cX12_init 182 = .ok (.aload_n 0, 1) := by decide +kernel
theorem dX12_init_183 : decode cX12_init 183 = .ok (.iconst 2, 1) := by decide +kernel
theorem dX12_init_184 : decode cX12_init 184 = .ok (.newarray .int, 2) := by decide +kernel
theorem dX12_init_186 : decode cX12_init 186 = .ok (.putfield 76, 3) := by decide +kernel
theorem dX12_init_189 : decode cX12_init 189 = .ok (.aload_n 0, 1) := by decide +kernel
theorem dX12_init_190 : decode cX12_init 190 = .ok (.iconst 2, 1) := by decide +kernel
theorem dX12_init_191 : decode cX12_init 191 = .ok (.newarray .int, 2) := by decide +kernel
theorem dX12_init_193 : decode cX12_init 193 = .ok (.putfield 79, 3) := by decide +kernel
theorem dX12_init_196 : decode cX12_init 196 = .ok (.aload_n 0, 1) := by decide +kernel
theorem dX12_init_197 : decode cX12_init 197 = .ok (.iconst 2, 1) := by decide +kernel
theorem dX12_init_198 : decode cX12_init 198 = .ok (.newarray .int, 2) := by decide +kernel
theorem dX12_init_200 : decode cX12_init 200 = .ok (.putfield 82, 3) := by decide +kernel
theorem dX12_init_203 : decode cX12_init 203 = .ok (.aload_n 0, 1) := by decide +kernel
theorem dX12_init_204 : decode cX12_init 204 = .ok (.iconst 2, 1) := by decide +kernel
theorem dX12_init_205 : decode cX12_init 205 = .ok (.newarray .int, 2) := by decide +kernel
theorem dX12_init_207 : decode cX12_init 207 = .ok (.putfield 85, 3) := by decide +kernel
theorem dX12_init_210 : decode cX12_init 210 = .ok (.aload_n 0, 1) := by decide +kernel
theorem dX12_init_211 : decode cX12_init 211 = .ok (.iconst 2, 1) := by decide +kernel
theorem dX12_init_212 : decode cX12_init 212 = .ok (.newarray .int, 2) := by decide +kernel
theorem dX12_init_214 : decode cX12_init 214 = .ok (.putfield 88, 3) := by decide +kernel
theorem dX12_init_217 : decode cX12_init 217 = .ok (.aload_n 0, 1) := by decide +kernel
theorem dX12_init_218 : decode cX12_init 218 = .ok (.bipush 64, 2) := by decide +kernel
theorem dX12_init_220 : decode cX12_init 220 = .ok (.newarray .int, 2) := by decide +kernel
theorem dX12_init_222 : decode cX12_init 222 = .ok (.putfield 91, 3) := by decide +kernel
theorem dX12_init_225 : decode cX12_init 225 = .ok (.aload_n 0, 1) := by decide +kernel
theorem dX12_init_226 : decode cX12_init 226 = .ok (.iconst 2, 1) := by decide +kernel
theorem dX12_init_227 : decode cX12_init 227 = .ok (.newarray .int, 2) := by decide +kernel
theorem dX12_init_229 : decode cX12_init 229 = .ok (.putfield 94, 3) := by decide +kernel
theorem dX12_init_232 : decode cX12_init 232 = .ok (.aload_n 0, 1) := by decide +kernel
theorem dX12_init_233 : decode cX12_init 233 = .ok (.iconst 2, 1) := by decide +kernel
theorem dX12_init_234 : decode cX12_init 234 = .ok (.newarray .int, 2) := by decide +kernel
theorem dX12_init_236 : decode cX12_init 236 = .ok (.putfield 97, 3) := by decide +kernel
theorem dX12_init_239 : decode cX12_init 239 = .ok (.aload_n 0, 1) := by decide +kernel
theorem dX12_init_240 : decode cX12_init 240 = .ok (.sipush 202, 3) := by decide +kernel
theorem dX12_init_243 : decode cX12_init 243 = .ok (.newarray .int, 2) := by decide +kernel
theorem dX12_init_245 : decode cX12_init 245 = .ok (.putfield 100, 3) := by decide +kernel
theorem dX12_init_248 : decode cX12_init 248 = .ok (.aload_n 0, 1) := by decide +kernel
theorem dX12_init_249 : decode cX12_init 249 = .ok (.sipush 202, 3) := by decide +kernel
theorem dX12_init_252 : decode cX12_init 252 = .ok (.newarray .int, 2) := by decide +kernel
theorem dX12_init_254 : decode cX12_init 254 = .ok (.putfield 103, 3) := by decide +kernel
theorem dX12_init_257 : decode cX12_init 257 = .ok (.aload_n 0, 1) := by decide +kernel
theorem dX12_init_258 : decode cX12_init 258 = .ok (.sipush 202, 3) := by decide +kernel
theorem dX12_init_261 : decode cX12_init 261 = .ok (.newarray .int, 2) := by decide +kernel
theorem dX12_init_263 : decode cX12_init 263 = .ok (.putfield 106, 3) := by decide +kernel
theorem dX12_init_266 : decode cX12_init 266 = .ok (.aload_n 0, 1) := by decide +kernel
theorem dX12_init_267 : decode cX12_init 267 = .ok (.sipush 202, 3) := by decide +kernel
theorem dX12_init_270 : decode cX12_init 270 = .ok (.newarray .int, 2) := by decide +kernel
theorem dX12_init_272 : decode cX12_init 272 = .ok (.putfield 109, 3) := by decide +kernel
theorem dX12_init_275 : decode cX12_init 275 = .ok (.aload_n 0, 1) := by decide +kernel
theorem dX12_init_276 : decode cX12_init 276 = .ok (.sipush 202, 3) := by decide +kernel
theorem dX12_init_279 : decode cX12_init 279 = .ok (.newarray .int, 2) := by decide +kernel
theorem dX12_init_281 : decode cX12_init 281 = .ok (.putfield 112, 3) := by decide +kernel
theorem dX12_init_284 : decode cX12_init 284 = .ok (.aload_n 0, 1) := by decide +kernel
theorem dX12_init_285 : decode cX12_init 285 = .ok (.sipush 202, 3) := by decide +kernel
theorem dX12_init_288 : decode cX12_init 288 = .ok (.newarray .int, 2) := by decide +kernel
theorem dX12_init_290 : decode cX12_init 290 = .ok (.putfield 115, 3) := by decide +kernel
theorem dX12_init_293 : decode cX12_init 293 = .ok (.aload_n 0, 1) := by decide +kernel
theorem dX12_init_294 : decode cX12_init 294 = .ok (.iconst 2, 1) := by decide +kernel
theorem dX12_init_295 : decode cX12_init 295 = .ok (.newarray .int, 2) := by decide +kernel
theorem dX12_init_297 : decode cX12_init 297 = .ok (.putfield 118, 3) := by decide +kernel
theorem dX12_init_300 : decode cX12_init 300 = .ok (.aload_n 0, 1) := by decide +kernel
theorem dX12_init_301 : decode cX12_init 301 = .ok (.iconst 2, 1) := by decide +kernel
theorem dX12_init_302 : decode cX12_init 302 = .ok (.newarray .int, 2) := by decide +kernel
theorem dX12_init_304 : decode cX12_init 304 = .ok (.putfield 121, 3) := by decide +kernel
theorem dX12_init_307 : decode cX12_init 307 = .ok (.aload_n 0, 1) := by decide +kernel
theorem dX12_init_308 : decode cX12_init 308 = .ok (.bipush 100, 2) := by decide +kernel
theorem dX12_init_310 : decode cX12_init 310 = .ok (.newarray .int, 2) := by decide +kernel
theorem dX12_init_312 : decode cX12_init 312 = .ok (.putfield 124, 3) := by decide +kernel
theorem dX12_init_315 : decode cX12_init 315 = .ok (.aload_n 0, 1) := by decide +kernel
theorem dX12_init_316 : decode cX12_init 316 = .ok (.bipush 100, 2) := by decide +kernel
theorem dX12_init_318 : decode cX12_init 318 = .ok (.newarray .int, 2) := by decide +kernel
theorem dX12_init_320 : decode cX12_init 320 = .ok (.putfield 127, 3) := by decide +kernel
theorem dX12_init_323 : decode cX12_init 323 = .ok (.aload_n 0, 1) := by decide +kernel
theorem dX12_init_324 : decode cX12_init 324 = .ok (.bipush 60, 2) := by decide +kernel
theorem dX12_init_326 : decode cX12_init 326 = .ok (.newarray .int, 2) := by decide +kernel
theorem dX12_init_328 : decode cX12_init 328 = .ok (.putfield 130, 3) := by decide +kernel
theorem dX12_init_331 : decode cX12_init 331 = .ok (.aload_n 0, 1) := by decide +kernel
theorem dX12_init_332 : decode cX12_init 332 = .ok (.bipush 60, 2) := by decide +kernel
theorem dX12_init_334 : decode cX12_init 334 = .ok (.newarray .int, 2) := by decide +kernel
theorem dX12_init_336 : decode cX12_init 336 = .ok (.putfield 133, 3) := by decide +kernel
theorem dX12_init_339 : decode cX12_init 339 = .ok (.aload_n 0, 1) := by decide +kernel
theorem dX12_init_340 : decode cX12_init 340 = .ok (.bipush 60, 2) := by decide +kernel
theorem dX12_init_342 : decode cX12_init 342 = .ok (.newarray .int, 2) := by decide +kernel
theorem dX12_init_344 : decode cX12_init 344 = .ok (.putfield 136, 3) := by decide +kernel
theorem dX12_init_347 : decode cX12_init 347 = .ok (.aload_n 0, 1) := by decide +kernel
theorem dX12_init_348 : decode cX12_init 348 = .ok (.bipush 60, 2) := by decide +kernel
theorem dX12_init_350 : decode cX12_init 350 = .ok (.newarray .int, 2) := by decide +kernel
theorem dX12_init_352 : decode cX12_init 352 = .ok (.putfield 139, 3) := by decide +kernel
theorem dX12_init_355 : decode cX12_init 355 = .ok (.aload_n 0, 1) := by decide +kernel
theorem dX12_init_356 : decode cX12_init 356 = .ok (.bipush 20, 2) := by decide +kernel
theorem dX12_init_358 : decode cX12_init 358 = .ok (.newarray .int, 2) := by decide +kernel
theorem dX12_init_360 : decode cX12_init 360 = .ok (.putfield 142, 3) := by decide +kernel
theorem dX12_init_363 : decode cX12_init 363 = .ok (.aload_n 0, 1) := by decide +kernel
theorem dX12_init_364 : decode cX12_init 364 = .ok (.bipush 20, 2) := by decide +kernel
theorem dX12_init_366 : decode cX12_init 366 = .ok (.newarray .int, 2) := by decide +kernel
theorem dX12_init_368 : decode cX12_init 368 = .ok (.putfield 145, 3) := by decide +kernel
theorem dX12_init_371 : decode cX12_init 371 = .ok (.aload_n 0, 1) := by decide +kernel
theorem dX12_init_372 : decode cX12_init 372 = .ok (.bipush 20, 2) := by decide +kernel
theorem dX12_init_374 : decode cX12_init 374 = .ok (.newarray .int, 2) := by decide +kernel
theorem dX12_init_376 : decode cX12_init 376 = .ok (.putfield 148, 3) := by decide +kernel
theorem dX12_init_379 : decode cX12_init 379 = .ok (.aload_n 0, 1) := by decide +kernel
theorem dX12_init_380 : decode cX12_init 380 = .ok (.sipush 256, 3) := by decide +kernel
theorem dX12_init_383 : decode cX12_init 383 = .ok (.newarray .int, 2) := by decide +kernel
theorem dX12_init_385 : decode cX12_init 385 = .ok (.putfield 151, 3) := by decide +kernel
theorem dX12_init_388 : decode cX12_init 388 = .ok (.aload_n 0, 1) := by decide +kernel
theorem dX12_init_389 : decode cX12_init 389 = .ok (.sipush 256, 3) := by decide +kernel
theorem dX12_init_392 : decode cX12_init 392 = .ok (.newarray .int, 2) := by decide +kernel
theorem dX12_init_394 : decode cX12_init 394 = .ok (.putfield 154, 3) := by decide +kernel
theorem dX12_init_397 : decode cX12_init 397 = .ok (.aload_n 0, 1) := by decide +kernel
theorem dX12_init_398 : decode cX12_init 398 = .ok (.sipush 256, 3) := by decide +kernel
theorem dX12_init_401 : decode cX12_init 401 = .ok (.newarray .int, 2) := by decide +kernel
theorem dX12_init_403 : decode cX12_init 403 = .ok (.putfield 157, 3) := by decide +kernel
theorem dX12_init_406 : decode cX12_init 406 = .ok (.aload_n 0, 1) := by decide +kernel
theorem dX12_init_407 : decode cX12_init 407 = .ok (.bipush 101, 2) := by decide +kernel
theorem dX12_init_409 : decode cX12_init 409 = .ok (.newarray .int, 2) := by decide +kernel
theorem dX12_init_411 : decode cX12_init 411 = .ok (.putfield 160, 3) := by decide +kernel
theorem dX12_init_414 : decode cX12_init 414 = .ok (.return_, 1) := by decide +kernel
theorem dX12_name_0 : decode cX12_name 0 = .ok (.iload_n 0, 1) := by decide +kernel
theorem dX12_name_1 : decode cX12_name 1 = .ok (.tableswitch 223 0 25 #[119, 123, 127, 131, 135, 139, 143, 147, 151, 155, 159, 163, 167, 171, 175, 179, 183, 187, 191, 195, 199, 203, 207, 211, 215, 219], 119) := by decide +kernel
theorem dX12_name_120 : decode cX12_name 120 = .ok (.ldc2_w 163, 3) := by decide +kernel
theorem dX12_name_123 : decode cX12_name 123 = .ok (.lreturn, 1) := by decide +kernel
theorem dX12_name_124 : decode cX12_name 124 = .ok (.ldc2_w 165, 3) := by decide +kernel
theorem dX12_name_127 : decode cX12_name 127 = .ok (.lreturn, 1) := by decide +kernel
theorem dX12_name_128 : decode cX12_name 128 = .ok (.ldc2_w 167, 3) := by decide +kernel
theorem dX12_name_131 : decode cX12_name 131 = .ok (.lreturn, 1) := by decide +kernel
theorem dX12_name_132 : decode cX12_name 132 = .ok (.ldc2_w 169, 3) := by decide +kernel
theorem dX12_name_135 : decode cX12_name 135 = .ok (.lreturn, 1) := by decide +kernel
theorem dX12_name_136 : decode cX12_name 136 = .ok (.ldc2_w 171, 3) := by decide +kernel
theorem dX12_name_139 : decode cX12_name 139 = .ok (.lreturn, 1) := by decide +kernel
theorem dX12_name_140 : decode cX12_name 140 = .ok (.ldc2_w 173, 3) := by decide +kernel
theorem dX12_name_143 : decode cX12_name 143 = .ok (.lreturn, 1) := by decide +kernel
theorem dX12_name_144 : decode cX12_name 144 = .ok (.ldc2_w 175, 3) := by decide +kernel
theorem dX12_name_147 : decode cX12_name 147 = .ok (.lreturn, 1) := by decide +kernel
theorem dX12_name_148 : decode cX12_name 148 = .ok (.ldc2_w 177, 3) := by decide +kernel
theorem dX12_name_151 : decode cX12_name 151 = .ok (.lreturn, 1) := by decide +kernel
theorem dX12_name_152 : decode cX12_name 152 = .ok (.ldc2_w 179, 3) := by decide +kernel
theorem dX12_name_155 : decode cX12_name 155 = .ok (.lreturn, 1) := by decide +kernel
theorem dX12_name_156 : decode cX12_name 156 = .ok (.ldc2_w 181, 3) := by decide +kernel
theorem dX12_name_159 : decode cX12_name 159 = .ok (.lreturn, 1) := by decide +kernel
theorem dX12_name_160 : decode cX12_name 160 = .ok (.ldc2_w 183, 3) := by decide +kernel
theorem dX12_name_163 : decode cX12_name 163 = .ok (.lreturn, 1) := by decide +kernel
theorem dX12_name_164 : decode cX12_name 164 = .ok (.ldc2_w 185, 3) := by decide +kernel
theorem dX12_name_167 : decode cX12_name 167 = .ok (.lreturn, 1) := by decide +kernel
theorem dX12_name_168 : decode cX12_name 168 = .ok (.ldc2_w 187, 3) := by decide +kernel
theorem dX12_name_171 : decode cX12_name 171 = .ok (.lreturn, 1) := by decide +kernel
theorem dX12_name_172 : decode cX12_name 172 = .ok (.ldc2_w 189, 3) := by decide +kernel
theorem dX12_name_175 : decode cX12_name 175 = .ok (.lreturn, 1) := by decide +kernel
theorem dX12_name_176 : decode cX12_name 176 = .ok (.ldc2_w 191, 3) := by decide +kernel
theorem dX12_name_179 : decode cX12_name 179 = .ok (.lreturn, 1) := by decide +kernel
theorem dX12_name_180 : decode cX12_name 180 = .ok (.ldc2_w 193, 3) := by decide +kernel
theorem dX12_name_183 : decode cX12_name 183 = .ok (.lreturn, 1) := by decide +kernel
theorem dX12_name_184 : decode cX12_name 184 = .ok (.ldc2_w 195, 3) := by decide +kernel
theorem dX12_name_187 : decode cX12_name 187 = .ok (.lreturn, 1) := by decide +kernel
theorem dX12_name_188 : decode cX12_name 188 = .ok (.ldc2_w 197, 3) := by decide +kernel
theorem dX12_name_191 : decode cX12_name 191 = .ok (.lreturn, 1) := by decide +kernel
theorem dX12_name_192 : decode cX12_name 192 = .ok (.ldc2_w 199, 3) := by decide +kernel
theorem dX12_name_195 : decode cX12_name 195 = .ok (.lreturn, 1) := by decide +kernel
theorem dX12_name_196 : decode cX12_name 196 = .ok (.ldc2_w 201, 3) := by decide +kernel
theorem dX12_name_199 : decode cX12_name 199 = .ok (.lreturn, 1) := by decide +kernel
theorem dX12_name_200 : decode cX12_name 200 = .ok (.ldc2_w 203, 3) := by decide +kernel
theorem dX12_name_203 : decode cX12_name 203 = .ok (.lreturn, 1) := by decide +kernel
theorem dX12_name_204 : decode cX12_name 204 = .ok (.ldc2_w 205, 3) := by decide +kernel
theorem dX12_name_207 : decode cX12_name 207 = .ok (.lreturn, 1) := by decide +kernel
theorem dX12_name_208 : decode cX12_name 208 = .ok (.ldc2_w 207, 3) := by decide +kernel
theorem dX12_name_211 : decode cX12_name 211 = .ok (.lreturn, 1) := by decide +kernel
theorem dX12_name_212 : decode cX12_name 212 = .ok (.ldc2_w 209, 3) := by decide +kernel
theorem dX12_name_215 : decode cX12_name 215 = .ok (.lreturn, 1) := by decide +kernel
theorem dX12_name_216 : decode cX12_name 216 = .ok (.ldc2_w 211, 3) := by decide +kernel
theorem dX12_name_219 : decode cX12_name 219 = .ok (.lreturn, 1) := by decide +kernel
theorem dX12_name_220 : decode cX12_name 220 = .ok (.ldc2_w 213, 3) := by decide +kernel
theorem dX12_name_223 : decode cX12_name 223 = .ok (.lreturn, 1) := by decide +kernel
theorem dX12_name_224 : decode cX12_name 224 = .ok (.iload_n 0, 1) := by decide +kernel
theorem dX12_name_225 : decode cX12_name 225 = .ok (.invokestatic 215, 3) := by decide +kernel
theorem dX12_name_228 : decode cX12_name 228 = .ok (.lreturn, 1) := by decide +kernel
theorem dX12_lateName_0 : decode cX12_lateName 0 = .ok (.iload_n 0, 1) := by decide +kernel
theorem dX12_lateName_1 : decode cX12_lateName 1 = .ok (.tableswitch 207 26 49 #[111, 115, 119, 123, 127, 131, 135, 139, 143, 147, 151, 155, 159, 163, 167, 171, 175, 179, 183, 187, 191, 195, 199, 203], 111) := by decide +kernel
theorem dX12_lateName_112 : decode cX12_lateName 112 = .ok (.ldc2_w 219, 3) := by decide +kernel
theorem dX12_lateName_115 : decode cX12_lateName 115 = .ok (.lreturn, 1) := by decide +kernel
theorem dX12_lateName_116 : decode cX12_lateName 116 = .ok (.ldc2_w 221, 3) := by decide +kernel
theorem dX12_lateName_119 : decode cX12_lateName 119 = .ok (.lreturn, 1) := by decide +kernel
theorem dX12_lateName_120 : decode cX12_lateName 120 = .ok (.ldc2_w 223, 3) := by decide +kernel
theorem dX12_lateName_123 : decode cX12_lateName 123 = .ok (.lreturn, 1) := by decide +kernel
theorem dX12_lateName_124 : decode cX12_lateName 124 = .ok (.ldc2_w 225, 3) := by decide +kernel
theorem dX12_lateName_127 : decode cX12_lateName 127 = .ok (.lreturn, 1) := by decide +kernel
theorem dX12_lateName_128 : decode cX12_lateName 128 = .ok (.ldc2_w 227, 3) := by decide +kernel
theorem dX12_lateName_131 : decode cX12_lateName 131 = .ok (.lreturn, 1) := by decide +kernel
theorem dX12_lateName_132 : decode cX12_lateName 132 = .ok (.ldc2_w 229, 3) := by decide +kernel
theorem dX12_lateName_135 : decode cX12_lateName 135 = .ok (.lreturn, 1) := by decide +kernel
theorem dX12_lateName_136 : decode cX12_lateName 136 = .ok (.ldc2_w 231, 3) := by decide +kernel
theorem dX12_lateName_139 : decode cX12_lateName 139 = .ok (.lreturn, 1) := by decide +kernel
theorem dX12_lateName_140 : decode cX12_lateName 140 = .ok (.ldc2_w 233, 3) := by decide +kernel
theorem dX12_lateName_143 : decode cX12_lateName 143 = .ok (.lreturn, 1) := by decide +kernel
theorem dX12_lateName_144 : decode cX12_lateName 144 = .ok (.ldc2_w 235, 3) := by decide +kernel
theorem dX12_lateName_147 : decode cX12_lateName 147 = .ok (.lreturn, 1) := by decide +kernel
theorem dX12_lateName_148 : decode cX12_lateName 148 = .ok (.ldc2_w 237, 3) := by decide +kernel
theorem dX12_lateName_151 : decode cX12_lateName 151 = .ok (.lreturn, 1) := by decide +kernel
theorem dX12_lateName_152 : decode cX12_lateName 152 = .ok (.ldc2_w 239, 3) := by decide +kernel
theorem dX12_lateName_155 : decode cX12_lateName 155 = .ok (.lreturn, 1) := by decide +kernel
theorem dX12_lateName_156 : decode cX12_lateName 156 = .ok (.ldc2_w 241, 3) := by decide +kernel
theorem dX12_lateName_159 : decode cX12_lateName 159 = .ok (.lreturn, 1) := by decide +kernel
theorem dX12_lateName_160 : decode cX12_lateName 160 = .ok (.ldc2_w 243, 3) := by decide +kernel
theorem dX12_lateName_163 : decode cX12_lateName 163 = .ok (.lreturn, 1) := by decide +kernel
theorem dX12_lateName_164 : decode cX12_lateName 164 = .ok (.ldc2_w 245, 3) := by decide +kernel
theorem dX12_lateName_167 : decode cX12_lateName 167 = .ok (.lreturn, 1) := by decide +kernel
theorem dX12_lateName_168 : decode cX12_lateName 168 = .ok (.ldc2_w 247, 3) := by decide +kernel
theorem dX12_lateName_171 : decode cX12_lateName 171 = .ok (.lreturn, 1) := by decide +kernel
theorem dX12_lateName_172 : decode cX12_lateName 172 = .ok (.ldc2_w 249, 3) := by decide +kernel
theorem dX12_lateName_175 : decode cX12_lateName 175 = .ok (.lreturn, 1) := by decide +kernel
theorem dX12_lateName_176 : decode cX12_lateName 176 = .ok (.ldc2_w 251, 3) := by decide +kernel
theorem dX12_lateName_179 : decode cX12_lateName 179 = .ok (.lreturn, 1) := by decide +kernel
theorem dX12_lateName_180 : decode cX12_lateName 180 = .ok (.ldc2_w 253, 3) := by decide +kernel
theorem dX12_lateName_183 : decode cX12_lateName 183 = .ok (.lreturn, 1) := by decide +kernel
theorem dX12_lateName_184 : decode cX12_lateName 184 = .ok (.ldc2_w 255, 3) := by decide +kernel
theorem dX12_lateName_187 : decode cX12_lateName 187 = .ok (.lreturn, 1) := by decide +kernel
theorem dX12_lateName_188 : decode cX12_lateName 188 = .ok (.ldc2_w 257, 3) := by decide +kernel
theorem dX12_lateName_191 : decode cX12_lateName 191 = .ok (.lreturn, 1) := by decide +kernel
theorem dX12_lateName_192 : decode cX12_lateName 192 = .ok (.ldc2_w 259, 3) := by decide +kernel
theorem dX12_lateName_195 : decode cX12_lateName 195 = .ok (.lreturn, 1) := by decide +kernel
theorem dX12_lateName_196 : decode cX12_lateName 196 = .ok (.ldc2_w 261, 3) := by decide +kernel
theorem dX12_lateName_199 : decode cX12_lateName 199 = .ok (.lreturn, 1) := by decide +kernel
theorem dX12_lateName_200 : decode cX12_lateName 200 = .ok (.ldc2_w 263, 3) := by decide +kernel
theorem dX12_lateName_203 : decode cX12_lateName 203 = .ok (.lreturn, 1) := by decide +kernel
theorem dX12_lateName_204 : decode cX12_lateName 204 = .ok (.ldc2_w 265, 3) := by decide +kernel
theorem dX12_lateName_207 : decode cX12_lateName 207 = .ok (.lreturn, 1) := by decide +kernel
theorem dX12_lateName_208 : decode cX12_lateName 208 = .ok (.ldc2_w 267, 3) := by decide +kernel
theorem dX12_lateName_211 : decode cX12_lateName 211 = .ok (.lreturn, 1) := by decide +kernel
theorem dX12_form_0 : decode cX12_form 0 = .ok (.iload_n 0, 1) := by decide +kernel
theorem dX12_form_1 : decode cX12_form 1 = .ok (.ifCond .ne 6, 3) := by decide +kernel
theorem dX12_form_4 : decode cX12_form 4 = .ok (.bipush 18, 2) := by decide +kernel
theorem dX12_form_6 : decode cX12_form 6 = .ok (.ireturn, 1) := by decide +kernel
theorem dX12_form_7 : decode cX12_form 7 = .ok (.iload_n 0, 1) := by decide +kernel
theorem dX12_form_8 : decode cX12_form 8 = .ok (.iconst 4, 1) := by decide +kernel
theorem dX12_form_9 : decode cX12_form 9 = .ok (.if_icmp .lt 15, 3) := by decide +kernel
theorem dX12_form_12 : decode cX12_form 12 = .ok (.iload_n 0, 1) := by decide +kernel
theorem dX12_form_13 : decode cX12_form 13 = .ok (.bipush 19, 2) := by decide +kernel
theorem dX12_form_15 : decode cX12_form 15 = .ok (.if_icmp .eq 9, 3) := by decide +kernel
theorem dX12_form_18 : decode cX12_form 18 = .ok (.iload_n 0, 1) := by decide +kernel
theorem dX12_form_19 : decode cX12_form 19 = .ok (.bipush 20, 2) := by decide +kernel
theorem dX12_form_21 : decode cX12_form 21 = .ok (.if_icmp .ne 6, 3) := by decide +kernel
theorem dX12_form_24 : decode cX12_form 24 = .ok (.bipush 17, 2) := by decide +kernel
theorem dX12_form_26 : decode cX12_form 26 = .ok (.ireturn, 1) := by decide +kernel
theorem dX12_form_27 : decode cX12_form 27 = .ok (.iload_n 0, 1) := by decide +kernel
theorem dX12_form_28 : decode cX12_form 28 = .ok (.bipush 19, 2) := by decide +kernel
theorem dX12_form_30 : decode cX12_form 30 = .ok (.if_icmp .ge 7, 3) := by decide +kernel
theorem dX12_form_33 : decode cX12_form 33 = .ok (.sipush 275, 3) := by decide +kernel
theorem dX12_form_36 : decode cX12_form 36 = .ok (.ireturn, 1) := by decide +kernel
theorem dX12_form_37 : decode cX12_form 37 = .ok (.iload_n 0, 1) := by decide +kernel
theorem dX12_form_38 : decode cX12_form 38 = .ok (.bipush 29, 2) := by decide +kernel
theorem dX12_form_40 : decode cX12_form 40 = .ok (.if_icmp .ge 7, 3) := by decide +kernel
theorem dX12_form_43 : decode cX12_form 43 = .ok (.sipush 274, 3) := by decide +kernel
theorem dX12_form_46 : decode cX12_form 46 = .ok (.ireturn, 1) := by decide +kernel
theorem dX12_form_47 : decode cX12_form 47 = .ok (.iload_n 0, 1) := by decide +kernel
theorem dX12_form_48 : decode cX12_form 48 = .ok (.bipush 35, 2) := by decide +kernel
theorem dX12_form_50 : decode cX12_form 50 = .ok (.if_icmp .ge 7, 3) := by decide +kernel
theorem dX12_form_53 : decode cX12_form 53 = .ok (.sipush 308, 3) := by decide +kernel
theorem dX12_form_56 : decode cX12_form 56 = .ok (.ireturn, 1) := by decide +kernel
theorem dX12_form_57 : decode cX12_form 57 = .ok (.iload_n 0, 1) := by decide +kernel
theorem dX12_form_58 : decode cX12_form 58 = .ok (.bipush 37, 2) := by decide +kernel
theorem dX12_form_60 : decode cX12_form 60 = .ok (.if_icmp .ge 5, 3) := by decide +kernel
theorem dX12_form_63 : decode cX12_form 63 = .ok (.iconst 4, 1) := by decide +kernel
theorem dX12_form_64 : decode cX12_form 64 = .ok (.ireturn, 1) := by decide +kernel
theorem dX12_form_65 : decode cX12_form 65 = .ok (.iload_n 0, 1) := by decide +kernel
theorem dX12_form_66 : decode cX12_form 66 = .ok (.bipush 39, 2) := by decide +kernel
theorem dX12_form_68 : decode cX12_form 68 = .ok (.if_icmp .ge 5, 3) := by decide +kernel
theorem dX12_form_71 : decode cX12_form 71 = .ok (.iconst 0, 1) := by decide +kernel
theorem dX12_form_72 : decode cX12_form 72 = .ok (.ireturn, 1) := by decide +kernel
theorem dX12_form_73 : decode cX12_form 73 = .ok (.iload_n 0, 1) := by decide +kernel
theorem dX12_form_74 : decode cX12_form 74 = .ok (.bipush 39, 2) := by decide +kernel
theorem dX12_form_76 : decode cX12_form 76 = .ok (.if_icmp .eq 27, 3) := by decide +kernel
theorem dX12_form_79 : decode cX12_form 79 = .ok (.iload_n 0, 1) := by decide +kernel
theorem dX12_form_80 : decode cX12_form 80 = .ok (.bipush 40, 2) := by decide +kernel
theorem dX12_form_82 : decode cX12_form 82 = .ok (.if_icmp .eq 21, 3) := by decide +kernel
theorem dX12_form_85 : decode cX12_form 85 = .ok (.iload_n 0, 1) := by decide +kernel
theorem dX12_form_86 : decode cX12_form 86 = .ok (.bipush 44, 2) := by decide +kernel
theorem dX12_form_88 : decode cX12_form 88 = .ok (.if_icmp .eq 15, 3) := by decide +kernel
theorem dX12_form_91 : decode cX12_form 91 = .ok (.iload_n 0, 1) := by decide +kernel
theorem dX12_form_92 : decode cX12_form 92 = .ok (.bipush 47, 2) := by decide +kernel
theorem dX12_form_94 : decode cX12_form 94 = .ok (.if_icmp .eq 9, 3) := by decide +kernel
theorem dX12_form_97 : decode cX12_form 97 = .ok (.iload_n 0, 1) := by decide +kernel
theorem dX12_form_98 : decode cX12_form 98 = .ok (.bipush 48, 2) := by decide +kernel
theorem dX12_form_100 : decode cX12_form 100 = .ok (.if_icmp .ne 5, 3) := by decide +kernel
theorem dX12_form_103 : decode cX12_form 103 = .ok (.iconst 1, 1) := by decide +kernel
theorem dX12_form_104 : decode cX12_form 104 = .ok (.ireturn, 1) := by decide +kernel
theorem dX12_form_105 : decode cX12_form 105 = .ok (.iload_n 0, 1) := by decide +kernel
theorem dX12_form_106 : decode cX12_form 106 = .ok (.bipush 41, 2) := by decide +kernel
theorem dX12_form_108 : decode cX12_form 108 = .ok (.if_icmp .eq 9, 3) := by decide +kernel
theorem dX12_form_111 : decode cX12_form 111 = .ok (.iload_n 0, 1) := by decide +kernel
theorem dX12_form_112 : decode cX12_form 112 = .ok (.bipush 42, 2) := by decide +kernel
theorem dX12_form_114 : decode cX12_form 114 = .ok (.if_icmp .ne 6, 3) := by decide +kernel
theorem dX12_form_117 : decode cX12_form 117 = .ok (.bipush 19, 2) := by decide +kernel
theorem dX12_form_119 : decode cX12_form 119 = .ok (.ireturn, 1) := by decide +kernel
theorem dX12_form_120 : decode cX12_form 120 = .ok (.iload_n 0, 1) := by decide +kernel
theorem dX12_form_121 : decode cX12_form 121 = .ok (.bipush 49, 2) := by decide +kernel
theorem dX12_form_123 : decode cX12_form 123 = .ok (.if_icmp .ne 9, 3) := by decide +kernel
theorem dX12_form_126 : decode cX12_form 126 = .ok (.sipush 306, 3) := by decide +kernel
theorem dX12_form_129 : decode cX12_form 129 = .ok (.goto 6, 3) := by decide +kernel
theorem dX12_form_132 : decode cX12_form 132 = .ok (.sipush 275, 3) := by decide +kernel
theorem dX12_form_135 : decode cX12_form 135 = .ok (.ireturn, 1) := by decide +kernel
theorem dX12_sign_0 : decode cX12_sign 0 = .ok (.iload_n 1, 1) := by decide +kernel
theorem dX12_sign_1 : decode cX12_sign 1 = .ok (.aload_n 0, 1) := by decide +kernel
theorem dX12_sign_2 : decode cX12_sign 2 = .ok (.getfield 269, 3) := by decide +kernel
theorem dX12_sign_5 : decode cX12_sign 5 = .ok (.if_icmp .ge 16, 3) := by decide +kernel
theorem dX12_sign_8 : decode cX12_sign 8 = .ok (.aload_n 0, 1) := by decide +kernel
theorem dX12_sign_9 : decode cX12_sign 9 = .ok (.getfield 13, 3) := by decide +kernel
theorem dX12_sign_12 : decode cX12_sign 12 = .ok (.iload_n 1, 1) := by decide +kernel
theorem dX12_sign_13 : decode cX12_sign 13 = .ok (.baload, 1) := by decide +kernel
theorem dX12_sign_14 : decode cX12_sign 14 = .ok (.sipush 255, 3) := by decide +kernel
theorem dX12_sign_17 : decode cX12_sign 17 = .ok (.iand, 1) := by decide +kernel
theorem dX12_sign_18 : decode cX12_sign 18 = .ok (.goto 5, 3) := by decide +kernel
theorem dX12_sign_21 : decode cX12_sign 21 = .ok (.bipush 10, 2) := by decide +kernel
theorem dX12_sign_23 : decode cX12_sign 23 = .ok (.ireturn, 1) := by decide +kernel
theorem dX12_fails_0 : decode cX12_fails 0 = .ok (.aload_n 0, 1) := by decide +kernel
theorem dX12_fails_1 : decode cX12_fails 1 = .ok (.getfield 272, 3) := by decide +kernel
theorem dX12_fails_4 : decode cX12_fails 4 = .ok (.ifCond .ne 21, 3) := by decide +kernel
theorem dX12_fails_7 : decode cX12_fails 7 = .ok (.aload_n 0, 1) := by decide +kernel
theorem dX12_fails_8 : decode cX12_fails 8 = .ok (.iload_n 1, 1) := by decide +kernel
theorem dX12_fails_9 : decode cX12_fails 9 = .ok (.putfield 272, 3) := by decide +kernel
theorem dX12_fails_12 : decode cX12_fails 12 = .ok (.aload_n 0, 1) := by decide +kernel
theorem dX12_fails_13 : decode cX12_fails 13 = .ok (.iload_n 2, 1) := by decide +kernel
theorem dX12_fails_14 : decode cX12_fails 14 = .ok (.putfield 48, 3) := by decide +kernel
theorem dX12_fails_17 : decode cX12_fails 17 = .ok (.aload_n 0, 1) := by decide +kernel
theorem dX12_fails_18 : decode cX12_fails 18 = .ok (.aload_n 0, 1) := by decide +kernel
theorem dX12_fails_19 : decode cX12_fails 19 = .ok (.getfield 275, 3) := by decide +kernel
theorem dX12_fails_22 : decode cX12_fails 22 = .ok (.putfield 52, 3) := by decide +kernel
theorem dX12_fails_25 : decode cX12_fails 25 = .ok (.iconst 0, 1) := by decide +kernel
theorem dX12_fails_26 : decode cX12_fails 26 = .ok (.ireturn, 1) := by decide +kernel
theorem dX12_isLetter_0 : decode cX12_isLetter 0 = .ok (.iload_n 0, 1) := by decide +kernel
theorem dX12_isLetter_1 : decode cX12_isLetter 1 = .ok (.bipush 97, 2) := by decide +kernel
theorem dX12_isLetter_3 : decode cX12_isLetter 3 = .ok (.if_icmp .lt 13, 3) := by decide +kernel
theorem dX12_isLetter_6 : decode cX12_isLetter 6 = .ok (.iload_n 0, 1) := by decide +kernel
theorem dX12_isLetter_7 : decode cX12_isLetter 7 = .ok (.bipush 122, 2) := by decide +kernel
theorem dX12_isLetter_9 : decode cX12_isLetter 9 = .ok (.if_icmp .gt 7, 3) := by decide +kernel
theorem dX12_isLetter_12 : decode cX12_isLetter 12 = .ok (.iconst 1, 1) := by decide +kernel
theorem dX12_isLetter_13 : decode cX12_isLetter 13 = .ok (.goto 4, 3) := by decide +kernel
theorem dX12_isLetter_16 : decode cX12_isLetter 16 = .ok (.iconst 0, 1) := by decide +kernel
theorem dX12_isLetter_17 : decode cX12_isLetter 17 = .ok (.ireturn, 1) := by decide +kernel
theorem dX12_isDigit_0 : decode cX12_isDigit 0 = .ok (.iload_n 0, 1) := by decide +kernel
theorem dX12_isDigit_1 : decode cX12_isDigit 1 = .ok (.bipush 48, 2) := by decide +kernel
theorem dX12_isDigit_3 : decode cX12_isDigit 3 = .ok (.if_icmp .lt 13, 3) := by decide +kernel
theorem dX12_isDigit_6 : decode cX12_isDigit 6 = .ok (.iload_n 0, 1) := by decide +kernel
theorem dX12_isDigit_7 : decode cX12_isDigit 7 = .ok (.bipush 57, 2) := by decide +kernel
theorem dX12_isDigit_9 : decode cX12_isDigit 9 = .ok (.if_icmp .gt 7, 3) := by decide +kernel
theorem dX12_isDigit_12 : decode cX12_isDigit 12 = .ok (.iconst 1, 1) := by decide +kernel
theorem dX12_isDigit_13 : decode cX12_isDigit 13 = .ok (.goto 4, 3) := by decide +kernel
theorem dX12_isDigit_16 : decode cX12_isDigit 16 = .ok (.iconst 0, 1) := by decide +kernel
theorem dX12_isDigit_17 : decode cX12_isDigit 17 = .ok (.ireturn, 1) := by decide +kernel
theorem dX12_isWordSign_0 : decode cX12_isWordSign 0 = .ok (.iload_n 0, 1) := by decide +kernel
theorem dX12_isWordSign_1 : decode cX12_isWordSign 1 = .ok (.invokestatic 278, 3) := by decide +kernel
theorem dX12_isWordSign_4 : decode cX12_isWordSign 4 = .ok (.ifCond .ne 10, 3) := by decide +kernel
theorem dX12_isWordSign_7 : decode cX12_isWordSign 7 = .ok (.iload_n 0, 1) := by decide +kernel
theorem dX12_isWordSign_8 : decode cX12_isWordSign 8 = .ok (.invokestatic 282, 3) := by decide +kernel
theorem dX12_isWordSign_11 : decode cX12_isWordSign 11 = .ok (.ifCond .eq 7, 3) := by decide +kernel
theorem dX12_isWordSign_14 : decode cX12_isWordSign 14 = .ok (.iconst 1, 1) := by decide +kernel
theorem dX12_isWordSign_15 : decode cX12_isWordSign 15 = .ok (.goto 4, 3) := by decide +kernel
theorem dX12_isWordSign_18 : decode cX12_isWordSign 18 = .ok (.iconst 0, 1) := by decide +kernel
theorem dX12_isWordSign_19 : decode cX12_isWordSign 19 = .ok (.ireturn, 1) := by decide +kernel
theorem dX12_next_0 : decode cX12_next 0 = .ok (.aload_n 0, 1) := by decide +kernel
theorem dX12_next_1 : decode cX12_next 1 = .ok (.aload_n 0, 1) := by decide +kernel
theorem dX12_next_2 : decode cX12_next 2 = .ok (.getfield 285, 3) := by decide +kernel
theorem dX12_next_5 : decode cX12_next 5 = .ok (.putfield 288, 3) := by decide +kernel
theorem dX12_next_8 : decode cX12_next 8 = .ok (.aload_n 0, 1) := by decide +kernel
theorem dX12_next_9 : decode cX12_next 9 = .ok (.aload_n 0, 1) := by decide +kernel
theorem dX12_next_10 : decode cX12_next 10 = .ok (.getfield 288, 3) := by decide +kernel
theorem dX12_next_13 : decode cX12_next 13 = .ok (.invokevirtual 291, 3) := by decide +kernel
theorem dX12_next_16 : decode cX12_next 16 = .ok (.bipush 32, 2) := by decide +kernel
theorem dX12_next_18 : decode cX12_next 18 = .ok (.if_icmp .ne 16, 3) := by decide +kernel
theorem dX12_next_21 : decode cX12_next 21 = .ok (.aload_n 0, 1) := by decide +kernel
theorem dX12_next_22 : decode cX12_next 22 = .ok (.dup, 1) := by decide +kernel
theorem dX12_next_23 : decode cX12_next 23 = .ok (.getfield 288, 3) := by decide +kernel
theorem dX12_next_26 : decode cX12_next 26 = .ok (.iconst 1, 1) := by decide +kernel
theorem dX12_next_27 : decode cX12_next 27 = .ok (.iadd, 1) := by decide +kernel
theorem dX12_next_28 : decode cX12_next 28 = .ok (.putfield 288, 3) := by decide +kernel
theorem dX12_next_31 : decode cX12_next 31 = .ok (.goto (-23), 3) := by decide +kernel
theorem dX12_next_34 : decode cX12_next 34 = .ok (.aload_n 0, 1) := by decide +kernel
theorem dX12_next_35 : decode cX12_next 35 = .ok (.aload_n 0, 1) := by decide +kernel
theorem dX12_next_36 : decode cX12_next 36 = .ok (.getfield 288, 3) := by decide +kernel
theorem dX12_next_39 : decode cX12_next 39 = .ok (.invokevirtual 291, 3) := by decide +kernel
theorem dX12_next_42 : decode cX12_next 42 = .ok (.istore_n 1, 1) := by decide +kernel
theorem dX12_next_43 : decode cX12_next 43 = .ok (.iload_n 1, 1) := by decide +kernel
theorem dX12_next_44 : decode cX12_next 44 = .ok (.bipush 59, 2) := by decide +kernel
theorem dX12_next_46 : decode cX12_next 46 = .ok (.if_icmp .ne 29, 3) := by decide +kernel
theorem dX12_next_49 : decode cX12_next 49 = .ok (.aload_n 0, 1) := by decide +kernel
theorem dX12_next_50 : decode cX12_next 50 = .ok (.aload_n 0, 1) := by decide +kernel
theorem dX12_next_51 : decode cX12_next 51 = .ok (.getfield 288, 3) := by decide +kernel
theorem dX12_next_54 : decode cX12_next 54 = .ok (.invokevirtual 291, 3) := by decide +kernel
theorem dX12_next_57 : decode cX12_next 57 = .ok (.bipush 10, 2) := by decide +kernel
theorem dX12_next_59 : decode cX12_next 59 = .ok (.if_icmp .eq 16, 3) := by decide +kernel
theorem dX12_next_62 : decode cX12_next 62 = .ok (.aload_n 0, 1) := by decide +kernel
theorem dX12_next_63 : decode cX12_next 63 = .ok (.dup, 1) := by decide +kernel
theorem dX12_next_64 : decode cX12_next 64 = .ok (.getfield 288, 3) := by decide +kernel
theorem dX12_next_67 : decode cX12_next 67 = .ok (.iconst 1, 1) := by decide +kernel
theorem dX12_next_68 : decode cX12_next 68 = .ok (.iadd, 1) := by decide +kernel
theorem dX12_next_69 : decode cX12_next 69 = .ok (.putfield 288, 3) := by decide +kernel
theorem dX12_next_72 : decode cX12_next 72 = .ok (.goto (-23), 3) := by decide +kernel
theorem dX12_next_75 : decode cX12_next 75 = .ok (.aload_n 0, 1) := by decide +kernel
theorem dX12_next_76 : decode cX12_next 76 = .ok (.aload_n 0, 1) := by decide +kernel
theorem dX12_next_77 : decode cX12_next 77 = .ok (.getfield 288, 3) := by decide +kernel
theorem dX12_next_80 : decode cX12_next 80 = .ok (.invokevirtual 291, 3) := by decide +kernel
theorem dX12_next_83 : decode cX12_next 83 = .ok (.istore_n 1, 1) := by decide +kernel
theorem dX12_next_84 : decode cX12_next 84 = .ok (.aload_n 0, 1) := by decide +kernel
theorem dX12_next_85 : decode cX12_next 85 = .ok (.aload_n 0, 1) := by decide +kernel
theorem dX12_next_86 : decode cX12_next 86 = .ok (.getfield 288, 3) := by decide +kernel
theorem dX12_next_89 : decode cX12_next 89 = .ok (.iconst 1, 1) := by decide +kernel
theorem dX12_next_90 : decode cX12_next 90 = .ok (.iadd, 1) := by decide +kernel
theorem dX12_next_91 : decode cX12_next 91 = .ok (.putfield 285, 3) := by decide +kernel
theorem dX12_next_94 : decode cX12_next 94 = .ok (.iload_n 1, 1) := by decide +kernel
theorem dX12_next_95 : decode cX12_next 95 = .ok (.bipush 10, 2) := by decide +kernel
theorem dX12_next_97 : decode cX12_next 97 = .ok (.if_icmp .ne 19, 3) := by decide +kernel
theorem dX12_next_100 : decode cX12_next 100 = .ok (.aload_n 0, 1) := by decide +kernel
theorem dX12_next_101 : decode cX12_next 101 = .ok (.iconst 0, 1) := by decide +kernel
theorem dX12_next_102 : decode cX12_next 102 = .ok (.putfield 295, 3) := by decide +kernel
theorem dX12_next_105 : decode cX12_next 105 = .ok (.aload_n 0, 1) := by decide +kernel
theorem dX12_next_106 : decode cX12_next 106 = .ok (.aload_n 0, 1) := by decide +kernel
theorem dX12_next_107 : decode cX12_next 107 = .ok (.getfield 288, 3) := by decide +kernel
theorem dX12_next_110 : decode cX12_next 110 = .ok (.putfield 285, 3) := by decide +kernel
theorem dX12_next_113 : decode cX12_next 113 = .ok (.goto 119, 3) := by decide +kernel
theorem dX12_next_116 : decode cX12_next 116 = .ok (.iload_n 1, 1) := by decide +kernel
theorem dX12_next_117 : decode cX12_next 117 = .ok (.invokestatic 278, 3) := by decide +kernel
theorem dX12_next_120 : decode cX12_next 120 = .ok (.ifCond .eq 56, 3) := by decide +kernel
theorem dX12_next_123 : decode cX12_next 123 = .ok (.aload_n 0, 1) := by decide +kernel
theorem dX12_next_124 : decode cX12_next 124 = .ok (.aload_n 0, 1) := by decide +kernel
theorem dX12_next_125 : decode cX12_next 125 = .ok (.getfield 285, 3) := by decide +kernel
theorem dX12_next_128 : decode cX12_next 128 = .ok (.invokevirtual 291, 3) := by decide +kernel
theorem dX12_next_131 : decode cX12_next 131 = .ok (.invokestatic 298, 3) := by decide +kernel
theorem dX12_next_134 : decode cX12_next 134 = .ok (.ifCond .eq 16, 3) := by decide +kernel
theorem dX12_next_137 : decode cX12_next 137 = .ok (.aload_n 0, 1) := by decide +kernel
theorem dX12_next_138 : decode cX12_next 138 = .ok (.dup, 1) := by decide +kernel
theorem dX12_next_139 : decode cX12_next 139 = .ok (.getfield 285, 3) := by decide +kernel
theorem dX12_next_142 : decode cX12_next 142 = .ok (.iconst 1, 1) := by decide +kernel
theorem dX12_next_143 : decode cX12_next 143 = .ok (.iadd, 1) := by decide +kernel
theorem dX12_next_144 : decode cX12_next 144 = .ok (.putfield 285, 3) := by decide +kernel
theorem dX12_next_147 : decode cX12_next 147 = .ok (.goto (-24), 3) := by decide +kernel
theorem dX12_next_150 : decode cX12_next 150 = .ok (.aload_n 0, 1) := by decide +kernel
theorem dX12_next_151 : decode cX12_next 151 = .ok (.aload_n 0, 1) := by decide +kernel
theorem dX12_next_152 : decode cX12_next 152 = .ok (.getfield 285, 3) := by decide +kernel
theorem dX12_next_155 : decode cX12_next 155 = .ok (.aload_n 0, 1) := by decide +kernel
theorem dX12_next_156 : decode cX12_next 156 = .ok (.getfield 288, 3) := by decide +kernel
theorem dX12_next_159 : decode cX12_next 159 = .ok (.isub, 1) := by decide +kernel
theorem dX12_next_160 : decode cX12_next 160 = .ok (.bipush 8, 2) := by decide +kernel
theorem dX12_next_162 : decode cX12_next 162 = .ok (.if_icmp .le 7, 3) := by decide +kernel
theorem dX12_next_165 : decode cX12_next 165 = .ok (.iconst 1, 1) := by decide +kernel
theorem dX12_next_166 : decode cX12_next 166 = .ok (.goto 4, 3) := by decide +kernel
theorem dX12_next_169 : decode cX12_next 169 = .ok (.iconst 2, 1) := by decide +kernel
theorem dX12_next_170 : decode cX12_next 170 = .ok (.putfield 295, 3) := by decide +kernel
theorem dX12_next_173 : decode cX12_next 173 = .ok (.goto 59, 3) := by decide +kernel
theorem dX12_next_176 : decode cX12_next 176 = .ok (.iload_n 1, 1) := by decide +kernel
theorem dX12_next_177 : decode cX12_next 177 = .ok (.bipush 45, 2) := by decide +kernel
theorem dX12_next_179 : decode cX12_next 179 = .ok (.if_icmp .eq 10, 3) := by decide +kernel
theorem dX12_next_182 : decode cX12_next 182 = .ok (.iload_n 1, 1) := by decide +kernel
theorem dX12_next_183 : decode cX12_next 183 = .ok (.invokestatic 282, 3) := by decide +kernel
theorem dX12_next_186 : decode cX12_next 186 = .ok (.ifCond .eq 21, 3) := by decide +kernel
theorem dX12_next_189 : decode cX12_next 189 = .ok (.aload_n 0, 1) := by decide +kernel
theorem dX12_next_190 : decode cX12_next 190 = .ok (.iload_n 1, 1) := by decide +kernel
theorem dX12_next_191 : decode cX12_next 191 = .ok (.bipush 45, 2) := by decide +kernel
theorem dX12_next_193 : decode cX12_next 193 = .ok (.if_icmp .ne 7, 3) := by decide +kernel
theorem dX12_next_196 : decode cX12_next 196 = .ok (.iconst 1, 1) := by decide +kernel
theorem dX12_next_197 : decode cX12_next 197 = .ok (.goto 4, 3) := by decide +kernel
theorem dX12_next_200 : decode cX12_next 200 = .ok (.iconst 0, 1) := by decide +kernel
theorem dX12_next_201 : decode cX12_next 201 = .ok (.invokevirtual 301, 3) := by decide +kernel
theorem dX12_next_204 : decode cX12_next 204 = .ok (.goto 28, 3) := by decide +kernel
theorem dX12_next_207 : decode cX12_next 207 = .ok (.aload_n 0, 1) := by decide +kernel
theorem dX12_next_208 : decode cX12_next 208 = .ok (.iload_n 1, 1) := by decide +kernel
theorem dX12_next_209 : decode cX12_next 209 = .ok (.bipush 44, 2) := by decide +kernel
theorem dX12_next_211 : decode cX12_next 211 = .ok (.if_icmp .ne 7, 3) := by decide +kernel
theorem dX12_next_214 : decode cX12_next 214 = .ok (.iconst 4, 1) := by decide +kernel
theorem dX12_next_215 : decode cX12_next 215 = .ok (.goto 14, 3) := by decide +kernel
theorem dX12_next_218 : decode cX12_next 218 = .ok (.iload_n 1, 1) := by decide +kernel
theorem dX12_next_219 : decode cX12_next 219 = .ok (.bipush 58, 2) := by decide +kernel
theorem dX12_next_221 : decode cX12_next 221 = .ok (.if_icmp .ne 7, 3) := by decide +kernel
theorem dX12_next_224 : decode cX12_next 224 = .ok (.iconst 5, 1) := by decide +kernel
theorem dX12_next_225 : decode cX12_next 225 = .ok (.goto 4, 3) := by decide +kernel
theorem dX12_next_228 : decode cX12_next 228 = .ok (.iconst 1, 1) := by decide +kernel
theorem dX12_next_229 : decode cX12_next 229 = .ok (.putfield 295, 3) := by decide +kernel
theorem dX12_next_232 : decode cX12_next 232 = .ok (.return_, 1) := by decide +kernel
theorem dX12_nextNumber_0 : decode cX12_nextNumber 0 = .ok (.iload_n 1, 1) := by decide +kernel
theorem dX12_nextNumber_1 : decode cX12_nextNumber 1 = .ok (.ifCond .eq 12, 3) := by decide +kernel
theorem dX12_nextNumber_4 : decode cX12_nextNumber 4 = .ok (.aload_n 0, 1) := by decide +kernel
theorem dX12_nextNumber_5 : decode cX12_nextNumber 5 = .ok (.getfield 288, 3) := by decide +kernel
theorem dX12_nextNumber_8 : decode cX12_nextNumber 8 = .ok (.iconst 1, 1) := by decide +kernel
theorem dX12_nextNumber_9 : decode cX12_nextNumber 9 = .ok (.iadd, 1) := by decide +kernel
theorem dX12_nextNumber_10 : decode cX12_nextNumber 10 = .ok (.goto 7, 3) := by decide +kernel
theorem dX12_nextNumber_13 : decode cX12_nextNumber 13 = .ok (.aload_n 0, 1) := by decide +kernel
theorem dX12_nextNumber_14 : decode cX12_nextNumber 14 = .ok (.getfield 288, 3) := by decide +kernel
theorem dX12_nextNumber_17 : decode cX12_nextNumber 17 = .ok (.istore_n 2, 1) := by decide +kernel
theorem dX12_nextNumber_18 : decode cX12_nextNumber 18 = .ok (.aload_n 0, 1) := by decide +kernel
theorem dX12_nextNumber_19 : decode cX12_nextNumber 19 = .ok (.iload_n 2, 1) := by decide +kernel
theorem dX12_nextNumber_20 : decode cX12_nextNumber 20 = .ok (.putfield 285, 3) := by decide +kernel
theorem dX12_nextNumber_23 : decode cX12_nextNumber 23 = .ok (.lconst 0, 1) := by decide +kernel
theorem dX12_nextNumber_24 : decode cX12_nextNumber 24 = .ok (.lstore_n 3, 1) := by decide +kernel
theorem dX12_nextNumber_25 : decode cX12_nextNumber 25 = .ok (.iconst 1, 1) := by decide +kernel
theorem dX12_nextNumber_26 : decode cX12_nextNumber 26 = .ok (.istore 5, 2) := by decide +kernel
theorem dX12_nextNumber_28 : decode cX12_nextNumber 28 = .ok (.iload_n 1, 1) := by decide +kernel
theorem dX12_nextNumber_29 : decode cX12_nextNumber 29 = .ok (.ifCond .ne 161, 3) := by decide +kernel
theorem dX12_nextNumber_32 : decode cX12_nextNumber 32 = .ok (.aload_n 0, 1) := by decide +kernel
theorem dX12_nextNumber_33 : decode cX12_nextNumber 33 = .ok (.iload_n 2, 1) := by decide +kernel
theorem dX12_nextNumber_34 : decode cX12_nextNumber 34 = .ok (.invokevirtual 291, 3) := by decide +kernel
theorem dX12_nextNumber_37 : decode cX12_nextNumber 37 = .ok (.bipush 48, 2) := by decide +kernel
theorem dX12_nextNumber_39 : decode cX12_nextNumber 39 = .ok (.if_icmp .ne 151, 3) := by decide +kernel
theorem dX12_nextNumber_42 : decode cX12_nextNumber 42 = .ok (.aload_n 0, 1) := by decide +kernel
theorem dX12_nextNumber_43 : decode cX12_nextNumber 43 = .ok (.iload_n 2, 1) := by decide +kernel
theorem dX12_nextNumber_44 : decode cX12_nextNumber 44 = .ok (.iconst 1, 1) := by decide +kernel
theorem dX12_nextNumber_45 : decode cX12_nextNumber 45 = .ok (.iadd, 1) := by decide +kernel
theorem dX12_nextNumber_46 : decode cX12_nextNumber 46 = .ok (.invokevirtual 291, 3) := by decide +kernel
theorem dX12_nextNumber_49 : decode cX12_nextNumber 49 = .ok (.bipush 120, 2) := by decide +kernel
theorem dX12_nextNumber_51 : decode cX12_nextNumber 51 = .ok (.if_icmp .ne 139, 3) := by decide +kernel
theorem dX12_nextNumber_54 : decode cX12_nextNumber 54 = .ok (.aload_n 0, 1) := by decide +kernel
theorem dX12_nextNumber_55 : decode cX12_nextNumber 55 = .ok (.iload_n 2, 1) := by decide +kernel
theorem dX12_nextNumber_56 : decode cX12_nextNumber 56 = .ok (.iconst 2, 1) := by decide +kernel
theorem dX12_nextNumber_57 : decode cX12_nextNumber 57 = .ok (.iadd, 1) := by decide +kernel
theorem dX12_nextNumber_58 : decode cX12_nextNumber 58 = .ok (.putfield 285, 3) := by decide +kernel
theorem dX12_nextNumber_61 : decode cX12_nextNumber 61 = .ok (.aload_n 0, 1) := by decide +kernel
theorem dX12_nextNumber_62 : decode cX12_nextNumber 62 = .ok (.aload_n 0, 1) := by decide +kernel
theorem dX12_nextNumber_63 : decode cX12_nextNumber 63 = .ok (.getfield 285, 3) := by decide +kernel
theorem dX12_nextNumber_66 : decode cX12_nextNumber 66 = .ok (.invokevirtual 291, 3) := by decide +kernel
theorem dX12_nextNumber_69 : decode cX12_nextNumber 69 = .ok (.invokestatic 282, 3) := by decide +kernel
theorem dX12_nextNumber_72 : decode cX12_nextNumber 72 = .ok (.ifCond .ne 29, 3) := by decide +kernel
theorem dX12_nextNumber_75 : decode cX12_nextNumber 75 = .ok (.aload_n 0, 1) := by decide +kernel
theorem dX12_nextNumber_76 : decode cX12_nextNumber 76 = .ok (.aload_n 0, 1) := by decide +kernel
theorem dX12_nextNumber_77 : decode cX12_nextNumber 77 = .ok (.getfield 285, 3) := by decide +kernel
theorem dX12_nextNumber_80 : decode cX12_nextNumber 80 = .ok (.invokevirtual 291, 3) := by decide +kernel
theorem dX12_nextNumber_83 : decode cX12_nextNumber 83 = .ok (.bipush 97, 2) := by decide +kernel
theorem dX12_nextNumber_85 : decode cX12_nextNumber 85 = .ok (.if_icmp .lt 74, 3) := by decide +kernel
theorem dX12_nextNumber_88 : decode cX12_nextNumber 88 = .ok (.aload_n 0, 1) := by decide +kernel
theorem dX12_nextNumber_89 : decode cX12_nextNumber 89 = .ok (.aload_n 0, 1) := by decide +kernel
theorem dX12_nextNumber_90 : decode cX12_nextNumber 90 = .ok (.getfield 285, 3) := by decide +kernel
theorem dX12_nextNumber_93 : decode cX12_nextNumber 93 = .ok (.invokevirtual 291, 3) := by decide +kernel
theorem dX12_nextNumber_96 : decode cX12_nextNumber 96 = .ok (.bipush 102, 2) := by decide +kernel
theorem dX12_nextNumber_98 : decode cX12_nextNumber 98 = .ok (.if_icmp .gt 61, 3) := by decide +kernel
theorem dX12_nextNumber_101 : decode cX12_nextNumber 101 = .ok (.lload_n 3, 1) := by decide +kernel
theorem dX12_nextNumber_102 : decode cX12_nextNumber 102 = .ok (.iconst 4, 1) := by decide +kernel
theorem dX12_nextNumber_103 : decode cX12_nextNumber 103 = .ok (.lshl, 1) := by decide +kernel
theorem dX12_nextNumber_104 : decode cX12_nextNumber 104 = .ok (.aload_n 0, 1) := by decide +kernel
theorem dX12_nextNumber_105 : decode cX12_nextNumber 105 = .ok (.aload_n 0, 1) := by decide +kernel
theorem dX12_nextNumber_106 : decode cX12_nextNumber 106 = .ok (.getfield 285, 3) := by decide +kernel
theorem dX12_nextNumber_109 : decode cX12_nextNumber 109 = .ok (.invokevirtual 291, 3) := by decide +kernel
theorem dX12_nextNumber_112 : decode cX12_nextNumber 112 = .ok (.invokestatic 282, 3) := by decide +kernel
theorem dX12_nextNumber_115 : decode cX12_nextNumber 115 = .ok (.ifCond .eq 17, 3) := by decide +kernel
theorem dX12_nextNumber_118 : decode cX12_nextNumber 118 = .ok (.aload_n 0, 1) := by decide +kernel
theorem dX12_nextNumber_119 : decode cX12_nextNumber 119 = .ok (.aload_n 0, 1) := by decide +kernel
theorem dX12_nextNumber_120 : decode cX12_nextNumber 120 = .ok (.getfield 285, 3) := by decide +kernel
theorem dX12_nextNumber_123 : decode cX12_nextNumber 123 = .ok (.invokevirtual 291, 3) := by decide +kernel
theorem dX12_nextNumber_126 : decode cX12_nextNumber 126 = .ok (.bipush 48, 2) := by decide +kernel
theorem dX12_nextNumber_128 : decode cX12_nextNumber 128 = .ok (.isub, 1) := by decide +kernel
theorem dX12_nextNumber_129 : decode cX12_nextNumber 129 = .ok (.goto 14, 3) := by decide +kernel
theorem dX12_nextNumber_132 : decode cX12_nextNumber 132 = .ok (.aload_n 0, 1) := by decide +kernel
theorem dX12_nextNumber_133 : decode cX12_nextNumber 133 = .ok (.aload_n 0, 1) := by decide +kernel
theorem dX12_nextNumber_134 : decode cX12_nextNumber 134 = .ok (.getfield 285, 3) := by decide +kernel
theorem dX12_nextNumber_137 : decode cX12_nextNumber 137 = .ok (.invokevirtual 291, 3) := by decide +kernel
theorem dX12_nextNumber_140 : decode cX12_nextNumber 140 = .ok (.bipush 87, 2) := by decide +kernel
theorem dX12_nextNumber_142 : decode cX12_nextNumber 142 = .ok (.isub, 1) := by decide +kernel
theorem dX12_nextNumber_143 : decode cX12_nextNumber 143 = .ok (.i2l, 1) := by decide +kernel
theorem dX12_nextNumber_144 : decode cX12_nextNumber 144 = .ok (.lor, 1) := by decide +kernel
theorem dX12_nextNumber_145 : decode cX12_nextNumber 145 = .ok (.lstore_n 3, 1) := by decide +kernel
theorem dX12_nextNumber_146 : decode cX12_nextNumber 146 = .ok (.aload_n 0, 1) := by decide +kernel
theorem dX12_nextNumber_147 : decode cX12_nextNumber 147 = .ok (.dup, 1) := by decide +kernel
theorem dX12_nextNumber_148 : decode cX12_nextNumber 148 = .ok (.getfield 285, 3) := by decide +kernel
theorem dX12_nextNumber_151 : decode cX12_nextNumber 151 = .ok (.iconst 1, 1) := by decide +kernel
theorem dX12_nextNumber_152 : decode cX12_nextNumber 152 = .ok (.iadd, 1) := by decide +kernel
theorem dX12_nextNumber_153 : decode cX12_nextNumber 153 = .ok (.putfield 285, 3) := by decide +kernel
theorem dX12_nextNumber_156 : decode cX12_nextNumber 156 = .ok (.goto (-95), 3) := by decide +kernel
theorem dX12_nextNumber_159 : decode cX12_nextNumber 159 = .ok (.aload_n 0, 1) := by decide +kernel
theorem dX12_nextNumber_160 : decode cX12_nextNumber 160 = .ok (.getfield 285, 3) := by decide +kernel
theorem dX12_nextNumber_163 : decode cX12_nextNumber 163 = .ok (.iload_n 2, 1) := by decide +kernel
theorem dX12_nextNumber_164 : decode cX12_nextNumber 164 = .ok (.isub, 1) := by decide +kernel
