theorem dX9_ticksTo_14 : decode cX9_ticksTo 14 = .ok (.ifCond .ne 7, 3) := by decide +kernel
theorem dX9_ticksTo_17 : decode cX9_ticksTo 17 = .ok (.iconst 1, 1) := by decide +kernel
theorem dX9_ticksTo_18 : decode cX9_ticksTo 18 = .ok (.goto 4, 3) := by decide +kernel
theorem dX9_ticksTo_21 : decode cX9_ticksTo 21 = .ok (.iconst 0, 1) := by decide +kernel
theorem dX9_ticksTo_22 : decode cX9_ticksTo 22 = .ok (.iconst 1, 1) := by decide +kernel
theorem dX9_ticksTo_23 : decode cX9_ticksTo 23 = .ok (.invokevirtual 153, 3) := by decide +kernel
theorem dX9_ticksTo_26 : decode cX9_ticksTo 26 = .ok (.ifCond .eq 5, 3) := by decide +kernel
theorem dX9_ticksTo_29 : decode cX9_ticksTo 29 = .ok (.iconst 0, 1) := by decide +kernel
theorem dX9_ticksTo_30 : decode cX9_ticksTo 30 = .ok (.ireturn, 1) := by decide +kernel
theorem dX9_ticksTo_31 : decode cX9_ticksTo 31 = .ok (.aload_n 0, 1) := by decide +kernel
theorem dX9_ticksTo_32 : decode cX9_ticksTo 32 = .ok (.getfield 7, 3) := by decide +kernel
theorem dX9_ticksTo_35 : decode cX9_ticksTo 35 = .ok (.iconst 0, 1) := by decide +kernel
theorem dX9_ticksTo_36 : decode cX9_ticksTo 36 = .ok (.aload_n 0, 1) := by decide +kernel
theorem dX9_ticksTo_37 : decode cX9_ticksTo 37 = .ok (.getfield 33, 3) := by decide +kernel
theorem dX9_ticksTo_40 : decode cX9_ticksTo 40 = .ok (.iconst 0, 1) := by decide +kernel
theorem dX9_ticksTo_41 : decode cX9_ticksTo 41 = .ok (.sipush 214, 3) := by decide +kernel
theorem dX9_ticksTo_44 : decode cX9_ticksTo 44 = .ok (.invokestatic 259, 3) := by decide +kernel
theorem dX9_ticksTo_47 : decode cX9_ticksTo 47 = .ok (.iconst 0, 1) := by decide +kernel
theorem dX9_ticksTo_48 : decode cX9_ticksTo 48 = .ok (.istore_n 3, 1) := by decide +kernel
theorem dX9_ticksTo_49 : decode cX9_ticksTo 49 = .ok (.iload_n 3, 1) := by decide +kernel
theorem dX9_ticksTo_50 : decode cX9_ticksTo 50 = .ok (.iload_n 2, 1) := by decide +kernel
theorem dX9_ticksTo_51 : decode cX9_ticksTo 51 = .ok (.if_icmp .ge 23, 3) := by decide +kernel
theorem dX9_ticksTo_54 : decode cX9_ticksTo 54 = .ok (.aload_n 0, 1) := by decide +kernel
theorem dX9_ticksTo_55 : decode cX9_ticksTo 55 = .ok (.getfield 7, 3) := by decide +kernel
theorem dX9_ticksTo_58 : decode cX9_ticksTo 58 = .ok (.iconst 1, 1) := by decide +kernel
theorem dX9_ticksTo_59 : decode cX9_ticksTo 59 = .ok (.iaload, 1) := by decide +kernel
theorem dX9_ticksTo_60 : decode cX9_ticksTo 60 = .ok (.iload_n 1, 1) := by decide +kernel
theorem dX9_ticksTo_61 : decode cX9_ticksTo 61 = .ok (.if_icmp .eq 13, 3) := by decide +kernel
theorem dX9_ticksTo_64 : decode cX9_ticksTo 64 = .ok (.aload_n 0, 1) := by decide +kernel
theorem dX9_ticksTo_65 : decode cX9_ticksTo 65 = .ok (.invokevirtual 263, 3) := by decide +kernel
theorem dX9_ticksTo_68 : decode cX9_ticksTo 68 = .ok (.iinc 3 1, 3) := by decide +kernel
theorem dX9_ticksTo_71 : decode cX9_ticksTo 71 = .ok (.goto (-22), 3) := by decide +kernel
theorem dX9_ticksTo_74 : decode cX9_ticksTo 74 = .ok (.aload_n 0, 1) := by decide +kernel
theorem dX9_ticksTo_75 : decode cX9_ticksTo 75 = .ok (.getfield 7, 3) := by decide +kernel
theorem dX9_ticksTo_78 : decode cX9_ticksTo 78 = .ok (.iconst 1, 1) := by decide +kernel
theorem dX9_ticksTo_79 : decode cX9_ticksTo 79 = .ok (.iaload, 1) := by decide +kernel
theorem dX9_ticksTo_80 : decode cX9_ticksTo 80 = .ok (.iload_n 1, 1) := by decide +kernel
theorem dX9_ticksTo_81 : decode cX9_ticksTo 81 = .ok (.if_icmp .ne 7, 3) := by decide +kernel
theorem dX9_ticksTo_84 : decode cX9_ticksTo 84 = .ok (.iconst 1, 1) := by decide +kernel
theorem dX9_ticksTo_85 : decode cX9_ticksTo 85 = .ok (.goto 4, 3) := by decide +kernel
theorem dX9_ticksTo_88 : decode cX9_ticksTo 88 = .ok (.iconst 0, 1) := by decide +kernel
theorem dX9_ticksTo_89 : decode cX9_ticksTo 89 = .ok (.istore 4, 2) := by decide +kernel
theorem dX9_ticksTo_91 : decode cX9_ticksTo 91 = .ok (.aload_n 0, 1) := by decide +kernel
theorem dX9_ticksTo_92 : decode cX9_ticksTo 92 = .ok (.getfield 33, 3) := by decide +kernel
theorem dX9_ticksTo_95 : decode cX9_ticksTo 95 = .ok (.iconst 0, 1) := by decide +kernel
theorem dX9_ticksTo_96 : decode cX9_ticksTo 96 = .ok (.aload_n 0, 1) := by decide +kernel
theorem dX9_ticksTo_97 : decode cX9_ticksTo 97 = .ok (.getfield 7, 3) := by decide +kernel
theorem dX9_ticksTo_100 : decode cX9_ticksTo 100 = .ok (.iconst 0, 1) := by decide +kernel
theorem dX9_ticksTo_101 : decode cX9_ticksTo 101 = .ok (.sipush 214, 3) := by decide +kernel
theorem dX9_ticksTo_104 : decode cX9_ticksTo 104 = .ok (.invokestatic 259, 3) := by decide +kernel
theorem dX9_ticksTo_107 : decode cX9_ticksTo 107 = .ok (.iload 4, 2) := by decide +kernel
theorem dX9_ticksTo_109 : decode cX9_ticksTo 109 = .ok (.ifCond .eq 7, 3) := by decide +kernel
theorem dX9_ticksTo_112 : decode cX9_ticksTo 112 = .ok (.iload_n 3, 1) := by decide +kernel
theorem dX9_ticksTo_113 : decode cX9_ticksTo 113 = .ok (.goto 4, 3) := by decide +kernel
theorem dX9_ticksTo_116 : decode cX9_ticksTo 116 = .ok (.iconst (-1), 1) := by decide +kernel
theorem dX9_ticksTo_117 : decode cX9_ticksTo 117 = .ok (.ireturn, 1) := by decide +kernel
set_option maxRecDepth 20000 in
theorem ggX9_ticksToBalance_X9_ticksTo : GoodIn wsX9_ticksToBalance wsX9_ticksTo := goodIn_r _ [5, 6, 7, 8, 9, 10, 4, 11, 12, 13, 14, 15, 16, 17, 18, 19, 20, 21, 22, 23, 24, 25, 26, 27, 28, 29, 30, 31, 32, 33, 34, 35, 36, 37, 38, 39, 40, 41, 42, 43, 44, 45, 46, 47, 48, 49, 50, 51, 52, 53, 54, 55, 56, 57, 58, 59, 60, 61, 62, 63, 64, 65, 66, 67, 68, 69, 70, 71, 72, 73, 74, 75, 76, 77, 78, 79, 80, 81, 82, 83, 84, 85, 86, 87, 88, 89, 90, 91, 92, 93, 94, 95, 96, 97, 98, 99, 100, 101, 102, 103, 104, 105, 106, 107, 108, 109, 110, 111, 112, 113, 114, 115, 116, 117, 118, 119, 120, 121, 122, 123, 124, 125, 126, 127, 128, 129, 130, 131] (by decide +kernel) (by decide +kernel)
set_option maxRecDepth 20000 in
theorem gX9_ticksToBalance_X9_ticksTo : GoodIn wsX9_ticksToBalance (wsV RX9 266 RX9 yX9_ticksTo wsX9_ticksTo) := goodIn_app (goodIn_of _ (by decide +kernel)) ggX9_ticksToBalance_X9_ticksTo
theorem dX9_ticksToBalance_0 : decode cX9_ticksToBalance 0 = .ok (.aload_n 0, 1) := by decide +kernel
theorem dX9_ticksToBalance_1 : decode cX9_ticksToBalance 1 = .ok (.iconst 2, 1) := by decide +kernel
theorem dX9_ticksToBalance_2 : decode cX9_ticksToBalance 2 = .ok (.iload_n 1, 1) := by decide +kernel
theorem dX9_ticksToBalance_3 : decode cX9_ticksToBalance 3 = .ok (.invokevirtual 266, 3) := by decide +kernel
theorem dX9_ticksToBalance_6 : decode cX9_ticksToBalance 6 = .ok (.ireturn, 1) := by decide +kernel
set_option maxRecDepth 20000 in
theorem ggX9_ticksToStop_X9_ticksTo : GoodIn wsX9_ticksToStop wsX9_ticksTo := goodIn_r _ [5, 6, 7, 8, 9, 10, 4, 11, 12, 13, 14, 15, 16, 17, 18, 19, 20, 21, 22, 23, 24, 25, 26, 27, 28, 29, 30, 31, 32, 33, 34, 35, 36, 37, 38, 39, 40, 41, 42, 43, 44, 45, 46, 47, 48, 49, 50, 51, 52, 53, 54, 55, 56, 57, 58, 59, 60, 61, 62, 63, 64, 65, 66, 67, 68, 69, 70, 71, 72, 73, 74, 75, 76, 77, 78, 79, 80, 81, 82, 83, 84, 85, 86, 87, 88, 89, 90, 91, 92, 93, 94, 95, 96, 97, 98, 99, 100, 101, 102, 103, 104, 105, 106, 107, 108, 109, 110, 111, 112, 113, 114, 115, 116, 117, 118, 119, 120, 121, 122, 123, 124, 125, 126, 127, 128, 129, 130, 131] (by decide +kernel) (by decide +kernel)
set_option maxRecDepth 20000 in
theorem gX9_ticksToStop_X9_ticksTo : GoodIn wsX9_ticksToStop (wsV RX9 266 RX9 yX9_ticksTo wsX9_ticksTo) := goodIn_app (goodIn_of _ (by decide +kernel)) ggX9_ticksToStop_X9_ticksTo
theorem dX9_ticksToStop_0 : decode cX9_ticksToStop 0 = .ok (.aload_n 0, 1) := by decide +kernel
theorem dX9_ticksToStop_1 : decode cX9_ticksToStop 1 = .ok (.iconst 3, 1) := by decide +kernel
theorem dX9_ticksToStop_2 : decode cX9_ticksToStop 2 = .ok (.iload_n 1, 1) := by decide +kernel
theorem dX9_ticksToStop_3 : decode cX9_ticksToStop 3 = .ok (.invokevirtual 266, 3) := by decide +kernel
theorem dX9_ticksToStop_6 : decode cX9_ticksToStop 6 = .ok (.ireturn, 1) := by decide +kernel
set_option maxRecDepth 20000 in
theorem ggX9_farthest_X9_within : GoodIn wsX9_farthest wsX9_within := goodIn_r _ [7] (by decide +kernel) (by decide +kernel)
set_option maxRecDepth 20000 in
theorem gX9_farthest_X9_within : GoodIn wsX9_farthest (va_wsS RX9 88 yX9_within wsX9_within) := goodIn_app (goodIn_of _ (by decide +kernel)) ggX9_farthest_X9_within
set_option maxRecDepth 20000 in
theorem ggX9_farthest_X9_throwsIf : GoodIn wsX9_farthest wsX9_throwsIf := goodIn_r _ [11, 1, 106, 107, 108, 109, 110, 111, 112, 113, 114, 115, 116, 117, 118, 119, 120, 121, 122, 123, 124, 125, 126, 127] (by decide +kernel) (by decide +kernel)
set_option maxRecDepth 20000 in
theorem gX9_farthest_X9_throwsIf : GoodIn wsX9_farthest (wsV RX9 153 RX9 yX9_throwsIf wsX9_throwsIf) := goodIn_app (goodIn_of _ (by decide +kernel)) ggX9_farthest_X9_throwsIf
set_option maxRecDepth 20000 in
theorem ggX9_farthest_X9_copies : GoodIn wsX9_farthest wsX9_copies := goodIn_r _ [14] (by decide +kernel) (by decide +kernel)
set_option maxRecDepth 20000 in
theorem gX9_farthest_X9_copies : GoodIn wsX9_farthest (va_wsS RX9 259 yX9_copies wsX9_copies) := goodIn_app (goodIn_of _ (by decide +kernel)) ggX9_farthest_X9_copies
set_option maxRecDepth 20000 in
theorem ggX9_farthest_X9_passes : GoodIn wsX9_farthest wsX9_passes := goodIn_r _ [18, 2, 19, 20, 21, 6, 22, 23, 24, 25, 26, 27, 28, 29, 30, 31, 32, 33, 34, 35, 36, 37, 38, 39, 40, 41, 42, 43, 44, 45, 46, 47, 48, 49, 50, 51, 52, 53, 54, 55, 56, 57, 58, 59, 60, 61, 62, 63, 64, 65, 66, 67, 68, 69, 70, 71, 72, 73, 74, 75, 76, 77, 78, 79, 80, 81, 82, 83, 84, 85, 86, 87, 88, 89, 90, 4, 5, 7, 91, 92, 93, 94, 95, 96, 97, 98, 99, 100, 101, 102, 103, 104, 105, 106, 107, 108, 109, 110, 111, 112, 113, 114, 115, 116, 117, 118, 119, 120, 121, 122, 123, 124, 125, 126, 127] (by decide +kernel) (by decide +kernel)
set_option maxRecDepth 20000 in
theorem gX9_farthest_X9_passes : GoodIn wsX9_farthest (wsV RX9 263 RX9 yX9_passes wsX9_passes) := goodIn_app (goodIn_of _ (by decide +kernel)) ggX9_farthest_X9_passes
theorem dX9_farthest_0 : decode cX9_farthest 0 = .ok (.aload_n 0, 1) := by decide +kernel
theorem dX9_farthest_1 : decode cX9_farthest 1 = .ok (.iconst 0, 1) := by decide +kernel
theorem dX9_farthest_2 : decode cX9_farthest 2 = .ok (.putfield 55, 3) := by decide +kernel
theorem dX9_farthest_5 : decode cX9_farthest 5 = .ok (.aload_n 0, 1) := by decide +kernel
theorem dX9_farthest_6 : decode cX9_farthest 6 = .ok (.iload_n 1, 1) := by decide +kernel
theorem dX9_farthest_7 : decode cX9_farthest 7 = .ok (.iconst 0, 1) := by decide +kernel
theorem dX9_farthest_8 : decode cX9_farthest 8 = .ok (.sipush 1000, 3) := by decide +kernel
theorem dX9_farthest_11 : decode cX9_farthest 11 = .ok (.invokestatic 88, 3) := by decide +kernel
theorem dX9_farthest_14 : decode cX9_farthest 14 = .ok (.ifCond .ne 7, 3) := by decide +kernel
theorem dX9_farthest_17 : decode cX9_farthest 17 = .ok (.iconst 1, 1) := by decide +kernel
theorem dX9_farthest_18 : decode cX9_farthest 18 = .ok (.goto 4, 3) := by decide +kernel
theorem dX9_farthest_21 : decode cX9_farthest 21 = .ok (.iconst 0, 1) := by decide +kernel
theorem dX9_farthest_22 : decode cX9_farthest 22 = .ok (.iconst 1, 1) := by decide +kernel
theorem dX9_farthest_23 : decode cX9_farthest 23 = .ok (.invokevirtual 153, 3) := by decide +kernel
theorem dX9_farthest_26 : decode cX9_farthest 26 = .ok (.ifCond .eq 5, 3) := by decide +kernel
theorem dX9_farthest_29 : decode cX9_farthest 29 = .ok (.iconst 0, 1) := by decide +kernel
theorem dX9_farthest_30 : decode cX9_farthest 30 = .ok (.ireturn, 1) := by decide +kernel
theorem dX9_farthest_31 : decode cX9_farthest 31 = .ok (.aload_n 0, 1) := by decide +kernel
theorem dX9_farthest_32 : decode cX9_farthest 32 = .ok (.getfield 7, 3) := by decide +kernel
theorem dX9_farthest_35 : decode cX9_farthest 35 = .ok (.iconst 0, 1) := by decide +kernel
theorem dX9_farthest_36 : decode cX9_farthest 36 = .ok (.aload_n 0, 1) := by decide +kernel
theorem dX9_farthest_37 : decode cX9_farthest 37 = .ok (.getfield 33, 3) := by decide +kernel
theorem dX9_farthest_40 : decode cX9_farthest 40 = .ok (.iconst 0, 1) := by decide +kernel
theorem dX9_farthest_41 : decode cX9_farthest 41 = .ok (.sipush 214, 3) := by decide +kernel
theorem dX9_farthest_44 : decode cX9_farthest 44 = .ok (.invokestatic 259, 3) := by decide +kernel
theorem dX9_farthest_47 : decode cX9_farthest 47 = .ok (.aload_n 0, 1) := by decide +kernel
theorem dX9_farthest_48 : decode cX9_farthest 48 = .ok (.getfield 7, 3) := by decide +kernel
theorem dX9_farthest_51 : decode cX9_farthest 51 = .ok (.iconst 2, 1) := by decide +kernel
theorem dX9_farthest_52 : decode cX9_farthest 52 = .ok (.iaload, 1) := by decide +kernel
theorem dX9_farthest_53 : decode cX9_farthest 53 = .ok (.ifCond .ge 13, 3) := by decide +kernel
theorem dX9_farthest_56 : decode cX9_farthest 56 = .ok (.aload_n 0, 1) := by decide +kernel
theorem dX9_farthest_57 : decode cX9_farthest 57 = .ok (.getfield 7, 3) := by decide +kernel
theorem dX9_farthest_60 : decode cX9_farthest 60 = .ok (.iconst 2, 1) := by decide +kernel
theorem dX9_farthest_61 : decode cX9_farthest 61 = .ok (.iaload, 1) := by decide +kernel
theorem dX9_farthest_62 : decode cX9_farthest 62 = .ok (.ineg, 1) := by decide +kernel
theorem dX9_farthest_63 : decode cX9_farthest 63 = .ok (.goto 9, 3) := by decide +kernel
theorem dX9_farthest_66 : decode cX9_farthest 66 = .ok (.aload_n 0, 1) := by decide +kernel
theorem dX9_farthest_67 : decode cX9_farthest 67 = .ok (.getfield 7, 3) := by decide +kernel
theorem dX9_farthest_70 : decode cX9_farthest 70 = .ok (.iconst 2, 1) := by decide +kernel
theorem dX9_farthest_71 : decode cX9_farthest 71 = .ok (.iaload, 1) := by decide +kernel
theorem dX9_farthest_72 : decode cX9_farthest 72 = .ok (.istore_n 2, 1) := by decide +kernel
theorem dX9_farthest_73 : decode cX9_farthest 73 = .ok (.iconst 0, 1) := by decide +kernel
theorem dX9_farthest_74 : decode cX9_farthest 74 = .ok (.istore_n 3, 1) := by decide +kernel
theorem dX9_farthest_75 : decode cX9_farthest 75 = .ok (.iload_n 3, 1) := by decide +kernel
theorem dX9_farthest_76 : decode cX9_farthest 76 = .ok (.iload_n 1, 1) := by decide +kernel
theorem dX9_farthest_77 : decode cX9_farthest 77 = .ok (.if_icmp .ge 53, 3) := by decide +kernel
theorem dX9_farthest_80 : decode cX9_farthest 80 = .ok (.aload_n 0, 1) := by decide +kernel
theorem dX9_farthest_81 : decode cX9_farthest 81 = .ok (.invokevirtual 263, 3) := by decide +kernel
theorem dX9_farthest_84 : decode cX9_farthest 84 = .ok (.aload_n 0, 1) := by decide +kernel
theorem dX9_farthest_85 : decode cX9_farthest 85 = .ok (.getfield 7, 3) := by decide +kernel
theorem dX9_farthest_88 : decode cX9_farthest 88 = .ok (.iconst 2, 1) := by decide +kernel
theorem dX9_farthest_89 : decode cX9_farthest 89 = .ok (.iaload, 1) := by decide +kernel
theorem dX9_farthest_90 : decode cX9_farthest 90 = .ok (.ifCond .ge 13, 3) := by decide +kernel
theorem dX9_farthest_93 : decode cX9_farthest 93 = .ok (.aload_n 0, 1) := by decide +kernel
theorem dX9_farthest_94 : decode cX9_farthest 94 = .ok (.getfield 7, 3) := by decide +kernel
theorem dX9_farthest_97 : decode cX9_farthest 97 = .ok (.iconst 2, 1) := by decide +kernel
theorem dX9_farthest_98 : decode cX9_farthest 98 = .ok (.iaload, 1) := by decide +kernel
theorem dX9_farthest_99 : decode cX9_farthest 99 = .ok (.ineg, 1) := by decide +kernel
theorem dX9_farthest_100 : decode cX9_farthest 100 = .ok (.goto 9, 3) := by decide +kernel
theorem dX9_farthest_103 : decode cX9_farthest 103 = .ok (.aload_n 0, 1) := by decide +kernel
theorem dX9_farthest_104 : decode cX9_farthest 104 = .ok (.getfield 7, 3) := by decide +kernel
theorem dX9_farthest_107 : decode cX9_farthest 107 = .ok (.iconst 2, 1) := by decide +kernel
theorem dX9_farthest_108 : decode cX9_farthest 108 = .ok (.iaload, 1) := by decide +kernel
theorem dX9_farthest_109 : decode cX9_farthest 109 = .ok (.istore 4, 2) := by decide +kernel
theorem dX9_farthest_111 : decode cX9_farthest 111 = .ok (.iload 4, 2) := by decide +kernel
theorem dX9_farthest_113 : decode cX9_farthest 113 = .ok (.iload_n 2, 1) := by decide +kernel
theorem dX9_farthest_114 : decode cX9_farthest 114 = .ok (.if_icmp .le 8, 3) := by decide +kernel
theorem dX9_farthest_117 : decode cX9_farthest 117 = .ok (.iload 4, 2) := by decide +kernel
theorem dX9_farthest_119 : decode cX9_farthest 119 = .ok (.goto 4, 3) := by decide +kernel
theorem dX9_farthest_122 : decode cX9_farthest 122 = .ok (.iload_n 2, 1) := by decide +kernel
theorem dX9_farthest_123 : decode cX9_farthest 123 = .ok (.istore_n 2, 1) := by decide +kernel
theorem dX9_farthest_124 : decode cX9_farthest 124 = .ok (.iinc 3 1, 3) := by decide +kernel
theorem dX9_farthest_127 : decode cX9_farthest 127 = .ok (.goto (-52), 3) := by decide +kernel
theorem dX9_farthest_130 : decode cX9_farthest 130 = .ok (.aload_n 0, 1) := by decide +kernel
theorem dX9_farthest_131 : decode cX9_farthest 131 = .ok (.getfield 33, 3) := by decide +kernel
theorem dX9_farthest_134 : decode cX9_farthest 134 = .ok (.iconst 0, 1) := by decide +kernel
theorem dX9_farthest_135 : decode cX9_farthest 135 = .ok (.aload_n 0, 1) := by decide +kernel
theorem dX9_farthest_136 : decode cX9_farthest 136 = .ok (.getfield 7, 3) := by decide +kernel
theorem dX9_farthest_139 : decode cX9_farthest 139 = .ok (.iconst 0, 1) := by decide +kernel
theorem dX9_farthest_140 : decode cX9_farthest 140 = .ok (.sipush 214, 3) := by decide +kernel
theorem dX9_farthest_143 : decode cX9_farthest 143 = .ok (.invokestatic 259, 3) := by decide +kernel
theorem dX9_farthest_146 : decode cX9_farthest 146 = .ok (.iload_n 2, 1) := by decide +kernel
theorem dX9_farthest_147 : decode cX9_farthest 147 = .ok (.ireturn, 1) := by decide +kernel
set_option maxRecDepth 20000 in
theorem ggX9_linkAfter_X9_noLink : GoodIn wsX9_linkAfter wsX9_noLink := goodIn_r _ [7, 8, 9, 10, 6, 11, 12, 13, 14, 15, 114, 115, 116, 117, 118, 119, 120, 121, 122, 123, 124, 125, 126, 127, 128, 129, 130, 131, 132, 133, 134, 135] (by decide +kernel) (by decide +kernel)
set_option maxRecDepth 20000 in
theorem gX9_linkAfter_X9_noLink : GoodIn wsX9_linkAfter (wsV RX9 231 RX9 yX9_noLink wsX9_noLink) := goodIn_app (goodIn_of _ (by decide +kernel)) ggX9_linkAfter_X9_noLink
set_option maxRecDepth 20000 in
theorem ggX9_linkAfter_X9_within : GoodIn wsX9_linkAfter wsX9_within := goodIn_r _ [11] (by decide +kernel) (by decide +kernel)
set_option maxRecDepth 20000 in
theorem gX9_linkAfter_X9_within : GoodIn wsX9_linkAfter (va_wsS RX9 88 yX9_within wsX9_within) := goodIn_app (goodIn_of _ (by decide +kernel)) ggX9_linkAfter_X9_within
set_option maxRecDepth 20000 in
theorem ggX9_linkAfter_X9_throwsIf : GoodIn wsX9_linkAfter wsX9_throwsIf := goodIn_r _ [15, 8, 114, 115, 116, 117, 118, 119, 120, 121, 122, 123, 124, 125, 126, 127, 128, 129, 130, 131, 132, 133, 134, 135] (by decide +kernel) (by decide +kernel)
set_option maxRecDepth 20000 in
theorem gX9_linkAfter_X9_throwsIf : GoodIn wsX9_linkAfter (wsV RX9 153 RX9 yX9_throwsIf wsX9_throwsIf) := goodIn_app (goodIn_of _ (by decide +kernel)) ggX9_linkAfter_X9_throwsIf
set_option maxRecDepth 20000 in
theorem ggX9_linkAfter_X9_copies : GoodIn wsX9_linkAfter wsX9_copies := goodIn_r _ [18] (by decide +kernel) (by decide +kernel)
set_option maxRecDepth 20000 in
theorem gX9_linkAfter_X9_copies : GoodIn wsX9_linkAfter (va_wsS RX9 259 yX9_copies wsX9_copies) := goodIn_app (goodIn_of _ (by decide +kernel)) ggX9_linkAfter_X9_copies
set_option maxRecDepth 20000 in
theorem ggX9_linkAfter_X9_passes : GoodIn wsX9_linkAfter wsX9_passes := goodIn_r _ [22, 1, 23, 24, 25, 6, 26, 27, 28, 29, 30, 31, 32, 33, 34, 35, 36, 37, 38, 39, 40, 41, 42, 43, 44, 45, 46, 47, 48, 49, 50, 51, 52, 53, 54, 55, 56, 57, 58, 59, 60, 61, 62, 63, 64, 65, 66, 67, 68, 69, 70, 71, 72, 73, 74, 75, 76, 77, 78, 79, 80, 81, 82, 83, 84, 85, 86, 87, 88, 89, 90, 91, 92, 93, 94, 9, 10, 11, 95, 96, 97, 98, 99, 100, 101, 102, 103, 104, 105, 106, 107, 108, 109, 114, 115, 116, 117, 118, 119, 120, 121, 122, 123, 124, 125, 126, 127, 128, 129, 130, 131, 132, 133, 134, 135] (by decide +kernel) (by decide +kernel)
set_option maxRecDepth 20000 in
theorem gX9_linkAfter_X9_passes : GoodIn wsX9_linkAfter (wsV RX9 263 RX9 yX9_passes wsX9_passes) := goodIn_app (goodIn_of _ (by decide +kernel)) ggX9_linkAfter_X9_passes
set_option maxRecDepth 20000 in
theorem ggX9_linkAfter_X9_ofLink : GoodIn wsX9_linkAfter wsX9_ofLink := goodIn_r _ [113, 1, 51, 52, 6, 53, 114, 115, 116, 117, 118, 119, 120, 121, 122, 123, 124, 125, 126, 127, 128, 129, 130, 131, 132, 133, 134, 135] (by decide +kernel) (by decide +kernel)
set_option maxRecDepth 20000 in
theorem gX9_linkAfter_X9_ofLink : GoodIn wsX9_linkAfter (wsV RX9 237 RX9 yX9_ofLink wsX9_ofLink) := goodIn_app (goodIn_of _ (by decide +kernel)) ggX9_linkAfter_X9_ofLink
theorem dX9_linkAfter_0 : decode cX9_linkAfter 0 = .ok (.aload_n 0, 1) := by decide +kernel
theorem dX9_linkAfter_1 : decode cX9_linkAfter 1 = .ok (.iload_n 1, 1) := by decide +kernel
theorem dX9_linkAfter_2 : decode cX9_linkAfter 2 = .ok (.invokevirtual 231, 3) := by decide +kernel
theorem dX9_linkAfter_5 : decode cX9_linkAfter 5 = .ok (.ifCond .ne 36, 3) := by decide +kernel
theorem dX9_linkAfter_8 : decode cX9_linkAfter 8 = .ok (.aload_n 0, 1) := by decide +kernel
theorem dX9_linkAfter_9 : decode cX9_linkAfter 9 = .ok (.iload_n 2, 1) := by decide +kernel
theorem dX9_linkAfter_10 : decode cX9_linkAfter 10 = .ok (.iconst 0, 1) := by decide +kernel
theorem dX9_linkAfter_11 : decode cX9_linkAfter 11 = .ok (.iconst 2, 1) := by decide +kernel
theorem dX9_linkAfter_12 : decode cX9_linkAfter 12 = .ok (.invokestatic 88, 3) := by decide +kernel
theorem dX9_linkAfter_15 : decode cX9_linkAfter 15 = .ok (.ifCond .eq 14, 3) := by decide +kernel
theorem dX9_linkAfter_18 : decode cX9_linkAfter 18 = .ok (.iload_n 3, 1) := by decide +kernel
theorem dX9_linkAfter_19 : decode cX9_linkAfter 19 = .ok (.iconst 0, 1) := by decide +kernel
theorem dX9_linkAfter_20 : decode cX9_linkAfter 20 = .ok (.sipush 1000, 3) := by decide +kernel
theorem dX9_linkAfter_23 : decode cX9_linkAfter 23 = .ok (.invokestatic 88, 3) := by decide +kernel
theorem dX9_linkAfter_26 : decode cX9_linkAfter 26 = .ok (.ifCond .ne 7, 3) := by decide +kernel
theorem dX9_linkAfter_29 : decode cX9_linkAfter 29 = .ok (.iconst 1, 1) := by decide +kernel
theorem dX9_linkAfter_30 : decode cX9_linkAfter 30 = .ok (.goto 4, 3) := by decide +kernel
theorem dX9_linkAfter_33 : decode cX9_linkAfter 33 = .ok (.iconst 0, 1) := by decide +kernel
theorem dX9_linkAfter_34 : decode cX9_linkAfter 34 = .ok (.iconst 2, 1) := by decide +kernel
theorem dX9_linkAfter_35 : decode cX9_linkAfter 35 = .ok (.invokevirtual 153, 3) := by decide +kernel
theorem dX9_linkAfter_38 : decode cX9_linkAfter 38 = .ok (.ifCond .eq 5, 3) := by decide +kernel
theorem dX9_linkAfter_41 : decode cX9_linkAfter 41 = .ok (.iconst 0, 1) := by decide +kernel
theorem dX9_linkAfter_42 : decode cX9_linkAfter 42 = .ok (.ireturn, 1) := by decide +kernel
theorem dX9_linkAfter_43 : decode cX9_linkAfter 43 = .ok (.aload_n 0, 1) := by decide +kernel
theorem dX9_linkAfter_44 : decode cX9_linkAfter 44 = .ok (.getfield 7, 3) := by decide +kernel
theorem dX9_linkAfter_47 : decode cX9_linkAfter 47 = .ok (.iconst 0, 1) := by decide +kernel
theorem dX9_linkAfter_48 : decode cX9_linkAfter 48 = .ok (.aload_n 0, 1) := by decide +kernel
theorem dX9_linkAfter_49 : decode cX9_linkAfter 49 = .ok (.getfield 33, 3) := by decide +kernel
theorem dX9_linkAfter_52 : decode cX9_linkAfter 52 = .ok (.iconst 0, 1) := by decide +kernel
theorem dX9_linkAfter_53 : decode cX9_linkAfter 53 = .ok (.sipush 214, 3) := by decide +kernel
theorem dX9_linkAfter_56 : decode cX9_linkAfter 56 = .ok (.invokestatic 259, 3) := by decide +kernel
theorem dX9_linkAfter_59 : decode cX9_linkAfter 59 = .ok (.iconst 0, 1) := by decide +kernel
theorem dX9_linkAfter_60 : decode cX9_linkAfter 60 = .ok (.istore 4, 2) := by decide +kernel
theorem dX9_linkAfter_62 : decode cX9_linkAfter 62 = .ok (.iload 4, 2) := by decide +kernel
theorem dX9_linkAfter_64 : decode cX9_linkAfter 64 = .ok (.iload_n 3, 1) := by decide +kernel
theorem dX9_linkAfter_65 : decode cX9_linkAfter 65 = .ok (.if_icmp .ge 13, 3) := by decide +kernel
theorem dX9_linkAfter_68 : decode cX9_linkAfter 68 = .ok (.aload_n 0, 1) := by decide +kernel
theorem dX9_linkAfter_69 : decode cX9_linkAfter 69 = .ok (.invokevirtual 263, 3) := by decide +kernel
theorem dX9_linkAfter_72 : decode cX9_linkAfter 72 = .ok (.iinc 4 1, 3) := by decide +kernel
theorem dX9_linkAfter_75 : decode cX9_linkAfter 75 = .ok (.goto (-13), 3) := by decide +kernel
theorem dX9_linkAfter_78 : decode cX9_linkAfter 78 = .ok (.aload_n 0, 1) := by decide +kernel
theorem dX9_linkAfter_79 : decode cX9_linkAfter 79 = .ok (.iload_n 1, 1) := by decide +kernel
theorem dX9_linkAfter_80 : decode cX9_linkAfter 80 = .ok (.iload_n 2, 1) := by decide +kernel
theorem dX9_linkAfter_81 : decode cX9_linkAfter 81 = .ok (.invokevirtual 237, 3) := by decide +kernel
theorem dX9_linkAfter_84 : decode cX9_linkAfter 84 = .ok (.istore 4, 2) := by decide +kernel
theorem dX9_linkAfter_86 : decode cX9_linkAfter 86 = .ok (.aload_n 0, 1) := by decide +kernel
theorem dX9_linkAfter_87 : decode cX9_linkAfter 87 = .ok (.getfield 33, 3) := by decide +kernel
theorem dX9_linkAfter_90 : decode cX9_linkAfter 90 = .ok (.iconst 0, 1) := by decide +kernel
theorem dX9_linkAfter_91 : decode cX9_linkAfter 91 = .ok (.aload_n 0, 1) := by decide +kernel
theorem dX9_linkAfter_92 : decode cX9_linkAfter 92 = .ok (.getfield 7, 3) := by decide +kernel
theorem dX9_linkAfter_95 : decode cX9_linkAfter 95 = .ok (.iconst 0, 1) := by decide +kernel
theorem dX9_linkAfter_96 : decode cX9_linkAfter 96 = .ok (.sipush 214, 3) := by decide +kernel
theorem dX9_linkAfter_99 : decode cX9_linkAfter 99 = .ok (.invokestatic 259, 3) := by decide +kernel
theorem dX9_linkAfter_102 : decode cX9_linkAfter 102 = .ok (.iload 4, 2) := by decide +kernel
theorem dX9_linkAfter_104 : decode cX9_linkAfter 104 = .ok (.ireturn, 1) := by decide +kernel
set_option maxRecDepth 20000 in
theorem ggX9_run_X9_within : GoodIn wsX9_run wsX9_within := goodIn_r _ [6] (by decide +kernel) (by decide +kernel)
set_option maxRecDepth 20000 in
theorem gX9_run_X9_within : GoodIn wsX9_run (va_wsS RX9 88 yX9_within wsX9_within) := goodIn_app (goodIn_of _ (by decide +kernel)) ggX9_run_X9_within
set_option maxRecDepth 20000 in
theorem ggX9_run_X9_throwsIf : GoodIn wsX9_run wsX9_throwsIf := goodIn_r _ [10, 1, 111, 112, 113, 114, 115, 116, 117, 118, 119, 120, 121, 122, 123, 124, 125, 126, 127, 128, 129, 130, 131, 132] (by decide +kernel) (by decide +kernel)
set_option maxRecDepth 20000 in
theorem gX9_run_X9_throwsIf : GoodIn wsX9_run (wsV RX9 153 RX9 yX9_throwsIf wsX9_throwsIf) := goodIn_app (goodIn_of _ (by decide +kernel)) ggX9_run_X9_throwsIf
set_option maxRecDepth 20000 in
theorem ggX9_run_X9_keeps : GoodIn wsX9_run wsX9_keeps := goodIn_r _ [14, 15, 16, 2, 17, 18, 5, 19, 111, 112, 113, 114, 115, 116, 117, 118, 119, 120, 121, 122, 123, 124, 125, 126, 127, 128, 129, 130, 131, 132] (by decide +kernel) (by decide +kernel)
set_option maxRecDepth 20000 in
theorem gX9_run_X9_keeps : GoodIn wsX9_run (wsV RX9 269 RX9 yX9_keeps wsX9_keeps) := goodIn_app (goodIn_of _ (by decide +kernel)) ggX9_run_X9_keeps
set_option maxRecDepth 20000 in
theorem ggX9_run_X9_passes : GoodIn wsX9_run wsX9_passes := goodIn_r _ [23, 2, 24, 25, 26, 5, 27, 28, 29, 30, 31, 32, 33, 34, 35, 36, 37, 38, 39, 40, 41, 42, 43, 44, 45, 46, 47, 48, 49, 50, 51, 52, 53, 54, 55, 56, 57, 58, 59, 60, 61, 62, 63, 64, 65, 66, 67, 68, 69, 70, 71, 72, 73, 74, 75, 76, 77, 78, 79, 80, 81, 82, 83, 84, 85, 86, 87, 88, 89, 90, 91, 92, 93, 94, 95, 3, 4, 6, 96, 97, 98, 99, 100, 101, 102, 103, 104, 105, 106, 107, 108, 109, 110, 111, 112, 113, 114, 115, 116, 117, 118, 119, 120, 121, 122, 123, 124, 125, 126, 127, 128, 129, 130, 131, 132] (by decide +kernel) (by decide +kernel)
set_option maxRecDepth 20000 in
theorem gX9_run_X9_passes : GoodIn wsX9_run (wsV RX9 263 RX9 yX9_passes wsX9_passes) := goodIn_app (goodIn_of _ (by decide +kernel)) ggX9_run_X9_passes
theorem dX9_run_0 : decode cX9_run 0 = .ok (.aload_n 0, 1) := by decide +kernel
theorem dX9_run_1 : decode cX9_run 1 = .ok (.iconst 0, 1) := by decide +kernel
theorem dX9_run_2 : decode cX9_run 2 = .ok (.putfield 55, 3) := by decide +kernel
theorem dX9_run_5 : decode cX9_run 5 = .ok (.aload_n 0, 1) := by decide +kernel
theorem dX9_run_6 : decode cX9_run 6 = .ok (.iload_n 1, 1) := by decide +kernel
theorem dX9_run_7 : decode cX9_run 7 = .ok (.iconst 1, 1) := by decide +kernel
theorem dX9_run_8 : decode cX9_run 8 = .ok (.sipush 1000, 3) := by decide +kernel
theorem dX9_run_11 : decode cX9_run 11 = .ok (.invokestatic 88, 3) := by decide +kernel
theorem dX9_run_14 : decode cX9_run 14 = .ok (.ifCond .ne 7, 3) := by decide +kernel
theorem dX9_run_17 : decode cX9_run 17 = .ok (.iconst 1, 1) := by decide +kernel
theorem dX9_run_18 : decode cX9_run 18 = .ok (.goto 4, 3) := by decide +kernel
theorem dX9_run_21 : decode cX9_run 21 = .ok (.iconst 0, 1) := by decide +kernel
theorem dX9_run_22 : decode cX9_run 22 = .ok (.iconst 1, 1) := by decide +kernel
theorem dX9_run_23 : decode cX9_run 23 = .ok (.invokevirtual 153, 3) := by decide +kernel
theorem dX9_run_26 : decode cX9_run 26 = .ok (.ifCond .ne 30, 3) := by decide +kernel
theorem dX9_run_29 : decode cX9_run 29 = .ok (.aload_n 0, 1) := by decide +kernel
theorem dX9_run_30 : decode cX9_run 30 = .ok (.aload_n 0, 1) := by decide +kernel
theorem dX9_run_31 : decode cX9_run 31 = .ok (.getfield 7, 3) := by decide +kernel
theorem dX9_run_34 : decode cX9_run 34 = .ok (.iconst 0, 1) := by decide +kernel
theorem dX9_run_35 : decode cX9_run 35 = .ok (.iaload, 1) := by decide +kernel
theorem dX9_run_36 : decode cX9_run 36 = .ok (.iload_n 1, 1) := by decide +kernel
theorem dX9_run_37 : decode cX9_run 37 = .ok (.iadd, 1) := by decide +kernel
theorem dX9_run_38 : decode cX9_run 38 = .ok (.sipush 9999, 3) := by decide +kernel
theorem dX9_run_41 : decode cX9_run 41 = .ok (.if_icmp .le 7, 3) := by decide +kernel
theorem dX9_run_44 : decode cX9_run 44 = .ok (.iconst 1, 1) := by decide +kernel
theorem dX9_run_45 : decode cX9_run 45 = .ok (.goto 4, 3) := by decide +kernel
theorem dX9_run_48 : decode cX9_run 48 = .ok (.iconst 0, 1) := by decide +kernel
theorem dX9_run_49 : decode cX9_run 49 = .ok (.iconst 2, 1) := by decide +kernel
theorem dX9_run_50 : decode cX9_run 50 = .ok (.invokevirtual 153, 3) := by decide +kernel
theorem dX9_run_53 : decode cX9_run 53 = .ok (.ifCond .eq 5, 3) := by decide +kernel
theorem dX9_run_56 : decode cX9_run 56 = .ok (.iconst 0, 1) := by decide +kernel
theorem dX9_run_57 : decode cX9_run 57 = .ok (.ireturn, 1) := by decide +kernel
theorem dX9_run_58 : decode cX9_run 58 = .ok (.aload_n 0, 1) := by decide +kernel
theorem dX9_run_59 : decode cX9_run 59 = .ok (.invokevirtual 269, 3) := by decide +kernel
theorem dX9_run_62 : decode cX9_run 62 = .ok (.iconst 0, 1) := by decide +kernel
theorem dX9_run_63 : decode cX9_run 63 = .ok (.istore_n 2, 1) := by decide +kernel
theorem dX9_run_64 : decode cX9_run 64 = .ok (.iload_n 2, 1) := by decide +kernel
theorem dX9_run_65 : decode cX9_run 65 = .ok (.iload_n 1, 1) := by decide +kernel
theorem dX9_run_66 : decode cX9_run 66 = .ok (.if_icmp .ge 13, 3) := by decide +kernel
theorem dX9_run_69 : decode cX9_run 69 = .ok (.aload_n 0, 1) := by decide +kernel
theorem dX9_run_70 : decode cX9_run 70 = .ok (.invokevirtual 263, 3) := by decide +kernel
theorem dX9_run_73 : decode cX9_run 73 = .ok (.iinc 2 1, 3) := by decide +kernel
theorem dX9_run_76 : decode cX9_run 76 = .ok (.goto (-12), 3) := by decide +kernel
theorem dX9_run_79 : decode cX9_run 79 = .ok (.aload_n 0, 1) := by decide +kernel
theorem dX9_run_80 : decode cX9_run 80 = .ok (.getfield 7, 3) := by decide +kernel
theorem dX9_run_83 : decode cX9_run 83 = .ok (.iconst 1, 1) := by decide +kernel
theorem dX9_run_84 : decode cX9_run 84 = .ok (.iaload, 1) := by decide +kernel
theorem dX9_run_85 : decode cX9_run 85 = .ok (.ireturn, 1) := by decide +kernel
set_option maxRecDepth 20000 in
theorem ggX9_setMode_X9_within : GoodIn wsX9_setMode wsX9_within := goodIn_r _ [6] (by decide +kernel) (by decide +kernel)
set_option maxRecDepth 20000 in
theorem gX9_setMode_X9_within : GoodIn wsX9_setMode (va_wsS RX9 88 yX9_within wsX9_within) := goodIn_app (goodIn_of _ (by decide +kernel)) ggX9_setMode_X9_within
set_option maxRecDepth 20000 in
theorem ggX9_setMode_X9_throwsIf : GoodIn wsX9_setMode wsX9_throwsIf := goodIn_r _ [10, 1, 20, 21, 22, 23, 24, 25, 26, 27, 28, 29, 30, 31, 32, 33, 34, 35, 36, 37, 38, 39, 40, 41] (by decide +kernel) (by decide +kernel)
set_option maxRecDepth 20000 in
theorem gX9_setMode_X9_throwsIf : GoodIn wsX9_setMode (wsV RX9 153 RX9 yX9_throwsIf wsX9_throwsIf) := goodIn_app (goodIn_of _ (by decide +kernel)) ggX9_setMode_X9_throwsIf
set_option maxRecDepth 20000 in
theorem ggX9_setMode_X9_keeps : GoodIn wsX9_setMode wsX9_keeps := goodIn_r _ [14, 15, 16, 2, 17, 18, 5, 19, 20, 21, 22, 23, 24, 25, 26, 27, 28, 29, 30, 31, 32, 33, 34, 35, 36, 37, 38, 39, 40, 41] (by decide +kernel) (by decide +kernel)
set_option maxRecDepth 20000 in
theorem gX9_setMode_X9_keeps : GoodIn wsX9_setMode (wsV RX9 269 RX9 yX9_keeps wsX9_keeps) := goodIn_app (goodIn_of _ (by decide +kernel)) ggX9_setMode_X9_keeps
theorem dX9_setMode_0 : decode cX9_setMode 0 = .ok (.aload_n 0, 1) := by decide +kernel
theorem dX9_setMode_1 : decode cX9_setMode 1 = .ok (.iconst 0, 1) := by decide +kernel
theorem dX9_setMode_2 : decode cX9_setMode 2 = .ok (.putfield 55, 3) := by decide +kernel
theorem dX9_setMode_5 : decode cX9_setMode 5 = .ok (.aload_n 0, 1) := by decide +kernel
theorem dX9_setMode_6 : decode cX9_setMode 6 = .ok (.iload_n 1, 1) := by decide +kernel
theorem dX9_setMode_7 : decode cX9_setMode 7 = .ok (.iconst 0, 1) := by decide +kernel
theorem dX9_setMode_8 : decode cX9_setMode 8 = .ok (.iconst 2, 1) := by decide +kernel
theorem dX9_setMode_9 : decode cX9_setMode 9 = .ok (.invokestatic 88, 3) := by decide +kernel
theorem dX9_setMode_12 : decode cX9_setMode 12 = .ok (.ifCond .ne 7, 3) := by decide +kernel
theorem dX9_setMode_15 : decode cX9_setMode 15 = .ok (.iconst 1, 1) := by decide +kernel
theorem dX9_setMode_16 : decode cX9_setMode 16 = .ok (.goto 4, 3) := by decide +kernel
theorem dX9_setMode_19 : decode cX9_setMode 19 = .ok (.iconst 0, 1) := by decide +kernel
theorem dX9_setMode_20 : decode cX9_setMode 20 = .ok (.iconst 1, 1) := by decide +kernel
theorem dX9_setMode_21 : decode cX9_setMode 21 = .ok (.invokevirtual 153, 3) := by decide +kernel
theorem dX9_setMode_24 : decode cX9_setMode 24 = .ok (.ifCond .ne 26, 3) := by decide +kernel
theorem dX9_setMode_27 : decode cX9_setMode 27 = .ok (.aload_n 0, 1) := by decide +kernel
theorem dX9_setMode_28 : decode cX9_setMode 28 = .ok (.aload_n 0, 1) := by decide +kernel
theorem dX9_setMode_29 : decode cX9_setMode 29 = .ok (.getfield 7, 3) := by decide +kernel
theorem dX9_setMode_32 : decode cX9_setMode 32 = .ok (.iconst 1, 1) := by decide +kernel
theorem dX9_setMode_33 : decode cX9_setMode 33 = .ok (.iaload, 1) := by decide +kernel
theorem dX9_setMode_34 : decode cX9_setMode 34 = .ok (.iconst 3, 1) := by decide +kernel
theorem dX9_setMode_35 : decode cX9_setMode 35 = .ok (.if_icmp .ne 7, 3) := by decide +kernel
theorem dX9_setMode_38 : decode cX9_setMode 38 = .ok (.iconst 1, 1) := by decide +kernel
theorem dX9_setMode_39 : decode cX9_setMode 39 = .ok (.goto 4, 3) := by decide +kernel
theorem dX9_setMode_42 : decode cX9_setMode 42 = .ok (.iconst 0, 1) := by decide +kernel
theorem dX9_setMode_43 : decode cX9_setMode 43 = .ok (.iconst 2, 1) := by decide +kernel
theorem dX9_setMode_44 : decode cX9_setMode 44 = .ok (.invokevirtual 153, 3) := by decide +kernel
theorem dX9_setMode_47 : decode cX9_setMode 47 = .ok (.ifCond .eq 5, 3) := by decide +kernel
theorem dX9_setMode_50 : decode cX9_setMode 50 = .ok (.iconst 0, 1) := by decide +kernel
theorem dX9_setMode_51 : decode cX9_setMode 51 = .ok (.ireturn, 1) := by decide +kernel
theorem dX9_setMode_52 : decode cX9_setMode 52 = .ok (.aload_n 0, 1) := by decide +kernel
theorem dX9_setMode_53 : decode cX9_setMode 53 = .ok (.invokevirtual 269, 3) := by decide +kernel
theorem dX9_setMode_56 : decode cX9_setMode 56 = .ok (.aload_n 0, 1) := by decide +kernel
theorem dX9_setMode_57 : decode cX9_setMode 57 = .ok (.getfield 7, 3) := by decide +kernel
theorem dX9_setMode_60 : decode cX9_setMode 60 = .ok (.iconst 1, 1) := by decide +kernel
theorem dX9_setMode_61 : decode cX9_setMode 61 = .ok (.iaload, 1) := by decide +kernel
theorem dX9_setMode_62 : decode cX9_setMode 62 = .ok (.istore_n 2, 1) := by decide +kernel
theorem dX9_setMode_63 : decode cX9_setMode 63 = .ok (.aload_n 0, 1) := by decide +kernel
theorem dX9_setMode_64 : decode cX9_setMode 64 = .ok (.getfield 7, 3) := by decide +kernel
theorem dX9_setMode_67 : decode cX9_setMode 67 = .ok (.iconst 1, 1) := by decide +kernel
theorem dX9_setMode_68 : decode cX9_setMode 68 = .ok (.iload_n 1, 1) := by decide +kernel
theorem dX9_setMode_69 : decode cX9_setMode 69 = .ok (.iastore, 1) := by decide +kernel
theorem dX9_setMode_70 : decode cX9_setMode 70 = .ok (.iload_n 2, 1) := by decide +kernel
theorem dX9_setMode_71 : decode cX9_setMode 71 = .ok (.ireturn, 1) := by decide +kernel
set_option maxRecDepth 20000 in
theorem ggX9_reset_X9_within : GoodIn wsX9_reset wsX9_within := goodIn_r _ [6] (by decide +kernel) (by decide +kernel)
set_option maxRecDepth 20000 in
theorem gX9_reset_X9_within : GoodIn wsX9_reset (va_wsS RX9 88 yX9_within wsX9_within) := goodIn_app (goodIn_of _ (by decide +kernel)) ggX9_reset_X9_within
set_option maxRecDepth 20000 in
theorem ggX9_reset_X9_throwsIf : GoodIn wsX9_reset wsX9_throwsIf := goodIn_r _ [10, 1, 20, 21, 22, 23, 24, 25, 26, 27, 28, 29, 30, 31, 32, 33, 34, 35, 36, 37, 38, 39, 40, 41] (by decide +kernel) (by decide +kernel)
set_option maxRecDepth 20000 in
theorem gX9_reset_X9_throwsIf : GoodIn wsX9_reset (wsV RX9 153 RX9 yX9_throwsIf wsX9_throwsIf) := goodIn_app (goodIn_of _ (by decide +kernel)) ggX9_reset_X9_throwsIf
set_option maxRecDepth 20000 in
theorem ggX9_reset_X9_keeps : GoodIn wsX9_reset wsX9_keeps := goodIn_r _ [14, 15, 16, 2, 17, 18, 5, 19, 20, 21, 22, 23, 24, 25, 26, 27, 28, 29, 30, 31, 32, 33, 34, 35, 36, 37, 38, 39, 40, 41] (by decide +kernel) (by decide +kernel)
set_option maxRecDepth 20000 in
theorem gX9_reset_X9_keeps : GoodIn wsX9_reset (wsV RX9 269 RX9 yX9_keeps wsX9_keeps) := goodIn_app (goodIn_of _ (by decide +kernel)) ggX9_reset_X9_keeps
theorem dX9_reset_0 : decode cX9_reset 0 = .ok (.aload_n 0, 1) := by decide +kernel
theorem dX9_reset_1 : decode cX9_reset 1 = .ok (.iconst 0, 1) := by decide +kernel
theorem dX9_reset_2 : decode cX9_reset 2 = .ok (.putfield 55, 3) := by decide +kernel
theorem dX9_reset_5 : decode cX9_reset 5 = .ok (.aload_n 0, 1) := by decide +kernel
theorem dX9_reset_6 : decode cX9_reset 6 = .ok (.iload_n 1, 1) := by decide +kernel
theorem dX9_reset_7 : decode cX9_reset 7 = .ok (.iconst 0, 1) := by decide +kernel
theorem dX9_reset_8 : decode cX9_reset 8 = .ok (.sipush 4095, 3) := by decide +kernel
theorem dX9_reset_11 : decode cX9_reset 11 = .ok (.invokestatic 88, 3) := by decide +kernel
theorem dX9_reset_14 : decode cX9_reset 14 = .ok (.ifCond .eq 14, 3) := by decide +kernel
theorem dX9_reset_17 : decode cX9_reset 17 = .ok (.iload_n 2, 1) := by decide +kernel
theorem dX9_reset_18 : decode cX9_reset 18 = .ok (.iconst 0, 1) := by decide +kernel
theorem dX9_reset_19 : decode cX9_reset 19 = .ok (.sipush 4095, 3) := by decide +kernel
theorem dX9_reset_22 : decode cX9_reset 22 = .ok (.invokestatic 88, 3) := by decide +kernel
theorem dX9_reset_25 : decode cX9_reset 25 = .ok (.ifCond .ne 7, 3) := by decide +kernel
theorem dX9_reset_28 : decode cX9_reset 28 = .ok (.iconst 1, 1) := by decide +kernel
theorem dX9_reset_29 : decode cX9_reset 29 = .ok (.goto 4, 3) := by decide +kernel
theorem dX9_reset_32 : decode cX9_reset 32 = .ok (.iconst 0, 1) := by decide +kernel
theorem dX9_reset_33 : decode cX9_reset 33 = .ok (.iconst 1, 1) := by decide +kernel
theorem dX9_reset_34 : decode cX9_reset 34 = .ok (.invokevirtual 153, 3) := by decide +kernel
theorem dX9_reset_37 : decode cX9_reset 37 = .ok (.ifCond .eq 5, 3) := by decide +kernel
theorem dX9_reset_40 : decode cX9_reset 40 = .ok (.iconst 0, 1) := by decide +kernel
theorem dX9_reset_41 : decode cX9_reset 41 = .ok (.ireturn, 1) := by decide +kernel
theorem dX9_reset_42 : decode cX9_reset 42 = .ok (.aload_n 0, 1) := by decide +kernel
theorem dX9_reset_43 : decode cX9_reset 43 = .ok (.invokevirtual 269, 3) := by decide +kernel
theorem dX9_reset_46 : decode cX9_reset 46 = .ok (.aload_n 0, 1) := by decide +kernel
theorem dX9_reset_47 : decode cX9_reset 47 = .ok (.getfield 7, 3) := by decide +kernel
theorem dX9_reset_50 : decode cX9_reset 50 = .ok (.iconst 1, 1) := by decide +kernel
theorem dX9_reset_51 : decode cX9_reset 51 = .ok (.iaload, 1) := by decide +kernel
theorem dX9_reset_52 : decode cX9_reset 52 = .ok (.istore_n 3, 1) := by decide +kernel
theorem dX9_reset_53 : decode cX9_reset 53 = .ok (.aload_n 0, 1) := by decide +kernel
theorem dX9_reset_54 : decode cX9_reset 54 = .ok (.getfield 7, 3) := by decide +kernel
theorem dX9_reset_57 : decode cX9_reset 57 = .ok (.iconst 1, 1) := by decide +kernel
theorem dX9_reset_58 : decode cX9_reset 58 = .ok (.iconst 0, 1) := by decide +kernel
theorem dX9_reset_59 : decode cX9_reset 59 = .ok (.iastore, 1) := by decide +kernel
theorem dX9_reset_60 : decode cX9_reset 60 = .ok (.aload_n 0, 1) := by decide +kernel
theorem dX9_reset_61 : decode cX9_reset 61 = .ok (.getfield 7, 3) := by decide +kernel
theorem dX9_reset_64 : decode cX9_reset 64 = .ok (.iconst 2, 1) := by decide +kernel
theorem dX9_reset_65 : decode cX9_reset 65 = .ok (.iconst 0, 1) := by decide +kernel
theorem dX9_reset_66 : decode cX9_reset 66 = .ok (.iastore, 1) := by decide +kernel
theorem dX9_reset_67 : decode cX9_reset 67 = .ok (.aload_n 0, 1) := by decide +kernel
theorem dX9_reset_68 : decode cX9_reset 68 = .ok (.getfield 7, 3) := by decide +kernel
theorem dX9_reset_71 : decode cX9_reset 71 = .ok (.iconst 3, 1) := by decide +kernel
theorem dX9_reset_72 : decode cX9_reset 72 = .ok (.iconst 0, 1) := by decide +kernel
theorem dX9_reset_73 : decode cX9_reset 73 = .ok (.iastore, 1) := by decide +kernel
theorem dX9_reset_74 : decode cX9_reset 74 = .ok (.aload_n 0, 1) := by decide +kernel
theorem dX9_reset_75 : decode cX9_reset 75 = .ok (.getfield 7, 3) := by decide +kernel
theorem dX9_reset_78 : decode cX9_reset 78 = .ok (.iconst 4, 1) := by decide +kernel
theorem dX9_reset_79 : decode cX9_reset 79 = .ok (.iconst 0, 1) := by decide +kernel
theorem dX9_reset_80 : decode cX9_reset 80 = .ok (.iastore, 1) := by decide +kernel
theorem dX9_reset_81 : decode cX9_reset 81 = .ok (.aload_n 0, 1) := by decide +kernel
theorem dX9_reset_82 : decode cX9_reset 82 = .ok (.getfield 7, 3) := by decide +kernel
theorem dX9_reset_85 : decode cX9_reset 85 = .ok (.bipush 10, 2) := by decide +kernel
theorem dX9_reset_87 : decode cX9_reset 87 = .ok (.iload_n 1, 1) := by decide +kernel
theorem dX9_reset_88 : decode cX9_reset 88 = .ok (.iastore, 1) := by decide +kernel
theorem dX9_reset_89 : decode cX9_reset 89 = .ok (.aload_n 0, 1) := by decide +kernel
theorem dX9_reset_90 : decode cX9_reset 90 = .ok (.getfield 7, 3) := by decide +kernel
theorem dX9_reset_93 : decode cX9_reset 93 = .ok (.bipush 11, 2) := by decide +kernel
theorem dX9_reset_95 : decode cX9_reset 95 = .ok (.iload_n 2, 1) := by decide +kernel
theorem dX9_reset_96 : decode cX9_reset 96 = .ok (.iastore, 1) := by decide +kernel
theorem dX9_reset_97 : decode cX9_reset 97 = .ok (.aload_n 0, 1) := by decide +kernel
theorem dX9_reset_98 : decode cX9_reset 98 = .ok (.getfield 7, 3) := by decide +kernel
theorem dX9_reset_101 : decode cX9_reset 101 = .ok (.bipush 12, 2) := by decide +kernel
theorem dX9_reset_103 : decode cX9_reset 103 = .ok (.iconst 0, 1) := by decide +kernel
theorem dX9_reset_104 : decode cX9_reset 104 = .ok (.iastore, 1) := by decide +kernel
theorem dX9_reset_105 : decode cX9_reset 105 = .ok (.aload_n 0, 1) := by decide +kernel
theorem dX9_reset_106 : decode cX9_reset 106 = .ok (.getfield 7, 3) := by decide +kernel
theorem dX9_reset_109 : decode cX9_reset 109 = .ok (.bipush 13, 2) := by decide +kernel
theorem dX9_reset_111 : decode cX9_reset 111 = .ok (.iconst 0, 1) := by decide +kernel
theorem dX9_reset_112 : decode cX9_reset 112 = .ok (.iastore, 1) := by decide +kernel
theorem dX9_reset_113 : decode cX9_reset 113 = .ok (.aload_n 0, 1) := by decide +kernel
theorem dX9_reset_114 : decode cX9_reset 114 = .ok (.getfield 7, 3) := by decide +kernel
theorem dX9_reset_117 : decode cX9_reset 117 = .ok (.bipush 8, 2) := by decide +kernel
theorem dX9_reset_119 : decode cX9_reset 119 = .ok (.dup2, 1) := by decide +kernel
theorem dX9_reset_120 : decode cX9_reset 120 = .ok (.iaload, 1) := by decide +kernel
theorem dX9_reset_121 : decode cX9_reset 121 = .ok (.iconst 1, 1) := by decide +kernel
theorem dX9_reset_122 : decode cX9_reset 122 = .ok (.iadd, 1) := by decide +kernel
theorem dX9_reset_123 : decode cX9_reset 123 = .ok (.iastore, 1) := by decide +kernel
theorem dX9_reset_124 : decode cX9_reset 124 = .ok (.iload_n 3, 1) := by decide +kernel
theorem dX9_reset_125 : decode cX9_reset 125 = .ok (.ireturn, 1) := by decide +kernel
set_option maxRecDepth 20000 in
theorem ggX9_nudge_X9_noLink : GoodIn wsX9_nudge wsX9_noLink := goodIn_r _ [6, 7, 8, 9, 5, 10, 11, 12, 13, 14, 27, 28, 29, 30, 31, 32, 33, 34, 35, 36, 37, 38, 39, 40, 41, 42, 43, 44, 45, 46, 47, 48] (by decide +kernel) (by decide +kernel)
set_option maxRecDepth 20000 in
theorem gX9_nudge_X9_noLink : GoodIn wsX9_nudge (wsV RX9 231 RX9 yX9_noLink wsX9_noLink) := goodIn_app (goodIn_of _ (by decide +kernel)) ggX9_nudge_X9_noLink
set_option maxRecDepth 20000 in
theorem ggX9_nudge_X9_within : GoodIn wsX9_nudge wsX9_within := goodIn_r _ [10] (by decide +kernel) (by decide +kernel)
set_option maxRecDepth 20000 in
theorem gX9_nudge_X9_within : GoodIn wsX9_nudge (va_wsS RX9 88 yX9_within wsX9_within) := goodIn_app (goodIn_of _ (by decide +kernel)) ggX9_nudge_X9_within
set_option maxRecDepth 20000 in
theorem ggX9_nudge_X9_throwsIf : GoodIn wsX9_nudge wsX9_throwsIf := goodIn_r _ [14, 7, 27, 28, 29, 30, 31, 32, 33, 34, 35, 36, 37, 38, 39, 40, 41, 42, 43, 44, 45, 46, 47, 48] (by decide +kernel) (by decide +kernel)
set_option maxRecDepth 20000 in
theorem gX9_nudge_X9_throwsIf : GoodIn wsX9_nudge (wsV RX9 153 RX9 yX9_throwsIf wsX9_throwsIf) := goodIn_app (goodIn_of _ (by decide +kernel)) ggX9_nudge_X9_throwsIf
set_option maxRecDepth 20000 in
theorem ggX9_nudge_X9_isBeyond : GoodIn wsX9_nudge wsX9_isBeyond := goodIn_r _ [17] (by decide +kernel) (by decide +kernel)
set_option maxRecDepth 20000 in
theorem gX9_nudge_X9_isBeyond : GoodIn wsX9_nudge (va_wsS RX9 191 yX9_isBeyond wsX9_isBeyond) := goodIn_app (goodIn_of _ (by decide +kernel)) ggX9_nudge_X9_isBeyond
set_option maxRecDepth 20000 in
theorem ggX9_nudge_X9_keeps : GoodIn wsX9_nudge wsX9_keeps := goodIn_r _ [21, 22, 23, 1, 24, 25, 5, 26, 27, 28, 29, 30, 31, 32, 33, 34, 35, 36, 37, 38, 39, 40, 41, 42, 43, 44, 45, 46, 47, 48] (by decide +kernel) (by decide +kernel)
set_option maxRecDepth 20000 in
theorem gX9_nudge_X9_keeps : GoodIn wsX9_nudge (wsV RX9 269 RX9 yX9_keeps wsX9_keeps) := goodIn_app (goodIn_of _ (by decide +kernel)) ggX9_nudge_X9_keeps
theorem dX9_nudge_0 : decode cX9_nudge 0 = .ok (.aload_n 0, 1) := by decide +kernel
theorem dX9_nudge_1 : decode cX9_nudge 1 = .ok (.iload_n 1, 1) := by decide +kernel
theorem dX9_nudge_2 : decode cX9_nudge 2 = .ok (.invokevirtual 231, 3) := by decide +kernel
theorem dX9_nudge_5 : decode cX9_nudge 5 = .ok (.ifCond .ne 29, 3) := by decide +kernel
theorem dX9_nudge_8 : decode cX9_nudge 8 = .ok (.aload_n 0, 1) := by decide +kernel
theorem dX9_nudge_9 : decode cX9_nudge 9 = .ok (.iload_n 2, 1) := by decide +kernel
theorem dX9_nudge_10 : decode cX9_nudge 10 = .ok (.sipush (-500), 3) := by decide +kernel
theorem dX9_nudge_13 : decode cX9_nudge 13 = .ok (.sipush 500, 3) := by decide +kernel
theorem dX9_nudge_16 : decode cX9_nudge 16 = .ok (.invokestatic 88, 3) := by decide +kernel
theorem dX9_nudge_19 : decode cX9_nudge 19 = .ok (.ifCond .ne 7, 3) := by decide +kernel
theorem dX9_nudge_22 : decode cX9_nudge 22 = .ok (.iconst 1, 1) := by decide +kernel
theorem dX9_nudge_23 : decode cX9_nudge 23 = .ok (.goto 4, 3) := by decide +kernel
theorem dX9_nudge_26 : decode cX9_nudge 26 = .ok (.iconst 0, 1) := by decide +kernel
theorem dX9_nudge_27 : decode cX9_nudge 27 = .ok (.iconst 2, 1) := by decide +kernel
theorem dX9_nudge_28 : decode cX9_nudge 28 = .ok (.invokevirtual 153, 3) := by decide +kernel
theorem dX9_nudge_31 : decode cX9_nudge 31 = .ok (.ifCond .eq 5, 3) := by decide +kernel
theorem dX9_nudge_34 : decode cX9_nudge 34 = .ok (.iconst 0, 1) := by decide +kernel
theorem dX9_nudge_35 : decode cX9_nudge 35 = .ok (.ireturn, 1) := by decide +kernel
theorem dX9_nudge_36 : decode cX9_nudge 36 = .ok (.aload_n 0, 1) := by decide +kernel
theorem dX9_nudge_37 : decode cX9_nudge 37 = .ok (.getfield 7, 3) := by decide +kernel
theorem dX9_nudge_40 : decode cX9_nudge 40 = .ok (.bipush 12, 2) := by decide +kernel
theorem dX9_nudge_42 : decode cX9_nudge 42 = .ok (.iload_n 1, 1) := by decide +kernel
theorem dX9_nudge_43 : decode cX9_nudge 43 = .ok (.iadd, 1) := by decide +kernel
theorem dX9_nudge_44 : decode cX9_nudge 44 = .ok (.iconst 1, 1) := by decide +kernel
theorem dX9_nudge_45 : decode cX9_nudge 45 = .ok (.isub, 1) := by decide +kernel
theorem dX9_nudge_46 : decode cX9_nudge 46 = .ok (.iaload, 1) := by decide +kernel
theorem dX9_nudge_47 : decode cX9_nudge 47 = .ok (.iload_n 2, 1) := by decide +kernel
theorem dX9_nudge_48 : decode cX9_nudge 48 = .ok (.iadd, 1) := by decide +kernel
theorem dX9_nudge_49 : decode cX9_nudge 49 = .ok (.istore_n 3, 1) := by decide +kernel
theorem dX9_nudge_50 : decode cX9_nudge 50 = .ok (.aload_n 0, 1) := by decide +kernel
theorem dX9_nudge_51 : decode cX9_nudge 51 = .ok (.aload_n 0, 1) := by decide +kernel
theorem dX9_nudge_52 : decode cX9_nudge 52 = .ok (.getfield 7, 3) := by decide +kernel
theorem dX9_nudge_55 : decode cX9_nudge 55 = .ok (.iconst 1, 1) := by decide +kernel
theorem dX9_nudge_56 : decode cX9_nudge 56 = .ok (.iaload, 1) := by decide +kernel
theorem dX9_nudge_57 : decode cX9_nudge 57 = .ok (.iconst 3, 1) := by decide +kernel
theorem dX9_nudge_58 : decode cX9_nudge 58 = .ok (.if_icmp .eq 13, 3) := by decide +kernel
theorem dX9_nudge_61 : decode cX9_nudge 61 = .ok (.iload_n 3, 1) := by decide +kernel
theorem dX9_nudge_62 : decode cX9_nudge 62 = .ok (.sipush 9999, 3) := by decide +kernel
theorem dX9_nudge_65 : decode cX9_nudge 65 = .ok (.invokestatic 191, 3) := by decide +kernel
theorem dX9_nudge_68 : decode cX9_nudge 68 = .ok (.ifCond .eq 7, 3) := by decide +kernel
theorem dX9_nudge_71 : decode cX9_nudge 71 = .ok (.iconst 1, 1) := by decide +kernel
theorem dX9_nudge_72 : decode cX9_nudge 72 = .ok (.goto 4, 3) := by decide +kernel
theorem dX9_nudge_75 : decode cX9_nudge 75 = .ok (.iconst 0, 1) := by decide +kernel
theorem dX9_nudge_76 : decode cX9_nudge 76 = .ok (.iconst 3, 1) := by decide +kernel
theorem dX9_nudge_77 : decode cX9_nudge 77 = .ok (.invokevirtual 153, 3) := by decide +kernel
theorem dX9_nudge_80 : decode cX9_nudge 80 = .ok (.ifCond .eq 5, 3) := by decide +kernel
theorem dX9_nudge_83 : decode cX9_nudge 83 = .ok (.iconst 0, 1) := by decide +kernel
theorem dX9_nudge_84 : decode cX9_nudge 84 = .ok (.ireturn, 1) := by decide +kernel
theorem dX9_nudge_85 : decode cX9_nudge 85 = .ok (.aload_n 0, 1) := by decide +kernel
theorem dX9_nudge_86 : decode cX9_nudge 86 = .ok (.invokevirtual 269, 3) := by decide +kernel
theorem dX9_nudge_89 : decode cX9_nudge 89 = .ok (.aload_n 0, 1) := by decide +kernel
theorem dX9_nudge_90 : decode cX9_nudge 90 = .ok (.getfield 7, 3) := by decide +kernel
theorem dX9_nudge_93 : decode cX9_nudge 93 = .ok (.bipush 12, 2) := by decide +kernel
theorem dX9_nudge_95 : decode cX9_nudge 95 = .ok (.iload_n 1, 1) := by decide +kernel
theorem dX9_nudge_96 : decode cX9_nudge 96 = .ok (.iadd, 1) := by decide +kernel
theorem dX9_nudge_97 : decode cX9_nudge 97 = .ok (.iconst 1, 1) := by decide +kernel
theorem dX9_nudge_98 : decode cX9_nudge 98 = .ok (.isub, 1) := by decide +kernel
theorem dX9_nudge_99 : decode cX9_nudge 99 = .ok (.iload_n 3, 1) := by decide +kernel
theorem dX9_nudge_100 : decode cX9_nudge 100 = .ok (.iastore, 1) := by decide +kernel
theorem dX9_nudge_101 : decode cX9_nudge 101 = .ok (.iload_n 3, 1) := by decide +kernel
theorem dX9_nudge_102 : decode cX9_nudge 102 = .ok (.ireturn, 1) := by decide +kernel
set_option maxRecDepth 20000 in
theorem ggX9_setForce_X9_within : GoodIn wsX9_setForce wsX9_within := goodIn_r _ [6] (by decide +kernel) (by decide +kernel)
set_option maxRecDepth 20000 in
theorem gX9_setForce_X9_within : GoodIn wsX9_setForce (va_wsS RX9 88 yX9_within wsX9_within) := goodIn_app (goodIn_of _ (by decide +kernel)) ggX9_setForce_X9_within
set_option maxRecDepth 20000 in
theorem ggX9_setForce_X9_throwsIf : GoodIn wsX9_setForce wsX9_throwsIf := goodIn_r _ [10, 1, 73, 74, 75, 76, 77, 78, 79, 80, 81, 82, 83, 84, 85, 86, 87, 88, 89, 90, 91, 92, 93, 94] (by decide +kernel) (by decide +kernel)
set_option maxRecDepth 20000 in
theorem gX9_setForce_X9_throwsIf : GoodIn wsX9_setForce (wsV RX9 153 RX9 yX9_throwsIf wsX9_throwsIf) := goodIn_app (goodIn_of _ (by decide +kernel)) ggX9_setForce_X9_throwsIf
set_option maxRecDepth 20000 in
theorem ggX9_setForce_X9_keeps : GoodIn wsX9_setForce wsX9_keeps := goodIn_r _ [14, 15, 16, 2, 17, 18, 5, 19, 73, 74, 75, 76, 77, 78, 79, 80, 81, 82, 83, 84, 85, 86, 87, 88, 89, 90, 91, 92, 93, 94] (by decide +kernel) (by decide +kernel)
set_option maxRecDepth 20000 in
theorem gX9_setForce_X9_keeps : GoodIn wsX9_setForce (wsV RX9 269 RX9 yX9_keeps wsX9_keeps) := goodIn_app (goodIn_of _ (by decide +kernel)) ggX9_setForce_X9_keeps
set_option maxRecDepth 20000 in
theorem ggX9_setForce_X9_cells : GoodIn wsX9_setForce wsX9_cells := goodIn_r _ [23, 24, 25, 26, 27, 28, 5, 29, 30, 2, 31, 32, 33, 34, 35, 36, 37, 38, 39, 40, 41, 42, 43, 44, 45, 46, 47, 48, 49, 50, 51, 52, 53, 54, 55, 56, 57, 58, 59, 60, 61, 62, 63, 64, 65, 66, 67, 68, 69, 70, 71, 72, 73, 74, 75, 76, 77, 78, 79, 80, 81, 82, 83, 84, 85, 86, 87, 88, 89, 90, 91, 92, 93, 94] (by decide +kernel) (by decide +kernel)
set_option maxRecDepth 20000 in
theorem gX9_setForce_X9_cells : GoodIn wsX9_setForce (wsV RX9 219 RX9 yX9_cells wsX9_cells) := goodIn_app (goodIn_of _ (by decide +kernel)) ggX9_setForce_X9_cells
theorem dX9_setForce_0 : decode cX9_setForce 0 = .ok (.aload_n 0, 1) := by decide +kernel
theorem dX9_setForce_1 : decode cX9_setForce 1 = .ok (.iconst 0, 1) := by decide +kernel
theorem dX9_setForce_2 : decode cX9_setForce 2 = .ok (.putfield 55, 3) := by decide +kernel
theorem dX9_setForce_5 : decode cX9_setForce 5 = .ok (.aload_n 0, 1) := by decide +kernel
theorem dX9_setForce_6 : decode cX9_setForce 6 = .ok (.iload_n 1, 1) := by decide +kernel
theorem dX9_setForce_7 : decode cX9_setForce 7 = .ok (.iconst 1, 1) := by decide +kernel
theorem dX9_setForce_8 : decode cX9_setForce 8 = .ok (.sipush 500, 3) := by decide +kernel
theorem dX9_setForce_11 : decode cX9_setForce 11 = .ok (.invokestatic 88, 3) := by decide +kernel
theorem dX9_setForce_14 : decode cX9_setForce 14 = .ok (.ifCond .ne 7, 3) := by decide +kernel
theorem dX9_setForce_17 : decode cX9_setForce 17 = .ok (.iconst 1, 1) := by decide +kernel
theorem dX9_setForce_18 : decode cX9_setForce 18 = .ok (.goto 4, 3) := by decide +kernel
theorem dX9_setForce_21 : decode cX9_setForce 21 = .ok (.iconst 0, 1) := by decide +kernel
theorem dX9_setForce_22 : decode cX9_setForce 22 = .ok (.iconst 1, 1) := by decide +kernel
theorem dX9_setForce_23 : decode cX9_setForce 23 = .ok (.invokevirtual 153, 3) := by decide +kernel
theorem dX9_setForce_26 : decode cX9_setForce 26 = .ok (.ifCond .eq 5, 3) := by decide +kernel
theorem dX9_setForce_29 : decode cX9_setForce 29 = .ok (.iconst 0, 1) := by decide +kernel
theorem dX9_setForce_30 : decode cX9_setForce 30 = .ok (.ireturn, 1) := by decide +kernel
theorem dX9_setForce_31 : decode cX9_setForce 31 = .ok (.aload_n 0, 1) := by decide +kernel
theorem dX9_setForce_32 : decode cX9_setForce 32 = .ok (.invokevirtual 269, 3) := by decide +kernel
theorem dX9_setForce_35 : decode cX9_setForce 35 = .ok (.aload_n 0, 1) := by decide +kernel
theorem dX9_setForce_36 : decode cX9_setForce 36 = .ok (.getfield 7, 3) := by decide +kernel
theorem dX9_setForce_39 : decode cX9_setForce 39 = .ok (.iconst 5, 1) := by decide +kernel
theorem dX9_setForce_40 : decode cX9_setForce 40 = .ok (.iload_n 1, 1) := by decide +kernel
theorem dX9_setForce_41 : decode cX9_setForce 41 = .ok (.iastore, 1) := by decide +kernel
theorem dX9_setForce_42 : decode cX9_setForce 42 = .ok (.aload_n 0, 1) := by decide +kernel
theorem dX9_setForce_43 : decode cX9_setForce 43 = .ok (.iconst 0, 1) := by decide +kernel
theorem dX9_setForce_44 : decode cX9_setForce 44 = .ok (.invokevirtual 219, 3) := by decide +kernel
theorem dX9_setForce_47 : decode cX9_setForce 47 = .ok (.ireturn, 1) := by decide +kernel
theorem dX9_copies_0 : decode cX9_copies 0 = .ok (.iconst 0, 1) := by decide +kernel
theorem dX9_copies_1 : decode cX9_copies 1 = .ok (.istore 5, 2) := by decide +kernel
theorem dX9_copies_3 : decode cX9_copies 3 = .ok (.iload 5, 2) := by decide +kernel
theorem dX9_copies_5 : decode cX9_copies 5 = .ok (.iload 4, 2) := by decide +kernel
theorem dX9_copies_7 : decode cX9_copies 7 = .ok (.if_icmp .ge 21, 3) := by decide +kernel
theorem dX9_copies_10 : decode cX9_copies 10 = .ok (.aload_n 2, 1) := by decide +kernel
theorem dX9_copies_11 : decode cX9_copies 11 = .ok (.iload_n 3, 1) := by decide +kernel
theorem dX9_copies_12 : decode cX9_copies 12 = .ok (.iload 5, 2) := by decide +kernel
theorem dX9_copies_14 : decode cX9_copies 14 = .ok (.iadd, 1) := by decide +kernel
theorem dX9_copies_15 : decode cX9_copies 15 = .ok (.aload_n 0, 1) := by decide +kernel
theorem dX9_copies_16 : decode cX9_copies 16 = .ok (.iload_n 1, 1) := by decide +kernel
theorem dX9_copies_17 : decode cX9_copies 17 = .ok (.iload 5, 2) := by decide +kernel
theorem dX9_copies_19 : decode cX9_copies 19 = .ok (.iadd, 1) := by decide +kernel
theorem dX9_copies_20 : decode cX9_copies 20 = .ok (.iaload, 1) := by decide +kernel
theorem dX9_copies_21 : decode cX9_copies 21 = .ok (.iastore, 1) := by decide +kernel
theorem dX9_copies_22 : decode cX9_copies 22 = .ok (.iinc 5 1, 3) := by decide +kernel
theorem dX9_copies_25 : decode cX9_copies 25 = .ok (.goto (-22), 3) := by decide +kernel
theorem dX9_copies_28 : decode cX9_copies 28 = .ok (.return_, 1) := by decide +kernel
set_option maxRecDepth 20000 in
theorem ggX9_keeps_X9_copies : GoodIn wsX9_keeps wsX9_copies := goodIn_r _ [7] (by decide +kernel) (by decide +kernel)
set_option maxRecDepth 20000 in
theorem gX9_keeps_X9_copies : GoodIn wsX9_keeps (va_wsS RX9 259 yX9_copies wsX9_copies) := goodIn_app (goodIn_of _ (by decide +kernel)) ggX9_keeps_X9_copies
theorem dX9_keeps_0 : decode cX9_keeps 0 = .ok (.aload_n 0, 1) := by decide +kernel
theorem dX9_keeps_1 : decode cX9_keeps 1 = .ok (.getfield 163, 3) := by decide +kernel
theorem dX9_keeps_4 : decode cX9_keeps 4 = .ok (.bipush 10, 2) := by decide +kernel
theorem dX9_keeps_6 : decode cX9_keeps 6 = .ok (.if_icmp .ne 36, 3) := by decide +kernel
theorem dX9_keeps_9 : decode cX9_keeps 9 = .ok (.aload_n 0, 1) := by decide +kernel
theorem dX9_keeps_10 : decode cX9_keeps 10 = .ok (.dup, 1) := by decide +kernel
theorem dX9_keeps_11 : decode cX9_keeps 11 = .ok (.getfield 163, 3) := by decide +kernel
theorem dX9_keeps_14 : decode cX9_keeps 14 = .ok (.iconst 1, 1) := by decide +kernel
theorem dX9_keeps_15 : decode cX9_keeps 15 = .ok (.isub, 1) := by decide +kernel
theorem dX9_keeps_16 : decode cX9_keeps 16 = .ok (.putfield 163, 3) := by decide +kernel
theorem dX9_keeps_19 : decode cX9_keeps 19 = .ok (.aload_n 0, 1) := by decide +kernel
theorem dX9_keeps_20 : decode cX9_keeps 20 = .ok (.getfield 36, 3) := by decide +kernel
theorem dX9_keeps_23 : decode cX9_keeps 23 = .ok (.sipush 214, 3) := by decide +kernel
theorem dX9_keeps_26 : decode cX9_keeps 26 = .ok (.aload_n 0, 1) := by decide +kernel
theorem dX9_keeps_27 : decode cX9_keeps 27 = .ok (.getfield 36, 3) := by decide +kernel
theorem dX9_keeps_30 : decode cX9_keeps 30 = .ok (.iconst 0, 1) := by decide +kernel
theorem dX9_keeps_31 : decode cX9_keeps 31 = .ok (.sipush 214, 3) := by decide +kernel
theorem dX9_keeps_34 : decode cX9_keeps 34 = .ok (.aload_n 0, 1) := by decide +kernel
theorem dX9_keeps_35 : decode cX9_keeps 35 = .ok (.getfield 163, 3) := by decide +kernel
theorem dX9_keeps_38 : decode cX9_keeps 38 = .ok (.imul, 1) := by decide +kernel
theorem dX9_keeps_39 : decode cX9_keeps 39 = .ok (.invokestatic 259, 3) := by decide +kernel
theorem dX9_keeps_42 : decode cX9_keeps 42 = .ok (.aload_n 0, 1) := by decide +kernel
theorem dX9_keeps_43 : decode cX9_keeps 43 = .ok (.getfield 7, 3) := by decide +kernel
theorem dX9_keeps_46 : decode cX9_keeps 46 = .ok (.iconst 0, 1) := by decide +kernel
theorem dX9_keeps_47 : decode cX9_keeps 47 = .ok (.aload_n 0, 1) := by decide +kernel
theorem dX9_keeps_48 : decode cX9_keeps 48 = .ok (.getfield 36, 3) := by decide +kernel
theorem dX9_keeps_51 : decode cX9_keeps 51 = .ok (.sipush 214, 3) := by decide +kernel
theorem dX9_keeps_54 : decode cX9_keeps 54 = .ok (.aload_n 0, 1) := by decide +kernel
theorem dX9_keeps_55 : decode cX9_keeps 55 = .ok (.getfield 163, 3) := by decide +kernel
theorem dX9_keeps_58 : decode cX9_keeps 58 = .ok (.imul, 1) := by decide +kernel
theorem dX9_keeps_59 : decode cX9_keeps 59 = .ok (.sipush 214, 3) := by decide +kernel
theorem dX9_keeps_62 : decode cX9_keeps 62 = .ok (.invokestatic 259, 3) := by decide +kernel
theorem dX9_keeps_65 : decode cX9_keeps 65 = .ok (.aload_n 0, 1) := by decide +kernel
theorem dX9_keeps_66 : decode cX9_keeps 66 = .ok (.dup, 1) := by decide +kernel
theorem dX9_keeps_67 : decode cX9_keeps 67 = .ok (.getfield 163, 3) := by decide +kernel
theorem dX9_keeps_70 : decode cX9_keeps 70 = .ok (.iconst 1, 1) := by decide +kernel
theorem dX9_keeps_71 : decode cX9_keeps 71 = .ok (.iadd, 1) := by decide +kernel
theorem dX9_keeps_72 : decode cX9_keeps 72 = .ok (.putfield 163, 3) := by decide +kernel
theorem dX9_keeps_75 : decode cX9_keeps 75 = .ok (.return_, 1) := by decide +kernel
set_option maxRecDepth 20000 in
theorem ggX9_undo_X9_copies : GoodIn wsX9_undo wsX9_copies := goodIn_r _ [8] (by decide +kernel) (by decide +kernel)
set_option maxRecDepth 20000 in
theorem gX9_undo_X9_copies : GoodIn wsX9_undo (va_wsS RX9 259 yX9_copies wsX9_copies) := goodIn_app (goodIn_of _ (by decide +kernel)) ggX9_undo_X9_copies
theorem dX9_undo_0 : decode cX9_undo 0 = .ok (.aload_n 0, 1) := by decide +kernel
theorem dX9_undo_1 : decode cX9_undo 1 = .ok (.iconst 0, 1) := by decide +kernel
theorem dX9_undo_2 : decode cX9_undo 2 = .ok (.putfield 55, 3) := by decide +kernel
theorem dX9_undo_5 : decode cX9_undo 5 = .ok (.aload_n 0, 1) := by decide +kernel
theorem dX9_undo_6 : decode cX9_undo 6 = .ok (.getfield 163, 3) := by decide +kernel
theorem dX9_undo_9 : decode cX9_undo 9 = .ok (.ifCond .ne 5, 3) := by decide +kernel
theorem dX9_undo_12 : decode cX9_undo 12 = .ok (.iconst (-1), 1) := by decide +kernel
theorem dX9_undo_13 : decode cX9_undo 13 = .ok (.ireturn, 1) := by decide +kernel
theorem dX9_undo_14 : decode cX9_undo 14 = .ok (.aload_n 0, 1) := by decide +kernel
theorem dX9_undo_15 : decode cX9_undo 15 = .ok (.dup, 1) := by decide +kernel
theorem dX9_undo_16 : decode cX9_undo 16 = .ok (.getfield 163, 3) := by decide +kernel
theorem dX9_undo_19 : decode cX9_undo 19 = .ok (.iconst 1, 1) := by decide +kernel
theorem dX9_undo_20 : decode cX9_undo 20 = .ok (.isub, 1) := by decide +kernel
theorem dX9_undo_21 : decode cX9_undo 21 = .ok (.putfield 163, 3) := by decide +kernel
theorem dX9_undo_24 : decode cX9_undo 24 = .ok (.aload_n 0, 1) := by decide +kernel
theorem dX9_undo_25 : decode cX9_undo 25 = .ok (.getfield 36, 3) := by decide +kernel
theorem dX9_undo_28 : decode cX9_undo 28 = .ok (.sipush 214, 3) := by decide +kernel
theorem dX9_undo_31 : decode cX9_undo 31 = .ok (.aload_n 0, 1) := by decide +kernel
theorem dX9_undo_32 : decode cX9_undo 32 = .ok (.getfield 163, 3) := by decide +kernel
theorem dX9_undo_35 : decode cX9_undo 35 = .ok (.imul, 1) := by decide +kernel
theorem dX9_undo_36 : decode cX9_undo 36 = .ok (.aload_n 0, 1) := by decide +kernel
theorem dX9_undo_37 : decode cX9_undo 37 = .ok (.getfield 7, 3) := by decide +kernel
theorem dX9_undo_40 : decode cX9_undo 40 = .ok (.iconst 0, 1) := by decide +kernel
theorem dX9_undo_41 : decode cX9_undo 41 = .ok (.sipush 214, 3) := by decide +kernel
theorem dX9_undo_44 : decode cX9_undo 44 = .ok (.invokestatic 259, 3) := by decide +kernel
theorem dX9_undo_47 : decode cX9_undo 47 = .ok (.aload_n 0, 1) := by decide +kernel
theorem dX9_undo_48 : decode cX9_undo 48 = .ok (.getfield 163, 3) := by decide +kernel
theorem dX9_undo_51 : decode cX9_undo 51 = .ok (.ireturn, 1) := by decide +kernel
set_option maxRecDepth 20000 in
theorem ggX9_noSlot_X9_within : GoodIn wsX9_noSlot wsX9_within := goodIn_r _ [5] (by decide +kernel) (by decide +kernel)
set_option maxRecDepth 20000 in
theorem gX9_noSlot_X9_within : GoodIn wsX9_noSlot (va_wsS RX9 88 yX9_within wsX9_within) := goodIn_app (goodIn_of _ (by decide +kernel)) ggX9_noSlot_X9_within
set_option maxRecDepth 20000 in
theorem ggX9_noSlot_X9_throwsIf : GoodIn wsX9_noSlot wsX9_throwsIf := goodIn_r _ [9, 1, 10, 11, 12, 13, 14, 15, 16, 17, 18, 19, 20, 21, 22, 23, 24, 25, 26, 27, 28, 29, 30, 31] (by decide +kernel) (by decide +kernel)
set_option maxRecDepth 20000 in
theorem gX9_noSlot_X9_throwsIf : GoodIn wsX9_noSlot (wsV RX9 153 RX9 yX9_throwsIf wsX9_throwsIf) := goodIn_app (goodIn_of _ (by decide +kernel)) ggX9_noSlot_X9_throwsIf
theorem dX9_noSlot_0 : decode cX9_noSlot 0 = .ok (.aload_n 0, 1) := by decide +kernel
theorem dX9_noSlot_1 : decode cX9_noSlot 1 = .ok (.iconst 0, 1) := by decide +kernel
theorem dX9_noSlot_2 : decode cX9_noSlot 2 = .ok (.putfield 55, 3) := by decide +kernel
theorem dX9_noSlot_5 : decode cX9_noSlot 5 = .ok (.aload_n 0, 1) := by decide +kernel
theorem dX9_noSlot_6 : decode cX9_noSlot 6 = .ok (.iload_n 1, 1) := by decide +kernel
theorem dX9_noSlot_7 : decode cX9_noSlot 7 = .ok (.iconst 0, 1) := by decide +kernel
theorem dX9_noSlot_8 : decode cX9_noSlot 8 = .ok (.iconst 1, 1) := by decide +kernel
theorem dX9_noSlot_9 : decode cX9_noSlot 9 = .ok (.invokestatic 88, 3) := by decide +kernel
theorem dX9_noSlot_12 : decode cX9_noSlot 12 = .ok (.ifCond .ne 7, 3) := by decide +kernel
theorem dX9_noSlot_15 : decode cX9_noSlot 15 = .ok (.iconst 1, 1) := by decide +kernel
theorem dX9_noSlot_16 : decode cX9_noSlot 16 = .ok (.goto 4, 3) := by decide +kernel
theorem dX9_noSlot_19 : decode cX9_noSlot 19 = .ok (.iconst 0, 1) := by decide +kernel
theorem dX9_noSlot_20 : decode cX9_noSlot 20 = .ok (.iconst 1, 1) := by decide +kernel
theorem dX9_noSlot_21 : decode cX9_noSlot 21 = .ok (.invokevirtual 153, 3) := by decide +kernel
theorem dX9_noSlot_24 : decode cX9_noSlot 24 = .ok (.ireturn, 1) := by decide +kernel
set_option maxRecDepth 20000 in
theorem ggX9_saveSnapshot_X9_noSlot : GoodIn wsX9_saveSnapshot wsX9_noSlot := goodIn_r _ [8, 9, 10, 11, 7, 12, 13, 14, 15, 16, 20, 21, 22, 23, 24, 25, 26, 27, 28, 29, 30, 31, 32, 33, 34, 35, 36, 37, 38, 39, 40, 41] (by decide +kernel) (by decide +kernel)
set_option maxRecDepth 20000 in
theorem gX9_saveSnapshot_X9_noSlot : GoodIn wsX9_saveSnapshot (wsV RX9 272 RX9 yX9_noSlot wsX9_noSlot) := goodIn_app (goodIn_of _ (by decide +kernel)) ggX9_saveSnapshot_X9_noSlot
set_option maxRecDepth 20000 in
theorem ggX9_saveSnapshot_X9_copies : GoodIn wsX9_saveSnapshot wsX9_copies := goodIn_r _ [19] (by decide +kernel) (by decide +kernel)
set_option maxRecDepth 20000 in
theorem gX9_saveSnapshot_X9_copies : GoodIn wsX9_saveSnapshot (va_wsS RX9 259 yX9_copies wsX9_copies) := goodIn_app (goodIn_of _ (by decide +kernel)) ggX9_saveSnapshot_X9_copies
theorem dX9_saveSnapshot_0 : decode cX9_saveSnapshot 0 = .ok (.aload_n 0, 1) := by decide +kernel
theorem dX9_saveSnapshot_1 : decode cX9_saveSnapshot 1 = .ok (.iload_n 1, 1) := by decide +kernel
theorem dX9_saveSnapshot_2 : decode cX9_saveSnapshot 2 = .ok (.invokevirtual 272, 3) := by decide +kernel
theorem dX9_saveSnapshot_5 : decode cX9_saveSnapshot 5 = .ok (.ifCond .eq 5, 3) := by decide +kernel
theorem dX9_saveSnapshot_8 : decode cX9_saveSnapshot 8 = .ok (.iconst 0, 1) := by decide +kernel
theorem dX9_saveSnapshot_9 : decode cX9_saveSnapshot 9 = .ok (.ireturn, 1) := by decide +kernel
theorem dX9_saveSnapshot_10 : decode cX9_saveSnapshot 10 = .ok (.aload_n 0, 1) := by decide +kernel
theorem dX9_saveSnapshot_11 : decode cX9_saveSnapshot 11 = .ok (.getfield 42, 3) := by decide +kernel
theorem dX9_saveSnapshot_14 : decode cX9_saveSnapshot 14 = .ok (.iload_n 1, 1) := by decide +kernel
theorem dX9_saveSnapshot_15 : decode cX9_saveSnapshot 15 = .ok (.baload, 1) := by decide +kernel
theorem dX9_saveSnapshot_16 : decode cX9_saveSnapshot 16 = .ok (.istore_n 2, 1) := by decide +kernel
theorem dX9_saveSnapshot_17 : decode cX9_saveSnapshot 17 = .ok (.aload_n 0, 1) := by decide +kernel
theorem dX9_saveSnapshot_18 : decode cX9_saveSnapshot 18 = .ok (.getfield 7, 3) := by decide +kernel
theorem dX9_saveSnapshot_21 : decode cX9_saveSnapshot 21 = .ok (.iconst 0, 1) := by decide +kernel
theorem dX9_saveSnapshot_22 : decode cX9_saveSnapshot 22 = .ok (.aload_n 0, 1) := by decide +kernel
theorem dX9_saveSnapshot_23 : decode cX9_saveSnapshot 23 = .ok (.getfield 39, 3) := by decide +kernel
theorem dX9_saveSnapshot_26 : decode cX9_saveSnapshot 26 = .ok (.sipush 214, 3) := by decide +kernel
theorem dX9_saveSnapshot_29 : decode cX9_saveSnapshot 29 = .ok (.iload_n 1, 1) := by decide +kernel
theorem dX9_saveSnapshot_30 : decode cX9_saveSnapshot 30 = .ok (.imul, 1) := by decide +kernel
theorem dX9_saveSnapshot_31 : decode cX9_saveSnapshot 31 = .ok (.sipush 214, 3) := by decide +kernel
theorem dX9_saveSnapshot_34 : decode cX9_saveSnapshot 34 = .ok (.invokestatic 259, 3) := by decide +kernel
theorem dX9_saveSnapshot_37 : decode cX9_saveSnapshot 37 = .ok (.aload_n 0, 1) := by decide +kernel
theorem dX9_saveSnapshot_38 : decode cX9_saveSnapshot 38 = .ok (.getfield 42, 3) := by decide +kernel
theorem dX9_saveSnapshot_41 : decode cX9_saveSnapshot 41 = .ok (.iload_n 1, 1) := by decide +kernel
theorem dX9_saveSnapshot_42 : decode cX9_saveSnapshot 42 = .ok (.iconst 1, 1) := by decide +kernel
theorem dX9_saveSnapshot_43 : decode cX9_saveSnapshot 43 = .ok (.bastore, 1) := by decide +kernel
theorem dX9_saveSnapshot_44 : decode cX9_saveSnapshot 44 = .ok (.iload_n 2, 1) := by decide +kernel
theorem dX9_saveSnapshot_45 : decode cX9_saveSnapshot 45 = .ok (.ireturn, 1) := by decide +kernel
set_option maxRecDepth 20000 in
theorem ggX9_restoreSnapshot_X9_noSlot : GoodIn wsX9_restoreSnapshot wsX9_noSlot := goodIn_r _ [9, 10, 11, 12, 8, 13, 14, 15, 16, 17, 21, 22, 23, 24, 25, 26, 27, 28, 29, 30, 31, 32, 33, 34, 35, 36, 37, 38, 39, 40, 41, 42] (by decide +kernel) (by decide +kernel)
set_option maxRecDepth 20000 in
theorem gX9_restoreSnapshot_X9_noSlot : GoodIn wsX9_restoreSnapshot (wsV RX9 272 RX9 yX9_noSlot wsX9_noSlot) := goodIn_app (goodIn_of _ (by decide +kernel)) ggX9_restoreSnapshot_X9_noSlot
set_option maxRecDepth 20000 in
theorem ggX9_restoreSnapshot_X9_throwsIf : GoodIn wsX9_restoreSnapshot wsX9_throwsIf := goodIn_r _ [17, 10, 21, 22, 23, 24, 25, 26, 27, 28, 29, 30, 31, 32, 33, 34, 35, 36, 37, 38, 39, 40, 41, 42] (by decide +kernel) (by decide +kernel)
set_option maxRecDepth 20000 in
theorem gX9_restoreSnapshot_X9_throwsIf : GoodIn wsX9_restoreSnapshot (wsV RX9 153 RX9 yX9_throwsIf wsX9_throwsIf) := goodIn_app (goodIn_of _ (by decide +kernel)) ggX9_restoreSnapshot_X9_throwsIf
set_option maxRecDepth 20000 in
theorem ggX9_restoreSnapshot_X9_copies : GoodIn wsX9_restoreSnapshot wsX9_copies := goodIn_r _ [20] (by decide +kernel) (by decide +kernel)
set_option maxRecDepth 20000 in
theorem gX9_restoreSnapshot_X9_copies : GoodIn wsX9_restoreSnapshot (va_wsS RX9 259 yX9_copies wsX9_copies) := goodIn_app (goodIn_of _ (by decide +kernel)) ggX9_restoreSnapshot_X9_copies
theorem dX9_restoreSnapshot_0 : decode cX9_restoreSnapshot 0 = .ok (.aload_n 0, 1) := by decide +kernel
theorem dX9_restoreSnapshot_1 : decode cX9_restoreSnapshot 1 = .ok (.iload_n 1, 1) := by decide +kernel
theorem dX9_restoreSnapshot_2 : decode cX9_restoreSnapshot 2 = .ok (.invokevirtual 272, 3) := by decide +kernel
theorem dX9_restoreSnapshot_5 : decode cX9_restoreSnapshot 5 = .ok (.ifCond .ne 25, 3) := by decide +kernel
theorem dX9_restoreSnapshot_8 : decode cX9_restoreSnapshot 8 = .ok (.aload_n 0, 1) := by decide +kernel
theorem dX9_restoreSnapshot_9 : decode cX9_restoreSnapshot 9 = .ok (.aload_n 0, 1) := by decide +kernel
theorem dX9_restoreSnapshot_10 : decode cX9_restoreSnapshot 10 = .ok (.getfield 42, 3) := by decide +kernel
theorem dX9_restoreSnapshot_13 : decode cX9_restoreSnapshot 13 = .ok (.iload_n 1, 1) := by decide +kernel
theorem dX9_restoreSnapshot_14 : decode cX9_restoreSnapshot 14 = .ok (.baload, 1) := by decide +kernel
theorem dX9_restoreSnapshot_15 : decode cX9_restoreSnapshot 15 = .ok (.ifCond .ne 7, 3) := by decide +kernel
theorem dX9_restoreSnapshot_18 : decode cX9_restoreSnapshot 18 = .ok (.iconst 1, 1) := by decide +kernel
theorem dX9_restoreSnapshot_19 : decode cX9_restoreSnapshot 19 = .ok (.goto 4, 3) := by decide +kernel
theorem dX9_restoreSnapshot_22 : decode cX9_restoreSnapshot 22 = .ok (.iconst 0, 1) := by decide +kernel
theorem dX9_restoreSnapshot_23 : decode cX9_restoreSnapshot 23 = .ok (.iconst 2, 1) := by decide +kernel
theorem dX9_restoreSnapshot_24 : decode cX9_restoreSnapshot 24 = .ok (.invokevirtual 153, 3) := by decide +kernel
theorem dX9_restoreSnapshot_27 : decode cX9_restoreSnapshot 27 = .ok (.ifCond .eq 5, 3) := by decide +kernel
theorem dX9_restoreSnapshot_30 : decode cX9_restoreSnapshot 30 = .ok (.iconst 0, 1) := by decide +kernel
theorem dX9_restoreSnapshot_31 : decode cX9_restoreSnapshot 31 = .ok (.ireturn, 1) := by decide +kernel
theorem dX9_restoreSnapshot_32 : decode cX9_restoreSnapshot 32 = .ok (.aload_n 0, 1) := by decide +kernel
theorem dX9_restoreSnapshot_33 : decode cX9_restoreSnapshot 33 = .ok (.getfield 39, 3) := by decide +kernel
theorem dX9_restoreSnapshot_36 : decode cX9_restoreSnapshot 36 = .ok (.sipush 214, 3) := by decide +kernel
theorem dX9_restoreSnapshot_39 : decode cX9_restoreSnapshot 39 = .ok (.iload_n 1, 1) := by decide +kernel
theorem dX9_restoreSnapshot_40 : decode cX9_restoreSnapshot 40 = .ok (.imul, 1) := by decide +kernel
theorem dX9_restoreSnapshot_41 : decode cX9_restoreSnapshot 41 = .ok (.aload_n 0, 1) := by decide +kernel
theorem dX9_restoreSnapshot_42 : decode cX9_restoreSnapshot 42 = .ok (.getfield 7, 3) := by decide +kernel
theorem dX9_restoreSnapshot_45 : decode cX9_restoreSnapshot 45 = .ok (.iconst 0, 1) := by decide +kernel
theorem dX9_restoreSnapshot_46 : decode cX9_restoreSnapshot 46 = .ok (.sipush 214, 3) := by decide +kernel
theorem dX9_restoreSnapshot_49 : decode cX9_restoreSnapshot 49 = .ok (.invokestatic 259, 3) := by decide +kernel
theorem dX9_restoreSnapshot_52 : decode cX9_restoreSnapshot 52 = .ok (.aload_n 0, 1) := by decide +kernel
theorem dX9_restoreSnapshot_53 : decode cX9_restoreSnapshot 53 = .ok (.iconst 0, 1) := by decide +kernel
theorem dX9_restoreSnapshot_54 : decode cX9_restoreSnapshot 54 = .ok (.putfield 163, 3) := by decide +kernel
theorem dX9_restoreSnapshot_57 : decode cX9_restoreSnapshot 57 = .ok (.aload_n 0, 1) := by decide +kernel
theorem dX9_restoreSnapshot_58 : decode cX9_restoreSnapshot 58 = .ok (.getfield 7, 3) := by decide +kernel
theorem dX9_restoreSnapshot_61 : decode cX9_restoreSnapshot 61 = .ok (.iconst 0, 1) := by decide +kernel
theorem dX9_restoreSnapshot_62 : decode cX9_restoreSnapshot 62 = .ok (.iaload, 1) := by decide +kernel
theorem dX9_restoreSnapshot_63 : decode cX9_restoreSnapshot 63 = .ok (.ireturn, 1) := by decide +kernel
theorem dJ13_bitCount_95d88_0 : decode cJ13_bitCount_95d88 0 = .ok (.lload_n 0, 1) := by decide +kernel
theorem dJ13_bitCount_95d88_1 : decode cJ13_bitCount_95d88 1 = .ok (.lload_n 0, 1) := by decide +kernel
theorem dJ13_bitCount_95d88_2 : decode cJ13_bitCount_95d88 2 = .ok (.iconst 1, 1) := by decide +kernel
theorem dJ13_bitCount_95d88_3 : decode cJ13_bitCount_95d88 3 = .ok (.lushr, 1) := by decide +kernel
theorem dJ13_bitCount_95d88_4 : decode cJ13_bitCount_95d88 4 = .ok (.ldc2_w 314, 3) := by decide +kernel
theorem dJ13_bitCount_95d88_7 : decode cJ13_bitCount_95d88 7 = .ok (.land, 1) := by decide +kernel
theorem dJ13_bitCount_95d88_8 : decode cJ13_bitCount_95d88 8 = .ok (.lsub, 1) := by decide +kernel
theorem dJ13_bitCount_95d88_9 : decode cJ13_bitCount_95d88 9 = .ok (.lstore_n 0, 1) := by decide +kernel
theorem dJ13_bitCount_95d88_10 : decode cJ13_bitCount_95d88 10 = .ok (.lload_n 0, 1) := by decide +kernel
theorem dJ13_bitCount_95d88_11 : decode cJ13_bitCount_95d88 11 = .ok (.ldc2_w 316, 3) := by decide +kernel
theorem dJ13_bitCount_95d88_14 : decode cJ13_bitCount_95d88 14 = .ok (.land, 1) := by decide +kernel
theorem dJ13_bitCount_95d88_15 : decode cJ13_bitCount_95d88 15 = .ok (.lload_n 0, 1) := by decide +kernel
theorem dJ13_bitCount_95d88_16 : decode cJ13_bitCount_95d88 16 = .ok (.iconst 2, 1) := by decide +kernel
theorem dJ13_bitCount_95d88_17 : decode cJ13_bitCount_95d88 17 = .ok (.lushr, 1) := by decide +kernel
theorem dJ13_bitCount_95d88_18 : decode cJ13_bitCount_95d88 18 = .ok (.ldc2_w 316, 3) := by decide +kernel
theorem dJ13_bitCount_95d88_21 : decode cJ13_bitCount_95d88 21 = .ok (.land, 1) := by decide +kernel
theorem dJ13_bitCount_95d88_22 : decode cJ13_bitCount_95d88 22 = .ok (.ladd, 1) := by decide +kernel
theorem dJ13_bitCount_95d88_23 : decode cJ13_bitCount_95d88 23 = .ok (.lstore_n 0, 1) := by decide +kernel
theorem dJ13_bitCount_95d88_24 : decode cJ13_bitCount_95d88 24 = .ok (.lload_n 0, 1) := by decide +kernel
theorem dJ13_bitCount_95d88_25 : decode cJ13_bitCount_95d88 25 = .ok (.lload_n 0, 1) := by decide +kernel
theorem dJ13_bitCount_95d88_26 : decode cJ13_bitCount_95d88 26 = .ok (.iconst 4, 1) := by decide +kernel
theorem dJ13_bitCount_95d88_27 : decode cJ13_bitCount_95d88 27 = .ok (.lushr, 1) := by decide +kernel
theorem dJ13_bitCount_95d88_28 : decode cJ13_bitCount_95d88 28 = .ok (.ladd, 1) := by decide +kernel
theorem dJ13_bitCount_95d88_29 : decode cJ13_bitCount_95d88 29 = .ok (.ldc2_w 318, 3) := by decide +kernel
theorem dJ13_bitCount_95d88_32 : decode cJ13_bitCount_95d88 32 = .ok (.land, 1) := by decide +kernel
theorem dJ13_bitCount_95d88_33 : decode cJ13_bitCount_95d88 33 = .ok (.lstore_n 0, 1) := by decide +kernel
theorem dJ13_bitCount_95d88_34 : decode cJ13_bitCount_95d88 34 = .ok (.lload_n 0, 1) := by decide +kernel
theorem dJ13_bitCount_95d88_35 : decode cJ13_bitCount_95d88 35 = .ok (.lload_n 0, 1) := by decide +kernel
theorem dJ13_bitCount_95d88_36 : decode cJ13_bitCount_95d88 36 = .ok (.bipush 8, 2) := by decide +kernel
theorem dJ13_bitCount_95d88_38 : decode cJ13_bitCount_95d88 38 = .ok (.lushr, 1) := by decide +kernel
theorem dJ13_bitCount_95d88_39 : decode cJ13_bitCount_95d88 39 = .ok (.ladd, 1) := by decide +kernel
theorem dJ13_bitCount_95d88_40 : decode cJ13_bitCount_95d88 40 = .ok (.lstore_n 0, 1) := by decide +kernel
theorem dJ13_bitCount_95d88_41 : decode cJ13_bitCount_95d88 41 = .ok (.lload_n 0, 1) := by decide +kernel
theorem dJ13_bitCount_95d88_42 : decode cJ13_bitCount_95d88 42 = .ok (.lload_n 0, 1) := by decide +kernel
theorem dJ13_bitCount_95d88_43 : decode cJ13_bitCount_95d88 43 = .ok (.bipush 16, 2) := by decide +kernel
theorem dJ13_bitCount_95d88_45 : decode cJ13_bitCount_95d88 45 = .ok (.lushr, 1) := by decide +kernel
theorem dJ13_bitCount_95d88_46 : decode cJ13_bitCount_95d88 46 = .ok (.ladd, 1) := by decide +kernel
theorem dJ13_bitCount_95d88_47 : decode cJ13_bitCount_95d88 47 = .ok (.lstore_n 0, 1) := by decide +kernel
theorem dJ13_bitCount_95d88_48 : decode cJ13_bitCount_95d88 48 = .ok (.lload_n 0, 1) := by decide +kernel
theorem dJ13_bitCount_95d88_49 : decode cJ13_bitCount_95d88 49 = .ok (.lload_n 0, 1) := by decide +kernel
theorem dJ13_bitCount_95d88_50 : decode cJ13_bitCount_95d88 50 = .ok (.bipush 32, 2) := by decide +kernel
theorem dJ13_bitCount_95d88_52 : decode cJ13_bitCount_95d88 52 = .ok (.lushr, 1) := by decide +kernel
theorem dJ13_bitCount_95d88_53 : decode cJ13_bitCount_95d88 53 = .ok (.ladd, 1) := by decide +kernel
theorem dJ13_bitCount_95d88_54 : decode cJ13_bitCount_95d88 54 = .ok (.lstore_n 0, 1) := by decide +kernel
theorem dJ13_bitCount_95d88_55 : decode cJ13_bitCount_95d88 55 = .ok (.lload_n 0, 1) := by decide +kernel
theorem dJ13_bitCount_95d88_56 : decode cJ13_bitCount_95d88 56 = .ok (.l2i, 1) := by decide +kernel
theorem dJ13_bitCount_95d88_57 : decode cJ13_bitCount_95d88 57 = .ok (.bipush 127, 2) := by decide +kernel
theorem dJ13_bitCount_95d88_59 : decode cJ13_bitCount_95d88 59 = .ok (.iand, 1) := by decide +kernel
theorem dJ13_bitCount_95d88_60 : decode cJ13_bitCount_95d88 60 = .ok (.ireturn, 1) := by decide +kernel
theorem dJ9_floorDiv_7cf53_0 : decode cJ9_floorDiv_7cf53 0 = .ok (.iload_n 0, 1) := by decide +kernel
theorem dJ9_floorDiv_7cf53_1 : decode cJ9_floorDiv_7cf53 1 = .ok (.iload_n 1, 1) := by decide +kernel
theorem dJ9_floorDiv_7cf53_2 : decode cJ9_floorDiv_7cf53 2 = .ok (.idiv, 1) := by decide +kernel
theorem dJ9_floorDiv_7cf53_3 : decode cJ9_floorDiv_7cf53 3 = .ok (.istore_n 2, 1) := by decide +kernel
theorem dJ9_floorDiv_7cf53_4 : decode cJ9_floorDiv_7cf53 4 = .ok (.iload_n 0, 1) := by decide +kernel
theorem dJ9_floorDiv_7cf53_5 : decode cJ9_floorDiv_7cf53 5 = .ok (.iload_n 1, 1) := by decide +kernel
theorem dJ9_floorDiv_7cf53_6 : decode cJ9_floorDiv_7cf53 6 = .ok (.ixor, 1) := by decide +kernel
theorem dJ9_floorDiv_7cf53_7 : decode cJ9_floorDiv_7cf53 7 = .ok (.ifCond .ge 14, 3) := by decide +kernel
theorem dJ9_floorDiv_7cf53_10 : decode cJ9_floorDiv_7cf53 10 = .ok (.iload_n 2, 1) := by decide +kernel
theorem dJ9_floorDiv_7cf53_11 : decode cJ9_floorDiv_7cf53 11 = .ok (.iload_n 1, 1) := by decide +kernel
theorem dJ9_floorDiv_7cf53_12 : decode cJ9_floorDiv_7cf53 12 = .ok (.imul, 1) := by decide +kernel
theorem dJ9_floorDiv_7cf53_13 : decode cJ9_floorDiv_7cf53 13 = .ok (.iload_n 0, 1) := by decide +kernel
theorem dJ9_floorDiv_7cf53_14 : decode cJ9_floorDiv_7cf53 14 = .ok (.if_icmp .eq 7, 3) := by decide +kernel
theorem dJ9_floorDiv_7cf53_17 : decode cJ9_floorDiv_7cf53 17 = .ok (.iload_n 2, 1) := by decide +kernel
theorem dJ9_floorDiv_7cf53_18 : decode cJ9_floorDiv_7cf53 18 = .ok (.iconst 1, 1) := by decide +kernel
theorem dJ9_floorDiv_7cf53_19 : decode cJ9_floorDiv_7cf53 19 = .ok (.isub, 1) := by decide +kernel
theorem dJ9_floorDiv_7cf53_20 : decode cJ9_floorDiv_7cf53 20 = .ok (.ireturn, 1) := by decide +kernel
theorem dJ9_floorDiv_7cf53_21 : decode cJ9_floorDiv_7cf53 21 = .ok (.iload_n 2, 1) := by decide +kernel
theorem dJ9_floorDiv_7cf53_22 : decode cJ9_floorDiv_7cf53 22 = .ok (.ireturn, 1) := by decide +kernel
theorem dJ9_abs_0f7a4_0 : decode cJ9_abs_0f7a4 0 = .ok (.iload_n 0, 1) := by decide +kernel
theorem dJ9_abs_0f7a4_1 : decode cJ9_abs_0f7a4 1 = .ok (.ifCond .ge 8, 3) := by decide +kernel
theorem dJ9_abs_0f7a4_4 : decode cJ9_abs_0f7a4 4 = .ok (.iload_n 0, 1) := by decide +kernel
theorem dJ9_abs_0f7a4_5 : decode cJ9_abs_0f7a4 5 = .ok (.ineg, 1) := by decide +kernel
theorem dJ9_abs_0f7a4_6 : decode cJ9_abs_0f7a4 6 = .ok (.goto 4, 3) := by decide +kernel
theorem dJ9_abs_0f7a4_9 : decode cJ9_abs_0f7a4 9 = .ok (.iload_n 0, 1) := by decide +kernel
theorem dJ9_abs_0f7a4_10 : decode cJ9_abs_0f7a4 10 = .ok (.ireturn, 1) := by decide +kernel
theorem dJ9_max_7cf53_0 : decode cJ9_max_7cf53 0 = .ok (.iload_n 0, 1) := by decide +kernel
theorem dJ9_max_7cf53_1 : decode cJ9_max_7cf53 1 = .ok (.iload_n 1, 1) := by decide +kernel
theorem dJ9_max_7cf53_2 : decode cJ9_max_7cf53 2 = .ok (.if_icmp .lt 7, 3) := by decide +kernel
theorem dJ9_max_7cf53_5 : decode cJ9_max_7cf53 5 = .ok (.iload_n 0, 1) := by decide +kernel
theorem dJ9_max_7cf53_6 : decode cJ9_max_7cf53 6 = .ok (.goto 4, 3) := by decide +kernel
theorem dJ9_max_7cf53_9 : decode cJ9_max_7cf53 9 = .ok (.iload_n 1, 1) := by decide +kernel
theorem dJ9_max_7cf53_10 : decode cJ9_max_7cf53 10 = .ok (.ireturn, 1) := by decide +kernel
theorem dJ9_min_7cf53_0 : decode cJ9_min_7cf53 0 = .ok (.iload_n 0, 1) := by decide +kernel
theorem dJ9_min_7cf53_1 : decode cJ9_min_7cf53 1 = .ok (.iload_n 1, 1) := by decide +kernel
theorem dJ9_min_7cf53_2 : decode cJ9_min_7cf53 2 = .ok (.if_icmp .gt 7, 3) := by decide +kernel
theorem dJ9_min_7cf53_5 : decode cJ9_min_7cf53 5 = .ok (.iload_n 0, 1) := by decide +kernel
theorem dJ9_min_7cf53_6 : decode cJ9_min_7cf53 6 = .ok (.goto 4, 3) := by decide +kernel
theorem dJ9_min_7cf53_9 : decode cJ9_min_7cf53 9 = .ok (.iload_n 1, 1) := by decide +kernel
theorem dJ9_min_7cf53_10 : decode cJ9_min_7cf53 10 = .ok (.ireturn, 1) := by decide +kernel
set_option maxRecDepth 20000 in
theorem ggJ0_length_8abf5_J0_coder_7d493 : GoodIn wsJ0_length_8abf5 wsJ0_coder_7d493 := goodIn_r _ [6, 7, 8] (by decide +kernel) (by decide +kernel)
set_option maxRecDepth 20000 in
theorem gJ0_length_8abf5_J0_coder_7d493 : GoodIn wsJ0_length_8abf5 (wsV RJ0 335 RJ0 yJ0_coder_7d493 wsJ0_coder_7d493) := goodIn_app (goodIn_of _ (by decide +kernel)) ggJ0_length_8abf5_J0_coder_7d493
theorem dJ0_length_8abf5_0 : decode cJ0_length_8abf5 0 = .ok (.aload_n 0, 1) := by decide +kernel
theorem dJ0_length_8abf5_1 : decode cJ0_length_8abf5 1 = .ok (.getfield 9, 3) := by decide +kernel
theorem dJ0_length_8abf5_4 : decode cJ0_length_8abf5 4 = .ok (.arraylength, 1) := by decide +kernel
theorem dJ0_length_8abf5_5 : decode cJ0_length_8abf5 5 = .ok (.aload_n 0, 1) := by decide +kernel
theorem dJ0_length_8abf5_6 : decode cJ0_length_8abf5 6 = .ok (.invokevirtual 335, 3) := by decide +kernel
theorem dJ0_length_8abf5_9 : decode cJ0_length_8abf5 9 = .ok (.ishr, 1) := by decide +kernel
theorem dJ0_length_8abf5_10 : decode cJ0_length_8abf5 10 = .ok (.ireturn, 1) := by decide +kernel
set_option maxRecDepth 20000 in
theorem ggJ0_charAt_5068e_J0_isLatin1_aae02 : GoodIn wsJ0_charAt_5068e wsJ0_isLatin1_aae02 := goodIn_r _ [6, 7, 8] (by decide +kernel) (by decide +kernel)
set_option maxRecDepth 20000 in
theorem gJ0_charAt_5068e_J0_isLatin1_aae02 : GoodIn wsJ0_charAt_5068e (wsV RJ0 492 RJ0 yJ0_isLatin1_aae02 wsJ0_isLatin1_aae02) := goodIn_app (goodIn_of _ (by decide +kernel)) ggJ0_charAt_5068e_J0_isLatin1_aae02
set_option maxRecDepth 20000 in
theorem ggJ0_charAt_5068e_J1_charAt_3b067 : GoodIn wsJ0_charAt_5068e wsJ1_charAt_3b067 := goodIn_r _ [12, 13, 14, 5, 15, 16, 17, 18, 19, 20] (by decide +kernel) (by decide +kernel)
set_option maxRecDepth 20000 in
theorem gJ0_charAt_5068e_J1_charAt_3b067 : GoodIn wsJ0_charAt_5068e (va_wsS RJ0 495 yJ1_charAt_3b067 wsJ1_charAt_3b067) := goodIn_app (goodIn_of _ (by decide +kernel)) ggJ0_charAt_5068e_J1_charAt_3b067
set_option maxRecDepth 20000 in
theorem ggJ0_charAt_5068e_J2_charAt_3b067 : GoodIn wsJ0_charAt_5068e wsJ2_charAt_3b067 := goodIn_r _ [24, 25, 26, 23, 27, 28, 29, 30, 31, 14, 5, 15, 16, 17, 18, 19, 20, 32, 33, 34, 35, 36, 37] (by decide +kernel) (by decide +kernel)
set_option maxRecDepth 20000 in
theorem gJ0_charAt_5068e_J2_charAt_3b067 : GoodIn wsJ0_charAt_5068e (va_wsS RJ0 498 yJ2_charAt_3b067 wsJ2_charAt_3b067) := goodIn_app (goodIn_of _ (by decide +kernel)) ggJ0_charAt_5068e_J2_charAt_3b067
theorem dJ0_charAt_5068e_0 : decode cJ0_charAt_5068e 0 = .ok (.aload_n 0, 1) := by decide +kernel
theorem dJ0_charAt_5068e_1 : decode cJ0_charAt_5068e 1 = .ok (.invokevirtual 492, 3) := by decide +kernel
theorem dJ0_charAt_5068e_4 : decode cJ0_charAt_5068e 4 = .ok (.ifCond .eq 12, 3) := by decide +kernel
theorem dJ0_charAt_5068e_7 : decode cJ0_charAt_5068e 7 = .ok (.aload_n 0, 1) := by decide +kernel
theorem dJ0_charAt_5068e_8 : decode cJ0_charAt_5068e 8 = .ok (.getfield 9, 3) := by decide +kernel
theorem dJ0_charAt_5068e_11 : decode cJ0_charAt_5068e 11 = .ok (.iload_n 1, 1) := by decide +kernel
theorem dJ0_charAt_5068e_12 : decode cJ0_charAt_5068e 12 = .ok (.invokestatic 495, 3) := by decide +kernel
theorem dJ0_charAt_5068e_15 : decode cJ0_charAt_5068e 15 = .ok (.ireturn, 1) := by decide +kernel
theorem dJ0_charAt_5068e_16 : decode cJ0_charAt_5068e 16 = .ok (.aload_n 0, 1) := by decide +kernel
theorem dJ0_charAt_5068e_17 : decode cJ0_charAt_5068e 17 = .ok (.getfield 9, 3) := by decide +kernel
theorem dJ0_charAt_5068e_20 : decode cJ0_charAt_5068e 20 = .ok (.iload_n 1, 1) := by decide +kernel
theorem dJ0_charAt_5068e_21 : decode cJ0_charAt_5068e 21 = .ok (.invokestatic 498, 3) := by decide +kernel
theorem dJ0_charAt_5068e_24 : decode cJ0_charAt_5068e 24 = .ok (.ireturn, 1) := by decide +kernel
theorem dJ0_coder_7d493_0 : decode cJ0_coder_7d493 0 = .ok (.getstatic 38, 3) := by decide +kernel
theorem dJ0_coder_7d493_3 : decode cJ0_coder_7d493 3 = .ok (.ifCond .eq 10, 3) := by decide +kernel
theorem dJ0_coder_7d493_6 : decode cJ0_coder_7d493 6 = .ok (.aload_n 0, 1) := by decide +kernel
theorem dJ0_coder_7d493_7 : decode cJ0_coder_7d493 7 = .ok (.getfield 15, 3) := by decide +kernel
theorem dJ0_coder_7d493_10 : decode cJ0_coder_7d493 10 = .ok (.goto 4, 3) := by decide +kernel
theorem dJ0_coder_7d493_13 : decode cJ0_coder_7d493 13 = .ok (.iconst 1, 1) := by decide +kernel
theorem dJ0_coder_7d493_14 : decode cJ0_coder_7d493 14 = .ok (.ireturn, 1) := by decide +kernel
theorem dJ0_isLatin1_aae02_0 : decode cJ0_isLatin1_aae02 0 = .ok (.getstatic 38, 3) := by decide +kernel
theorem dJ0_isLatin1_aae02_3 : decode cJ0_isLatin1_aae02 3 = .ok (.ifCond .eq 14, 3) := by decide +kernel
theorem dJ0_isLatin1_aae02_6 : decode cJ0_isLatin1_aae02 6 = .ok (.aload_n 0, 1) := by decide +kernel
theorem dJ0_isLatin1_aae02_7 : decode cJ0_isLatin1_aae02 7 = .ok (.getfield 15, 3) := by decide +kernel
theorem dJ0_isLatin1_aae02_10 : decode cJ0_isLatin1_aae02 10 = .ok (.ifCond .ne 7, 3) := by decide +kernel
theorem dJ0_isLatin1_aae02_13 : decode cJ0_isLatin1_aae02 13 = .ok (.iconst 1, 1) := by decide +kernel
theorem dJ0_isLatin1_aae02_14 : decode cJ0_isLatin1_aae02 14 = .ok (.goto 4, 3) := by decide +kernel
theorem dJ0_isLatin1_aae02_17 : decode cJ0_isLatin1_aae02 17 = .ok (.iconst 0, 1) := by decide +kernel
theorem dJ0_isLatin1_aae02_18 : decode cJ0_isLatin1_aae02 18 = .ok (.ireturn, 1) := by decide +kernel
set_option maxRecDepth 20000 in
theorem ggJ0_checkIndex_df160_J3_checkIndex_8e157 : GoodIn wsJ0_checkIndex_df160 wsJ3_checkIndex_8e157 := goodIn_r _ [5] (by decide +kernel) (by decide +kernel)
set_option maxRecDepth 20000 in
theorem gJ0_checkIndex_df160_J3_checkIndex_8e157 : GoodIn wsJ0_checkIndex_df160 (va_wsS RJ0 1059 yJ3_checkIndex_8e157 wsJ3_checkIndex_8e157) := goodIn_app (goodIn_of _ (by decide +kernel)) ggJ0_checkIndex_df160_J3_checkIndex_8e157
theorem dJ0_checkIndex_df160_0 : decode cJ0_checkIndex_df160 0 = .ok (.iload_n 0, 1) := by decide +kernel
theorem dJ0_checkIndex_df160_1 : decode cJ0_checkIndex_df160 1 = .ok (.iload_n 1, 1) := by decide +kernel
theorem dJ0_checkIndex_df160_2 : decode cJ0_checkIndex_df160 2 = .ok (.getstatic 1053, 3) := by decide +kernel
theorem dJ0_checkIndex_df160_5 : decode cJ0_checkIndex_df160 5 = .ok (.invokestatic 1059, 3) := by decide +kernel
theorem dJ0_checkIndex_df160_8 : decode cJ0_checkIndex_df160 8 = .ok (.pop, 1) := by decide +kernel
theorem dJ0_checkIndex_df160_9 : decode cJ0_checkIndex_df160 9 = .ok (.return_, 1) := by decide +kernel
set_option maxRecDepth 20000 in
theorem ggJ1_charAt_3b067_J0_checkIndex_df160 : GoodIn wsJ1_charAt_3b067 wsJ0_checkIndex_df160 := goodIn_r _ [4, 5, 6, 7, 8, 9] (by decide +kernel) (by decide +kernel)
set_option maxRecDepth 20000 in
theorem gJ1_charAt_3b067_J0_checkIndex_df160 : GoodIn wsJ1_charAt_3b067 (va_wsS RJ1 9 yJ0_checkIndex_df160 wsJ0_checkIndex_df160) := goodIn_app (goodIn_of _ (by decide +kernel)) ggJ1_charAt_3b067_J0_checkIndex_df160
theorem dJ1_charAt_3b067_0 : decode cJ1_charAt_3b067 0 = .ok (.iload_n 1, 1) := by decide +kernel
theorem dJ1_charAt_3b067_1 : decode cJ1_charAt_3b067 1 = .ok (.aload_n 0, 1) := by decide +kernel
theorem dJ1_charAt_3b067_2 : decode cJ1_charAt_3b067 2 = .ok (.arraylength, 1) := by decide +kernel
theorem dJ1_charAt_3b067_3 : decode cJ1_charAt_3b067 3 = .ok (.invokestatic 9, 3) := by decide +kernel
theorem dJ1_charAt_3b067_6 : decode cJ1_charAt_3b067 6 = .ok (.aload_n 0, 1) := by decide +kernel
theorem dJ1_charAt_3b067_7 : decode cJ1_charAt_3b067 7 = .ok (.iload_n 1, 1) := by decide +kernel
theorem dJ1_charAt_3b067_8 : decode cJ1_charAt_3b067 8 = .ok (.baload, 1) := by decide +kernel
theorem dJ1_charAt_3b067_9 : decode cJ1_charAt_3b067 9 = .ok (.sipush 255, 3) := by decide +kernel
theorem dJ1_charAt_3b067_12 : decode cJ1_charAt_3b067 12 = .ok (.iand, 1) := by decide +kernel
theorem dJ1_charAt_3b067_13 : decode cJ1_charAt_3b067 13 = .ok (.i2c, 1) := by decide +kernel
theorem dJ1_charAt_3b067_14 : decode cJ1_charAt_3b067 14 = .ok (.ireturn, 1) := by decide +kernel
set_option maxRecDepth 20000 in
theorem ggJ2_getChar_3b067_J2_length_9d52b : GoodIn wsJ2_getChar_3b067 wsJ2_length_9d52b := goodIn_r _ [7] (by decide +kernel) (by decide +kernel)
set_option maxRecDepth 20000 in
theorem gJ2_getChar_3b067_J2_length_9d52b : GoodIn wsJ2_getChar_3b067 (va_wsS RJ2 48 yJ2_length_9d52b wsJ2_length_9d52b) := goodIn_app (goodIn_of _ (by decide +kernel)) ggJ2_getChar_3b067_J2_length_9d52b
theorem dJ2_getChar_3b067_0 : decode cJ2_getChar_3b067 0 = .ok (.getstatic 44, 3) := by decide +kernel
theorem dJ2_getChar_3b067_3 : decode cJ2_getChar_3b067 3 = .ok (.ifCond .ne 25, 3) := by decide +kernel
theorem dJ2_getChar_3b067_6 : decode cJ2_getChar_3b067 6 = .ok (.iload_n 1, 1) := by decide +kernel
theorem dJ2_getChar_3b067_7 : decode cJ2_getChar_3b067 7 = .ok (.ifCond .lt 11, 3) := by decide +kernel
theorem dJ2_getChar_3b067_10 : decode cJ2_getChar_3b067 10 = .ok (.iload_n 1, 1) := by decide +kernel
theorem dJ2_getChar_3b067_11 : decode cJ2_getChar_3b067 11 = .ok (.aload_n 0, 1) := by decide +kernel
theorem dJ2_getChar_3b067_12 : decode cJ2_getChar_3b067 12 = .ok (.invokestatic 48, 3) := by decide +kernel
theorem dJ2_getChar_3b067_15 : decode cJ2_getChar_3b067 15 = .ok (.if_icmp .lt 13, 3) := by decide +kernel
theorem dJ2_getChar_3b067_18 : decode cJ2_getChar_3b067 18 = .ok (.new 52, 3) := by decide +kernel
theorem dJ2_getChar_3b067_21 : decode cJ2_getChar_3b067 21 = .ok (.dup, 1) := by decide +kernel
theorem dJ2_getChar_3b067_22 : decode cJ2_getChar_3b067 22 = .ok (.ldc 54, 2) := by decide +kernel
theorem dJ2_getChar_3b067_24 : decode cJ2_getChar_3b067 24 = .ok (.invokespecial 56, 3) := by decide +kernel
theorem dJ2_getChar_3b067_27 : decode cJ2_getChar_3b067 27 = .ok (.athrow, 1) := by decide +kernel
theorem dJ2_getChar_3b067_28 : decode cJ2_getChar_3b067 28 = .ok (.iload_n 1, 1) := by decide +kernel
theorem dJ2_getChar_3b067_29 : decode cJ2_getChar_3b067 29 = .ok (.iconst 1, 1) := by decide +kernel
theorem dJ2_getChar_3b067_30 : decode cJ2_getChar_3b067 30 = .ok (.ishl, 1) := by decide +kernel
theorem dJ2_getChar_3b067_31 : decode cJ2_getChar_3b067 31 = .ok (.istore_n 1, 1) := by decide +kernel
theorem dJ2_getChar_3b067_32 : decode cJ2_getChar_3b067 32 = .ok (.aload_n 0, 1) := by decide +kernel
theorem dJ2_getChar_3b067_33 : decode cJ2_getChar_3b067 33 = .ok (.iload_n 1, 1) := by decide +kernel
theorem dJ2_getChar_3b067_34 : decode cJ2_getChar_3b067 34 = .ok (.iinc 1 1, 3) := by decide +kernel
theorem dJ2_getChar_3b067_37 : decode cJ2_getChar_3b067 37 = .ok (.baload, 1) := by decide +kernel
theorem dJ2_getChar_3b067_38 : decode cJ2_getChar_3b067 38 = .ok (.sipush 255, 3) := by decide +kernel
theorem dJ2_getChar_3b067_41 : decode cJ2_getChar_3b067 41 = .ok (.iand, 1) := by decide +kernel
theorem dJ2_getChar_3b067_42 : decode cJ2_getChar_3b067 42 = .ok (.getstatic 59, 3) := by decide +kernel
theorem dJ2_getChar_3b067_45 : decode cJ2_getChar_3b067 45 = .ok (.ishl, 1) := by decide +kernel
theorem dJ2_getChar_3b067_46 : decode cJ2_getChar_3b067 46 = .ok (.aload_n 0, 1) := by decide +kernel
theorem dJ2_getChar_3b067_47 : decode cJ2_getChar_3b067 47 = .ok (.iload_n 1, 1) := by decide +kernel
theorem dJ2_getChar_3b067_48 : decode cJ2_getChar_3b067 48 = .ok (.baload, 1) := by decide +kernel
theorem dJ2_getChar_3b067_49 : decode cJ2_getChar_3b067 49 = .ok (.sipush 255, 3) := by decide +kernel
theorem dJ2_getChar_3b067_52 : decode cJ2_getChar_3b067 52 = .ok (.iand, 1) := by decide +kernel
theorem dJ2_getChar_3b067_53 : decode cJ2_getChar_3b067 53 = .ok (.getstatic 63, 3) := by decide +kernel
theorem dJ2_getChar_3b067_56 : decode cJ2_getChar_3b067 56 = .ok (.ishl, 1) := by decide +kernel
theorem dJ2_getChar_3b067_57 : decode cJ2_getChar_3b067 57 = .ok (.ior, 1) := by decide +kernel
theorem dJ2_getChar_3b067_58 : decode cJ2_getChar_3b067 58 = .ok (.i2c, 1) := by decide +kernel
theorem dJ2_getChar_3b067_59 : decode cJ2_getChar_3b067 59 = .ok (.ireturn, 1) := by decide +kernel
theorem dJ2_length_9d52b_0 : decode cJ2_length_9d52b 0 = .ok (.aload_n 0, 1) := by decide +kernel
theorem dJ2_length_9d52b_1 : decode cJ2_length_9d52b 1 = .ok (.arraylength, 1) := by decide +kernel
theorem dJ2_length_9d52b_2 : decode cJ2_length_9d52b 2 = .ok (.iconst 1, 1) := by decide +kernel
theorem dJ2_length_9d52b_3 : decode cJ2_length_9d52b 3 = .ok (.ishr, 1) := by decide +kernel
theorem dJ2_length_9d52b_4 : decode cJ2_length_9d52b 4 = .ok (.ireturn, 1) := by decide +kernel
set_option maxRecDepth 20000 in
theorem ggJ2_charAt_3b067_J2_checkIndex_2214a : GoodIn wsJ2_charAt_3b067 wsJ2_checkIndex_2214a := goodIn_r _ [4, 5, 6, 3, 7, 8, 9, 10, 11, 12, 13, 14, 15, 16] (by decide +kernel) (by decide +kernel)
set_option maxRecDepth 20000 in
theorem gJ2_charAt_3b067_J2_checkIndex_2214a : GoodIn wsJ2_charAt_3b067 (va_wsS RJ2 67 yJ2_checkIndex_2214a wsJ2_checkIndex_2214a) := goodIn_app (goodIn_of _ (by decide +kernel)) ggJ2_charAt_3b067_J2_checkIndex_2214a
set_option maxRecDepth 20000 in
theorem ggJ2_charAt_3b067_J2_getChar_3b067 : GoodIn wsJ2_charAt_3b067 wsJ2_getChar_3b067 := goodIn_r _ [19, 20, 21, 22, 5, 6, 3, 7] (by decide +kernel) (by decide +kernel)
set_option maxRecDepth 20000 in
theorem gJ2_charAt_3b067_J2_getChar_3b067 : GoodIn wsJ2_charAt_3b067 (va_wsS RJ2 71 yJ2_getChar_3b067 wsJ2_getChar_3b067) := goodIn_app (goodIn_of _ (by decide +kernel)) ggJ2_charAt_3b067_J2_getChar_3b067
theorem dJ2_charAt_3b067_0 : decode cJ2_charAt_3b067 0 = .ok (.iload_n 1, 1) := by decide +kernel
theorem dJ2_charAt_3b067_1 : decode cJ2_charAt_3b067 1 = .ok (.aload_n 0, 1) := by decide +kernel
theorem dJ2_charAt_3b067_2 : decode cJ2_charAt_3b067 2 = .ok (.invokestatic 67, 3) := by decide +kernel
theorem dJ2_charAt_3b067_5 : decode cJ2_charAt_3b067 5 = .ok (.aload_n 0, 1) := by decide +kernel
theorem dJ2_charAt_3b067_6 : decode cJ2_charAt_3b067 6 = .ok (.iload_n 1, 1) := by decide +kernel
theorem dJ2_charAt_3b067_7 : decode cJ2_charAt_3b067 7 = .ok (.invokestatic 71, 3) := by decide +kernel
theorem dJ2_charAt_3b067_10 : decode cJ2_charAt_3b067 10 = .ok (.ireturn, 1) := by decide +kernel
set_option maxRecDepth 20000 in
theorem ggJ2_checkIndex_2214a_J2_length_9d52b : GoodIn wsJ2_checkIndex_2214a wsJ2_length_9d52b := goodIn_r _ [4] (by decide +kernel) (by decide +kernel)
set_option maxRecDepth 20000 in
theorem gJ2_checkIndex_2214a_J2_length_9d52b : GoodIn wsJ2_checkIndex_2214a (va_wsS RJ2 48 yJ2_length_9d52b wsJ2_length_9d52b) := goodIn_app (goodIn_of _ (by decide +kernel)) ggJ2_checkIndex_2214a_J2_length_9d52b
set_option maxRecDepth 20000 in
theorem ggJ2_checkIndex_2214a_J0_checkIndex_df160 : GoodIn wsJ2_checkIndex_2214a wsJ0_checkIndex_df160 := goodIn_r _ [8, 9, 10, 11, 12, 13] (by decide +kernel) (by decide +kernel)
set_option maxRecDepth 20000 in
theorem gJ2_checkIndex_2214a_J0_checkIndex_df160 : GoodIn wsJ2_checkIndex_2214a (va_wsS RJ2 414 yJ0_checkIndex_df160 wsJ0_checkIndex_df160) := goodIn_app (goodIn_of _ (by decide +kernel)) ggJ2_checkIndex_2214a_J0_checkIndex_df160
theorem dJ2_checkIndex_2214a_0 : decode cJ2_checkIndex_2214a 0 = .ok (.iload_n 0, 1) := by decide +kernel
theorem dJ2_checkIndex_2214a_1 : decode cJ2_checkIndex_2214a 1 = .ok (.aload_n 1, 1) := by decide +kernel
theorem dJ2_checkIndex_2214a_2 : decode cJ2_checkIndex_2214a 2 = .ok (.invokestatic 48, 3) := by decide +kernel
theorem dJ2_checkIndex_2214a_5 : decode cJ2_checkIndex_2214a 5 = .ok (.invokestatic 414, 3) := by decide +kernel
theorem dJ2_checkIndex_2214a_8 : decode cJ2_checkIndex_2214a 8 = .ok (.return_, 1) := by decide +kernel
theorem dJ3_checkIndex_8e157_0 : decode cJ3_checkIndex_8e157 0 = .ok (.iload_n 0, 1) := by decide +kernel
theorem dJ3_checkIndex_8e157_1 : decode cJ3_checkIndex_8e157 1 = .ok (.ifCond .lt 8, 3) := by decide +kernel
theorem dJ3_checkIndex_8e157_4 : decode cJ3_checkIndex_8e157 4 = .ok (.iload_n 0, 1) := by decide +kernel
theorem dJ3_checkIndex_8e157_5 : decode cJ3_checkIndex_8e157 5 = .ok (.iload_n 1, 1) := by decide +kernel
theorem dJ3_checkIndex_8e157_6 : decode cJ3_checkIndex_8e157 6 = .ok (.if_icmp .lt 10, 3) := by decide +kernel
theorem dJ3_checkIndex_8e157_9 : decode cJ3_checkIndex_8e157 9 = .ok (.aload_n 2, 1) := by decide +kernel
theorem dJ3_checkIndex_8e157_10 : decode cJ3_checkIndex_8e157 10 = .ok (.iload_n 0, 1) := by decide +kernel
theorem dJ3_checkIndex_8e157_11 : decode cJ3_checkIndex_8e157 11 = .ok (.iload_n 1, 1) := by decide +kernel
theorem dJ3_checkIndex_8e157_12 : decode cJ3_checkIndex_8e157 12 = .ok (.invokestatic 95, 3) := by decide +kernel
theorem dJ3_checkIndex_8e157_15 : decode cJ3_checkIndex_8e157 15 = .ok (.athrow, 1) := by decide +kernel
theorem dJ3_checkIndex_8e157_16 : decode cJ3_checkIndex_8e157 16 = .ok (.iload_n 0, 1) := by decide +kernel
theorem dJ3_checkIndex_8e157_17 : decode cJ3_checkIndex_8e157 17 = .ok (.ireturn, 1) := by decide +kernel
set_option maxRecDepth 20000 in
theorem ggL_parse_X8_parse : GoodIn wsL_parse wsX8_parse := goodIn_ca (goodIn_r _ [6, 7, 8, 9, 10, 11, 5, 12, 13, 14, 15, 16, 17, 18, 19, 20, 21, 22, 23, 24, 25, 26, 27, 28, 29, 30, 31, 32, 33, 34, 35, 36, 37, 38, 39, 40, 41, 42, 43, 44, 45, 46, 47, 48, 49, 50, 51, 52, 53, 54, 55, 56, 57, 58, 59, 60, 61, 62, 63, 64, 65, 66, 67, 68, 69, 70, 71, 72, 73, 74, 75, 76, 77, 78, 79, 80, 81, 82, 83, 84, 85, 86, 87, 88, 89, 90, 91, 92, 93, 94, 95, 96, 97, 98, 99, 100, 101, 102, 103, 104, 105, 106, 107, 108, 109, 110, 111, 112, 113, 114, 115, 116, 117, 118, 119, 120, 121, 122, 123, 124, 125, 126, 127, 128, 129, 130, 131, 132, 133, 134, 135, 136, 137, 138, 139, 140, 141, 142, 143, 144, 145, 146, 147, 148, 149, 150, 151, 152, 153, 154, 155, 156, 157, 158, 159, 160, 161, 162, 163, 164, 165, 166, 167, 168, 169, 170, 171, 172, 173, 174, 175, 176, 177, 178, 179, 180, 181, 182, 183, 184, 185, 186, 187, 188, 189, 190, 191, 192, 193, 194, 195, 196, 197, 198, 199, 200, 201, 202, 203, 204, 205, 206, 207, 208, 209, 210, 211, 212, 213, 214, 215, 216, 217, 218, 219, 220, 221, 222, 223, 224, 225, 226, 227, 228, 229, 230, 231, 232, 233, 234, 235, 236, 237, 238, 239, 240, 241, 242, 243, 244, 245, 246, 247, 248, 249, 250, 251, 252, 253, 254, 255, 256, 257, 258, 259, 260, 261, 262, 263, 264, 265, 266, 267, 268, 269, 270, 271, 272, 273, 274, 275, 276, 277, 278, 279, 280, 281, 282, 283, 284, 285, 286, 287, 288, 289, 290, 291, 292, 293, 294, 295, 296, 297] (by decide +kernel) (by decide +kernel)) (goodIn_sub (fun _ h => List.mem_cons_of_mem _ (List.mem_append_right _ h)) (by decide +kernel))
set_option maxRecDepth 20000 in
theorem gL_parse_X8_parse : GoodIn wsL_parse (wsV RL 7 RX8 yX8_parse wsX8_parse) := goodIn_app (goodIn_of _ (by decide +kernel)) ggL_parse_X8_parse
theorem dL_parse_0 : decode cL_parse 0 = .ok (.aload_n 2, 1) := by decide +kernel
theorem dL_parse_1 : decode cL_parse 1 = .ok (.iconst 0, 1) := by decide +kernel
theorem dL_parse_2 : decode cL_parse 2 = .ok (.aload_n 0, 1) := by decide +kernel
theorem dL_parse_3 : decode cL_parse 3 = .ok (.iload_n 1, 1) := by decide +kernel
theorem dL_parse_4 : decode cL_parse 4 = .ok (.invokevirtual 7, 3) := by decide +kernel
theorem dL_parse_7 : decode cL_parse 7 = .ok (.i2l, 1) := by decide +kernel
theorem dL_parse_8 : decode cL_parse 8 = .ok (.lastore, 1) := by decide +kernel
theorem dL_parse_9 : decode cL_parse 9 = .ok (.goto 6, 3) := by decide +kernel
theorem dL_parse_12 : decode cL_parse 12 = .ok (.astore_n 3, 1) := by decide +kernel
theorem dL_parse_13 : decode cL_parse 13 = .ok (.iconst 1, 1) := by decide +kernel
theorem dL_parse_14 : decode cL_parse 14 = .ok (.ireturn, 1) := by decide +kernel
theorem dL_parse_15 : decode cL_parse 15 = .ok (.iconst 0, 1) := by decide +kernel
theorem dL_parse_16 : decode cL_parse 16 = .ok (.ireturn, 1) := by decide +kernel
set_option maxRecDepth 20000 in
theorem ggL_sine_X8_sine : GoodIn wsL_sine wsX8_sine := goodIn_ca (goodIn_r _ [6, 7, 8, 5, 9, 10, 11, 12, 13, 14, 15, 16, 17] (by decide +kernel) (by decide +kernel)) (goodIn_sub (fun _ h => List.mem_cons_of_mem _ (List.mem_append_right _ h)) (by decide +kernel))
set_option maxRecDepth 20000 in
theorem gL_sine_X8_sine : GoodIn wsL_sine (wsV RL 15 RX8 yX8_sine wsX8_sine) := goodIn_app (goodIn_of _ (by decide +kernel)) ggL_sine_X8_sine
theorem dL_sine_0 : decode cL_sine 0 = .ok (.aload_n 2, 1) := by decide +kernel
theorem dL_sine_1 : decode cL_sine 1 = .ok (.iconst 0, 1) := by decide +kernel
theorem dL_sine_2 : decode cL_sine 2 = .ok (.aload_n 0, 1) := by decide +kernel
theorem dL_sine_3 : decode cL_sine 3 = .ok (.iload_n 1, 1) := by decide +kernel
theorem dL_sine_4 : decode cL_sine 4 = .ok (.invokevirtual 15, 3) := by decide +kernel
theorem dL_sine_7 : decode cL_sine 7 = .ok (.i2l, 1) := by decide +kernel
theorem dL_sine_8 : decode cL_sine 8 = .ok (.lastore, 1) := by decide +kernel
theorem dL_sine_9 : decode cL_sine 9 = .ok (.goto 6, 3) := by decide +kernel
theorem dL_sine_12 : decode cL_sine 12 = .ok (.astore_n 3, 1) := by decide +kernel
theorem dL_sine_13 : decode cL_sine 13 = .ok (.iconst 1, 1) := by decide +kernel
theorem dL_sine_14 : decode cL_sine 14 = .ok (.ireturn, 1) := by decide +kernel
theorem dL_sine_15 : decode cL_sine 15 = .ok (.iconst 0, 1) := by decide +kernel
theorem dL_sine_16 : decode cL_sine 16 = .ok (.ireturn, 1) := by decide +kernel
set_option maxRecDepth 20000 in
theorem ggL_lean_X8_lean : GoodIn wsL_lean wsX8_lean := goodIn_ca (goodIn_r _ [6, 7, 8, 5, 9, 10, 11, 12, 13, 14] (by decide +kernel) (by decide +kernel)) (goodIn_sub (fun _ h => List.mem_cons_of_mem _ (List.mem_append_right _ h)) (by decide +kernel))
set_option maxRecDepth 20000 in
theorem gL_lean_X8_lean : GoodIn wsL_lean (wsV RL 18 RX8 yX8_lean wsX8_lean) := goodIn_app (goodIn_of _ (by decide +kernel)) ggL_lean_X8_lean
theorem dL_lean_0 : decode cL_lean 0 = .ok (.aload_n 2, 1) := by decide +kernel
theorem dL_lean_1 : decode cL_lean 1 = .ok (.iconst 0, 1) := by decide +kernel
theorem dL_lean_2 : decode cL_lean 2 = .ok (.aload_n 0, 1) := by decide +kernel
theorem dL_lean_3 : decode cL_lean 3 = .ok (.iload_n 1, 1) := by decide +kernel
theorem dL_lean_4 : decode cL_lean 4 = .ok (.invokevirtual 18, 3) := by decide +kernel
theorem dL_lean_7 : decode cL_lean 7 = .ok (.i2l, 1) := by decide +kernel
theorem dL_lean_8 : decode cL_lean 8 = .ok (.lastore, 1) := by decide +kernel
theorem dL_lean_9 : decode cL_lean 9 = .ok (.goto 6, 3) := by decide +kernel
theorem dL_lean_12 : decode cL_lean 12 = .ok (.astore_n 3, 1) := by decide +kernel
theorem dL_lean_13 : decode cL_lean 13 = .ok (.iconst 1, 1) := by decide +kernel
theorem dL_lean_14 : decode cL_lean 14 = .ok (.ireturn, 1) := by decide +kernel
theorem dL_lean_15 : decode cL_lean 15 = .ok (.iconst 0, 1) := by decide +kernel
theorem dL_lean_16 : decode cL_lean 16 = .ok (.ireturn, 1) := by decide +kernel
set_option maxRecDepth 20000 in
theorem ggL_state_X8_state : GoodIn wsL_state wsX8_state := goodIn_ca (goodIn_r _ [6, 7, 8, 9, 5, 10, 11, 12, 13, 14, 15, 16, 17, 18, 19, 20, 21, 22, 23, 24, 25, 26, 27, 28, 29, 30, 31, 32, 33, 34, 35, 36, 37, 38, 39, 40, 41, 42, 43, 44, 45, 46, 47, 48, 49, 50, 51] (by decide +kernel) (by decide +kernel)) (goodIn_sub (fun _ h => List.mem_cons_of_mem _ (List.mem_append_right _ h)) (by decide +kernel))
set_option maxRecDepth 20000 in
theorem gL_state_X8_state : GoodIn wsL_state (wsV RL 21 RX8 yX8_state wsX8_state) := goodIn_app (goodIn_of _ (by decide +kernel)) ggL_state_X8_state
theorem dL_state_0 : decode cL_state 0 = .ok (.aload_n 2, 1) := by decide +kernel
theorem dL_state_1 : decode cL_state 1 = .ok (.iconst 0, 1) := by decide +kernel
theorem dL_state_2 : decode cL_state 2 = .ok (.aload_n 0, 1) := by decide +kernel
theorem dL_state_3 : decode cL_state 3 = .ok (.iload_n 1, 1) := by decide +kernel
theorem dL_state_4 : decode cL_state 4 = .ok (.invokevirtual 21, 3) := by decide +kernel
theorem dL_state_7 : decode cL_state 7 = .ok (.i2l, 1) := by decide +kernel
theorem dL_state_8 : decode cL_state 8 = .ok (.lastore, 1) := by decide +kernel
theorem dL_state_9 : decode cL_state 9 = .ok (.goto 6, 3) := by decide +kernel
theorem dL_state_12 : decode cL_state 12 = .ok (.astore_n 3, 1) := by decide +kernel
theorem dL_state_13 : decode cL_state 13 = .ok (.iconst 1, 1) := by decide +kernel
theorem dL_state_14 : decode cL_state 14 = .ok (.ireturn, 1) := by decide +kernel
theorem dL_state_15 : decode cL_state 15 = .ok (.iconst 0, 1) := by decide +kernel
theorem dL_state_16 : decode cL_state 16 = .ok (.ireturn, 1) := by decide +kernel
set_option maxRecDepth 20000 in
theorem ggL_link_X8_link : GoodIn wsL_link wsX8_link := goodIn_ca (goodIn_ca (goodIn_r _ [7, 8, 9, 10, 6, 11, 12, 13, 14, 15, 16, 17, 18, 19, 20, 21, 22, 23, 24, 25, 26, 27, 28, 29, 30, 31, 32, 33, 34, 35, 36, 37, 38, 39, 40, 41, 42, 43, 44, 45, 46, 47, 48, 49, 50, 51, 52, 53, 54, 55, 56, 57, 58, 59, 60, 61, 62, 63] (by decide +kernel) (by decide +kernel)) (goodIn_sub (fun _ h => List.mem_cons_of_mem _ (List.mem_append_left _ (List.mem_append_right _ h))) (by decide +kernel))) (goodIn_sub (fun _ h => List.mem_cons_of_mem _ (List.mem_append_right _ h)) (by decide +kernel))
set_option maxRecDepth 20000 in
theorem gL_link_X8_link : GoodIn wsL_link (wsV RL 24 RX8 yX8_link wsX8_link) := goodIn_app (goodIn_of _ (by decide +kernel)) ggL_link_X8_link
theorem dL_link_0 : decode cL_link 0 = .ok (.aload_n 3, 1) := by decide +kernel
theorem dL_link_1 : decode cL_link 1 = .ok (.iconst 0, 1) := by decide +kernel
theorem dL_link_2 : decode cL_link 2 = .ok (.aload_n 0, 1) := by decide +kernel
theorem dL_link_3 : decode cL_link 3 = .ok (.iload_n 1, 1) := by decide +kernel
theorem dL_link_4 : decode cL_link 4 = .ok (.iload_n 2, 1) := by decide +kernel
theorem dL_link_5 : decode cL_link 5 = .ok (.invokevirtual 24, 3) := by decide +kernel
theorem dL_link_8 : decode cL_link 8 = .ok (.i2l, 1) := by decide +kernel
theorem dL_link_9 : decode cL_link 9 = .ok (.lastore, 1) := by decide +kernel
theorem dL_link_10 : decode cL_link 10 = .ok (.goto 11, 3) := by decide +kernel
theorem dL_link_13 : decode cL_link 13 = .ok (.astore 4, 2) := by decide +kernel
theorem dL_link_15 : decode cL_link 15 = .ok (.iconst 1, 1) := by decide +kernel
theorem dL_link_16 : decode cL_link 16 = .ok (.ireturn, 1) := by decide +kernel
theorem dL_link_17 : decode cL_link 17 = .ok (.astore 4, 2) := by decide +kernel
theorem dL_link_19 : decode cL_link 19 = .ok (.iconst 2, 1) := by decide +kernel
theorem dL_link_20 : decode cL_link 20 = .ok (.ireturn, 1) := by decide +kernel
theorem dL_link_21 : decode cL_link 21 = .ok (.iconst 0, 1) := by decide +kernel
theorem dL_link_22 : decode cL_link 22 = .ok (.ireturn, 1) := by decide +kernel
set_option maxRecDepth 20000 in
theorem ggL_energy_X8_energy : GoodIn wsL_energy wsX8_energy := goodIn_ca (goodIn_r _ [6, 7, 8, 9, 10, 5, 11, 12, 13, 14, 15, 16, 17, 18, 19, 20, 21, 22, 23, 24, 25, 26, 27, 28, 29, 30, 31, 32, 33, 34, 35, 36, 37, 38, 39, 40, 41, 42, 43, 44, 45, 46, 47, 48, 49, 50, 51, 52, 53, 54, 55, 56, 57, 58, 59, 60, 61, 62, 63, 64, 65, 66, 67, 68, 69, 70, 71] (by decide +kernel) (by decide +kernel)) (goodIn_sub (fun _ h => List.mem_cons_of_mem _ (List.mem_append_right _ h)) (by decide +kernel))
set_option maxRecDepth 20000 in
theorem gL_energy_X8_energy : GoodIn wsL_energy (wsV RL 30 RX8 yX8_energy wsX8_energy) := goodIn_app (goodIn_of _ (by decide +kernel)) ggL_energy_X8_energy
theorem dL_energy_0 : decode cL_energy 0 = .ok (.aload_n 2, 1) := by decide +kernel
theorem dL_energy_1 : decode cL_energy 1 = .ok (.iconst 0, 1) := by decide +kernel
theorem dL_energy_2 : decode cL_energy 2 = .ok (.aload_n 0, 1) := by decide +kernel
theorem dL_energy_3 : decode cL_energy 3 = .ok (.iload_n 1, 1) := by decide +kernel
theorem dL_energy_4 : decode cL_energy 4 = .ok (.invokevirtual 30, 3) := by decide +kernel
theorem dL_energy_7 : decode cL_energy 7 = .ok (.lastore, 1) := by decide +kernel
theorem dL_energy_8 : decode cL_energy 8 = .ok (.goto 6, 3) := by decide +kernel
theorem dL_energy_11 : decode cL_energy 11 = .ok (.astore_n 3, 1) := by decide +kernel
theorem dL_energy_12 : decode cL_energy 12 = .ok (.iconst 1, 1) := by decide +kernel
theorem dL_energy_13 : decode cL_energy 13 = .ok (.ireturn, 1) := by decide +kernel
theorem dL_energy_14 : decode cL_energy 14 = .ok (.iconst 0, 1) := by decide +kernel
theorem dL_energy_15 : decode cL_energy 15 = .ok (.ireturn, 1) := by decide +kernel
set_option maxRecDepth 20000 in
theorem ggL_target_X8_target : GoodIn wsL_target wsX8_target := goodIn_ca (goodIn_r _ [6, 7, 8, 9, 5, 10, 11, 12, 13, 14, 15, 16, 17, 18, 19, 20, 21, 22, 23, 24, 25, 26, 27, 28, 29, 30, 31, 32] (by decide +kernel) (by decide +kernel)) (goodIn_sub (fun _ h => List.mem_cons_of_mem _ (List.mem_append_right _ h)) (by decide +kernel))
set_option maxRecDepth 20000 in
theorem gL_target_X8_target : GoodIn wsL_target (wsV RL 34 RX8 yX8_target wsX8_target) := goodIn_app (goodIn_of _ (by decide +kernel)) ggL_target_X8_target
theorem dL_target_0 : decode cL_target 0 = .ok (.aload_n 2, 1) := by decide +kernel
theorem dL_target_1 : decode cL_target 1 = .ok (.iconst 0, 1) := by decide +kernel
theorem dL_target_2 : decode cL_target 2 = .ok (.aload_n 0, 1) := by decide +kernel
theorem dL_target_3 : decode cL_target 3 = .ok (.iload_n 1, 1) := by decide +kernel
theorem dL_target_4 : decode cL_target 4 = .ok (.invokevirtual 34, 3) := by decide +kernel
theorem dL_target_7 : decode cL_target 7 = .ok (.i2l, 1) := by decide +kernel
theorem dL_target_8 : decode cL_target 8 = .ok (.lastore, 1) := by decide +kernel
theorem dL_target_9 : decode cL_target 9 = .ok (.goto 6, 3) := by decide +kernel
theorem dL_target_12 : decode cL_target 12 = .ok (.astore_n 3, 1) := by decide +kernel
theorem dL_target_13 : decode cL_target 13 = .ok (.iconst 1, 1) := by decide +kernel
theorem dL_target_14 : decode cL_target 14 = .ok (.ireturn, 1) := by decide +kernel
theorem dL_target_15 : decode cL_target 15 = .ok (.iconst 0, 1) := by decide +kernel
theorem dL_target_16 : decode cL_target 16 = .ok (.ireturn, 1) := by decide +kernel
set_option maxRecDepth 20000 in
theorem ggL_switchesIn_X8_switchesIn : GoodIn wsL_switchesIn wsX8_switchesIn := goodIn_ca (goodIn_r _ [6, 7, 8, 9, 5, 10, 11, 12, 13, 14, 15, 16, 17, 18, 19, 20, 21, 22, 23, 24, 25, 26, 27, 28, 29, 30, 31, 32, 33, 34, 35, 36, 37, 38, 39, 40, 41, 42, 43, 44, 45, 46, 47, 48, 49, 50, 51, 52, 53, 54, 55, 56] (by decide +kernel) (by decide +kernel)) (goodIn_sub (fun _ h => List.mem_cons_of_mem _ (List.mem_append_right _ h)) (by decide +kernel))
set_option maxRecDepth 20000 in
theorem gL_switchesIn_X8_switchesIn : GoodIn wsL_switchesIn (wsV RL 37 RX8 yX8_switchesIn wsX8_switchesIn) := goodIn_app (goodIn_of _ (by decide +kernel)) ggL_switchesIn_X8_switchesIn
theorem dL_switchesIn_0 : decode cL_switchesIn 0 = .ok (.aload_n 2, 1) := by decide +kernel
theorem dL_switchesIn_1 : decode cL_switchesIn 1 = .ok (.iconst 0, 1) := by decide +kernel
theorem dL_switchesIn_2 : decode cL_switchesIn 2 = .ok (.aload_n 0, 1) := by decide +kernel
theorem dL_switchesIn_3 : decode cL_switchesIn 3 = .ok (.iload_n 1, 1) := by decide +kernel
theorem dL_switchesIn_4 : decode cL_switchesIn 4 = .ok (.invokevirtual 37, 3) := by decide +kernel
theorem dL_switchesIn_7 : decode cL_switchesIn 7 = .ok (.i2l, 1) := by decide +kernel
theorem dL_switchesIn_8 : decode cL_switchesIn 8 = .ok (.lastore, 1) := by decide +kernel
theorem dL_switchesIn_9 : decode cL_switchesIn 9 = .ok (.goto 6, 3) := by decide +kernel
theorem dL_switchesIn_12 : decode cL_switchesIn 12 = .ok (.astore_n 3, 1) := by decide +kernel
theorem dL_switchesIn_13 : decode cL_switchesIn 13 = .ok (.iconst 1, 1) := by decide +kernel
theorem dL_switchesIn_14 : decode cL_switchesIn 14 = .ok (.ireturn, 1) := by decide +kernel
theorem dL_switchesIn_15 : decode cL_switchesIn 15 = .ok (.iconst 0, 1) := by decide +kernel
theorem dL_switchesIn_16 : decode cL_switchesIn 16 = .ok (.ireturn, 1) := by decide +kernel
set_option maxRecDepth 20000 in
theorem ggL_reason_X8_reason : GoodIn wsL_reason wsX8_reason := goodIn_ca (goodIn_r _ [6, 7, 8, 9, 10, 5, 11, 12, 13, 14, 15, 16, 17, 18, 19, 20, 21, 22, 23, 24, 25, 26, 27, 28, 29, 30, 31, 32, 33, 34, 35, 36, 37, 38, 39, 40, 41, 42, 43, 44, 45, 46, 47, 48, 49, 50, 51, 52, 53, 54, 55, 56, 57, 58, 59, 60] (by decide +kernel) (by decide +kernel)) (goodIn_sub (fun _ h => List.mem_cons_of_mem _ (List.mem_append_right _ h)) (by decide +kernel))
set_option maxRecDepth 20000 in
theorem gL_reason_X8_reason : GoodIn wsL_reason (wsV RL 40 RX8 yX8_reason wsX8_reason) := goodIn_app (goodIn_of _ (by decide +kernel)) ggL_reason_X8_reason
theorem dL_reason_0 : decode cL_reason 0 = .ok (.aload_n 3, 1) := by decide +kernel
theorem dL_reason_1 : decode cL_reason 1 = .ok (.iconst 0, 1) := by decide +kernel
theorem dL_reason_2 : decode cL_reason 2 = .ok (.aload_n 0, 1) := by decide +kernel
theorem dL_reason_3 : decode cL_reason 3 = .ok (.iload_n 1, 1) := by decide +kernel
theorem dL_reason_4 : decode cL_reason 4 = .ok (.iload_n 2, 1) := by decide +kernel
theorem dL_reason_5 : decode cL_reason 5 = .ok (.invokevirtual 40, 3) := by decide +kernel
theorem dL_reason_8 : decode cL_reason 8 = .ok (.i2l, 1) := by decide +kernel
theorem dL_reason_9 : decode cL_reason 9 = .ok (.lastore, 1) := by decide +kernel
theorem dL_reason_10 : decode cL_reason 10 = .ok (.goto 7, 3) := by decide +kernel
theorem dL_reason_13 : decode cL_reason 13 = .ok (.astore 4, 2) := by decide +kernel
theorem dL_reason_15 : decode cL_reason 15 = .ok (.iconst 1, 1) := by decide +kernel
theorem dL_reason_16 : decode cL_reason 16 = .ok (.ireturn, 1) := by decide +kernel
theorem dL_reason_17 : decode cL_reason 17 = .ok (.iconst 0, 1) := by decide +kernel
theorem dL_reason_18 : decode cL_reason 18 = .ok (.ireturn, 1) := by decide +kernel
set_option maxRecDepth 20000 in
theorem ggL_failedStep_X8_failedStep : GoodIn wsL_failedStep wsX8_failedStep := goodIn_ca (goodIn_r _ [6, 7, 8, 9, 10, 5, 11, 12, 13, 14, 15, 16, 17, 18, 19, 20, 21, 22, 23, 24, 25, 26, 27, 28, 29, 30, 31, 32, 33, 34, 35, 36, 37, 38, 39, 40, 41, 42, 43, 44, 45, 46, 47, 48, 49, 50, 51, 52, 53, 54, 55, 56, 57, 58, 59, 60] (by decide +kernel) (by decide +kernel)) (goodIn_sub (fun _ h => List.mem_cons_of_mem _ (List.mem_append_right _ h)) (by decide +kernel))
set_option maxRecDepth 20000 in
theorem gL_failedStep_X8_failedStep : GoodIn wsL_failedStep (wsV RL 43 RX8 yX8_failedStep wsX8_failedStep) := goodIn_app (goodIn_of _ (by decide +kernel)) ggL_failedStep_X8_failedStep
theorem dL_failedStep_0 : decode cL_failedStep 0 = .ok (.aload_n 3, 1) := by decide +kernel
theorem dL_failedStep_1 : decode cL_failedStep 1 = .ok (.iconst 0, 1) := by decide +kernel
theorem dL_failedStep_2 : decode cL_failedStep 2 = .ok (.aload_n 0, 1) := by decide +kernel
theorem dL_failedStep_3 : decode cL_failedStep 3 = .ok (.iload_n 1, 1) := by decide +kernel
theorem dL_failedStep_4 : decode cL_failedStep 4 = .ok (.iload_n 2, 1) := by decide +kernel
theorem dL_failedStep_5 : decode cL_failedStep 5 = .ok (.invokevirtual 43, 3) := by decide +kernel
theorem dL_failedStep_8 : decode cL_failedStep 8 = .ok (.i2l, 1) := by decide +kernel
theorem dL_failedStep_9 : decode cL_failedStep 9 = .ok (.lastore, 1) := by decide +kernel
theorem dL_failedStep_10 : decode cL_failedStep 10 = .ok (.goto 7, 3) := by decide +kernel
theorem dL_failedStep_13 : decode cL_failedStep 13 = .ok (.astore 4, 2) := by decide +kernel
theorem dL_failedStep_15 : decode cL_failedStep 15 = .ok (.iconst 1, 1) := by decide +kernel
theorem dL_failedStep_16 : decode cL_failedStep 16 = .ok (.ireturn, 1) := by decide +kernel
theorem dL_failedStep_17 : decode cL_failedStep 17 = .ok (.iconst 0, 1) := by decide +kernel
theorem dL_failedStep_18 : decode cL_failedStep 18 = .ok (.ireturn, 1) := by decide +kernel
set_option maxRecDepth 20000 in
theorem ggL_cellOf_X8_cellOf : GoodIn wsL_cellOf wsX8_cellOf := goodIn_ca (goodIn_ca (goodIn_r _ [7, 8, 9, 10, 11, 6, 12, 13, 14, 15, 16, 17, 18, 19, 20, 21, 22, 23, 24, 25, 26, 27, 28, 29, 30, 31, 32, 33, 34, 35, 36, 37, 38, 39, 40, 41, 42, 43, 44, 45, 46, 47, 48, 49, 50, 51, 52, 53, 54, 55, 56, 57, 58, 59, 60, 61, 62, 63, 64, 65, 66, 67, 68, 69, 70, 71, 72, 73, 74, 75, 76, 77, 78, 79, 80, 81, 82] (by decide +kernel) (by decide +kernel)) (goodIn_sub (fun _ h => List.mem_cons_of_mem _ (List.mem_append_left _ (List.mem_append_right _ h))) (by decide +kernel))) (goodIn_sub (fun _ h => List.mem_cons_of_mem _ (List.mem_append_right _ h)) (by decide +kernel))
set_option maxRecDepth 20000 in
theorem gL_cellOf_X8_cellOf : GoodIn wsL_cellOf (wsV RL 46 RX8 yX8_cellOf wsX8_cellOf) := goodIn_app (goodIn_of _ (by decide +kernel)) ggL_cellOf_X8_cellOf
theorem dL_cellOf_0 : decode cL_cellOf 0 = .ok (.aload_n 3, 1) := by decide +kernel
theorem dL_cellOf_1 : decode cL_cellOf 1 = .ok (.iconst 0, 1) := by decide +kernel
theorem dL_cellOf_2 : decode cL_cellOf 2 = .ok (.aload_n 0, 1) := by decide +kernel
theorem dL_cellOf_3 : decode cL_cellOf 3 = .ok (.iload_n 1, 1) := by decide +kernel
theorem dL_cellOf_4 : decode cL_cellOf 4 = .ok (.iload_n 2, 1) := by decide +kernel
theorem dL_cellOf_5 : decode cL_cellOf 5 = .ok (.invokevirtual 46, 3) := by decide +kernel
theorem dL_cellOf_8 : decode cL_cellOf 8 = .ok (.i2l, 1) := by decide +kernel
theorem dL_cellOf_9 : decode cL_cellOf 9 = .ok (.lastore, 1) := by decide +kernel
theorem dL_cellOf_10 : decode cL_cellOf 10 = .ok (.goto 11, 3) := by decide +kernel
theorem dL_cellOf_13 : decode cL_cellOf 13 = .ok (.astore 4, 2) := by decide +kernel
theorem dL_cellOf_15 : decode cL_cellOf 15 = .ok (.iconst 1, 1) := by decide +kernel
theorem dL_cellOf_16 : decode cL_cellOf 16 = .ok (.ireturn, 1) := by decide +kernel
theorem dL_cellOf_17 : decode cL_cellOf 17 = .ok (.astore 4, 2) := by decide +kernel
theorem dL_cellOf_19 : decode cL_cellOf 19 = .ok (.iconst 2, 1) := by decide +kernel
theorem dL_cellOf_20 : decode cL_cellOf 20 = .ok (.ireturn, 1) := by decide +kernel
theorem dL_cellOf_21 : decode cL_cellOf 21 = .ok (.iconst 0, 1) := by decide +kernel
theorem dL_cellOf_22 : decode cL_cellOf 22 = .ok (.ireturn, 1) := by decide +kernel
set_option maxRecDepth 20000 in
theorem ggL_ticksToBalance_X8_ticksToBalance : GoodIn wsL_ticksToBalance wsX8_ticksToBalance := goodIn_ca (goodIn_r _ [6, 7, 8, 5, 9, 10, 11, 12, 13, 14, 15, 16, 17, 18, 19, 20, 21, 22, 23, 24, 25, 26, 27, 28, 29, 30, 31, 32, 33, 34, 35, 36, 37, 38, 39, 40, 41, 42, 43, 44, 45, 46, 47, 48, 49, 50, 51, 52, 53, 54, 55, 56, 57, 58, 59, 60, 61, 62, 63, 64, 65, 66, 67, 68, 69, 70, 71, 72, 73, 74, 75, 76, 77, 78, 79, 80, 81, 82, 83, 84, 85, 86, 87, 88, 89, 90, 91, 92, 93, 94, 95, 96, 97, 98, 99, 100, 101, 102, 103, 104, 105, 106, 107, 108, 109, 110, 111, 112, 113, 114, 115, 116, 117, 118, 119, 120, 121, 122, 123, 124, 125, 126, 127, 128, 129, 130, 131, 132, 133, 134, 135, 136, 137, 138, 139, 140, 141, 142, 143, 144, 145, 146, 147, 148, 149, 150, 151, 152, 153, 154, 155, 156, 157, 158, 159, 160, 161, 162, 163, 164, 165, 166, 167, 168, 169, 170, 171, 172, 173, 174, 175, 176, 177, 178, 179, 180, 181, 182, 183, 184, 185, 186, 187, 188, 189, 190, 191, 192, 193, 194, 195, 196, 197, 198, 199, 200, 201, 202, 203, 204, 205, 206, 207, 208, 209, 210, 211, 212, 213, 214, 215, 216, 217, 218, 219, 220, 221, 222, 223, 224, 225, 226, 227, 228, 229, 230, 231, 232, 233, 234, 235, 236, 237, 238, 239, 240, 241, 242] (by decide +kernel) (by decide +kernel)) (goodIn_sub (fun _ h => List.mem_cons_of_mem _ (List.mem_append_right _ h)) (by decide +kernel))
set_option maxRecDepth 20000 in
theorem gL_ticksToBalance_X8_ticksToBalance : GoodIn wsL_ticksToBalance (wsV RL 49 RX8 yX8_ticksToBalance wsX8_ticksToBalance) := goodIn_app (goodIn_of _ (by decide +kernel)) ggL_ticksToBalance_X8_ticksToBalance
theorem dL_ticksToBalance_0 : decode cL_ticksToBalance 0 = .ok (.aload_n 2, 1) := by decide +kernel
theorem dL_ticksToBalance_1 : decode cL_ticksToBalance 1 = .ok (.iconst 0, 1) := by decide +kernel
theorem dL_ticksToBalance_2 : decode cL_ticksToBalance 2 = .ok (.aload_n 0, 1) := by decide +kernel
theorem dL_ticksToBalance_3 : decode cL_ticksToBalance 3 = .ok (.iload_n 1, 1) := by decide +kernel
theorem dL_ticksToBalance_4 : decode cL_ticksToBalance 4 = .ok (.invokevirtual 49, 3) := by decide +kernel
theorem dL_ticksToBalance_7 : decode cL_ticksToBalance 7 = .ok (.i2l, 1) := by decide +kernel
theorem dL_ticksToBalance_8 : decode cL_ticksToBalance 8 = .ok (.lastore, 1) := by decide +kernel
theorem dL_ticksToBalance_9 : decode cL_ticksToBalance 9 = .ok (.goto 6, 3) := by decide +kernel
theorem dL_ticksToBalance_12 : decode cL_ticksToBalance 12 = .ok (.astore_n 3, 1) := by decide +kernel
theorem dL_ticksToBalance_13 : decode cL_ticksToBalance 13 = .ok (.iconst 1, 1) := by decide +kernel
theorem dL_ticksToBalance_14 : decode cL_ticksToBalance 14 = .ok (.ireturn, 1) := by decide +kernel
theorem dL_ticksToBalance_15 : decode cL_ticksToBalance 15 = .ok (.iconst 0, 1) := by decide +kernel
theorem dL_ticksToBalance_16 : decode cL_ticksToBalance 16 = .ok (.ireturn, 1) := by decide +kernel
set_option maxRecDepth 20000 in
theorem ggL_ticksToStop_X8_ticksToStop : GoodIn wsL_ticksToStop wsX8_ticksToStop := goodIn_ca (goodIn_r _ [6, 7, 8, 5, 9, 10, 11, 12, 13, 14, 15, 16, 17, 18, 19, 20, 21, 22, 23, 24, 25, 26, 27, 28, 29, 30, 31, 32, 33, 34, 35, 36, 37, 38, 39, 40, 41, 42, 43, 44, 45, 46, 47, 48, 49, 50, 51, 52, 53, 54, 55, 56, 57, 58, 59, 60, 61, 62, 63, 64, 65, 66, 67, 68, 69, 70, 71, 72, 73, 74, 75, 76, 77, 78, 79, 80, 81, 82, 83, 84, 85, 86, 87, 88, 89, 90, 91, 92, 93, 94, 95, 96, 97, 98, 99, 100, 101, 102, 103, 104, 105, 106, 107, 108, 109, 110, 111, 112, 113, 114, 115, 116, 117, 118, 119, 120, 121, 122, 123, 124, 125, 126, 127, 128, 129, 130, 131, 132, 133, 134, 135, 136, 137, 138, 139, 140, 141, 142, 143, 144, 145, 146, 147, 148, 149, 150, 151, 152, 153, 154, 155, 156, 157, 158, 159, 160, 161, 162, 163, 164, 165, 166, 167, 168, 169, 170, 171, 172, 173, 174, 175, 176, 177, 178, 179, 180, 181, 182, 183, 184, 185, 186, 187, 188, 189, 190, 191, 192, 193, 194, 195, 196, 197, 198, 199, 200, 201, 202, 203, 204, 205, 206, 207, 208, 209, 210, 211, 212, 213, 214, 215, 216, 217, 218, 219, 220, 221, 222, 223, 224, 225, 226, 227, 228, 229, 230, 231, 232, 233, 234, 235, 236, 237, 238, 239, 240, 241, 242] (by decide +kernel) (by decide +kernel)) (goodIn_sub (fun _ h => List.mem_cons_of_mem _ (List.mem_append_right _ h)) (by decide +kernel))
set_option maxRecDepth 20000 in
theorem gL_ticksToStop_X8_ticksToStop : GoodIn wsL_ticksToStop (wsV RL 52 RX8 yX8_ticksToStop wsX8_ticksToStop) := goodIn_app (goodIn_of _ (by decide +kernel)) ggL_ticksToStop_X8_ticksToStop
theorem dL_ticksToStop_0 : decode cL_ticksToStop 0 = .ok (.aload_n 2, 1) := by decide +kernel
theorem dL_ticksToStop_1 : decode cL_ticksToStop 1 = .ok (.iconst 0, 1) := by decide +kernel
theorem dL_ticksToStop_2 : decode cL_ticksToStop 2 = .ok (.aload_n 0, 1) := by decide +kernel
theorem dL_ticksToStop_3 : decode cL_ticksToStop 3 = .ok (.iload_n 1, 1) := by decide +kernel
theorem dL_ticksToStop_4 : decode cL_ticksToStop 4 = .ok (.invokevirtual 52, 3) := by decide +kernel
theorem dL_ticksToStop_7 : decode cL_ticksToStop 7 = .ok (.i2l, 1) := by decide +kernel
theorem dL_ticksToStop_8 : decode cL_ticksToStop 8 = .ok (.lastore, 1) := by decide +kernel
theorem dL_ticksToStop_9 : decode cL_ticksToStop 9 = .ok (.goto 6, 3) := by decide +kernel
theorem dL_ticksToStop_12 : decode cL_ticksToStop 12 = .ok (.astore_n 3, 1) := by decide +kernel
theorem dL_ticksToStop_13 : decode cL_ticksToStop 13 = .ok (.iconst 1, 1) := by decide +kernel
theorem dL_ticksToStop_14 : decode cL_ticksToStop 14 = .ok (.ireturn, 1) := by decide +kernel
theorem dL_ticksToStop_15 : decode cL_ticksToStop 15 = .ok (.iconst 0, 1) := by decide +kernel
theorem dL_ticksToStop_16 : decode cL_ticksToStop 16 = .ok (.ireturn, 1) := by decide +kernel
set_option maxRecDepth 20000 in
theorem ggL_farthest_X8_farthest : GoodIn wsL_farthest wsX8_farthest := goodIn_ca (goodIn_r _ [6, 7, 8, 9, 10, 11, 12, 13, 14, 15, 16, 17, 5, 18, 19, 20, 21, 22, 23, 24, 25, 26, 27, 28, 29, 30, 31, 32, 33, 34, 35, 36, 37, 38, 39, 40, 41, 42, 43, 44, 45, 46, 47, 48, 49, 50, 51, 52, 53, 54, 55, 56, 57, 58, 59, 60, 61, 62, 63, 64, 65, 66, 67, 68, 69, 70, 71, 72, 73, 74, 75, 76, 77, 78, 79, 80, 81, 82, 83, 84, 85, 86, 87, 88, 89, 90, 91, 92, 93, 94, 95, 96, 97, 98, 99, 100, 101, 102, 103, 104, 105, 106, 107, 108, 109, 110, 111, 112, 113, 114, 115, 116, 117, 118, 119, 120, 121, 122, 123, 124, 125, 126, 127, 128, 129, 130, 131, 132, 133, 134, 135, 136, 137, 138, 139, 140, 141, 142, 143, 144, 145, 146, 147, 148, 149, 150, 151, 152, 153, 154, 155, 156, 157, 158, 159, 160, 161, 162, 163, 164, 165, 166, 167, 168, 169, 170, 171, 172, 173, 174, 175, 176, 177, 178, 179, 180, 181, 182, 183, 184, 185, 186, 187, 188, 189, 190, 191, 192, 193, 194, 195, 196, 197, 198, 199, 200, 201, 202, 203, 204, 205, 206, 207, 208, 209, 210, 211, 212, 213, 214, 215, 216, 217, 218, 219, 220, 221, 222, 223, 224, 225, 226, 227, 228, 229, 230, 231, 232, 233, 234, 235, 236, 237, 238, 239, 240, 241, 242] (by decide +kernel) (by decide +kernel)) (goodIn_sub (fun _ h => List.mem_cons_of_mem _ (List.mem_append_right _ h)) (by decide +kernel))
set_option maxRecDepth 20000 in
theorem gL_farthest_X8_farthest : GoodIn wsL_farthest (wsV RL 55 RX8 yX8_farthest wsX8_farthest) := goodIn_app (goodIn_of _ (by decide +kernel)) ggL_farthest_X8_farthest
theorem dL_farthest_0 : decode cL_farthest 0 = .ok (.aload_n 2, 1) := by decide +kernel
theorem dL_farthest_1 : decode cL_farthest 1 = .ok (.iconst 0, 1) := by decide +kernel
theorem dL_farthest_2 : decode cL_farthest 2 = .ok (.aload_n 0, 1) := by decide +kernel
theorem dL_farthest_3 : decode cL_farthest 3 = .ok (.iload_n 1, 1) := by decide +kernel
theorem dL_farthest_4 : decode cL_farthest 4 = .ok (.invokevirtual 55, 3) := by decide +kernel
theorem dL_farthest_7 : decode cL_farthest 7 = .ok (.i2l, 1) := by decide +kernel
theorem dL_farthest_8 : decode cL_farthest 8 = .ok (.lastore, 1) := by decide +kernel
theorem dL_farthest_9 : decode cL_farthest 9 = .ok (.goto 6, 3) := by decide +kernel
theorem dL_farthest_12 : decode cL_farthest 12 = .ok (.astore_n 3, 1) := by decide +kernel
theorem dL_farthest_13 : decode cL_farthest 13 = .ok (.iconst 1, 1) := by decide +kernel
theorem dL_farthest_14 : decode cL_farthest 14 = .ok (.ireturn, 1) := by decide +kernel
theorem dL_farthest_15 : decode cL_farthest 15 = .ok (.iconst 0, 1) := by decide +kernel
theorem dL_farthest_16 : decode cL_farthest 16 = .ok (.ireturn, 1) := by decide +kernel
set_option maxRecDepth 20000 in
theorem ggL_linkAfter_X8_linkAfter : GoodIn wsL_linkAfter wsX8_linkAfter := goodIn_ca (goodIn_ca (goodIn_r _ [7, 8, 9, 10, 11, 6, 12, 13, 14, 15, 16, 17, 18, 19, 20, 21, 22, 23, 24, 25, 26, 27, 28, 29, 30, 31, 32, 33, 34, 35, 36, 37, 38, 39, 40, 41, 42, 43, 44, 45, 46, 47, 48, 49, 50, 51, 52, 53, 54, 55, 56, 57, 58, 59, 60, 61, 62, 63, 64, 65, 66, 67, 68, 69, 70, 71, 72, 73, 74, 75, 76, 77, 78, 79, 80, 81, 82, 83, 84, 85, 86, 87, 88, 89, 90, 91, 92, 93, 94, 95, 96, 97, 98, 99, 100, 101, 102, 103, 104, 105, 106, 107, 108, 109, 110, 111, 112, 113, 114, 115, 116, 117, 118, 119, 120, 121, 122, 123, 124, 125, 126, 127, 128, 129, 130, 131, 132, 133, 134, 135, 136, 137, 138, 139, 140, 141, 142, 143, 144, 145, 146, 147, 148, 149, 150, 151, 152, 153, 154, 155, 156, 157, 158, 159, 160, 161, 162, 163, 164, 165, 166, 167, 168, 169, 170, 171, 172, 173, 174, 175, 176, 177, 178, 179, 180, 181, 182, 183, 184, 185, 186, 187, 188, 189, 190, 191, 192, 193, 194, 195, 196, 197, 198, 199, 200, 201, 202, 203, 204, 205, 206, 207, 208, 209, 210, 211, 212, 213, 214, 215, 216, 217, 218, 219, 220, 221, 222, 223, 224, 225, 226, 227, 228, 229, 230, 231, 232, 233, 234, 235, 236, 237, 238, 239, 240, 241, 242, 243, 244, 245, 246, 247, 248, 249, 250] (by decide +kernel) (by decide +kernel)) (goodIn_sub (fun _ h => List.mem_cons_of_mem _ (List.mem_append_left _ (List.mem_append_right _ h))) (by decide +kernel))) (goodIn_sub (fun _ h => List.mem_cons_of_mem _ (List.mem_append_right _ h)) (by decide +kernel))
set_option maxRecDepth 20000 in
theorem gL_linkAfter_X8_linkAfter : GoodIn wsL_linkAfter (wsV RL 58 RX8 yX8_linkAfter wsX8_linkAfter) := goodIn_app (goodIn_of _ (by decide +kernel)) ggL_linkAfter_X8_linkAfter
theorem dL_linkAfter_0 : decode cL_linkAfter 0 = .ok (.aload 4, 2) := by decide +kernel
theorem dL_linkAfter_2 : decode cL_linkAfter 2 = .ok (.iconst 0, 1) := by decide +kernel
theorem dL_linkAfter_3 : decode cL_linkAfter 3 = .ok (.aload_n 0, 1) := by decide +kernel
theorem dL_linkAfter_4 : decode cL_linkAfter 4 = .ok (.iload_n 1, 1) := by decide +kernel
theorem dL_linkAfter_5 : decode cL_linkAfter 5 = .ok (.iload_n 2, 1) := by decide +kernel
theorem dL_linkAfter_6 : decode cL_linkAfter 6 = .ok (.iload_n 3, 1) := by decide +kernel
theorem dL_linkAfter_7 : decode cL_linkAfter 7 = .ok (.invokevirtual 58, 3) := by decide +kernel
theorem dL_linkAfter_10 : decode cL_linkAfter 10 = .ok (.i2l, 1) := by decide +kernel
theorem dL_linkAfter_11 : decode cL_linkAfter 11 = .ok (.lastore, 1) := by decide +kernel
theorem dL_linkAfter_12 : decode cL_linkAfter 12 = .ok (.goto 11, 3) := by decide +kernel
theorem dL_linkAfter_15 : decode cL_linkAfter 15 = .ok (.astore 5, 2) := by decide +kernel
theorem dL_linkAfter_17 : decode cL_linkAfter 17 = .ok (.iconst 1, 1) := by decide +kernel
theorem dL_linkAfter_18 : decode cL_linkAfter 18 = .ok (.ireturn, 1) := by decide +kernel
theorem dL_linkAfter_19 : decode cL_linkAfter 19 = .ok (.astore 5, 2) := by decide +kernel
theorem dL_linkAfter_21 : decode cL_linkAfter 21 = .ok (.iconst 2, 1) := by decide +kernel
theorem dL_linkAfter_22 : decode cL_linkAfter 22 = .ok (.ireturn, 1) := by decide +kernel
theorem dL_linkAfter_23 : decode cL_linkAfter 23 = .ok (.iconst 0, 1) := by decide +kernel
theorem dL_linkAfter_24 : decode cL_linkAfter 24 = .ok (.ireturn, 1) := by decide +kernel
set_option maxRecDepth 20000 in
theorem ggL_run_X8_run : GoodIn wsL_run wsX8_run := goodIn_ca (goodIn_ca (goodIn_r _ [7, 8, 9, 10, 11, 12, 13, 6, 14, 15, 16, 17, 18, 19, 20, 21, 22, 23, 24, 25, 26, 27, 28, 29, 30, 31, 32, 33, 34, 35, 36, 37, 38, 39, 40, 41, 42, 43, 44, 45, 46, 47, 48, 49, 50, 51, 52, 53, 54, 55, 56, 57, 58, 59, 60, 61, 62, 63, 64, 65, 66, 67, 68, 69, 70, 71, 72, 73, 74, 75, 76, 77, 78, 79, 80, 81, 82, 83, 84, 85, 86, 87, 88, 89, 90, 91, 92, 93, 94, 95, 96, 97, 98, 99, 100, 101, 102, 103, 104, 105, 106, 107, 108, 109, 110, 111, 112, 113, 114, 115, 116, 117, 118, 119, 120, 121, 122, 123, 124, 125, 126, 127, 128, 129, 130, 131, 132, 133, 134, 135, 136, 137, 138, 139, 140, 141, 142, 143, 144, 145, 146, 147, 148, 149, 150, 151, 152, 153, 154, 155, 156, 157, 158, 159, 160, 161, 162, 163, 164, 165, 166, 167, 168, 169, 170, 171, 172, 173, 174, 175, 176, 177, 178, 179, 180, 181, 182, 183, 184, 185, 186, 187, 188, 189, 190, 191, 192, 193, 194, 195, 196, 197, 198, 199, 200, 201, 202, 203, 204, 205, 206, 207, 208, 209, 210, 211, 212, 213, 214, 215, 216, 217, 218, 219, 220, 221, 222, 223, 224, 225, 226, 227, 228, 229, 230, 231, 232, 233, 234, 235, 236, 237, 238, 239, 240, 241, 242, 243, 244, 245, 246, 247, 248, 249, 250, 251, 252, 253, 254, 255, 256, 257] (by decide +kernel) (by decide +kernel)) (goodIn_sub (fun _ h => List.mem_cons_of_mem _ (List.mem_append_left _ (List.mem_append_right _ h))) (by decide +kernel))) (goodIn_sub (fun _ h => List.mem_cons_of_mem _ (List.mem_append_right _ h)) (by decide +kernel))
set_option maxRecDepth 20000 in
theorem gL_run_X8_run : GoodIn wsL_run (wsV RL 62 RX8 yX8_run wsX8_run) := goodIn_app (goodIn_of _ (by decide +kernel)) ggL_run_X8_run
theorem dL_run_0 : decode cL_run 0 = .ok (.aload_n 2, 1) := by decide +kernel
theorem dL_run_1 : decode cL_run 1 = .ok (.iconst 0, 1) := by decide +kernel
theorem dL_run_2 : decode cL_run 2 = .ok (.aload_n 0, 1) := by decide +kernel
theorem dL_run_3 : decode cL_run 3 = .ok (.iload_n 1, 1) := by decide +kernel
theorem dL_run_4 : decode cL_run 4 = .ok (.invokevirtual 62, 3) := by decide +kernel
theorem dL_run_7 : decode cL_run 7 = .ok (.i2l, 1) := by decide +kernel
theorem dL_run_8 : decode cL_run 8 = .ok (.lastore, 1) := by decide +kernel
theorem dL_run_9 : decode cL_run 9 = .ok (.goto 9, 3) := by decide +kernel
theorem dL_run_12 : decode cL_run 12 = .ok (.astore_n 3, 1) := by decide +kernel
theorem dL_run_13 : decode cL_run 13 = .ok (.iconst 1, 1) := by decide +kernel
theorem dL_run_14 : decode cL_run 14 = .ok (.ireturn, 1) := by decide +kernel
theorem dL_run_15 : decode cL_run 15 = .ok (.astore_n 3, 1) := by decide +kernel
theorem dL_run_16 : decode cL_run 16 = .ok (.iconst 2, 1) := by decide +kernel
theorem dL_run_17 : decode cL_run 17 = .ok (.ireturn, 1) := by decide +kernel
theorem dL_run_18 : decode cL_run 18 = .ok (.iconst 0, 1) := by decide +kernel
theorem dL_run_19 : decode cL_run 19 = .ok (.ireturn, 1) := by decide +kernel
set_option maxRecDepth 20000 in
theorem ggL_setMode_X8_setMode : GoodIn wsL_setMode wsX8_setMode := goodIn_ca (goodIn_ca (goodIn_r _ [7, 8, 9, 10, 11, 6, 12, 13, 14, 15, 16, 17, 18, 19, 20, 21, 22, 23, 24, 25, 26, 27, 28, 29, 30, 31, 32, 33, 34, 35, 36, 37, 38, 39, 40, 41, 42, 43, 44, 45, 46, 47, 48, 49, 50, 51, 52, 53, 54, 55, 56, 57, 58, 59, 60, 61, 62, 63, 64, 65, 66, 67, 68, 69, 70, 71, 72, 73, 74, 75, 76, 77, 78, 79, 80, 81, 82, 83, 84, 85, 86, 87, 88, 89, 90, 91, 92, 93, 94, 95, 96, 97, 98, 99, 100, 101, 102, 103, 104, 105, 106, 107, 108, 109, 110, 111, 112, 113, 114, 115, 116, 117, 118, 119, 120, 121] (by decide +kernel) (by decide +kernel)) (goodIn_sub (fun _ h => List.mem_cons_of_mem _ (List.mem_append_left _ (List.mem_append_right _ h))) (by decide +kernel))) (goodIn_sub (fun _ h => List.mem_cons_of_mem _ (List.mem_append_right _ h)) (by decide +kernel))
set_option maxRecDepth 20000 in
theorem gL_setMode_X8_setMode : GoodIn wsL_setMode (wsV RL 67 RX8 yX8_setMode wsX8_setMode) := goodIn_app (goodIn_of _ (by decide +kernel)) ggL_setMode_X8_setMode
theorem dL_setMode_0 : decode cL_setMode 0 = .ok (.aload_n 2, 1) := by decide +kernel
theorem dL_setMode_1 : decode cL_setMode 1 = .ok (.iconst 0, 1) := by decide +kernel
theorem dL_setMode_2 : decode cL_setMode 2 = .ok (.aload_n 0, 1) := by decide +kernel
theorem dL_setMode_3 : decode cL_setMode 3 = .ok (.iload_n 1, 1) := by decide +kernel
theorem dL_setMode_4 : decode cL_setMode 4 = .ok (.invokevirtual 67, 3) := by decide +kernel
theorem dL_setMode_7 : decode cL_setMode 7 = .ok (.i2l, 1) := by decide +kernel
theorem dL_setMode_8 : decode cL_setMode 8 = .ok (.lastore, 1) := by decide +kernel
theorem dL_setMode_9 : decode cL_setMode 9 = .ok (.goto 9, 3) := by decide +kernel
theorem dL_setMode_12 : decode cL_setMode 12 = .ok (.astore_n 3, 1) := by decide +kernel
theorem dL_setMode_13 : decode cL_setMode 13 = .ok (.iconst 1, 1) := by decide +kernel
theorem dL_setMode_14 : decode cL_setMode 14 = .ok (.ireturn, 1) := by decide +kernel
theorem dL_setMode_15 : decode cL_setMode 15 = .ok (.astore_n 3, 1) := by decide +kernel
theorem dL_setMode_16 : decode cL_setMode 16 = .ok (.iconst 2, 1) := by decide +kernel
theorem dL_setMode_17 : decode cL_setMode 17 = .ok (.ireturn, 1) := by decide +kernel
theorem dL_setMode_18 : decode cL_setMode 18 = .ok (.iconst 0, 1) := by decide +kernel
theorem dL_setMode_19 : decode cL_setMode 19 = .ok (.ireturn, 1) := by decide +kernel
set_option maxRecDepth 20000 in
theorem ggL_reset_X8_reset : GoodIn wsL_reset wsX8_reset := goodIn_ca (goodIn_r _ [6, 7, 8, 9, 10, 5, 11, 12, 13, 14, 15, 16, 17, 18, 19, 20, 21, 22, 23, 24, 25, 26, 27, 28, 29, 30, 31, 32, 33, 34, 35, 36, 37, 38, 39, 40, 41, 42, 43, 44, 45, 46, 47, 48, 49, 50, 51, 52, 53, 54, 55, 56, 57, 58, 59, 60, 61, 62, 63, 64, 65, 66, 67, 68, 69, 70, 71, 72, 73, 74, 75, 76, 77, 78, 79, 80, 81, 82, 83, 84, 85, 86, 87, 88, 89, 90, 91, 92, 93, 94, 95, 96, 97, 98, 99, 100, 101, 102, 103, 104, 105, 106, 107, 108, 109, 110, 111, 112, 113, 114, 115, 116, 117, 118] (by decide +kernel) (by decide +kernel)) (goodIn_sub (fun _ h => List.mem_cons_of_mem _ (List.mem_append_right _ h)) (by decide +kernel))
set_option maxRecDepth 20000 in
theorem gL_reset_X8_reset : GoodIn wsL_reset (wsV RL 70 RX8 yX8_reset wsX8_reset) := goodIn_app (goodIn_of _ (by decide +kernel)) ggL_reset_X8_reset
theorem dL_reset_0 : decode cL_reset 0 = .ok (.aload_n 3, 1) := by decide +kernel
theorem dL_reset_1 : decode cL_reset 1 = .ok (.iconst 0, 1) := by decide +kernel
theorem dL_reset_2 : decode cL_reset 2 = .ok (.aload_n 0, 1) := by decide +kernel
theorem dL_reset_3 : decode cL_reset 3 = .ok (.iload_n 1, 1) := by decide +kernel
theorem dL_reset_4 : decode cL_reset 4 = .ok (.iload_n 2, 1) := by decide +kernel
theorem dL_reset_5 : decode cL_reset 5 = .ok (.invokevirtual 70, 3) := by decide +kernel
theorem dL_reset_8 : decode cL_reset 8 = .ok (.i2l, 1) := by decide +kernel
theorem dL_reset_9 : decode cL_reset 9 = .ok (.lastore, 1) := by decide +kernel
theorem dL_reset_10 : decode cL_reset 10 = .ok (.goto 7, 3) := by decide +kernel
theorem dL_reset_13 : decode cL_reset 13 = .ok (.astore 4, 2) := by decide +kernel
theorem dL_reset_15 : decode cL_reset 15 = .ok (.iconst 1, 1) := by decide +kernel
theorem dL_reset_16 : decode cL_reset 16 = .ok (.ireturn, 1) := by decide +kernel
theorem dL_reset_17 : decode cL_reset 17 = .ok (.iconst 0, 1) := by decide +kernel
theorem dL_reset_18 : decode cL_reset 18 = .ok (.ireturn, 1) := by decide +kernel
set_option maxRecDepth 20000 in
theorem ggL_nudge_X8_nudge : GoodIn wsL_nudge wsX8_nudge := goodIn_ca (goodIn_ca (goodIn_ca (goodIn_r _ [8, 9, 10, 11, 12, 13, 14, 7, 15, 16, 17, 18, 19, 20, 21, 22, 23, 24, 25, 26, 27, 28, 29, 30, 31, 32, 33, 34, 35, 36, 37, 38, 39, 40, 41, 42, 43, 44, 45, 46, 47, 48, 49, 50, 51, 52, 53, 54, 55, 56, 57, 58, 59, 60, 61, 62, 63, 64, 65, 66, 67, 68, 69, 70, 71, 72, 73, 74, 75, 76, 77, 78, 79, 80, 81, 82, 83, 84, 85, 86, 87, 88, 89, 90, 91, 92, 93, 94, 95, 96, 97, 98, 99, 100, 101, 102, 103, 104, 105, 106, 107, 108, 109, 110, 111, 112, 113, 114, 115, 116, 117, 118, 119, 120, 121, 122, 123, 124, 125, 126, 127, 128, 129, 130, 131, 132, 133, 134, 135] (by decide +kernel) (by decide +kernel)) (goodIn_sub (fun _ h => List.mem_cons_of_mem _ (List.mem_append_left _ (List.mem_append_left _ (List.mem_append_right _ h)))) (by decide +kernel))) (goodIn_sub (fun _ h => List.mem_cons_of_mem _ (List.mem_append_left _ (List.mem_append_right _ h))) (by decide +kernel))) (goodIn_sub (fun _ h => List.mem_cons_of_mem _ (List.mem_append_right _ h)) (by decide +kernel))
set_option maxRecDepth 20000 in
theorem gL_nudge_X8_nudge : GoodIn wsL_nudge (wsV RL 73 RX8 yX8_nudge wsX8_nudge) := goodIn_app (goodIn_of _ (by decide +kernel)) ggL_nudge_X8_nudge
theorem dL_nudge_0 : decode cL_nudge 0 = .ok (.aload_n 3, 1) := by decide +kernel
theorem dL_nudge_1 : decode cL_nudge 1 = .ok (.iconst 0, 1) := by decide +kernel
theorem dL_nudge_2 : decode cL_nudge 2 = .ok (.aload_n 0, 1) := by decide +kernel
theorem dL_nudge_3 : decode cL_nudge 3 = .ok (.iload_n 1, 1) := by decide +kernel
theorem dL_nudge_4 : decode cL_nudge 4 = .ok (.iload_n 2, 1) := by decide +kernel
theorem dL_nudge_5 : decode cL_nudge 5 = .ok (.invokevirtual 73, 3) := by decide +kernel
theorem dL_nudge_8 : decode cL_nudge 8 = .ok (.i2l, 1) := by decide +kernel
theorem dL_nudge_9 : decode cL_nudge 9 = .ok (.lastore, 1) := by decide +kernel
theorem dL_nudge_10 : decode cL_nudge 10 = .ok (.goto 15, 3) := by decide +kernel
theorem dL_nudge_13 : decode cL_nudge 13 = .ok (.astore 4, 2) := by decide +kernel
theorem dL_nudge_15 : decode cL_nudge 15 = .ok (.iconst 1, 1) := by decide +kernel
theorem dL_nudge_16 : decode cL_nudge 16 = .ok (.ireturn, 1) := by decide +kernel
theorem dL_nudge_17 : decode cL_nudge 17 = .ok (.astore 4, 2) := by decide +kernel
theorem dL_nudge_19 : decode cL_nudge 19 = .ok (.iconst 2, 1) := by decide +kernel
theorem dL_nudge_20 : decode cL_nudge 20 = .ok (.ireturn, 1) := by decide +kernel
theorem dL_nudge_21 : decode cL_nudge 21 = .ok (.astore 4, 2) := by decide +kernel
theorem dL_nudge_23 : decode cL_nudge 23 = .ok (.iconst 3, 1) := by decide +kernel
theorem dL_nudge_24 : decode cL_nudge 24 = .ok (.ireturn, 1) := by decide +kernel
theorem dL_nudge_25 : decode cL_nudge 25 = .ok (.iconst 0, 1) := by decide +kernel
theorem dL_nudge_26 : decode cL_nudge 26 = .ok (.ireturn, 1) := by decide +kernel
set_option maxRecDepth 20000 in
theorem ggL_setForce_X8_setForce : GoodIn wsL_setForce wsX8_setForce := goodIn_ca (goodIn_r _ [6, 7, 8, 9, 10, 11, 12, 5, 13, 14, 15, 16, 17, 18, 19, 20, 21, 22, 23, 24, 25, 26, 27, 28, 29, 30, 31, 32, 33, 34, 35, 36, 37, 38, 39, 40, 41, 42, 43, 44, 45, 46, 47, 48, 49, 50, 51, 52, 53, 54, 55, 56, 57, 58, 59, 60, 61, 62, 63, 64, 65, 66, 67, 68, 69, 70, 71, 72, 73, 74, 75, 76, 77, 78, 79, 80, 81, 82, 83, 84, 85, 86, 87, 88, 89, 90, 91, 92, 93, 94, 95, 96, 97, 98, 99, 100, 101, 102, 103, 104, 105, 106, 107, 108, 109, 110, 111, 112, 113, 114, 115, 116, 117, 118, 119, 120, 121, 122, 123, 124, 125, 126, 127, 128, 129, 130, 131, 132, 133, 134, 135, 136, 137, 138, 139, 140, 141, 142, 143, 144, 145, 146, 147, 148, 149, 150, 151, 152, 153, 154, 155, 156, 157, 158, 159, 160, 161, 162, 163, 164, 165, 166, 167, 168, 169, 170, 171, 172, 173, 174, 175, 176, 177, 178, 179, 180, 181, 182, 183, 184, 185, 186, 187, 188, 189, 190, 191, 192, 193, 194, 195, 196, 197, 198, 199] (by decide +kernel) (by decide +kernel)) (goodIn_sub (fun _ h => List.mem_cons_of_mem _ (List.mem_append_right _ h)) (by decide +kernel))
set_option maxRecDepth 20000 in
theorem gL_setForce_X8_setForce : GoodIn wsL_setForce (wsV RL 76 RX8 yX8_setForce wsX8_setForce) := goodIn_app (goodIn_of _ (by decide +kernel)) ggL_setForce_X8_setForce
theorem dL_setForce_0 : decode cL_setForce 0 = .ok (.aload_n 2, 1) := by decide +kernel
theorem dL_setForce_1 : decode cL_setForce 1 = .ok (.iconst 0, 1) := by decide +kernel
theorem dL_setForce_2 : decode cL_setForce 2 = .ok (.aload_n 0, 1) := by decide +kernel
theorem dL_setForce_3 : decode cL_setForce 3 = .ok (.iload_n 1, 1) := by decide +kernel
theorem dL_setForce_4 : decode cL_setForce 4 = .ok (.invokevirtual 76, 3) := by decide +kernel
theorem dL_setForce_7 : decode cL_setForce 7 = .ok (.i2l, 1) := by decide +kernel
theorem dL_setForce_8 : decode cL_setForce 8 = .ok (.lastore, 1) := by decide +kernel
theorem dL_setForce_9 : decode cL_setForce 9 = .ok (.goto 6, 3) := by decide +kernel
theorem dL_setForce_12 : decode cL_setForce 12 = .ok (.astore_n 3, 1) := by decide +kernel
theorem dL_setForce_13 : decode cL_setForce 13 = .ok (.iconst 1, 1) := by decide +kernel
theorem dL_setForce_14 : decode cL_setForce 14 = .ok (.ireturn, 1) := by decide +kernel
theorem dL_setForce_15 : decode cL_setForce 15 = .ok (.iconst 0, 1) := by decide +kernel
theorem dL_setForce_16 : decode cL_setForce 16 = .ok (.ireturn, 1) := by decide +kernel
set_option maxRecDepth 20000 in
theorem ggL_saveSnapshot_X8_saveSnapshot : GoodIn wsL_saveSnapshot wsX8_saveSnapshot := goodIn_ca (goodIn_r _ [6, 7, 8, 9, 5, 10, 11, 12, 13, 14, 15, 16, 17, 18, 19, 20, 21, 22, 23, 24, 25, 26, 27, 28, 29, 30, 31, 32, 33, 34, 35, 36, 37, 38, 39, 40, 41, 42, 43, 44, 45, 46, 47, 48, 49, 50, 51, 52, 53, 54, 55, 56, 57, 58, 59, 60, 61, 62, 63, 64, 65, 66, 67, 68, 69, 70, 71, 72, 73, 74, 75, 76, 77, 78, 79, 80, 81, 82, 83, 84, 85, 86, 87, 88, 89, 90, 91, 92, 93, 94, 95, 96, 97, 98, 99, 100, 101, 102, 103, 104, 105] (by decide +kernel) (by decide +kernel)) (goodIn_sub (fun _ h => List.mem_cons_of_mem _ (List.mem_append_right _ h)) (by decide +kernel))
set_option maxRecDepth 20000 in
theorem gL_saveSnapshot_X8_saveSnapshot : GoodIn wsL_saveSnapshot (wsV RL 79 RX8 yX8_saveSnapshot wsX8_saveSnapshot) := goodIn_app (goodIn_of _ (by decide +kernel)) ggL_saveSnapshot_X8_saveSnapshot
theorem dL_saveSnapshot_0 : decode cL_saveSnapshot 0 = .ok (.aload_n 2, 1) := by decide +kernel
theorem dL_saveSnapshot_1 : decode cL_saveSnapshot 1 = .ok (.iconst 0, 1) := by decide +kernel
theorem dL_saveSnapshot_2 : decode cL_saveSnapshot 2 = .ok (.aload_n 0, 1) := by decide +kernel
theorem dL_saveSnapshot_3 : decode cL_saveSnapshot 3 = .ok (.iload_n 1, 1) := by decide +kernel
theorem dL_saveSnapshot_4 : decode cL_saveSnapshot 4 = .ok (.invokevirtual 79, 3) := by decide +kernel
theorem dL_saveSnapshot_7 : decode cL_saveSnapshot 7 = .ok (.ifCond .eq 7, 3) := by decide +kernel
theorem dL_saveSnapshot_10 : decode cL_saveSnapshot 10 = .ok (.lconst 1, 1) := by decide +kernel
theorem dL_saveSnapshot_11 : decode cL_saveSnapshot 11 = .ok (.goto 4, 3) := by decide +kernel
theorem dL_saveSnapshot_14 : decode cL_saveSnapshot 14 = .ok (.lconst 0, 1) := by decide +kernel
theorem dL_saveSnapshot_15 : decode cL_saveSnapshot 15 = .ok (.lastore, 1) := by decide +kernel
theorem dL_saveSnapshot_16 : decode cL_saveSnapshot 16 = .ok (.goto 6, 3) := by decide +kernel
theorem dL_saveSnapshot_19 : decode cL_saveSnapshot 19 = .ok (.astore_n 3, 1) := by decide +kernel
theorem dL_saveSnapshot_20 : decode cL_saveSnapshot 20 = .ok (.iconst 1, 1) := by decide +kernel
theorem dL_saveSnapshot_21 : decode cL_saveSnapshot 21 = .ok (.ireturn, 1) := by decide +kernel
theorem dL_saveSnapshot_22 : decode cL_saveSnapshot 22 = .ok (.iconst 0, 1) := by decide +kernel
theorem dL_saveSnapshot_23 : decode cL_saveSnapshot 23 = .ok (.ireturn, 1) := by decide +kernel
set_option maxRecDepth 20000 in
theorem ggL_restoreSnapshot_X8_restoreSnapshot : GoodIn wsL_restoreSnapshot wsX8_restoreSnapshot := goodIn_ca (goodIn_ca (goodIn_r _ [7, 8, 9, 10, 11, 12, 13, 6, 14, 15, 16, 17, 18, 19, 20, 21, 22, 23, 24, 25, 26, 27, 28, 29, 30, 31, 32, 33, 34, 35, 36, 37, 38, 39, 40, 41, 42, 43, 44, 45, 46, 47, 48, 49, 50, 51, 52, 53, 54, 55, 56, 57, 58, 59, 60, 61, 62, 63, 64, 65, 66, 67, 68, 69, 70, 71, 72, 73, 74, 75, 76, 77, 78, 79, 80, 81, 82, 83, 84, 85, 86, 87, 88, 89, 90, 91, 92, 93, 94, 95, 96, 97, 98, 99, 100, 101, 102, 103, 104, 105, 106, 107, 108, 109, 110, 111, 112, 113, 114, 115, 116, 117, 118] (by decide +kernel) (by decide +kernel)) (goodIn_sub (fun _ h => List.mem_cons_of_mem _ (List.mem_append_left _ (List.mem_append_right _ h))) (by decide +kernel))) (goodIn_sub (fun _ h => List.mem_cons_of_mem _ (List.mem_append_right _ h)) (by decide +kernel))
set_option maxRecDepth 20000 in
theorem gL_restoreSnapshot_X8_restoreSnapshot : GoodIn wsL_restoreSnapshot (wsV RL 83 RX8 yX8_restoreSnapshot wsX8_restoreSnapshot) := goodIn_app (goodIn_of _ (by decide +kernel)) ggL_restoreSnapshot_X8_restoreSnapshot
theorem dL_restoreSnapshot_0 : decode cL_restoreSnapshot 0 = .ok (.aload_n 2, 1) := by decide +kernel
theorem dL_restoreSnapshot_1 : decode cL_restoreSnapshot 1 = .ok (.iconst 0, 1) := by decide +kernel
theorem dL_restoreSnapshot_2 : decode cL_restoreSnapshot 2 = .ok (.aload_n 0, 1) := by decide +kernel
theorem dL_restoreSnapshot_3 : decode cL_restoreSnapshot 3 = .ok (.iload_n 1, 1) := by decide +kernel
theorem dL_restoreSnapshot_4 : decode cL_restoreSnapshot 4 = .ok (.invokevirtual 83, 3) := by decide +kernel
theorem dL_restoreSnapshot_7 : decode cL_restoreSnapshot 7 = .ok (.i2l, 1) := by decide +kernel
theorem dL_restoreSnapshot_8 : decode cL_restoreSnapshot 8 = .ok (.lastore, 1) := by decide +kernel
theorem dL_restoreSnapshot_9 : decode cL_restoreSnapshot 9 = .ok (.goto 9, 3) := by decide +kernel
theorem dL_restoreSnapshot_12 : decode cL_restoreSnapshot 12 = .ok (.astore_n 3, 1) := by decide +kernel
theorem dL_restoreSnapshot_13 : decode cL_restoreSnapshot 13 = .ok (.iconst 1, 1) := by decide +kernel
theorem dL_restoreSnapshot_14 : decode cL_restoreSnapshot 14 = .ok (.ireturn, 1) := by decide +kernel
theorem dL_restoreSnapshot_15 : decode cL_restoreSnapshot 15 = .ok (.astore_n 3, 1) := by decide +kernel
theorem dL_restoreSnapshot_16 : decode cL_restoreSnapshot 16 = .ok (.iconst 2, 1) := by decide +kernel
theorem dL_restoreSnapshot_17 : decode cL_restoreSnapshot 17 = .ok (.ireturn, 1) := by decide +kernel
theorem dL_restoreSnapshot_18 : decode cL_restoreSnapshot 18 = .ok (.iconst 0, 1) := by decide +kernel
theorem dL_restoreSnapshot_19 : decode cL_restoreSnapshot 19 = .ok (.ireturn, 1) := by decide +kernel
set_option maxRecDepth 20000 in
theorem ggL_law_X8_init : GoodIn wsL_law wsX8_init := goodIn_r _ [9, 10, 11, 12, 13, 14, 15, 16, 17, 18, 19, 20, 21, 22, 23, 24, 25, 26, 27, 28, 29, 30, 31, 32, 33, 34, 35, 36, 37, 38, 39, 40, 41, 42, 43, 44, 45, 46, 47, 48, 49, 50, 51, 52, 53, 54, 55, 56, 57, 58, 59, 60, 61, 62, 63, 64, 65, 66, 67, 68, 69, 70, 71, 72, 73, 74, 75, 76, 77, 78, 79, 80, 81, 82, 83, 84, 85, 86, 87, 88, 89, 90, 2, 91, 92, 93, 94, 95, 96, 97, 98, 99, 100, 101, 102, 103, 104, 105, 106, 107, 108, 109, 110, 111, 112, 113, 114, 115, 116, 117, 118, 119, 120, 121, 122, 123, 124, 125, 126, 127, 128, 129, 130, 131, 132, 133, 134, 135, 136, 137, 138, 139, 140, 141, 142, 143, 144, 145, 146, 147, 148, 149, 150, 151, 152, 153, 154, 155, 156, 157, 158, 159, 160, 161, 162, 163, 164, 165, 166, 167, 168, 169, 170, 171, 172, 173, 174, 175, 176, 177, 178, 179, 180, 181, 182, 183, 184, 185, 186, 187, 188, 189, 190, 191, 192, 193, 194, 195, 196, 197, 198, 199, 200, 201, 1051, 1020, 1021, 1022, 1023, 1024, 1025, 1026, 1027, 1028, 1052, 1053, 1054, 1055, 1056, 1057, 1058, 1059, 1060, 1061, 1062, 1063, 1064, 1065, 1066, 1067, 1068, 1069, 1070, 1071, 1072, 1073, 1074, 1075, 1076, 1077, 1078, 1079, 1080, 1081, 1082, 1083, 1084, 1085, 1086, 1087, 1088] (by decide +kernel) (by decide +kernel)
set_option maxRecDepth 20000 in
theorem gL_law_X8_init : GoodIn wsL_law (wsX8_init) := ggL_law_X8_init
set_option maxRecDepth 20000 in
theorem ggL_law_X9_init : GoodIn wsL_law wsX9_init := goodIn_r _ [204, 205, 11, 12, 44, 206, 207, 208, 209, 210, 211, 212, 213, 214, 215, 216, 217, 218, 219, 220, 221, 5, 222, 223, 224, 225, 226, 227, 228, 229, 230, 231, 232, 233, 234, 235, 236, 1029, 1030, 1031, 1032, 1033, 1034, 1035, 1036, 1037, 1038, 1039, 1040, 1041, 1042, 1043, 1044, 1045, 1046, 1047, 1048, 1049, 1050] (by decide +kernel) (by decide +kernel)
set_option maxRecDepth 20000 in
theorem gL_law_X9_init : GoodIn wsL_law (wsX9_init) := ggL_law_X9_init
set_option maxRecDepth 20000 in
theorem ggL_law_X8_append : GoodIn wsL_law wsX8_append := goodIn_r _ [240, 20, 241, 242, 243, 19, 244, 245, 246, 247, 248, 249, 49, 195, 2, 196, 1020, 1021, 1022, 1023, 1024, 1025, 1026, 1027, 1028, 1052, 1053, 1054, 1055, 1056, 1057, 1058, 1059, 1060] (by decide +kernel) (by decide +kernel)
set_option maxRecDepth 20000 in
theorem gL_law_X8_append : GoodIn wsL_law (wsV RL 90 RX8 yX8_append wsX8_append) := goodIn_app (goodIn_of _ (by decide +kernel)) ggL_law_X8_append
set_option maxRecDepth 20000 in
theorem ggL_law_X9_append : GoodIn wsL_law wsX9_append := goodIn_r _ [253, 254, 255, 256, 257, 258, 5, 259, 209, 1029, 1030, 1031, 1032, 1033, 1034, 1035, 1036, 1037, 1038, 1039, 1040, 1041, 1042, 1043, 1044, 1045, 1046, 1047, 1048, 1049, 1050] (by decide +kernel) (by decide +kernel)
set_option maxRecDepth 20000 in
theorem gL_law_X9_append : GoodIn wsL_law (wsV RL 94 RX9 yX9_append wsX9_append) := goodIn_app (goodIn_of _ (by decide +kernel)) ggL_law_X9_append
set_option maxRecDepth 20000 in
theorem ggL_law_L_parse : GoodIn wsL_law wsL_parse := goodIn_ca (goodIn_r _ [263, 264, 265, 266, 267, 2, 268, 20, 39, 16, 269, 270, 271, 272, 273, 274, 275, 276, 19, 277, 50, 245, 278, 279, 280, 281, 90, 91, 92, 93, 94, 95, 96, 97, 98, 99, 282, 283, 284, 285, 286, 49, 287, 288, 289, 290, 291, 292, 293, 294, 295, 296, 297, 298, 299, 300, 301, 302, 303, 304, 305, 306, 307, 308, 309, 310, 311, 312, 313, 314, 315, 316, 317, 318, 319, 320, 321, 322, 323, 324, 325, 326, 327, 328, 329, 330, 331, 332, 333, 334, 335, 336, 337, 338, 339, 340, 341, 342, 343, 344, 345, 346, 347, 348, 349, 350, 351, 352, 353, 354, 355, 356, 357, 358, 359, 360, 361, 362, 363, 364, 365, 366, 367, 368, 369, 370, 371, 372, 373, 195, 196, 86, 87, 88, 15, 89, 45, 100, 101, 102, 103, 24, 29, 33, 37, 38, 104, 105, 106, 107, 108, 109, 110, 23, 111, 55, 63, 112, 113, 114, 115, 116, 117, 118, 119, 120, 121, 122, 28, 123, 124, 125, 126, 127, 128, 129, 130, 131, 132, 62, 133, 134, 135, 136, 137, 138, 139, 140, 58, 141, 142, 143, 144, 145, 146, 147, 148, 149, 150, 151, 152, 70, 71, 153, 154, 155, 156, 157, 158, 159, 160, 161, 162, 163, 164, 165, 166, 167, 168, 169, 170, 171, 172, 173, 174, 175, 176, 177, 178, 179, 180, 181, 182, 183, 184, 185, 186, 187, 188, 189, 190, 191, 192, 193, 194, 197, 198, 199, 32, 200, 201, 1020, 1021, 1022, 1023, 1024, 1025, 1026, 1027, 1028, 1052, 1053, 1054, 1055, 1056, 1057, 1058, 1059, 1060, 1051, 1061, 1062, 1063, 1064, 1065, 1066, 1067, 1068, 1069, 1070, 1071, 1081, 1082, 1072, 1073, 1074, 1075, 1076, 1077, 1085, 1086, 1087, 1088, 1083, 1084, 1078, 1079, 1080] (by decide +kernel) (by decide +kernel)) (goodIn_sub (fun _ h => List.mem_append_left _ (List.mem_append_left _ (List.mem_append_right _ h))) (by decide +kernel))
set_option maxRecDepth 20000 in
theorem gL_law_L_parse : GoodIn wsL_law (va_wsS RL 95 yL_parse wsL_parse) := goodIn_app (goodIn_of _ (by decide +kernel)) ggL_law_L_parse
set_option maxRecDepth 20000 in
theorem ggL_law_X9_parse : GoodIn wsL_law wsX9_parse := goodIn_r _ [377, 254, 255, 378, 379, 380, 210, 381, 382, 383, 384, 5, 385, 386, 387, 388, 389, 219, 220, 221, 222, 223, 224, 225, 226, 207, 390, 391, 392, 393, 394, 395, 396, 397, 398, 399, 209, 400, 401, 402, 403, 404, 405, 406, 407, 408, 322, 323, 324, 325, 326, 327, 328, 329, 330, 331, 332, 409, 334, 335, 336, 337, 338, 339, 340, 341, 342, 343, 344, 345, 346, 347, 348, 349, 350, 351, 352, 353, 354, 355, 356, 357, 358, 359, 360, 361, 362, 363, 364, 365, 366, 367, 368, 369, 410, 411, 412, 413, 414, 415, 416, 417, 418, 419, 420, 421, 422, 423, 424, 425, 426, 427, 428, 429, 430, 431, 432, 433, 434, 435, 436, 437, 227, 228, 229, 230, 231, 232, 233, 234, 206, 235, 218, 236, 1029, 1030, 1031, 1032, 1033, 1034, 1035, 1036, 1037, 1038, 1039, 1040, 1041, 1042, 1043, 1044, 1045, 1046, 1047, 1048, 1049, 1050] (by decide +kernel) (by decide +kernel)
set_option maxRecDepth 20000 in
theorem gL_law_X9_parse : GoodIn wsL_law (wsV RL 100 RX9 yX9_parse wsX9_parse) := goodIn_app (goodIn_of _ (by decide +kernel)) ggL_law_X9_parse
set_option maxRecDepth 20000 in
theorem ggL_law_X9_thrown : GoodIn wsL_law wsX9_thrown := goodIn_r _ [441, 254, 1029, 1030, 1031, 1032, 1033, 1034, 1035, 1036, 1037, 1038, 1039, 1040, 1041, 1042, 1043, 1044, 1045, 1046, 1047, 1048, 1049, 1050] (by decide +kernel) (by decide +kernel)
set_option maxRecDepth 20000 in
theorem gL_law_X9_thrown : GoodIn wsL_law (wsV RL 101 RX9 yX9_thrown wsX9_thrown) := goodIn_app (goodIn_of _ (by decide +kernel)) ggL_law_X9_thrown
set_option maxRecDepth 20000 in
theorem ggL_law_X8_errorPosition : GoodIn wsL_law wsX8_errorPosition := goodIn_r _ [445, 39, 1020, 1021, 1022, 1023, 1024, 1025, 1026, 1027, 1028] (by decide +kernel) (by decide +kernel)
set_option maxRecDepth 20000 in
theorem gL_law_X8_errorPosition : GoodIn wsL_law (wsV RL 105 RX8 yX8_errorPosition wsX8_errorPosition) := goodIn_app (goodIn_of _ (by decide +kernel)) ggL_law_X8_errorPosition
set_option maxRecDepth 20000 in
theorem ggL_law_X9_errorPosition : GoodIn wsL_law wsX9_errorPosition := goodIn_r _ [449, 254, 210, 1029, 1030, 1031, 1032, 1033, 1034, 1035, 1036, 1037, 1038, 1039, 1040, 1041, 1042, 1043, 1044, 1045, 1046, 1047, 1048, 1049, 1050] (by decide +kernel) (by decide +kernel)
set_option maxRecDepth 20000 in
theorem gL_law_X9_errorPosition : GoodIn wsL_law (wsV RL 108 RX9 yX9_errorPosition wsX9_errorPosition) := goodIn_app (goodIn_of _ (by decide +kernel)) ggL_law_X9_errorPosition
set_option maxRecDepth 20000 in
theorem ggL_law_L_sine : GoodIn wsL_law wsL_sine := goodIn_ca (goodIn_r _ [452, 264, 453, 454, 455, 2, 456, 269, 270, 271, 272, 273, 457, 168, 169, 170, 171, 172] (by decide +kernel) (by decide +kernel)) (goodIn_sub (fun _ h => List.mem_append_left _ (List.mem_append_left _ (List.mem_append_right _ h))) (by decide +kernel))
set_option maxRecDepth 20000 in
theorem gL_law_L_sine : GoodIn wsL_law (va_wsS RL 109 yL_sine wsL_sine) := goodIn_app (goodIn_of _ (by decide +kernel)) ggL_law_L_sine
set_option maxRecDepth 20000 in
theorem ggL_law_X9_sine : GoodIn wsL_law wsX9_sine := goodIn_r _ [461, 254, 383, 384, 5, 385, 386, 387, 388, 389, 462, 463, 464, 465, 466, 467, 1029, 1030, 1031, 1032, 1033, 1034, 1035, 1036, 1037, 1038, 1039, 1040, 1041, 1042, 1043, 1044, 1045, 1046, 1047, 1048, 1049, 1050] (by decide +kernel) (by decide +kernel)
set_option maxRecDepth 20000 in
theorem gL_law_X9_sine : GoodIn wsL_law (wsV RL 111 RX9 yX9_sine wsX9_sine) := goodIn_app (goodIn_of _ (by decide +kernel)) ggL_law_X9_sine
set_option maxRecDepth 20000 in
theorem ggL_law_L_lean : GoodIn wsL_law wsL_lean := goodIn_ca (goodIn_r _ [470, 264, 471, 472, 473, 2, 474, 269, 270, 271, 272, 273, 475, 162, 163] (by decide +kernel) (by decide +kernel)) (goodIn_sub (fun _ h => List.mem_append_left _ (List.mem_append_left _ (List.mem_append_right _ h))) (by decide +kernel))
set_option maxRecDepth 20000 in
theorem gL_law_L_lean : GoodIn wsL_law (va_wsS RL 112 yL_lean wsL_lean) := goodIn_app (goodIn_of _ (by decide +kernel)) ggL_law_L_lean
set_option maxRecDepth 20000 in
theorem ggL_law_X9_lean : GoodIn wsL_law wsX9_lean := goodIn_r _ [479, 254, 383, 384, 5, 385, 386, 387, 388, 389, 480, 481, 482, 1029, 1030, 1031, 1032, 1033, 1034, 1035, 1036, 1037, 1038, 1039, 1040, 1041, 1042, 1043, 1044, 1045, 1046, 1047, 1048, 1049, 1050] (by decide +kernel) (by decide +kernel)
set_option maxRecDepth 20000 in
theorem gL_law_X9_lean : GoodIn wsL_law (wsV RL 114 RX9 yX9_lean wsX9_lean) := goodIn_app (goodIn_of _ (by decide +kernel)) ggL_law_X9_lean
set_option maxRecDepth 20000 in
theorem ggL_law_L_state : GoodIn wsL_law wsL_state := goodIn_ca (goodIn_r _ [485, 264, 486, 487, 488, 2, 489, 24, 269, 270, 271, 272, 273, 490, 491, 492, 23, 493, 112, 113, 55, 114, 115, 116, 117, 118, 1020, 1021, 1022, 1023, 1024, 1025, 1026, 1027, 1028, 1061, 1062, 1063, 1064, 1065, 1066, 1067, 1068, 1069, 1070, 1071, 1072, 1073, 1074, 1075, 1076, 1077] (by decide +kernel) (by decide +kernel)) (goodIn_sub (fun _ h => List.mem_append_left _ (List.mem_append_left _ (List.mem_append_right _ h))) (by decide +kernel))
set_option maxRecDepth 20000 in
theorem gL_law_L_state : GoodIn wsL_law (va_wsS RL 115 yL_state wsL_state) := goodIn_app (goodIn_of _ (by decide +kernel)) ggL_law_L_state
set_option maxRecDepth 20000 in
theorem ggL_law_X9_state : GoodIn wsL_law wsX9_state := goodIn_r _ [497, 254, 206, 383, 384, 5, 385, 386, 387, 388, 389, 1029, 1030, 1031, 1032, 1033, 1034, 1035, 1036, 1037, 1038, 1039, 1040, 1041, 1042, 1043, 1044, 1045, 1046, 1047, 1048, 1049, 1050] (by decide +kernel) (by decide +kernel)
set_option maxRecDepth 20000 in
theorem gL_law_X9_state : GoodIn wsL_law (wsV RL 117 RX9 yX9_state wsX9_state) := goodIn_app (goodIn_of _ (by decide +kernel)) ggL_law_X9_state
set_option maxRecDepth 20000 in
theorem ggL_law_L_link : GoodIn wsL_law wsL_link := goodIn_ca (goodIn_ca (goodIn_r _ [500, 501, 264, 502, 503, 504, 2, 505, 24, 506, 507, 508, 509, 510, 269, 270, 271, 272, 273, 511, 512, 513, 28, 514, 515, 182, 183, 184, 128, 129, 516, 178, 179, 180, 126, 127, 162, 163, 1020, 1021, 1022, 1023, 1024, 1025, 1026, 1027, 1028, 1061, 1062, 1063, 1064, 1065, 1066, 1067, 1068, 1069, 1070, 1071, 1072, 1073, 1074, 1075, 1076, 1077] (by decide +kernel) (by decide +kernel)) (goodIn_sub (fun _ h => List.mem_append_left _ (List.mem_append_right _ h)) (by decide +kernel))) (goodIn_sub (fun _ h => List.mem_append_left _ (List.mem_append_left _ (List.mem_append_right _ h))) (by decide +kernel))
set_option maxRecDepth 20000 in
theorem gL_law_L_link : GoodIn wsL_law (va_wsS RL 118 yL_link wsL_link) := goodIn_app (goodIn_of _ (by decide +kernel)) ggL_law_L_link
set_option maxRecDepth 20000 in
theorem ggL_law_X9_link : GoodIn wsL_law wsX9_link := goodIn_r _ [520, 521, 522, 523, 5, 524, 254, 383, 384, 385, 386, 387, 388, 389, 525, 526, 527, 528, 206, 480, 481, 482, 1029, 1030, 1031, 1032, 1033, 1034, 1035, 1036, 1037, 1038, 1039, 1040, 1041, 1042, 1043, 1044, 1045, 1046, 1047, 1048, 1049, 1050] (by decide +kernel) (by decide +kernel)
set_option maxRecDepth 20000 in
theorem gL_law_X9_link : GoodIn wsL_law (wsV RL 121 RX9 yX9_link wsX9_link) := goodIn_app (goodIn_of _ (by decide +kernel)) ggL_law_X9_link
set_option maxRecDepth 20000 in
theorem ggL_law_L_energy : GoodIn wsL_law wsL_energy := goodIn_ca (goodIn_r _ [531, 501, 532, 533, 534, 2, 535, 16, 24, 506, 507, 508, 509, 510, 536, 537, 538, 15, 539, 540, 541, 542, 181, 182, 183, 28, 184, 128, 129, 161, 105, 106, 107, 45, 177, 178, 179, 180, 126, 127, 168, 169, 170, 171, 172, 1020, 1021, 1022, 1023, 1024, 1025, 1026, 1027, 1028, 1061, 1062, 1063, 1064, 1065, 1066, 1067, 1068, 1069, 1070, 1071, 1072, 1073, 1074, 1075, 1076, 1077, 1051] (by decide +kernel) (by decide +kernel)) (goodIn_sub (fun _ h => List.mem_append_left _ (List.mem_append_right _ h)) (by decide +kernel))
set_option maxRecDepth 20000 in
theorem gL_law_L_energy : GoodIn wsL_law (va_wsS RL 122 yL_energy wsL_energy) := goodIn_app (goodIn_of _ (by decide +kernel)) ggL_law_L_energy
set_option maxRecDepth 20000 in
theorem ggL_law_X9_energy : GoodIn wsL_law wsX9_energy := goodIn_r _ [546, 521, 522, 523, 5, 524, 254, 383, 384, 385, 386, 387, 388, 389, 547, 548, 549, 550, 206, 551, 207, 552, 553, 554, 555, 556, 557, 558, 559, 462, 463, 464, 465, 466, 467, 1029, 1030, 1031, 1032, 1033, 1034, 1035, 1036, 1037, 1038, 1039, 1040, 1041, 1042, 1043, 1044, 1045, 1046, 1047, 1048, 1049, 1050] (by decide +kernel) (by decide +kernel)
set_option maxRecDepth 20000 in
theorem gL_law_X9_energy : GoodIn wsL_law (wsV RL 124 RX9 yX9_energy wsX9_energy) := goodIn_app (goodIn_of _ (by decide +kernel)) ggL_law_X9_energy
set_option maxRecDepth 20000 in
theorem ggL_law_L_target : GoodIn wsL_law wsL_target := goodIn_ca (goodIn_r _ [562, 501, 563, 564, 565, 2, 566, 16, 506, 507, 508, 509, 510, 567, 568, 569, 15, 570, 161, 105, 106, 107, 45, 1020, 1021, 1022, 1023, 1024, 1025, 1026, 1027, 1028, 1051] (by decide +kernel) (by decide +kernel)) (goodIn_sub (fun _ h => List.mem_append_left _ (List.mem_append_right _ h)) (by decide +kernel))
set_option maxRecDepth 20000 in
theorem gL_law_L_target : GoodIn wsL_law (va_wsS RL 125 yL_target wsL_target) := goodIn_app (goodIn_of _ (by decide +kernel)) ggL_law_L_target
set_option maxRecDepth 20000 in
theorem ggL_law_X9_target : GoodIn wsL_law wsX9_target := goodIn_r _ [574, 207, 521, 522, 523, 5, 524, 254, 383, 384, 385, 386, 387, 388, 389, 1029, 1030, 1031, 1032, 1033, 1034, 1035, 1036, 1037, 1038, 1039, 1040, 1041, 1042, 1043, 1044, 1045, 1046, 1047, 1048, 1049, 1050] (by decide +kernel) (by decide +kernel)
set_option maxRecDepth 20000 in
theorem gL_law_X9_target : GoodIn wsL_law (wsV RL 127 RX9 yX9_target wsX9_target) := goodIn_app (goodIn_of _ (by decide +kernel)) ggL_law_X9_target
set_option maxRecDepth 20000 in
theorem ggL_law_X8_push : GoodIn wsL_law wsX8_push := goodIn_r _ [578, 24, 579, 580, 581, 2, 582, 16, 583, 584, 585, 15, 586, 168, 169, 170, 171, 172, 587, 537, 538, 539, 540, 541, 542, 181, 182, 183, 28, 184, 128, 129, 161, 105, 106, 107, 45, 177, 178, 179, 180, 126, 127, 588, 568, 569, 570, 589, 154, 155, 156, 157, 93, 94, 95, 158, 159, 160, 162, 163, 1020, 1021, 1022, 1023, 1024, 1025, 1026, 1027, 1028, 1061, 1062, 1063, 1064, 1065, 1066, 1067, 1068, 1069, 1070, 1071, 1072, 1073, 1074, 1075, 1076, 1077, 1051] (by decide +kernel) (by decide +kernel)
set_option maxRecDepth 20000 in
theorem gL_law_X8_push : GoodIn wsL_law (wsV RL 128 RX8 yX8_push wsX8_push) := goodIn_app (goodIn_of _ (by decide +kernel)) ggL_law_X8_push
set_option maxRecDepth 20000 in
theorem ggL_law_X9_push : GoodIn wsL_law wsX9_push := goodIn_r _ [593, 254, 594, 595, 596, 5, 597, 206, 207, 552, 598, 599, 600, 601, 480, 481, 482, 554, 555, 556, 557, 558, 559, 462, 463, 464, 465, 466, 467, 547, 548, 549, 550, 551, 553, 1029, 1030, 1031, 1032, 1033, 1034, 1035, 1036, 1037, 1038, 1039, 1040, 1041, 1042, 1043, 1044, 1045, 1046, 1047, 1048, 1049, 1050] (by decide +kernel) (by decide +kernel)
set_option maxRecDepth 20000 in
theorem gL_law_X9_push : GoodIn wsL_law (wsV RL 131 RX9 yX9_push wsX9_push) := goodIn_app (goodIn_of _ (by decide +kernel)) ggL_law_X9_push
set_option maxRecDepth 20000 in
theorem ggL_law_X8_stopReason : GoodIn wsL_law wsX8_stopReason := goodIn_r _ [605, 24, 1020, 1021, 1022, 1023, 1024, 1025, 1026, 1027, 1028, 1061, 1062, 1063, 1064, 1065, 1066, 1067, 1068, 1069, 1070, 1071] (by decide +kernel) (by decide +kernel)
set_option maxRecDepth 20000 in
theorem gL_law_X8_stopReason : GoodIn wsL_law (wsV RL 132 RX8 yX8_stopReason wsX8_stopReason) := goodIn_app (goodIn_of _ (by decide +kernel)) ggL_law_X8_stopReason
set_option maxRecDepth 20000 in
theorem ggL_law_X9_stopReason : GoodIn wsL_law wsX9_stopReason := goodIn_r _ [609, 254, 206, 1029, 1030, 1031, 1032, 1033, 1034, 1035, 1036, 1037, 1038, 1039, 1040, 1041, 1042, 1043, 1044, 1045, 1046, 1047, 1048, 1049, 1050] (by decide +kernel) (by decide +kernel)
set_option maxRecDepth 20000 in
theorem gL_law_X9_stopReason : GoodIn wsL_law (wsV RL 135 RX9 yX9_stopReason wsX9_stopReason) := goodIn_app (goodIn_of _ (by decide +kernel)) ggL_law_X9_stopReason
set_option maxRecDepth 20000 in
theorem ggL_law_L_switchesIn : GoodIn wsL_law wsL_switchesIn := goodIn_ca (goodIn_r _ [612, 264, 613, 614, 615, 2, 616, 24, 269, 270, 271, 272, 273, 617, 618, 619, 62, 620, 134, 135, 136, 137, 621, 622, 623, 624, 625, 626, 627, 628, 629, 630, 631, 1020, 1021, 1022, 1023, 1024, 1025, 1026, 1027, 1028, 1061, 1062, 1063, 1064, 1065, 1066, 1067, 1068, 1069, 1070, 1071, 1085, 1086, 1087, 1088] (by decide +kernel) (by decide +kernel)) (goodIn_sub (fun _ h => List.mem_append_left _ (List.mem_append_left _ (List.mem_append_right _ h))) (by decide +kernel))
set_option maxRecDepth 20000 in
theorem gL_law_L_switchesIn : GoodIn wsL_law (va_wsS RL 136 yL_switchesIn wsL_switchesIn) := goodIn_app (goodIn_of _ (by decide +kernel)) ggL_law_L_switchesIn
set_option maxRecDepth 20000 in
theorem ggL_law_X9_switchesIn : GoodIn wsL_law wsX9_switchesIn := goodIn_r _ [635, 254, 383, 384, 5, 385, 386, 387, 388, 389, 636, 637, 638, 639, 206, 1029, 1030, 1031, 1032, 1033, 1034, 1035, 1036, 1037, 1038, 1039, 1040, 1041, 1042, 1043, 1044, 1045, 1046, 1047, 1048, 1049, 1050] (by decide +kernel) (by decide +kernel)
set_option maxRecDepth 20000 in
theorem gL_law_X9_switchesIn : GoodIn wsL_law (wsV RL 138 RX9 yX9_switchesIn wsX9_switchesIn) := goodIn_app (goodIn_of _ (by decide +kernel)) ggL_law_X9_switchesIn
set_option maxRecDepth 20000 in
theorem ggL_law_L_reason : GoodIn wsL_law wsL_reason := goodIn_ca (goodIn_r _ [642, 501, 643, 644, 645, 2, 646, 24, 647, 648, 649, 650, 509, 510, 16, 651, 652, 653, 15, 654, 161, 105, 106, 107, 45, 189, 190, 655, 656, 657, 58, 658, 70, 146, 147, 148, 287, 288, 1020, 1021, 1022, 1023, 1024, 1025, 1026, 1027, 1028, 1061, 1062, 1063, 1064, 1065, 1066, 1067, 1068, 1069, 1070, 1071, 1051, 1083, 1084] (by decide +kernel) (by decide +kernel)) (goodIn_sub (fun _ h => List.mem_append_left _ (List.mem_append_right _ h)) (by decide +kernel))
set_option maxRecDepth 20000 in
theorem gL_law_L_reason : GoodIn wsL_law (va_wsS RL 139 yL_reason wsL_reason) := goodIn_app (goodIn_of _ (by decide +kernel)) ggL_law_L_reason
set_option maxRecDepth 20000 in
theorem ggL_law_X9_reason : GoodIn wsL_law wsX9_reason := goodIn_r _ [662, 254, 211, 663, 664, 665, 5, 666, 207, 383, 384, 385, 386, 387, 388, 389, 667, 668, 669, 670, 236, 206, 671, 672, 673, 674, 213, 212, 557, 558, 559, 598, 599, 600, 601, 480, 481, 482, 675, 676, 677, 678, 462, 463, 464, 465, 466, 467, 679, 680, 681, 682, 554, 555, 556, 683, 684, 685, 686, 687, 688, 689, 690, 691, 1029, 1030, 1031, 1032, 1033, 1034, 1035, 1036, 1037, 1038, 1039, 1040, 1041, 1042, 1043, 1044, 1045, 1046, 1047, 1048, 1049, 1050] (by decide +kernel) (by decide +kernel)
set_option maxRecDepth 20000 in
theorem gL_law_X9_reason : GoodIn wsL_law (wsV RL 141 RX9 yX9_reason wsX9_reason) := goodIn_app (goodIn_of _ (by decide +kernel)) ggL_law_X9_reason
set_option maxRecDepth 20000 in
theorem ggL_law_L_failedStep : GoodIn wsL_law wsL_failedStep := goodIn_ca (goodIn_r _ [694, 501, 695, 696, 697, 2, 698, 24, 647, 648, 649, 650, 509, 510, 16, 651, 652, 653, 15, 654, 161, 105, 106, 107, 45, 189, 190, 699, 700, 701, 58, 702, 71, 146, 147, 148, 287, 288, 1020, 1021, 1022, 1023, 1024, 1025, 1026, 1027, 1028, 1061, 1062, 1063, 1064, 1065, 1066, 1067, 1068, 1069, 1070, 1071, 1051, 1083, 1084] (by decide +kernel) (by decide +kernel)) (goodIn_sub (fun _ h => List.mem_append_left _ (List.mem_append_right _ h)) (by decide +kernel))
set_option maxRecDepth 20000 in
theorem gL_law_L_failedStep : GoodIn wsL_law (va_wsS RL 142 yL_failedStep wsL_failedStep) := goodIn_app (goodIn_of _ (by decide +kernel)) ggL_law_L_failedStep
set_option maxRecDepth 20000 in
theorem ggL_law_X9_failedStep : GoodIn wsL_law wsX9_failedStep := goodIn_r _ [706, 254, 212, 663, 664, 665, 5, 666, 207, 383, 384, 385, 386, 387, 388, 389, 667, 668, 669, 670, 236, 206, 671, 672, 673, 674, 213, 211, 557, 558, 559, 598, 599, 600, 601, 480, 481, 482, 675, 676, 677, 678, 462, 463, 464, 465, 466, 467, 679, 680, 681, 682, 554, 555, 556, 683, 684, 685, 686, 687, 688, 689, 690, 691, 1029, 1030, 1031, 1032, 1033, 1034, 1035, 1036, 1037, 1038, 1039, 1040, 1041, 1042, 1043, 1044, 1045, 1046, 1047, 1048, 1049, 1050] (by decide +kernel) (by decide +kernel)
set_option maxRecDepth 20000 in
theorem gL_law_X9_failedStep : GoodIn wsL_law (wsV RL 144 RX9 yX9_failedStep wsX9_failedStep) := goodIn_app (goodIn_of _ (by decide +kernel)) ggL_law_X9_failedStep
set_option maxRecDepth 20000 in
theorem ggL_law_X8_regionSize : GoodIn wsL_law wsX8_regionSize := goodIn_r _ [710, 24, 16, 104, 105, 106, 15, 107, 45, 711, 712, 713, 58, 714, 715, 656, 657, 658, 70, 146, 147, 148, 287, 2, 288, 1020, 1021, 1022, 1023, 1024, 1025, 1026, 1027, 1028, 1061, 1062, 1063, 1064, 1065, 1066, 1067, 1068, 1069, 1070, 1071, 1051, 1083, 1084] (by decide +kernel) (by decide +kernel)
set_option maxRecDepth 20000 in
theorem gL_law_X8_regionSize : GoodIn wsL_law (wsV RL 145 RX8 yX8_regionSize wsX8_regionSize) := goodIn_app (goodIn_of _ (by decide +kernel)) ggL_law_X8_regionSize
set_option maxRecDepth 20000 in
theorem ggL_law_X9_regionSize : GoodIn wsL_law wsX9_regionSize := goodIn_r _ [719, 254, 720, 721, 722, 5, 723, 207, 211, 667, 668, 669, 670, 236, 206, 671, 672, 673, 674, 213, 212, 557, 558, 559, 598, 599, 600, 601, 480, 481, 482, 675, 676, 677, 678, 462, 463, 464, 465, 466, 467, 679, 680, 681, 682, 554, 555, 556, 683, 684, 685, 686, 687, 688, 689, 690, 691, 1029, 1030, 1031, 1032, 1033, 1034, 1035, 1036, 1037, 1038, 1039, 1040, 1041, 1042, 1043, 1044, 1045, 1046, 1047, 1048, 1049, 1050] (by decide +kernel) (by decide +kernel)
set_option maxRecDepth 20000 in
theorem gL_law_X9_regionSize : GoodIn wsL_law (wsV RL 148 RX9 yX9_regionSize wsX9_regionSize) := goodIn_app (goodIn_of _ (by decide +kernel)) ggL_law_X9_regionSize
set_option maxRecDepth 20000 in
theorem ggL_law_X8_cellsWith : GoodIn wsL_law wsX8_cellsWith := goodIn_r _ [727, 24, 16, 104, 105, 106, 15, 107, 45, 711, 712, 713, 58, 714, 715, 656, 657, 658, 70, 146, 147, 148, 287, 2, 288, 1020, 1021, 1022, 1023, 1024, 1025, 1026, 1027, 1028, 1061, 1062, 1063, 1064, 1065, 1066, 1067, 1068, 1069, 1070, 1071, 1051, 1083, 1084] (by decide +kernel) (by decide +kernel)
set_option maxRecDepth 20000 in
theorem gL_law_X8_cellsWith : GoodIn wsL_law (wsV RL 149 RX8 yX8_cellsWith wsX8_cellsWith) := goodIn_app (goodIn_of _ (by decide +kernel)) ggL_law_X8_cellsWith
set_option maxRecDepth 20000 in
theorem ggL_law_X9_cellsWith : GoodIn wsL_law wsX9_cellsWith := goodIn_r _ [731, 254, 383, 384, 5, 385, 720, 721, 722, 723, 207, 211, 667, 668, 669, 670, 236, 206, 671, 672, 673, 674, 213, 212, 557, 558, 559, 598, 599, 600, 601, 480, 481, 482, 675, 676, 677, 678, 462, 463, 464, 465, 466, 467, 679, 680, 681, 682, 554, 555, 556, 683, 684, 685, 686, 687, 688, 689, 690, 691, 1029, 1030, 1031, 1032, 1033, 1034, 1035, 1036, 1037, 1038, 1039, 1040, 1041, 1042, 1043, 1044, 1045, 1046, 1047, 1048, 1049, 1050] (by decide +kernel) (by decide +kernel)
set_option maxRecDepth 20000 in
theorem gL_law_X9_cellsWith : GoodIn wsL_law (wsV RL 152 RX9 yX9_cellsWith wsX9_cellsWith) := goodIn_app (goodIn_of _ (by decide +kernel)) ggL_law_X9_cellsWith
set_option maxRecDepth 20000 in
theorem ggL_law_L_cellOf : GoodIn wsL_law wsL_cellOf := goodIn_ca (goodIn_ca (goodIn_r _ [734, 501, 264, 735, 736, 737, 2, 738, 16, 24, 506, 507, 508, 509, 510, 269, 270, 271, 272, 273, 739, 178, 179, 28, 180, 126, 127, 740, 741, 742, 15, 743, 162, 163, 161, 105, 106, 107, 45, 744, 745, 746, 747, 748, 749, 750, 751, 182, 183, 184, 128, 129, 752, 753, 754, 755, 1020, 1021, 1022, 1023, 1024, 1025, 1026, 1027, 1028, 1061, 1062, 1063, 1064, 1065, 1066, 1067, 1068, 1069, 1070, 1071, 1072, 1073, 1074, 1075, 1076, 1077, 1051] (by decide +kernel) (by decide +kernel)) (goodIn_sub (fun _ h => List.mem_append_left _ (List.mem_append_right _ h)) (by decide +kernel))) (goodIn_sub (fun _ h => List.mem_append_left _ (List.mem_append_left _ (List.mem_append_right _ h))) (by decide +kernel))
set_option maxRecDepth 20000 in
theorem gL_law_L_cellOf : GoodIn wsL_law (va_wsS RL 153 yL_cellOf wsL_cellOf) := goodIn_app (goodIn_of _ (by decide +kernel)) ggL_law_L_cellOf
set_option maxRecDepth 20000 in
theorem ggL_law_X9_cellOf : GoodIn wsL_law wsX9_cellOf := goodIn_r _ [759, 521, 522, 523, 5, 524, 254, 383, 384, 385, 386, 387, 388, 389, 760, 761, 762, 763, 206, 207, 480, 481, 482, 764, 765, 766, 1029, 1030, 1031, 1032, 1033, 1034, 1035, 1036, 1037, 1038, 1039, 1040, 1041, 1042, 1043, 1044, 1045, 1046, 1047, 1048, 1049, 1050] (by decide +kernel) (by decide +kernel)
set_option maxRecDepth 20000 in
theorem gL_law_X9_cellOf : GoodIn wsL_law (wsV RL 155 RX9 yX9_cellOf wsX9_cellOf) := goodIn_app (goodIn_of _ (by decide +kernel)) ggL_law_X9_cellOf
set_option maxRecDepth 20000 in
theorem ggL_law_X8_isCapturable : GoodIn wsL_law wsX8_isCapturable := goodIn_r _ [770, 24, 771, 772, 773, 2, 774, 775, 776, 777, 778, 16, 739, 178, 179, 28, 180, 126, 127, 740, 741, 742, 15, 743, 162, 163, 161, 105, 106, 107, 45, 744, 745, 746, 747, 748, 749, 750, 751, 182, 183, 184, 128, 129, 752, 753, 754, 755, 651, 652, 653, 654, 189, 190, 655, 656, 657, 58, 658, 70, 146, 147, 148, 287, 288, 1020, 1021, 1022, 1023, 1024, 1025, 1026, 1027, 1028, 1061, 1062, 1063, 1064, 1065, 1066, 1067, 1068, 1069, 1070, 1071, 1072, 1073, 1074, 1075, 1076, 1077, 1051, 1083, 1084] (by decide +kernel) (by decide +kernel)
set_option maxRecDepth 20000 in
theorem gL_law_X8_isCapturable : GoodIn wsL_law (wsV RL 156 RX8 yX8_isCapturable wsX8_isCapturable) := goodIn_app (goodIn_of _ (by decide +kernel)) ggL_law_X8_isCapturable
set_option maxRecDepth 20000 in
theorem ggL_law_X9_isCapturable : GoodIn wsL_law wsX9_isCapturable := goodIn_r _ [782, 254, 783, 784, 785, 5, 786, 667, 668, 669, 670, 236, 206, 207, 671, 672, 673, 674, 213, 212, 211, 557, 558, 559, 598, 599, 600, 601, 480, 481, 482, 675, 676, 677, 678, 462, 463, 464, 465, 466, 467, 679, 680, 681, 682, 554, 555, 556, 683, 684, 685, 686, 687, 688, 689, 690, 691, 787, 788, 789, 790, 760, 761, 762, 763, 764, 765, 766, 663, 664, 665, 666, 383, 384, 385, 1029, 1030, 1031, 1032, 1033, 1034, 1035, 1036, 1037, 1038, 1039, 1040, 1041, 1042, 1043, 1044, 1045, 1046, 1047, 1048, 1049, 1050] (by decide +kernel) (by decide +kernel)
set_option maxRecDepth 20000 in
theorem gL_law_X9_isCapturable : GoodIn wsL_law (wsV RL 160 RX9 yX9_isCapturable wsX9_isCapturable) := goodIn_app (goodIn_of _ (by decide +kernel)) ggL_law_X9_isCapturable
set_option maxRecDepth 20000 in
theorem ggL_law_L_ticksToBalance : GoodIn wsL_law wsL_ticksToBalance := goodIn_ca (goodIn_r _ [793, 264, 794, 795, 796, 2, 797, 269, 270, 271, 272, 273, 798, 799, 800, 801, 25, 24, 802, 803, 804, 23, 805, 55, 59, 63, 112, 113, 114, 115, 116, 117, 118, 119, 806, 807, 808, 28, 809, 124, 125, 126, 127, 128, 129, 810, 811, 812, 58, 813, 70, 71, 90, 91, 92, 93, 94, 95, 96, 97, 98, 99, 814, 815, 816, 62, 817, 134, 135, 136, 137, 818, 819, 820, 821, 16, 822, 823, 824, 825, 826, 827, 828, 829, 771, 772, 773, 774, 775, 776, 777, 778, 739, 178, 179, 180, 740, 741, 742, 15, 743, 162, 163, 161, 105, 106, 107, 45, 744, 745, 746, 747, 748, 749, 750, 751, 182, 183, 184, 752, 753, 754, 755, 651, 652, 653, 654, 189, 190, 655, 656, 657, 658, 146, 147, 148, 287, 288, 830, 192, 193, 194, 831, 832, 833, 834, 104, 617, 618, 619, 620, 621, 622, 623, 624, 625, 626, 627, 628, 629, 630, 631, 579, 580, 581, 582, 583, 584, 585, 586, 168, 169, 170, 171, 172, 587, 537, 538, 539, 540, 541, 542, 181, 177, 588, 568, 569, 570, 589, 154, 155, 156, 157, 158, 159, 160, 835, 165, 166, 167, 173, 174, 175, 176, 143, 144, 185, 186, 187, 188, 1020, 1021, 1022, 1023, 1024, 1025, 1026, 1027, 1028, 1061, 1062, 1063, 1064, 1065, 1066, 1067, 1068, 1069, 1070, 1071, 1072, 1073, 1074, 1075, 1076, 1077, 1083, 1084, 1085, 1086, 1087, 1088, 1051] (by decide +kernel) (by decide +kernel)) (goodIn_sub (fun _ h => List.mem_append_left _ (List.mem_append_left _ (List.mem_append_right _ h))) (by decide +kernel))
set_option maxRecDepth 20000 in
theorem gL_law_L_ticksToBalance : GoodIn wsL_law (va_wsS RL 161 yL_ticksToBalance wsL_ticksToBalance) := goodIn_app (goodIn_of _ (by decide +kernel)) ggL_law_L_ticksToBalance
set_option maxRecDepth 20000 in
theorem ggL_law_X9_ticksToBalance : GoodIn wsL_law wsX9_ticksToBalance := goodIn_r _ [839, 840, 841, 842, 5, 843, 254, 206, 214, 383, 384, 385, 386, 387, 388, 389, 844, 845, 846, 847, 848, 849, 850, 851, 852, 853, 854, 207, 783, 784, 785, 786, 667, 668, 669, 670, 236, 671, 672, 673, 674, 213, 212, 211, 557, 558, 559, 598, 599, 600, 601, 480, 481, 482, 675, 676, 677, 678, 462, 463, 464, 465, 466, 467, 679, 680, 681, 682, 554, 555, 556, 683, 684, 685, 686, 687, 688, 689, 690, 691, 787, 788, 789, 790, 760, 761, 762, 763, 764, 765, 766, 663, 664, 665, 666, 636, 637, 638, 639, 594, 595, 596, 597, 552, 547, 548, 549, 550, 551, 553, 1029, 1030, 1031, 1032, 1033, 1034, 1035, 1036, 1037, 1038, 1039, 1040, 1041, 1042, 1043, 1044, 1045, 1046, 1047, 1048, 1049, 1050] (by decide +kernel) (by decide +kernel)
set_option maxRecDepth 20000 in
theorem gL_law_X9_ticksToBalance : GoodIn wsL_law (wsV RL 163 RX9 yX9_ticksToBalance wsX9_ticksToBalance) := goodIn_app (goodIn_of _ (by decide +kernel)) ggL_law_X9_ticksToBalance
set_option maxRecDepth 20000 in
theorem ggL_law_L_ticksToStop : GoodIn wsL_law wsL_ticksToStop := goodIn_ca (goodIn_r _ [857, 264, 858, 859, 860, 2, 861, 269, 270, 271, 272, 273, 798, 799, 800, 801, 25, 24, 802, 803, 804, 23, 805, 55, 59, 63, 112, 113, 114, 115, 116, 117, 118, 119, 806, 807, 808, 28, 809, 124, 125, 126, 127, 128, 129, 810, 811, 812, 58, 813, 70, 71, 90, 91, 92, 93, 94, 95, 96, 97, 98, 99, 814, 815, 816, 62, 817, 134, 135, 136, 137, 818, 819, 820, 821, 16, 822, 823, 824, 825, 826, 827, 828, 829, 771, 772, 773, 774, 775, 776, 777, 778, 739, 178, 179, 180, 740, 741, 742, 15, 743, 162, 163, 161, 105, 106, 107, 45, 744, 745, 746, 747, 748, 749, 750, 751, 182, 183, 184, 752, 753, 754, 755, 651, 652, 653, 654, 189, 190, 655, 656, 657, 658, 146, 147, 148, 287, 288, 830, 192, 193, 194, 831, 832, 833, 834, 104, 617, 618, 619, 620, 621, 622, 623, 624, 625, 626, 627, 628, 629, 630, 631, 579, 580, 581, 582, 583, 584, 585, 586, 168, 169, 170, 171, 172, 587, 537, 538, 539, 540, 541, 542, 181, 177, 588, 568, 569, 570, 589, 154, 155, 156, 157, 158, 159, 160, 835, 165, 166, 167, 173, 174, 175, 176, 143, 144, 185, 186, 187, 188, 1020, 1021, 1022, 1023, 1024, 1025, 1026, 1027, 1028, 1061, 1062, 1063, 1064, 1065, 1066, 1067, 1068, 1069, 1070, 1071, 1072, 1073, 1074, 1075, 1076, 1077, 1083, 1084, 1085, 1086, 1087, 1088, 1051] (by decide +kernel) (by decide +kernel)) (goodIn_sub (fun _ h => List.mem_append_left _ (List.mem_append_left _ (List.mem_append_right _ h))) (by decide +kernel))
set_option maxRecDepth 20000 in
theorem gL_law_L_ticksToStop : GoodIn wsL_law (va_wsS RL 164 yL_ticksToStop wsL_ticksToStop) := goodIn_app (goodIn_of _ (by decide +kernel)) ggL_law_L_ticksToStop
set_option maxRecDepth 20000 in
theorem ggL_law_X9_ticksToStop : GoodIn wsL_law wsX9_ticksToStop := goodIn_r _ [865, 840, 841, 842, 5, 843, 254, 206, 214, 383, 384, 385, 386, 387, 388, 389, 844, 845, 846, 847, 848, 849, 850, 851, 852, 853, 854, 207, 783, 784, 785, 786, 667, 668, 669, 670, 236, 671, 672, 673, 674, 213, 212, 211, 557, 558, 559, 598, 599, 600, 601, 480, 481, 482, 675, 676, 677, 678, 462, 463, 464, 465, 466, 467, 679, 680, 681, 682, 554, 555, 556, 683, 684, 685, 686, 687, 688, 689, 690, 691, 787, 788, 789, 790, 760, 761, 762, 763, 764, 765, 766, 663, 664, 665, 666, 636, 637, 638, 639, 594, 595, 596, 597, 552, 547, 548, 549, 550, 551, 553, 1029, 1030, 1031, 1032, 1033, 1034, 1035, 1036, 1037, 1038, 1039, 1040, 1041, 1042, 1043, 1044, 1045, 1046, 1047, 1048, 1049, 1050] (by decide +kernel) (by decide +kernel)
set_option maxRecDepth 20000 in
theorem gL_law_X9_ticksToStop : GoodIn wsL_law (wsV RL 166 RX9 yX9_ticksToStop wsX9_ticksToStop) := goodIn_app (goodIn_of _ (by decide +kernel)) ggL_law_X9_ticksToStop
set_option maxRecDepth 20000 in
theorem ggL_law_L_farthest : GoodIn wsL_law wsL_farthest := goodIn_ca (goodIn_r _ [868, 264, 869, 870, 871, 2, 872, 25, 24, 873, 874, 94, 875, 876, 159, 160, 269, 270, 271, 272, 273, 802, 803, 804, 23, 805, 55, 59, 63, 112, 113, 114, 115, 116, 117, 118, 119, 806, 807, 808, 28, 809, 124, 125, 126, 127, 128, 129, 810, 811, 812, 58, 813, 70, 71, 90, 91, 92, 93, 95, 96, 97, 98, 99, 814, 815, 816, 62, 817, 134, 135, 136, 137, 818, 819, 820, 821, 16, 822, 823, 824, 825, 826, 827, 828, 829, 771, 772, 773, 774, 775, 776, 777, 778, 739, 178, 179, 180, 740, 741, 742, 15, 743, 162, 163, 161, 105, 106, 107, 45, 744, 745, 746, 747, 748, 749, 750, 751, 182, 183, 184, 752, 753, 754, 755, 651, 652, 653, 654, 189, 190, 655, 656, 657, 658, 146, 147, 148, 287, 288, 830, 192, 193, 194, 831, 832, 833, 834, 104, 617, 618, 619, 620, 621, 622, 623, 624, 625, 626, 627, 628, 629, 630, 631, 579, 580, 581, 582, 583, 584, 585, 586, 168, 169, 170, 171, 172, 587, 537, 538, 539, 540, 541, 542, 181, 177, 588, 568, 569, 570, 589, 154, 155, 156, 157, 158, 835, 165, 166, 167, 173, 174, 175, 176, 143, 144, 185, 186, 187, 188, 1020, 1021, 1022, 1023, 1024, 1025, 1026, 1027, 1028, 1061, 1062, 1063, 1064, 1065, 1066, 1067, 1068, 1069, 1070, 1071, 1072, 1073, 1074, 1075, 1076, 1077, 1083, 1084, 1085, 1086, 1087, 1088, 1051] (by decide +kernel) (by decide +kernel)) (goodIn_sub (fun _ h => List.mem_append_left _ (List.mem_append_left _ (List.mem_append_right _ h))) (by decide +kernel))
set_option maxRecDepth 20000 in
theorem gL_law_L_farthest : GoodIn wsL_law (va_wsS RL 167 yL_farthest wsL_farthest) := goodIn_app (goodIn_of _ (by decide +kernel)) ggL_law_L_farthest
set_option maxRecDepth 20000 in
theorem ggL_law_X9_farthest : GoodIn wsL_law wsX9_farthest := goodIn_r _ [880, 254, 206, 214, 383, 384, 5, 385, 386, 387, 388, 389, 844, 845, 846, 847, 848, 849, 850, 851, 852, 853, 854, 207, 783, 784, 785, 786, 667, 668, 669, 670, 236, 671, 672, 673, 674, 213, 212, 211, 557, 558, 559, 598, 599, 600, 601, 480, 481, 482, 675, 676, 677, 678, 462, 463, 464, 465, 466, 467, 679, 680, 681, 682, 554, 555, 556, 683, 684, 685, 686, 687, 688, 689, 690, 691, 787, 788, 789, 790, 760, 761, 762, 763, 764, 765, 766, 663, 664, 665, 666, 636, 637, 638, 639, 594, 595, 596, 597, 552, 547, 548, 549, 550, 551, 553, 1029, 1030, 1031, 1032, 1033, 1034, 1035, 1036, 1037, 1038, 1039, 1040, 1041, 1042, 1043, 1044, 1045, 1046, 1047, 1048, 1049, 1050] (by decide +kernel) (by decide +kernel)
set_option maxRecDepth 20000 in
theorem gL_law_X9_farthest : GoodIn wsL_law (wsV RL 169 RX9 yX9_farthest wsX9_farthest) := goodIn_app (goodIn_of _ (by decide +kernel)) ggL_law_X9_farthest
set_option maxRecDepth 20000 in
theorem ggL_law_L_linkAfter : GoodIn wsL_law wsL_linkAfter := goodIn_ca (goodIn_ca (goodIn_r _ [883, 501, 264, 884, 885, 886, 2, 887, 25, 24, 506, 507, 508, 509, 510, 269, 270, 271, 272, 273, 802, 803, 804, 23, 805, 55, 59, 63, 112, 113, 114, 115, 116, 117, 118, 119, 806, 807, 808, 28, 809, 124, 125, 126, 127, 128, 129, 810, 811, 812, 58, 813, 70, 71, 90, 91, 92, 93, 94, 95, 96, 97, 98, 99, 814, 815, 816, 62, 817, 134, 135, 136, 137, 818, 819, 820, 821, 16, 822, 823, 824, 825, 826, 827, 828, 829, 771, 772, 773, 774, 775, 776, 777, 778, 739, 178, 179, 180, 740, 741, 742, 15, 743, 162, 163, 161, 105, 106, 107, 45, 744, 745, 746, 747, 748, 749, 750, 751, 182, 183, 184, 752, 753, 754, 755, 651, 652, 653, 654, 189, 190, 655, 656, 657, 658, 146, 147, 148, 287, 288, 830, 192, 193, 194, 831, 832, 833, 834, 104, 617, 618, 619, 620, 621, 622, 623, 624, 625, 626, 627, 628, 629, 630, 631, 579, 580, 581, 582, 583, 584, 585, 586, 168, 169, 170, 171, 172, 587, 537, 538, 539, 540, 541, 542, 181, 177, 588, 568, 569, 570, 589, 154, 155, 156, 157, 158, 159, 160, 835, 165, 166, 167, 173, 174, 175, 176, 143, 144, 185, 186, 187, 188, 511, 512, 513, 514, 515, 516, 1020, 1021, 1022, 1023, 1024, 1025, 1026, 1027, 1028, 1061, 1062, 1063, 1064, 1065, 1066, 1067, 1068, 1069, 1070, 1071, 1072, 1073, 1074, 1075, 1076, 1077, 1083, 1084, 1085, 1086, 1087, 1088, 1051] (by decide +kernel) (by decide +kernel)) (goodIn_sub (fun _ h => List.mem_append_left _ (List.mem_append_right _ h)) (by decide +kernel))) (goodIn_sub (fun _ h => List.mem_append_left _ (List.mem_append_left _ (List.mem_append_right _ h))) (by decide +kernel))
set_option maxRecDepth 20000 in
theorem gL_law_L_linkAfter : GoodIn wsL_law (va_wsS RL 170 yL_linkAfter wsL_linkAfter) := goodIn_app (goodIn_of _ (by decide +kernel)) ggL_law_L_linkAfter
set_option maxRecDepth 20000 in
theorem ggL_law_X9_linkAfter : GoodIn wsL_law wsX9_linkAfter := goodIn_r _ [891, 206, 214, 521, 522, 523, 5, 524, 254, 383, 384, 385, 386, 387, 388, 389, 844, 845, 846, 847, 848, 849, 850, 851, 852, 853, 854, 207, 783, 784, 785, 786, 667, 668, 669, 670, 236, 671, 672, 673, 674, 213, 212, 211, 557, 558, 559, 598, 599, 600, 601, 480, 481, 482, 675, 676, 677, 678, 462, 463, 464, 465, 466, 467, 679, 680, 681, 682, 554, 555, 556, 683, 684, 685, 686, 687, 688, 689, 690, 691, 787, 788, 789, 790, 760, 761, 762, 763, 764, 765, 766, 663, 664, 665, 666, 636, 637, 638, 639, 594, 595, 596, 597, 552, 547, 548, 549, 550, 551, 553, 525, 526, 527, 528, 1029, 1030, 1031, 1032, 1033, 1034, 1035, 1036, 1037, 1038, 1039, 1040, 1041, 1042, 1043, 1044, 1045, 1046, 1047, 1048, 1049, 1050] (by decide +kernel) (by decide +kernel)
set_option maxRecDepth 20000 in
theorem gL_law_X9_linkAfter : GoodIn wsL_law (wsV RL 173 RX9 yX9_linkAfter wsX9_linkAfter) := goodIn_app (goodIn_of _ (by decide +kernel)) ggL_law_X9_linkAfter
set_option maxRecDepth 20000 in
theorem ggL_law_L_run : GoodIn wsL_law wsL_run := goodIn_ca (goodIn_ca (goodIn_r _ [894, 264, 895, 896, 897, 898, 2, 899, 900, 901, 24, 33, 269, 270, 271, 272, 273, 902, 903, 904, 32, 905, 906, 201, 907, 93, 94, 95, 908, 909, 910, 911, 80, 912, 803, 804, 23, 805, 55, 59, 63, 112, 113, 114, 115, 116, 117, 118, 119, 806, 807, 808, 28, 809, 124, 125, 126, 127, 128, 129, 810, 811, 812, 58, 813, 70, 71, 90, 91, 92, 96, 97, 98, 99, 814, 815, 816, 62, 817, 134, 135, 136, 137, 818, 819, 820, 821, 16, 822, 823, 824, 825, 826, 827, 828, 829, 771, 772, 773, 774, 775, 776, 777, 778, 739, 178, 179, 180, 740, 741, 742, 15, 743, 162, 163, 161, 105, 106, 107, 45, 744, 745, 746, 747, 748, 749, 750, 751, 182, 183, 184, 752, 753, 754, 755, 651, 652, 653, 654, 189, 190, 655, 656, 657, 658, 146, 147, 148, 287, 288, 830, 192, 193, 194, 831, 832, 833, 834, 104, 617, 618, 619, 620, 621, 622, 623, 624, 625, 626, 627, 628, 629, 630, 631, 579, 580, 581, 582, 583, 584, 585, 586, 168, 169, 170, 171, 172, 587, 537, 538, 539, 540, 541, 542, 181, 177, 588, 568, 569, 570, 589, 154, 155, 156, 157, 158, 159, 160, 835, 165, 166, 167, 173, 174, 175, 176, 143, 144, 185, 186, 187, 188, 1020, 1021, 1022, 1023, 1024, 1025, 1026, 1027, 1028, 1061, 1062, 1063, 1064, 1065, 1066, 1067, 1068, 1069, 1070, 1071, 1078, 1079, 1080, 1072, 1073, 1074, 1075, 1076, 1077, 1083, 1084, 1085, 1086, 1087, 1088, 1051] (by decide +kernel) (by decide +kernel)) (goodIn_sub (fun _ h => List.mem_append_right _ h) (by decide +kernel))) (goodIn_sub (fun _ h => List.mem_append_left _ (List.mem_append_left _ (List.mem_append_right _ h))) (by decide +kernel))
set_option maxRecDepth 20000 in
theorem gL_law_L_run : GoodIn wsL_law (va_wsS RL 174 yL_run wsL_run) := goodIn_app (goodIn_of _ (by decide +kernel)) ggL_law_L_run
set_option maxRecDepth 20000 in
theorem ggL_law_X9_run : GoodIn wsL_law wsX9_run := goodIn_r _ [916, 254, 206, 383, 384, 5, 385, 386, 387, 388, 389, 917, 918, 919, 920, 235, 215, 844, 845, 846, 847, 848, 849, 850, 851, 852, 853, 854, 207, 783, 784, 785, 786, 667, 668, 669, 670, 236, 671, 672, 673, 674, 213, 212, 211, 557, 558, 559, 598, 599, 600, 601, 480, 481, 482, 675, 676, 677, 678, 462, 463, 464, 465, 466, 467, 679, 680, 681, 682, 554, 555, 556, 683, 684, 685, 686, 687, 688, 689, 690, 691, 787, 788, 789, 790, 760, 761, 762, 763, 764, 765, 766, 663, 664, 665, 666, 636, 637, 638, 639, 594, 595, 596, 597, 552, 547, 548, 549, 550, 551, 553, 1029, 1030, 1031, 1032, 1033, 1034, 1035, 1036, 1037, 1038, 1039, 1040, 1041, 1042, 1043, 1044, 1045, 1046, 1047, 1048, 1049, 1050] (by decide +kernel) (by decide +kernel)
set_option maxRecDepth 20000 in
theorem gL_law_X9_run : GoodIn wsL_law (wsV RL 176 RX9 yX9_run wsX9_run) := goodIn_app (goodIn_of _ (by decide +kernel)) ggL_law_X9_run
set_option maxRecDepth 20000 in
theorem ggL_law_L_setMode : GoodIn wsL_law wsL_setMode := goodIn_ca (goodIn_ca (goodIn_r _ [923, 264, 895, 924, 925, 926, 2, 927, 33, 24, 269, 270, 271, 272, 273, 928, 929, 930, 931, 900, 901, 902, 903, 904, 32, 905, 906, 201, 907, 93, 94, 95, 908, 909, 910, 911, 80, 912, 803, 804, 23, 805, 55, 59, 63, 112, 113, 114, 115, 116, 117, 118, 119, 806, 807, 808, 28, 809, 124, 125, 126, 127, 128, 129, 810, 811, 812, 58, 813, 70, 71, 90, 91, 92, 96, 97, 98, 99, 814, 815, 816, 62, 817, 134, 135, 136, 137, 1020, 1021, 1022, 1023, 1024, 1025, 1026, 1027, 1028, 1061, 1062, 1063, 1064, 1065, 1066, 1067, 1068, 1069, 1070, 1071, 1078, 1079, 1080, 1072, 1073, 1074, 1075, 1076, 1077, 1083, 1084, 1085, 1086, 1087, 1088] (by decide +kernel) (by decide +kernel)) (goodIn_sub (fun _ h => List.mem_append_left _ (List.mem_append_left _ (List.mem_append_right _ h))) (by decide +kernel))) (goodIn_sub (fun _ h => List.mem_append_right _ h) (by decide +kernel))
set_option maxRecDepth 20000 in
theorem gL_law_L_setMode : GoodIn wsL_law (va_wsS RL 177 yL_setMode wsL_setMode) := goodIn_app (goodIn_of _ (by decide +kernel)) ggL_law_L_setMode
set_option maxRecDepth 20000 in
theorem ggL_law_X9_setMode : GoodIn wsL_law wsX9_setMode := goodIn_r _ [935, 254, 206, 383, 384, 5, 385, 386, 387, 388, 389, 917, 918, 919, 920, 235, 215, 844, 845, 846, 1029, 1030, 1031, 1032, 1033, 1034, 1035, 1036, 1037, 1038, 1039, 1040, 1041, 1042, 1043, 1044, 1045, 1046, 1047, 1048, 1049, 1050] (by decide +kernel) (by decide +kernel)
set_option maxRecDepth 20000 in
theorem gL_law_X9_setMode : GoodIn wsL_law (wsV RL 179 RX9 yX9_setMode wsX9_setMode) := goodIn_app (goodIn_of _ (by decide +kernel)) ggL_law_X9_setMode
set_option maxRecDepth 20000 in
theorem ggL_law_L_reset : GoodIn wsL_law wsL_reset := goodIn_ca (goodIn_r _ [938, 264, 939, 940, 941, 2, 942, 33, 24, 269, 270, 271, 272, 273, 902, 903, 904, 32, 905, 906, 201, 907, 93, 94, 95, 908, 909, 910, 911, 80, 912, 803, 804, 23, 805, 55, 59, 63, 112, 113, 114, 115, 116, 117, 118, 119, 806, 807, 808, 28, 809, 124, 125, 126, 127, 128, 129, 810, 811, 812, 58, 813, 70, 71, 90, 91, 92, 96, 97, 98, 99, 814, 815, 816, 62, 817, 134, 135, 136, 137, 943, 121, 122, 123, 1020, 1021, 1022, 1023, 1024, 1025, 1026, 1027, 1028, 1061, 1062, 1063, 1064, 1065, 1066, 1067, 1068, 1069, 1070, 1071, 1078, 1079, 1080, 1072, 1073, 1074, 1075, 1076, 1077, 1083, 1084, 1085, 1086, 1087, 1088] (by decide +kernel) (by decide +kernel)) (goodIn_sub (fun _ h => List.mem_append_left _ (List.mem_append_left _ (List.mem_append_right _ h))) (by decide +kernel))
set_option maxRecDepth 20000 in
theorem gL_law_L_reset : GoodIn wsL_law (va_wsS RL 180 yL_reset wsL_reset) := goodIn_app (goodIn_of _ (by decide +kernel)) ggL_law_L_reset
set_option maxRecDepth 20000 in
theorem ggL_law_X9_reset : GoodIn wsL_law wsX9_reset := goodIn_r _ [947, 254, 206, 383, 384, 5, 385, 386, 387, 388, 389, 917, 918, 919, 920, 235, 215, 844, 845, 846, 1029, 1030, 1031, 1032, 1033, 1034, 1035, 1036, 1037, 1038, 1039, 1040, 1041, 1042, 1043, 1044, 1045, 1046, 1047, 1048, 1049, 1050] (by decide +kernel) (by decide +kernel)
set_option maxRecDepth 20000 in
theorem gL_law_X9_reset : GoodIn wsL_law (wsV RL 182 RX9 yX9_reset wsX9_reset) := goodIn_app (goodIn_of _ (by decide +kernel)) ggL_law_X9_reset
set_option maxRecDepth 20000 in
theorem ggL_law_L_nudge : GoodIn wsL_law wsL_nudge := goodIn_ca (goodIn_ca (goodIn_ca (goodIn_r _ [950, 501, 264, 895, 951, 952, 953, 2, 954, 900, 901, 24, 33, 506, 507, 508, 509, 510, 269, 270, 271, 272, 273, 928, 929, 930, 931, 751, 182, 183, 28, 184, 128, 129, 902, 903, 904, 32, 905, 906, 201, 907, 93, 94, 95, 908, 909, 910, 911, 80, 912, 803, 804, 23, 805, 55, 59, 63, 112, 113, 114, 115, 116, 117, 118, 119, 806, 807, 808, 809, 124, 125, 126, 127, 810, 811, 812, 58, 813, 70, 71, 90, 91, 92, 96, 97, 98, 99, 814, 815, 816, 62, 817, 134, 135, 136, 137, 955, 956, 957, 958, 1020, 1021, 1022, 1023, 1024, 1025, 1026, 1027, 1028, 1061, 1062, 1063, 1064, 1065, 1066, 1067, 1068, 1069, 1070, 1071, 1072, 1073, 1074, 1075, 1076, 1077, 1078, 1079, 1080, 1083, 1084, 1085, 1086, 1087, 1088] (by decide +kernel) (by decide +kernel)) (goodIn_sub (fun _ h => List.mem_append_right _ h) (by decide +kernel))) (goodIn_sub (fun _ h => List.mem_append_left _ (List.mem_append_right _ h)) (by decide +kernel))) (goodIn_sub (fun _ h => List.mem_append_left _ (List.mem_append_left _ (List.mem_append_right _ h))) (by decide +kernel))
set_option maxRecDepth 20000 in
theorem gL_law_L_nudge : GoodIn wsL_law (va_wsS RL 183 yL_nudge wsL_nudge) := goodIn_app (goodIn_of _ (by decide +kernel)) ggL_law_L_nudge
set_option maxRecDepth 20000 in
theorem ggL_law_X9_nudge : GoodIn wsL_law wsX9_nudge := goodIn_r _ [962, 206, 521, 522, 523, 5, 524, 254, 383, 384, 385, 386, 387, 388, 389, 683, 684, 685, 917, 918, 919, 920, 235, 215, 844, 845, 846, 1029, 1030, 1031, 1032, 1033, 1034, 1035, 1036, 1037, 1038, 1039, 1040, 1041, 1042, 1043, 1044, 1045, 1046, 1047, 1048, 1049, 1050] (by decide +kernel) (by decide +kernel)
set_option maxRecDepth 20000 in
theorem gL_law_X9_nudge : GoodIn wsL_law (wsV RL 185 RX9 yX9_nudge wsX9_nudge) := goodIn_app (goodIn_of _ (by decide +kernel)) ggL_law_X9_nudge
set_option maxRecDepth 20000 in
theorem ggL_law_L_setForce : GoodIn wsL_law wsL_setForce := goodIn_ca (goodIn_r _ [965, 264, 966, 967, 968, 2, 969, 33, 24, 16, 29, 269, 270, 271, 272, 273, 902, 903, 904, 32, 905, 906, 201, 907, 93, 94, 95, 908, 909, 910, 911, 80, 912, 803, 804, 23, 805, 55, 59, 63, 112, 113, 114, 115, 116, 117, 118, 119, 806, 807, 808, 28, 809, 124, 125, 126, 127, 128, 129, 810, 811, 812, 58, 813, 70, 71, 90, 91, 92, 96, 97, 98, 99, 814, 815, 816, 62, 817, 134, 135, 136, 137, 138, 139, 140, 141, 142, 105, 106, 15, 107, 45, 143, 144, 145, 121, 122, 123, 146, 147, 148, 149, 150, 151, 152, 153, 154, 155, 156, 157, 158, 159, 160, 161, 162, 163, 164, 165, 166, 167, 168, 169, 170, 171, 172, 173, 174, 175, 176, 177, 178, 179, 180, 181, 182, 183, 184, 185, 186, 187, 188, 189, 190, 191, 192, 193, 194, 195, 196, 970, 708, 709, 710, 104, 711, 712, 713, 714, 715, 656, 657, 658, 287, 288, 1020, 1021, 1022, 1023, 1024, 1025, 1026, 1027, 1028, 1061, 1062, 1063, 1064, 1065, 1066, 1067, 1068, 1069, 1070, 1071, 1078, 1079, 1080, 1072, 1073, 1074, 1075, 1076, 1077, 1083, 1084, 1085, 1086, 1087, 1088, 1051] (by decide +kernel) (by decide +kernel)) (goodIn_sub (fun _ h => List.mem_append_left _ (List.mem_append_left _ (List.mem_append_right _ h))) (by decide +kernel))
set_option maxRecDepth 20000 in
theorem gL_law_L_setForce : GoodIn wsL_law (va_wsS RL 186 yL_setForce wsL_setForce) := goodIn_app (goodIn_of _ (by decide +kernel)) ggL_law_L_setForce
set_option maxRecDepth 20000 in
theorem ggL_law_X9_setForce : GoodIn wsL_law wsX9_setForce := goodIn_r _ [974, 254, 206, 383, 384, 5, 385, 386, 387, 388, 389, 917, 918, 919, 920, 235, 215, 844, 845, 846, 720, 721, 722, 723, 207, 211, 667, 668, 669, 670, 236, 671, 672, 673, 674, 213, 212, 557, 558, 559, 598, 599, 600, 601, 480, 481, 482, 675, 676, 677, 678, 462, 463, 464, 465, 466, 467, 679, 680, 681, 682, 554, 555, 556, 683, 684, 685, 686, 687, 688, 689, 690, 691, 1029, 1030, 1031, 1032, 1033, 1034, 1035, 1036, 1037, 1038, 1039, 1040, 1041, 1042, 1043, 1044, 1045, 1046, 1047, 1048, 1049, 1050] (by decide +kernel) (by decide +kernel)
set_option maxRecDepth 20000 in
theorem gL_law_X9_setForce : GoodIn wsL_law (wsV RL 188 RX9 yX9_setForce wsX9_setForce) := goodIn_app (goodIn_of _ (by decide +kernel)) ggL_law_X9_setForce
set_option maxRecDepth 20000 in
theorem ggL_law_X8_undo : GoodIn wsL_law wsX8_undo := goodIn_r _ [978, 33, 24, 979, 980, 981, 32, 982, 906, 201, 908, 909, 910, 911, 80, 912, 803, 804, 23, 805, 55, 59, 63, 112, 113, 114, 115, 116, 117, 118, 119, 806, 807, 808, 28, 809, 124, 125, 126, 127, 128, 129, 810, 811, 812, 58, 813, 70, 71, 90, 2, 91, 92, 93, 94, 95, 96, 97, 98, 99, 814, 815, 816, 62, 817, 134, 135, 136, 137, 1020, 1021, 1022, 1023, 1024, 1025, 1026, 1027, 1028, 1078, 1079, 1080, 1061, 1062, 1063, 1064, 1065, 1066, 1067, 1068, 1069, 1070, 1071, 1072, 1073, 1074, 1075, 1076, 1077, 1083, 1084, 1085, 1086, 1087, 1088] (by decide +kernel) (by decide +kernel)
set_option maxRecDepth 20000 in
theorem gL_law_X8_undo : GoodIn wsL_law (wsV RL 189 RX8 yX8_undo wsX8_undo) := goodIn_app (goodIn_of _ (by decide +kernel)) ggL_law_X8_undo
set_option maxRecDepth 20000 in
theorem ggL_law_X9_undo : GoodIn wsL_law wsX9_undo := goodIn_r _ [986, 254, 235, 215, 206, 844, 845, 5, 846, 1029, 1030, 1031, 1032, 1033, 1034, 1035, 1036, 1037, 1038, 1039, 1040, 1041, 1042, 1043, 1044, 1045, 1046, 1047, 1048, 1049, 1050] (by decide +kernel) (by decide +kernel)
set_option maxRecDepth 20000 in
theorem gL_law_X9_undo : GoodIn wsL_law (wsV RL 192 RX9 yX9_undo wsX9_undo) := goodIn_app (goodIn_of _ (by decide +kernel)) ggL_law_X9_undo
set_option maxRecDepth 20000 in
theorem ggL_law_L_saveSnapshot : GoodIn wsL_law wsL_saveSnapshot := goodIn_ca (goodIn_r _ [989, 501, 990, 991, 992, 2, 993, 24, 994, 995, 996, 509, 510, 997, 998, 999, 1000, 37, 38, 802, 803, 804, 23, 805, 55, 59, 63, 112, 113, 114, 115, 116, 117, 118, 119, 806, 807, 808, 28, 809, 124, 125, 126, 127, 128, 129, 810, 811, 812, 58, 813, 70, 71, 90, 91, 92, 93, 94, 95, 96, 97, 98, 99, 814, 815, 816, 62, 817, 134, 135, 136, 137, 1081, 1082, 1020, 1021, 1022, 1023, 1024, 1025, 1026, 1027, 1028, 1061, 1062, 1063, 1064, 1065, 1066, 1067, 1068, 1069, 1070, 1071, 1072, 1073, 1074, 1075, 1076, 1077, 1083, 1084, 1085, 1086, 1087, 1088] (by decide +kernel) (by decide +kernel)) (goodIn_sub (fun _ h => List.mem_append_left _ (List.mem_append_right _ h)) (by decide +kernel))
set_option maxRecDepth 20000 in
theorem gL_law_L_saveSnapshot : GoodIn wsL_law (va_wsS RL 193 yL_saveSnapshot wsL_saveSnapshot) := goodIn_app (goodIn_of _ (by decide +kernel)) ggL_law_L_saveSnapshot
set_option maxRecDepth 20000 in
theorem ggL_law_X9_saveSnapshot : GoodIn wsL_law wsX9_saveSnapshot := goodIn_r _ [1004, 218, 206, 216, 1005, 1006, 1007, 5, 1008, 254, 383, 384, 385, 386, 387, 388, 389, 844, 845, 846, 1029, 1030, 1031, 1032, 1033, 1034, 1035, 1036, 1037, 1038, 1039, 1040, 1041, 1042, 1043, 1044, 1045, 1046, 1047, 1048, 1049, 1050] (by decide +kernel) (by decide +kernel)
set_option maxRecDepth 20000 in
theorem gL_law_X9_saveSnapshot : GoodIn wsL_law (wsV RL 195 RX9 yX9_saveSnapshot wsX9_saveSnapshot) := goodIn_app (goodIn_of _ (by decide +kernel)) ggL_law_X9_saveSnapshot
set_option maxRecDepth 20000 in
theorem ggL_law_L_restoreSnapshot : GoodIn wsL_law wsL_restoreSnapshot := goodIn_ca (goodIn_ca (goodIn_r _ [1011, 501, 895, 1012, 1013, 1014, 2, 1015, 900, 901, 24, 33, 994, 995, 996, 509, 510, 997, 998, 999, 1000, 37, 38, 802, 803, 804, 23, 805, 55, 59, 63, 112, 113, 114, 115, 116, 117, 118, 119, 806, 807, 808, 28, 809, 124, 125, 126, 127, 128, 129, 810, 811, 812, 58, 813, 70, 71, 90, 91, 92, 93, 94, 95, 96, 97, 98, 99, 814, 815, 816, 62, 817, 134, 135, 136, 137, 197, 198, 199, 32, 200, 201, 1081, 1082, 1020, 1021, 1022, 1023, 1024, 1025, 1026, 1027, 1028, 1061, 1062, 1063, 1064, 1065, 1066, 1067, 1068, 1069, 1070, 1071, 1072, 1073, 1074, 1075, 1076, 1077, 1083, 1084, 1085, 1086, 1087, 1088, 1078, 1079, 1080] (by decide +kernel) (by decide +kernel)) (goodIn_sub (fun _ h => List.mem_append_right _ h) (by decide +kernel))) (goodIn_sub (fun _ h => List.mem_append_left _ (List.mem_append_right _ h)) (by decide +kernel))
set_option maxRecDepth 20000 in
theorem gL_law_L_restoreSnapshot : GoodIn wsL_law (va_wsS RL 196 yL_restoreSnapshot wsL_restoreSnapshot) := goodIn_app (goodIn_of _ (by decide +kernel)) ggL_law_L_restoreSnapshot
set_option maxRecDepth 20000 in
theorem ggL_law_X9_restoreSnapshot : GoodIn wsL_law wsX9_restoreSnapshot := goodIn_r _ [1019, 218, 216, 206, 235, 1005, 1006, 1007, 5, 1008, 254, 383, 384, 385, 386, 387, 388, 389, 844, 845, 846, 1029, 1030, 1031, 1032, 1033, 1034, 1035, 1036, 1037, 1038, 1039, 1040, 1041, 1042, 1043, 1044, 1045, 1046, 1047, 1048, 1049, 1050] (by decide +kernel) (by decide +kernel)
set_option maxRecDepth 20000 in
theorem gL_law_X9_restoreSnapshot : GoodIn wsL_law (wsV RL 198 RX9 yX9_restoreSnapshot wsX9_restoreSnapshot) := goodIn_app (goodIn_of _ (by decide +kernel)) ggL_law_X9_restoreSnapshot
theorem dL_law_0 : decode cL_law 0 = .ok (.new 8, 3) := by decide +kernel
theorem dL_law_3 : decode cL_law 3 = .ok (.dup, 1) := by decide +kernel
theorem dL_law_4 : decode cL_law 4 = .ok (.invokespecial 86, 3) := by decide +kernel
theorem dL_law_7 : decode cL_law 7 = .ok (.astore_n 1, 1) := by decide +kernel
theorem dL_law_8 : decode cL_law 8 = .ok (.new 87, 3) := by decide +kernel
theorem dL_law_11 : decode cL_law 11 = .ok (.dup, 1) := by decide +kernel
theorem dL_law_12 : decode cL_law 12 = .ok (.invokespecial 89, 3) := by decide +kernel
theorem dL_law_15 : decode cL_law 15 = .ok (.astore_n 2, 1) := by decide +kernel
theorem dL_law_16 : decode cL_law 16 = .ok (.iconst 1, 1) := by decide +kernel
theorem dL_law_17 : decode cL_law 17 = .ok (.newarray .long, 2) := by decide +kernel
theorem dL_law_19 : decode cL_law 19 = .ok (.astore_n 3, 1) := by decide +kernel
theorem dL_law_20 : decode cL_law 20 = .ok (.iconst 0, 1) := by decide +kernel
theorem dL_law_21 : decode cL_law 21 = .ok (.istore 4, 2) := by decide +kernel
theorem dL_law_23 : decode cL_law 23 = .ok (.iload 4, 2) := by decide +kernel
theorem dL_law_25 : decode cL_law 25 = .ok (.aload_n 0, 1) := by decide +kernel
theorem dL_law_26 : decode cL_law 26 = .ok (.arraylength, 1) := by decide +kernel
theorem dL_law_27 : decode cL_law 27 = .ok (.bipush 6, 2) := by decide +kernel
theorem dL_law_29 : decode cL_law 29 = .ok (.isub, 1) := by decide +kernel
theorem dL_law_30 : decode cL_law 30 = .ok (.if_icmp .gt 1662, 3) := by decide +kernel
theorem dL_law_33 : decode cL_law 33 = .ok (.aload_n 0, 1) := by decide +kernel
theorem dL_law_34 : decode cL_law 34 = .ok (.iload 4, 2) := by decide +kernel
theorem dL_law_36 : decode cL_law 36 = .ok (.iaload, 1) := by decide +kernel
theorem dL_law_37 : decode cL_law 37 = .ok (.bipush 31, 2) := by decide +kernel
theorem dL_law_39 : decode cL_law 39 = .ok (.iand, 1) := by decide +kernel
theorem dL_law_40 : decode cL_law 40 = .ok (.tableswitch 1646 0 29 #[136, 209, 265, 278, 334, 390, 446, 514, 569, 625, 638, 651, 707, 775, 843, 856, 881, 949, 962, 1018, 1074, 1130, 1210, 1266, 1322, 1390, 1458, 1514, 1527, 1590], 136) := by decide +kernel
theorem dL_law_176 : decode cL_law 176 = .ok (.aload_n 1, 1) := by decide +kernel
theorem dL_law_177 : decode cL_law 177 = .ok (.aload_n 0, 1) := by decide +kernel
theorem dL_law_178 : decode cL_law 178 = .ok (.iload 4, 2) := by decide +kernel
theorem dL_law_180 : decode cL_law 180 = .ok (.iconst 1, 1) := by decide +kernel
theorem dL_law_181 : decode cL_law 181 = .ok (.iadd, 1) := by decide +kernel
theorem dL_law_182 : decode cL_law 182 = .ok (.iaload, 1) := by decide +kernel
theorem dL_law_183 : decode cL_law 183 = .ok (.aload_n 0, 1) := by decide +kernel
theorem dL_law_184 : decode cL_law 184 = .ok (.iload 4, 2) := by decide +kernel
theorem dL_law_186 : decode cL_law 186 = .ok (.iconst 2, 1) := by decide +kernel
theorem dL_law_187 : decode cL_law 187 = .ok (.iadd, 1) := by decide +kernel
theorem dL_law_188 : decode cL_law 188 = .ok (.iaload, 1) := by decide +kernel
theorem dL_law_189 : decode cL_law 189 = .ok (.aload_n 0, 1) := by decide +kernel
theorem dL_law_190 : decode cL_law 190 = .ok (.iload 4, 2) := by decide +kernel
theorem dL_law_192 : decode cL_law 192 = .ok (.iconst 3, 1) := by decide +kernel
theorem dL_law_193 : decode cL_law 193 = .ok (.iadd, 1) := by decide +kernel
theorem dL_law_194 : decode cL_law 194 = .ok (.iaload, 1) := by decide +kernel
theorem dL_law_195 : decode cL_law 195 = .ok (.aload_n 0, 1) := by decide +kernel
theorem dL_law_196 : decode cL_law 196 = .ok (.iload 4, 2) := by decide +kernel
theorem dL_law_198 : decode cL_law 198 = .ok (.iconst 4, 1) := by decide +kernel
theorem dL_law_199 : decode cL_law 199 = .ok (.iadd, 1) := by decide +kernel
theorem dL_law_200 : decode cL_law 200 = .ok (.iaload, 1) := by decide +kernel
theorem dL_law_201 : decode cL_law 201 = .ok (.aload_n 0, 1) := by decide +kernel
theorem dL_law_202 : decode cL_law 202 = .ok (.iload 4, 2) := by decide +kernel
theorem dL_law_204 : decode cL_law 204 = .ok (.iconst 5, 1) := by decide +kernel
theorem dL_law_205 : decode cL_law 205 = .ok (.iadd, 1) := by decide +kernel
theorem dL_law_206 : decode cL_law 206 = .ok (.iaload, 1) := by decide +kernel
theorem dL_law_207 : decode cL_law 207 = .ok (.invokevirtual 90, 3) := by decide +kernel
theorem dL_law_210 : decode cL_law 210 = .ok (.aload_n 2, 1) := by decide +kernel
theorem dL_law_211 : decode cL_law 211 = .ok (.aload_n 0, 1) := by decide +kernel
theorem dL_law_212 : decode cL_law 212 = .ok (.iload 4, 2) := by decide +kernel
theorem dL_law_214 : decode cL_law 214 = .ok (.iconst 1, 1) := by decide +kernel
theorem dL_law_215 : decode cL_law 215 = .ok (.iadd, 1) := by decide +kernel
theorem dL_law_216 : decode cL_law 216 = .ok (.iaload, 1) := by decide +kernel
theorem dL_law_217 : decode cL_law 217 = .ok (.aload_n 0, 1) := by decide +kernel
theorem dL_law_218 : decode cL_law 218 = .ok (.iload 4, 2) := by decide +kernel
theorem dL_law_220 : decode cL_law 220 = .ok (.iconst 2, 1) := by decide +kernel
theorem dL_law_221 : decode cL_law 221 = .ok (.iadd, 1) := by decide +kernel
theorem dL_law_222 : decode cL_law 222 = .ok (.iaload, 1) := by decide +kernel
theorem dL_law_223 : decode cL_law 223 = .ok (.aload_n 0, 1) := by decide +kernel
theorem dL_law_224 : decode cL_law 224 = .ok (.iload 4, 2) := by decide +kernel
theorem dL_law_226 : decode cL_law 226 = .ok (.iconst 3, 1) := by decide +kernel
theorem dL_law_227 : decode cL_law 227 = .ok (.iadd, 1) := by decide +kernel
theorem dL_law_228 : decode cL_law 228 = .ok (.iaload, 1) := by decide +kernel
theorem dL_law_229 : decode cL_law 229 = .ok (.aload_n 0, 1) := by decide +kernel
theorem dL_law_230 : decode cL_law 230 = .ok (.iload 4, 2) := by decide +kernel
theorem dL_law_232 : decode cL_law 232 = .ok (.iconst 4, 1) := by decide +kernel
theorem dL_law_233 : decode cL_law 233 = .ok (.iadd, 1) := by decide +kernel
theorem dL_law_234 : decode cL_law 234 = .ok (.iaload, 1) := by decide +kernel
theorem dL_law_235 : decode cL_law 235 = .ok (.aload_n 0, 1) := by decide +kernel
theorem dL_law_236 : decode cL_law 236 = .ok (.iload 4, 2) := by decide +kernel
theorem dL_law_238 : decode cL_law 238 = .ok (.iconst 5, 1) := by decide +kernel
theorem dL_law_239 : decode cL_law 239 = .ok (.iadd, 1) := by decide +kernel
theorem dL_law_240 : decode cL_law 240 = .ok (.iaload, 1) := by decide +kernel
theorem dL_law_241 : decode cL_law 241 = .ok (.invokevirtual 94, 3) := by decide +kernel
theorem dL_law_244 : decode cL_law 244 = .ok (.if_icmp .eq 1442, 3) := by decide +kernel
theorem dL_law_247 : decode cL_law 247 = .ok (.iconst 0, 1) := by decide +kernel
theorem dL_law_248 : decode cL_law 248 = .ok (.ireturn, 1) := by decide +kernel
theorem dL_law_249 : decode cL_law 249 = .ok (.aload_n 1, 1) := by decide +kernel
theorem dL_law_250 : decode cL_law 250 = .ok (.aload_n 0, 1) := by decide +kernel
theorem dL_law_251 : decode cL_law 251 = .ok (.iload 4, 2) := by decide +kernel
theorem dL_law_253 : decode cL_law 253 = .ok (.iconst 1, 1) := by decide +kernel
theorem dL_law_254 : decode cL_law 254 = .ok (.iadd, 1) := by decide +kernel
theorem dL_law_255 : decode cL_law 255 = .ok (.iaload, 1) := by decide +kernel
theorem dL_law_256 : decode cL_law 256 = .ok (.aload_n 3, 1) := by decide +kernel
theorem dL_law_257 : decode cL_law 257 = .ok (.invokestatic 95, 3) := by decide +kernel
theorem dL_law_260 : decode cL_law 260 = .ok (.istore 5, 2) := by decide +kernel
theorem dL_law_262 : decode cL_law 262 = .ok (.aload_n 2, 1) := by decide +kernel
theorem dL_law_263 : decode cL_law 263 = .ok (.aload_n 0, 1) := by decide +kernel
theorem dL_law_264 : decode cL_law 264 = .ok (.iload 4, 2) := by decide +kernel
theorem dL_law_266 : decode cL_law 266 = .ok (.iconst 1, 1) := by decide +kernel
theorem dL_law_267 : decode cL_law 267 = .ok (.iadd, 1) := by decide +kernel
theorem dL_law_268 : decode cL_law 268 = .ok (.iaload, 1) := by decide +kernel
theorem dL_law_269 : decode cL_law 269 = .ok (.invokevirtual 100, 3) := by decide +kernel
theorem dL_law_272 : decode cL_law 272 = .ok (.istore 6, 2) := by decide +kernel
theorem dL_law_274 : decode cL_law 274 = .ok (.aload_n 2, 1) := by decide +kernel
theorem dL_law_275 : decode cL_law 275 = .ok (.invokevirtual 101, 3) := by decide +kernel
theorem dL_law_278 : decode cL_law 278 = .ok (.iload 5, 2) := by decide +kernel
theorem dL_law_280 : decode cL_law 280 = .ok (.if_icmp .eq 5, 3) := by decide +kernel
theorem dL_law_283 : decode cL_law 283 = .ok (.iconst 0, 1) := by decide +kernel
theorem dL_law_284 : decode cL_law 284 = .ok (.ireturn, 1) := by decide +kernel
theorem dL_law_285 : decode cL_law 285 = .ok (.iload 5, 2) := by decide +kernel
theorem dL_law_287 : decode cL_law 287 = .ok (.ifCond .ne 15, 3) := by decide +kernel
theorem dL_law_290 : decode cL_law 290 = .ok (.aload_n 3, 1) := by decide +kernel
theorem dL_law_291 : decode cL_law 291 = .ok (.iconst 0, 1) := by decide +kernel
theorem dL_law_292 : decode cL_law 292 = .ok (.laload, 1) := by decide +kernel
theorem dL_law_293 : decode cL_law 293 = .ok (.iload 6, 2) := by decide +kernel
theorem dL_law_295 : decode cL_law 295 = .ok (.i2l, 1) := by decide +kernel
theorem dL_law_296 : decode cL_law 296 = .ok (.lcmp, 1) := by decide +kernel
theorem dL_law_297 : decode cL_law 297 = .ok (.ifCond .eq 5, 3) := by decide +kernel
theorem dL_law_300 : decode cL_law 300 = .ok (.iconst 0, 1) := by decide +kernel
theorem dL_law_301 : decode cL_law 301 = .ok (.ireturn, 1) := by decide +kernel
theorem dL_law_302 : decode cL_law 302 = .ok (.goto 1384, 3) := by decide +kernel
theorem dL_law_305 : decode cL_law 305 = .ok (.aload_n 1, 1) := by decide +kernel
theorem dL_law_306 : decode cL_law 306 = .ok (.invokevirtual 105, 3) := by decide +kernel
theorem dL_law_309 : decode cL_law 309 = .ok (.aload_n 2, 1) := by decide +kernel
theorem dL_law_310 : decode cL_law 310 = .ok (.invokevirtual 108, 3) := by decide +kernel
theorem dL_law_313 : decode cL_law 313 = .ok (.if_icmp .eq 1373, 3) := by decide +kernel
theorem dL_law_316 : decode cL_law 316 = .ok (.iconst 0, 1) := by decide +kernel
theorem dL_law_317 : decode cL_law 317 = .ok (.ireturn, 1) := by decide +kernel
theorem dL_law_318 : decode cL_law 318 = .ok (.aload_n 1, 1) := by decide +kernel
theorem dL_law_319 : decode cL_law 319 = .ok (.aload_n 0, 1) := by decide +kernel
theorem dL_law_320 : decode cL_law 320 = .ok (.iload 4, 2) := by decide +kernel
theorem dL_law_322 : decode cL_law 322 = .ok (.iconst 1, 1) := by decide +kernel
theorem dL_law_323 : decode cL_law 323 = .ok (.iadd, 1) := by decide +kernel
theorem dL_law_324 : decode cL_law 324 = .ok (.iaload, 1) := by decide +kernel
theorem dL_law_325 : decode cL_law 325 = .ok (.aload_n 3, 1) := by decide +kernel
theorem dL_law_326 : decode cL_law 326 = .ok (.invokestatic 109, 3) := by decide +kernel
theorem dL_law_329 : decode cL_law 329 = .ok (.istore 5, 2) := by decide +kernel
theorem dL_law_331 : decode cL_law 331 = .ok (.aload_n 2, 1) := by decide +kernel
theorem dL_law_332 : decode cL_law 332 = .ok (.aload_n 0, 1) := by decide +kernel
theorem dL_law_333 : decode cL_law 333 = .ok (.iload 4, 2) := by decide +kernel
theorem dL_law_335 : decode cL_law 335 = .ok (.iconst 1, 1) := by decide +kernel
theorem dL_law_336 : decode cL_law 336 = .ok (.iadd, 1) := by decide +kernel
theorem dL_law_337 : decode cL_law 337 = .ok (.iaload, 1) := by decide +kernel
theorem dL_law_338 : decode cL_law 338 = .ok (.invokevirtual 111, 3) := by decide +kernel
theorem dL_law_341 : decode cL_law 341 = .ok (.istore 6, 2) := by decide +kernel
theorem dL_law_343 : decode cL_law 343 = .ok (.aload_n 2, 1) := by decide +kernel
theorem dL_law_344 : decode cL_law 344 = .ok (.invokevirtual 101, 3) := by decide +kernel
theorem dL_law_347 : decode cL_law 347 = .ok (.iload 5, 2) := by decide +kernel
theorem dL_law_349 : decode cL_law 349 = .ok (.if_icmp .eq 5, 3) := by decide +kernel
theorem dL_law_352 : decode cL_law 352 = .ok (.iconst 0, 1) := by decide +kernel
theorem dL_law_353 : decode cL_law 353 = .ok (.ireturn, 1) := by decide +kernel
theorem dL_law_354 : decode cL_law 354 = .ok (.iload 5, 2) := by decide +kernel
theorem dL_law_356 : decode cL_law 356 = .ok (.ifCond .ne 15, 3) := by decide +kernel
theorem dL_law_359 : decode cL_law 359 = .ok (.aload_n 3, 1) := by decide +kernel
theorem dL_law_360 : decode cL_law 360 = .ok (.iconst 0, 1) := by decide +kernel
theorem dL_law_361 : decode cL_law 361 = .ok (.laload, 1) := by decide +kernel
theorem dL_law_362 : decode cL_law 362 = .ok (.iload 6, 2) := by decide +kernel
theorem dL_law_364 : decode cL_law 364 = .ok (.i2l, 1) := by decide +kernel
theorem dL_law_365 : decode cL_law 365 = .ok (.lcmp, 1) := by decide +kernel
theorem dL_law_366 : decode cL_law 366 = .ok (.ifCond .eq 5, 3) := by decide +kernel
theorem dL_law_369 : decode cL_law 369 = .ok (.iconst 0, 1) := by decide +kernel
theorem dL_law_370 : decode cL_law 370 = .ok (.ireturn, 1) := by decide +kernel
theorem dL_law_371 : decode cL_law 371 = .ok (.goto 1315, 3) := by decide +kernel
theorem dL_law_374 : decode cL_law 374 = .ok (.aload_n 1, 1) := by decide +kernel
theorem dL_law_375 : decode cL_law 375 = .ok (.aload_n 0, 1) := by decide +kernel
theorem dL_law_376 : decode cL_law 376 = .ok (.iload 4, 2) := by decide +kernel
theorem dL_law_378 : decode cL_law 378 = .ok (.iconst 1, 1) := by decide +kernel
theorem dL_law_379 : decode cL_law 379 = .ok (.iadd, 1) := by decide +kernel
theorem dL_law_380 : decode cL_law 380 = .ok (.iaload, 1) := by decide +kernel
theorem dL_law_381 : decode cL_law 381 = .ok (.aload_n 3, 1) := by decide +kernel
theorem dL_law_382 : decode cL_law 382 = .ok (.invokestatic 112, 3) := by decide +kernel
theorem dL_law_385 : decode cL_law 385 = .ok (.istore 5, 2) := by decide +kernel
theorem dL_law_387 : decode cL_law 387 = .ok (.aload_n 2, 1) := by decide +kernel
theorem dL_law_388 : decode cL_law 388 = .ok (.aload_n 0, 1) := by decide +kernel
theorem dL_law_389 : decode cL_law 389 = .ok (.iload 4, 2) := by decide +kernel
theorem dL_law_391 : decode cL_law 391 = .ok (.iconst 1, 1) := by decide +kernel
theorem dL_law_392 : decode cL_law 392 = .ok (.iadd, 1) := by decide +kernel
theorem dL_law_393 : decode cL_law 393 = .ok (.iaload, 1) := by decide +kernel
theorem dL_law_394 : decode cL_law 394 = .ok (.invokevirtual 114, 3) := by decide +kernel
theorem dL_law_397 : decode cL_law 397 = .ok (.istore 6, 2) := by decide +kernel
theorem dL_law_399 : decode cL_law 399 = .ok (.aload_n 2, 1) := by decide +kernel
theorem dL_law_400 : decode cL_law 400 = .ok (.invokevirtual 101, 3) := by decide +kernel
theorem dL_law_403 : decode cL_law 403 = .ok (.iload 5, 2) := by decide +kernel
theorem dL_law_405 : decode cL_law 405 = .ok (.if_icmp .eq 5, 3) := by decide +kernel
theorem dL_law_408 : decode cL_law 408 = .ok (.iconst 0, 1) := by decide +kernel
theorem dL_law_409 : decode cL_law 409 = .ok (.ireturn, 1) := by decide +kernel
theorem dL_law_410 : decode cL_law 410 = .ok (.iload 5, 2) := by decide +kernel
theorem dL_law_412 : decode cL_law 412 = .ok (.ifCond .ne 15, 3) := by decide +kernel
theorem dL_law_415 : decode cL_law 415 = .ok (.aload_n 3, 1) := by decide +kernel
theorem dL_law_416 : decode cL_law 416 = .ok (.iconst 0, 1) := by decide +kernel
theorem dL_law_417 : decode cL_law 417 = .ok (.laload, 1) := by decide +kernel
theorem dL_law_418 : decode cL_law 418 = .ok (.iload 6, 2) := by decide +kernel
theorem dL_law_420 : decode cL_law 420 = .ok (.i2l, 1) := by decide +kernel
theorem dL_law_421 : decode cL_law 421 = .ok (.lcmp, 1) := by decide +kernel
theorem dL_law_422 : decode cL_law 422 = .ok (.ifCond .eq 5, 3) := by decide +kernel
theorem dL_law_425 : decode cL_law 425 = .ok (.iconst 0, 1) := by decide +kernel
theorem dL_law_426 : decode cL_law 426 = .ok (.ireturn, 1) := by decide +kernel
theorem dL_law_427 : decode cL_law 427 = .ok (.goto 1259, 3) := by decide +kernel
theorem dL_law_430 : decode cL_law 430 = .ok (.aload_n 1, 1) := by decide +kernel
theorem dL_law_431 : decode cL_law 431 = .ok (.aload_n 0, 1) := by decide +kernel
theorem dL_law_432 : decode cL_law 432 = .ok (.iload 4, 2) := by decide +kernel
theorem dL_law_434 : decode cL_law 434 = .ok (.iconst 1, 1) := by decide +kernel
theorem dL_law_435 : decode cL_law 435 = .ok (.iadd, 1) := by decide +kernel
theorem dL_law_436 : decode cL_law 436 = .ok (.iaload, 1) := by decide +kernel
theorem dL_law_437 : decode cL_law 437 = .ok (.aload_n 3, 1) := by decide +kernel
theorem dL_law_438 : decode cL_law 438 = .ok (.invokestatic 115, 3) := by decide +kernel
theorem dL_law_441 : decode cL_law 441 = .ok (.istore 5, 2) := by decide +kernel
theorem dL_law_443 : decode cL_law 443 = .ok (.aload_n 2, 1) := by decide +kernel
theorem dL_law_444 : decode cL_law 444 = .ok (.aload_n 0, 1) := by decide +kernel
theorem dL_law_445 : decode cL_law 445 = .ok (.iload 4, 2) := by decide +kernel
theorem dL_law_447 : decode cL_law 447 = .ok (.iconst 1, 1) := by decide +kernel
theorem dL_law_448 : decode cL_law 448 = .ok (.iadd, 1) := by decide +kernel
theorem dL_law_449 : decode cL_law 449 = .ok (.iaload, 1) := by decide +kernel
theorem dL_law_450 : decode cL_law 450 = .ok (.invokevirtual 117, 3) := by decide +kernel
theorem dL_law_453 : decode cL_law 453 = .ok (.istore 6, 2) := by decide +kernel
theorem dL_law_455 : decode cL_law 455 = .ok (.aload_n 2, 1) := by decide +kernel
theorem dL_law_456 : decode cL_law 456 = .ok (.invokevirtual 101, 3) := by decide +kernel
theorem dL_law_459 : decode cL_law 459 = .ok (.iload 5, 2) := by decide +kernel
theorem dL_law_461 : decode cL_law 461 = .ok (.if_icmp .eq 5, 3) := by decide +kernel
theorem dL_law_464 : decode cL_law 464 = .ok (.iconst 0, 1) := by decide +kernel
theorem dL_law_465 : decode cL_law 465 = .ok (.ireturn, 1) := by decide +kernel
theorem dL_law_466 : decode cL_law 466 = .ok (.iload 5, 2) := by decide +kernel
theorem dL_law_468 : decode cL_law 468 = .ok (.ifCond .ne 15, 3) := by decide +kernel
theorem dL_law_471 : decode cL_law 471 = .ok (.aload_n 3, 1) := by decide +kernel
theorem dL_law_472 : decode cL_law 472 = .ok (.iconst 0, 1) := by decide +kernel
theorem dL_law_473 : decode cL_law 473 = .ok (.laload, 1) := by decide +kernel
theorem dL_law_474 : decode cL_law 474 = .ok (.iload 6, 2) := by decide +kernel
theorem dL_law_476 : decode cL_law 476 = .ok (.i2l, 1) := by decide +kernel
theorem dL_law_477 : decode cL_law 477 = .ok (.lcmp, 1) := by decide +kernel
theorem dL_law_478 : decode cL_law 478 = .ok (.ifCond .eq 5, 3) := by decide +kernel
theorem dL_law_481 : decode cL_law 481 = .ok (.iconst 0, 1) := by decide +kernel
theorem dL_law_482 : decode cL_law 482 = .ok (.ireturn, 1) := by decide +kernel
theorem dL_law_483 : decode cL_law 483 = .ok (.goto 1203, 3) := by decide +kernel
theorem dL_law_486 : decode cL_law 486 = .ok (.aload_n 1, 1) := by decide +kernel
theorem dL_law_487 : decode cL_law 487 = .ok (.aload_n 0, 1) := by decide +kernel
theorem dL_law_488 : decode cL_law 488 = .ok (.iload 4, 2) := by decide +kernel
theorem dL_law_490 : decode cL_law 490 = .ok (.iconst 1, 1) := by decide +kernel
theorem dL_law_491 : decode cL_law 491 = .ok (.iadd, 1) := by decide +kernel
theorem dL_law_492 : decode cL_law 492 = .ok (.iaload, 1) := by decide +kernel
theorem dL_law_493 : decode cL_law 493 = .ok (.aload_n 0, 1) := by decide +kernel
theorem dL_law_494 : decode cL_law 494 = .ok (.iload 4, 2) := by decide +kernel
theorem dL_law_496 : decode cL_law 496 = .ok (.iconst 2, 1) := by decide +kernel
theorem dL_law_497 : decode cL_law 497 = .ok (.iadd, 1) := by decide +kernel
theorem dL_law_498 : decode cL_law 498 = .ok (.iaload, 1) := by decide +kernel
theorem dL_law_499 : decode cL_law 499 = .ok (.aload_n 3, 1) := by decide +kernel
theorem dL_law_500 : decode cL_law 500 = .ok (.invokestatic 118, 3) := by decide +kernel
theorem dL_law_503 : decode cL_law 503 = .ok (.istore 5, 2) := by decide +kernel
theorem dL_law_505 : decode cL_law 505 = .ok (.aload_n 2, 1) := by decide +kernel
theorem dL_law_506 : decode cL_law 506 = .ok (.aload_n 0, 1) := by decide +kernel
theorem dL_law_507 : decode cL_law 507 = .ok (.iload 4, 2) := by decide +kernel
theorem dL_law_509 : decode cL_law 509 = .ok (.iconst 1, 1) := by decide +kernel
theorem dL_law_510 : decode cL_law 510 = .ok (.iadd, 1) := by decide +kernel
theorem dL_law_511 : decode cL_law 511 = .ok (.iaload, 1) := by decide +kernel
theorem dL_law_512 : decode cL_law 512 = .ok (.aload_n 0, 1) := by decide +kernel
theorem dL_law_513 : decode cL_law 513 = .ok (.iload 4, 2) := by decide +kernel
theorem dL_law_515 : decode cL_law 515 = .ok (.iconst 2, 1) := by decide +kernel
theorem dL_law_516 : decode cL_law 516 = .ok (.iadd, 1) := by decide +kernel
theorem dL_law_517 : decode cL_law 517 = .ok (.iaload, 1) := by decide +kernel
theorem dL_law_518 : decode cL_law 518 = .ok (.invokevirtual 121, 3) := by decide +kernel
theorem dL_law_521 : decode cL_law 521 = .ok (.istore 6, 2) := by decide +kernel
theorem dL_law_523 : decode cL_law 523 = .ok (.aload_n 2, 1) := by decide +kernel
theorem dL_law_524 : decode cL_law 524 = .ok (.invokevirtual 101, 3) := by decide +kernel
theorem dL_law_527 : decode cL_law 527 = .ok (.iload 5, 2) := by decide +kernel
theorem dL_law_529 : decode cL_law 529 = .ok (.if_icmp .eq 5, 3) := by decide +kernel
theorem dL_law_532 : decode cL_law 532 = .ok (.iconst 0, 1) := by decide +kernel
theorem dL_law_533 : decode cL_law 533 = .ok (.ireturn, 1) := by decide +kernel
theorem dL_law_534 : decode cL_law 534 = .ok (.iload 5, 2) := by decide +kernel
theorem dL_law_536 : decode cL_law 536 = .ok (.ifCond .ne 15, 3) := by decide +kernel
theorem dL_law_539 : decode cL_law 539 = .ok (.aload_n 3, 1) := by decide +kernel
theorem dL_law_540 : decode cL_law 540 = .ok (.iconst 0, 1) := by decide +kernel
theorem dL_law_541 : decode cL_law 541 = .ok (.laload, 1) := by decide +kernel
theorem dL_law_542 : decode cL_law 542 = .ok (.iload 6, 2) := by decide +kernel
theorem dL_law_544 : decode cL_law 544 = .ok (.i2l, 1) := by decide +kernel
theorem dL_law_545 : decode cL_law 545 = .ok (.lcmp, 1) := by decide +kernel
theorem dL_law_546 : decode cL_law 546 = .ok (.ifCond .eq 5, 3) := by decide +kernel
theorem dL_law_549 : decode cL_law 549 = .ok (.iconst 0, 1) := by decide +kernel
theorem dL_law_550 : decode cL_law 550 = .ok (.ireturn, 1) := by decide +kernel
theorem dL_law_551 : decode cL_law 551 = .ok (.goto 1135, 3) := by decide +kernel
theorem dL_law_554 : decode cL_law 554 = .ok (.aload_n 1, 1) := by decide +kernel
theorem dL_law_555 : decode cL_law 555 = .ok (.aload_n 0, 1) := by decide +kernel
theorem dL_law_556 : decode cL_law 556 = .ok (.iload 4, 2) := by decide +kernel
theorem dL_law_558 : decode cL_law 558 = .ok (.iconst 1, 1) := by decide +kernel
theorem dL_law_559 : decode cL_law 559 = .ok (.iadd, 1) := by decide +kernel
theorem dL_law_560 : decode cL_law 560 = .ok (.iaload, 1) := by decide +kernel
theorem dL_law_561 : decode cL_law 561 = .ok (.aload_n 3, 1) := by decide +kernel
theorem dL_law_562 : decode cL_law 562 = .ok (.invokestatic 122, 3) := by decide +kernel
theorem dL_law_565 : decode cL_law 565 = .ok (.istore 5, 2) := by decide +kernel
theorem dL_law_567 : decode cL_law 567 = .ok (.aload_n 2, 1) := by decide +kernel
theorem dL_law_568 : decode cL_law 568 = .ok (.aload_n 0, 1) := by decide +kernel
theorem dL_law_569 : decode cL_law 569 = .ok (.iload 4, 2) := by decide +kernel
theorem dL_law_571 : decode cL_law 571 = .ok (.iconst 1, 1) := by decide +kernel
theorem dL_law_572 : decode cL_law 572 = .ok (.iadd, 1) := by decide +kernel
theorem dL_law_573 : decode cL_law 573 = .ok (.iaload, 1) := by decide +kernel
theorem dL_law_574 : decode cL_law 574 = .ok (.invokevirtual 124, 3) := by decide +kernel
theorem dL_law_577 : decode cL_law 577 = .ok (.lstore 6, 2) := by decide +kernel
theorem dL_law_579 : decode cL_law 579 = .ok (.aload_n 2, 1) := by decide +kernel
theorem dL_law_580 : decode cL_law 580 = .ok (.invokevirtual 101, 3) := by decide +kernel
theorem dL_law_583 : decode cL_law 583 = .ok (.iload 5, 2) := by decide +kernel
theorem dL_law_585 : decode cL_law 585 = .ok (.if_icmp .eq 5, 3) := by decide +kernel
theorem dL_law_588 : decode cL_law 588 = .ok (.iconst 0, 1) := by decide +kernel
theorem dL_law_589 : decode cL_law 589 = .ok (.ireturn, 1) := by decide +kernel
theorem dL_law_590 : decode cL_law 590 = .ok (.iload 5, 2) := by decide +kernel
theorem dL_law_592 : decode cL_law 592 = .ok (.ifCond .ne 14, 3) := by decide +kernel
theorem dL_law_595 : decode cL_law 595 = .ok (.aload_n 3, 1) := by decide +kernel
theorem dL_law_596 : decode cL_law 596 = .ok (.iconst 0, 1) := by decide +kernel
theorem dL_law_597 : decode cL_law 597 = .ok (.laload, 1) := by decide +kernel
theorem dL_law_598 : decode cL_law 598 = .ok (.lload 6, 2) := by decide +kernel
theorem dL_law_600 : decode cL_law 600 = .ok (.lcmp, 1) := by decide +kernel
theorem dL_law_601 : decode cL_law 601 = .ok (.ifCond .eq 5, 3) := by decide +kernel
theorem dL_law_604 : decode cL_law 604 = .ok (.iconst 0, 1) := by decide +kernel
theorem dL_law_605 : decode cL_law 605 = .ok (.ireturn, 1) := by decide +kernel
theorem dL_law_606 : decode cL_law 606 = .ok (.goto 1080, 3) := by decide +kernel
theorem dL_law_609 : decode cL_law 609 = .ok (.aload_n 1, 1) := by decide +kernel
theorem dL_law_610 : decode cL_law 610 = .ok (.aload_n 0, 1) := by decide +kernel
theorem dL_law_611 : decode cL_law 611 = .ok (.iload 4, 2) := by decide +kernel
theorem dL_law_613 : decode cL_law 613 = .ok (.iconst 1, 1) := by decide +kernel
theorem dL_law_614 : decode cL_law 614 = .ok (.iadd, 1) := by decide +kernel
theorem dL_law_615 : decode cL_law 615 = .ok (.iaload, 1) := by decide +kernel
theorem dL_law_616 : decode cL_law 616 = .ok (.aload_n 3, 1) := by decide +kernel
theorem dL_law_617 : decode cL_law 617 = .ok (.invokestatic 125, 3) := by decide +kernel
theorem dL_law_620 : decode cL_law 620 = .ok (.istore 5, 2) := by decide +kernel
theorem dL_law_622 : decode cL_law 622 = .ok (.aload_n 2, 1) := by decide +kernel
theorem dL_law_623 : decode cL_law 623 = .ok (.aload_n 0, 1) := by decide +kernel
theorem dL_law_624 : decode cL_law 624 = .ok (.iload 4, 2) := by decide +kernel
theorem dL_law_626 : decode cL_law 626 = .ok (.iconst 1, 1) := by decide +kernel
theorem dL_law_627 : decode cL_law 627 = .ok (.iadd, 1) := by decide +kernel
theorem dL_law_628 : decode cL_law 628 = .ok (.iaload, 1) := by decide +kernel
theorem dL_law_629 : decode cL_law 629 = .ok (.invokevirtual 127, 3) := by decide +kernel
theorem dL_law_632 : decode cL_law 632 = .ok (.istore 6, 2) := by decide +kernel
theorem dL_law_634 : decode cL_law 634 = .ok (.aload_n 2, 1) := by decide +kernel
theorem dL_law_635 : decode cL_law 635 = .ok (.invokevirtual 101, 3) := by decide +kernel
theorem dL_law_638 : decode cL_law 638 = .ok (.iload 5, 2) := by decide +kernel
theorem dL_law_640 : decode cL_law 640 = .ok (.if_icmp .eq 5, 3) := by decide +kernel
theorem dL_law_643 : decode cL_law 643 = .ok (.iconst 0, 1) := by decide +kernel
theorem dL_law_644 : decode cL_law 644 = .ok (.ireturn, 1) := by decide +kernel
theorem dL_law_645 : decode cL_law 645 = .ok (.iload 5, 2) := by decide +kernel
theorem dL_law_647 : decode cL_law 647 = .ok (.ifCond .ne 15, 3) := by decide +kernel
theorem dL_law_650 : decode cL_law 650 = .ok (.aload_n 3, 1) := by decide +kernel
theorem dL_law_651 : decode cL_law 651 = .ok (.iconst 0, 1) := by decide +kernel
theorem dL_law_652 : decode cL_law 652 = .ok (.laload, 1) := by decide +kernel
theorem dL_law_653 : decode cL_law 653 = .ok (.iload 6, 2) := by decide +kernel
theorem dL_law_655 : decode cL_law 655 = .ok (.i2l, 1) := by decide +kernel
theorem dL_law_656 : decode cL_law 656 = .ok (.lcmp, 1) := by decide +kernel
theorem dL_law_657 : decode cL_law 657 = .ok (.ifCond .eq 5, 3) := by decide +kernel
theorem dL_law_660 : decode cL_law 660 = .ok (.iconst 0, 1) := by decide +kernel
theorem dL_law_661 : decode cL_law 661 = .ok (.ireturn, 1) := by decide +kernel
theorem dL_law_662 : decode cL_law 662 = .ok (.goto 1024, 3) := by decide +kernel
theorem dL_law_665 : decode cL_law 665 = .ok (.aload_n 1, 1) := by decide +kernel
theorem dL_law_666 : decode cL_law 666 = .ok (.invokevirtual 128, 3) := by decide +kernel
theorem dL_law_669 : decode cL_law 669 = .ok (.aload_n 2, 1) := by decide +kernel
theorem dL_law_670 : decode cL_law 670 = .ok (.invokevirtual 131, 3) := by decide +kernel
theorem dL_law_673 : decode cL_law 673 = .ok (.if_icmp .eq 1013, 3) := by decide +kernel
theorem dL_law_676 : decode cL_law 676 = .ok (.iconst 0, 1) := by decide +kernel
theorem dL_law_677 : decode cL_law 677 = .ok (.ireturn, 1) := by decide +kernel
theorem dL_law_678 : decode cL_law 678 = .ok (.aload_n 1, 1) := by decide +kernel
theorem dL_law_679 : decode cL_law 679 = .ok (.invokevirtual 132, 3) := by decide +kernel
theorem dL_law_682 : decode cL_law 682 = .ok (.aload_n 2, 1) := by decide +kernel
theorem dL_law_683 : decode cL_law 683 = .ok (.invokevirtual 135, 3) := by decide +kernel
theorem dL_law_686 : decode cL_law 686 = .ok (.if_icmp .eq 1000, 3) := by decide +kernel
theorem dL_law_689 : decode cL_law 689 = .ok (.iconst 0, 1) := by decide +kernel
theorem dL_law_690 : decode cL_law 690 = .ok (.ireturn, 1) := by decide +kernel
theorem dL_law_691 : decode cL_law 691 = .ok (.aload_n 1, 1) := by decide +kernel
theorem dL_law_692 : decode cL_law 692 = .ok (.aload_n 0, 1) := by decide +kernel
theorem dL_law_693 : decode cL_law 693 = .ok (.iload 4, 2) := by decide +kernel
theorem dL_law_695 : decode cL_law 695 = .ok (.iconst 1, 1) := by decide +kernel
theorem dL_law_696 : decode cL_law 696 = .ok (.iadd, 1) := by decide +kernel
theorem dL_law_697 : decode cL_law 697 = .ok (.iaload, 1) := by decide +kernel
theorem dL_law_698 : decode cL_law 698 = .ok (.aload_n 3, 1) := by decide +kernel
theorem dL_law_699 : decode cL_law 699 = .ok (.invokestatic 136, 3) := by decide +kernel
theorem dL_law_702 : decode cL_law 702 = .ok (.istore 5, 2) := by decide +kernel
theorem dL_law_704 : decode cL_law 704 = .ok (.aload_n 2, 1) := by decide +kernel
theorem dL_law_705 : decode cL_law 705 = .ok (.aload_n 0, 1) := by decide +kernel
theorem dL_law_706 : decode cL_law 706 = .ok (.iload 4, 2) := by decide +kernel
theorem dL_law_708 : decode cL_law 708 = .ok (.iconst 1, 1) := by decide +kernel
theorem dL_law_709 : decode cL_law 709 = .ok (.iadd, 1) := by decide +kernel
theorem dL_law_710 : decode cL_law 710 = .ok (.iaload, 1) := by decide +kernel
theorem dL_law_711 : decode cL_law 711 = .ok (.invokevirtual 138, 3) := by decide +kernel
theorem dL_law_714 : decode cL_law 714 = .ok (.istore 6, 2) := by decide +kernel
theorem dL_law_716 : decode cL_law 716 = .ok (.aload_n 2, 1) := by decide +kernel
theorem dL_law_717 : decode cL_law 717 = .ok (.invokevirtual 101, 3) := by decide +kernel
theorem dL_law_720 : decode cL_law 720 = .ok (.iload 5, 2) := by decide +kernel
theorem dL_law_722 : decode cL_law 722 = .ok (.if_icmp .eq 5, 3) := by decide +kernel
theorem dL_law_725 : decode cL_law 725 = .ok (.iconst 0, 1) := by decide +kernel
theorem dL_law_726 : decode cL_law 726 = .ok (.ireturn, 1) := by decide +kernel
theorem dL_law_727 : decode cL_law 727 = .ok (.iload 5, 2) := by decide +kernel
theorem dL_law_729 : decode cL_law 729 = .ok (.ifCond .ne 15, 3) := by decide +kernel
theorem dL_law_732 : decode cL_law 732 = .ok (.aload_n 3, 1) := by decide +kernel
theorem dL_law_733 : decode cL_law 733 = .ok (.iconst 0, 1) := by decide +kernel
theorem dL_law_734 : decode cL_law 734 = .ok (.laload, 1) := by decide +kernel
theorem dL_law_735 : decode cL_law 735 = .ok (.iload 6, 2) := by decide +kernel
theorem dL_law_737 : decode cL_law 737 = .ok (.i2l, 1) := by decide +kernel
theorem dL_law_738 : decode cL_law 738 = .ok (.lcmp, 1) := by decide +kernel
theorem dL_law_739 : decode cL_law 739 = .ok (.ifCond .eq 5, 3) := by decide +kernel
theorem dL_law_742 : decode cL_law 742 = .ok (.iconst 0, 1) := by decide +kernel
theorem dL_law_743 : decode cL_law 743 = .ok (.ireturn, 1) := by decide +kernel
theorem dL_law_744 : decode cL_law 744 = .ok (.goto 942, 3) := by decide +kernel
theorem dL_law_747 : decode cL_law 747 = .ok (.aload_n 1, 1) := by decide +kernel
theorem dL_law_748 : decode cL_law 748 = .ok (.aload_n 0, 1) := by decide +kernel
theorem dL_law_749 : decode cL_law 749 = .ok (.iload 4, 2) := by decide +kernel
theorem dL_law_751 : decode cL_law 751 = .ok (.iconst 1, 1) := by decide +kernel
theorem dL_law_752 : decode cL_law 752 = .ok (.iadd, 1) := by decide +kernel
theorem dL_law_753 : decode cL_law 753 = .ok (.iaload, 1) := by decide +kernel
theorem dL_law_754 : decode cL_law 754 = .ok (.aload_n 0, 1) := by decide +kernel
theorem dL_law_755 : decode cL_law 755 = .ok (.iload 4, 2) := by decide +kernel
theorem dL_law_757 : decode cL_law 757 = .ok (.iconst 2, 1) := by decide +kernel
theorem dL_law_758 : decode cL_law 758 = .ok (.iadd, 1) := by decide +kernel
theorem dL_law_759 : decode cL_law 759 = .ok (.iaload, 1) := by decide +kernel
theorem dL_law_760 : decode cL_law 760 = .ok (.aload_n 3, 1) := by decide +kernel
theorem dL_law_761 : decode cL_law 761 = .ok (.invokestatic 139, 3) := by decide +kernel
theorem dL_law_764 : decode cL_law 764 = .ok (.istore 5, 2) := by decide +kernel
theorem dL_law_766 : decode cL_law 766 = .ok (.aload_n 2, 1) := by decide +kernel
theorem dL_law_767 : decode cL_law 767 = .ok (.aload_n 0, 1) := by decide +kernel
theorem dL_law_768 : decode cL_law 768 = .ok (.iload 4, 2) := by decide +kernel
theorem dL_law_770 : decode cL_law 770 = .ok (.iconst 1, 1) := by decide +kernel
theorem dL_law_771 : decode cL_law 771 = .ok (.iadd, 1) := by decide +kernel
theorem dL_law_772 : decode cL_law 772 = .ok (.iaload, 1) := by decide +kernel
theorem dL_law_773 : decode cL_law 773 = .ok (.aload_n 0, 1) := by decide +kernel
theorem dL_law_774 : decode cL_law 774 = .ok (.iload 4, 2) := by decide +kernel
theorem dL_law_776 : decode cL_law 776 = .ok (.iconst 2, 1) := by decide +kernel
theorem dL_law_777 : decode cL_law 777 = .ok (.iadd, 1) := by decide +kernel
theorem dL_law_778 : decode cL_law 778 = .ok (.iaload, 1) := by decide +kernel
theorem dL_law_779 : decode cL_law 779 = .ok (.invokevirtual 141, 3) := by decide +kernel
theorem dL_law_782 : decode cL_law 782 = .ok (.istore 6, 2) := by decide +kernel
theorem dL_law_784 : decode cL_law 784 = .ok (.aload_n 2, 1) := by decide +kernel
theorem dL_law_785 : decode cL_law 785 = .ok (.invokevirtual 101, 3) := by decide +kernel
theorem dL_law_788 : decode cL_law 788 = .ok (.iload 5, 2) := by decide +kernel
theorem dL_law_790 : decode cL_law 790 = .ok (.if_icmp .eq 5, 3) := by decide +kernel
theorem dL_law_793 : decode cL_law 793 = .ok (.iconst 0, 1) := by decide +kernel
theorem dL_law_794 : decode cL_law 794 = .ok (.ireturn, 1) := by decide +kernel
theorem dL_law_795 : decode cL_law 795 = .ok (.iload 5, 2) := by decide +kernel
theorem dL_law_797 : decode cL_law 797 = .ok (.ifCond .ne 15, 3) := by decide +kernel
theorem dL_law_800 : decode cL_law 800 = .ok (.aload_n 3, 1) := by decide +kernel
theorem dL_law_801 : decode cL_law 801 = .ok (.iconst 0, 1) := by decide +kernel
theorem dL_law_802 : decode cL_law 802 = .ok (.laload, 1) := by decide +kernel
theorem dL_law_803 : decode cL_law 803 = .ok (.iload 6, 2) := by decide +kernel
theorem dL_law_805 : decode cL_law 805 = .ok (.i2l, 1) := by decide +kernel
theorem dL_law_806 : decode cL_law 806 = .ok (.lcmp, 1) := by decide +kernel
theorem dL_law_807 : decode cL_law 807 = .ok (.ifCond .eq 5, 3) := by decide +kernel
theorem dL_law_810 : decode cL_law 810 = .ok (.iconst 0, 1) := by decide +kernel
theorem dL_law_811 : decode cL_law 811 = .ok (.ireturn, 1) := by decide +kernel
theorem dL_law_812 : decode cL_law 812 = .ok (.goto 874, 3) := by decide +kernel
theorem dL_law_815 : decode cL_law 815 = .ok (.aload_n 1, 1) := by decide +kernel
theorem dL_law_816 : decode cL_law 816 = .ok (.aload_n 0, 1) := by decide +kernel
theorem dL_law_817 : decode cL_law 817 = .ok (.iload 4, 2) := by decide +kernel
theorem dL_law_819 : decode cL_law 819 = .ok (.iconst 1, 1) := by decide +kernel
theorem dL_law_820 : decode cL_law 820 = .ok (.iadd, 1) := by decide +kernel
theorem dL_law_821 : decode cL_law 821 = .ok (.iaload, 1) := by decide +kernel
theorem dL_law_822 : decode cL_law 822 = .ok (.aload_n 0, 1) := by decide +kernel
theorem dL_law_823 : decode cL_law 823 = .ok (.iload 4, 2) := by decide +kernel
theorem dL_law_825 : decode cL_law 825 = .ok (.iconst 2, 1) := by decide +kernel
theorem dL_law_826 : decode cL_law 826 = .ok (.iadd, 1) := by decide +kernel
theorem dL_law_827 : decode cL_law 827 = .ok (.iaload, 1) := by decide +kernel
theorem dL_law_828 : decode cL_law 828 = .ok (.aload_n 3, 1) := by decide +kernel
theorem dL_law_829 : decode cL_law 829 = .ok (.invokestatic 142, 3) := by decide +kernel
theorem dL_law_832 : decode cL_law 832 = .ok (.istore 5, 2) := by decide +kernel
theorem dL_law_834 : decode cL_law 834 = .ok (.aload_n 2, 1) := by decide +kernel
theorem dL_law_835 : decode cL_law 835 = .ok (.aload_n 0, 1) := by decide +kernel
theorem dL_law_836 : decode cL_law 836 = .ok (.iload 4, 2) := by decide +kernel
theorem dL_law_838 : decode cL_law 838 = .ok (.iconst 1, 1) := by decide +kernel
theorem dL_law_839 : decode cL_law 839 = .ok (.iadd, 1) := by decide +kernel
theorem dL_law_840 : decode cL_law 840 = .ok (.iaload, 1) := by decide +kernel
theorem dL_law_841 : decode cL_law 841 = .ok (.aload_n 0, 1) := by decide +kernel
theorem dL_law_842 : decode cL_law 842 = .ok (.iload 4, 2) := by decide +kernel
theorem dL_law_844 : decode cL_law 844 = .ok (.iconst 2, 1) := by decide +kernel
theorem dL_law_845 : decode cL_law 845 = .ok (.iadd, 1) := by decide +kernel
theorem dL_law_846 : decode cL_law 846 = .ok (.iaload, 1) := by decide +kernel
theorem dL_law_847 : decode cL_law 847 = .ok (.invokevirtual 144, 3) := by decide +kernel
theorem dL_law_850 : decode cL_law 850 = .ok (.istore 6, 2) := by decide +kernel
theorem dL_law_852 : decode cL_law 852 = .ok (.aload_n 2, 1) := by decide +kernel
theorem dL_law_853 : decode cL_law 853 = .ok (.invokevirtual 101, 3) := by decide +kernel
theorem dL_law_856 : decode cL_law 856 = .ok (.iload 5, 2) := by decide +kernel
theorem dL_law_858 : decode cL_law 858 = .ok (.if_icmp .eq 5, 3) := by decide +kernel
theorem dL_law_861 : decode cL_law 861 = .ok (.iconst 0, 1) := by decide +kernel
theorem dL_law_862 : decode cL_law 862 = .ok (.ireturn, 1) := by decide +kernel
theorem dL_law_863 : decode cL_law 863 = .ok (.iload 5, 2) := by decide +kernel
theorem dL_law_865 : decode cL_law 865 = .ok (.ifCond .ne 15, 3) := by decide +kernel
theorem dL_law_868 : decode cL_law 868 = .ok (.aload_n 3, 1) := by decide +kernel
theorem dL_law_869 : decode cL_law 869 = .ok (.iconst 0, 1) := by decide +kernel
theorem dL_law_870 : decode cL_law 870 = .ok (.laload, 1) := by decide +kernel
theorem dL_law_871 : decode cL_law 871 = .ok (.iload 6, 2) := by decide +kernel
theorem dL_law_873 : decode cL_law 873 = .ok (.i2l, 1) := by decide +kernel
theorem dL_law_874 : decode cL_law 874 = .ok (.lcmp, 1) := by decide +kernel
theorem dL_law_875 : decode cL_law 875 = .ok (.ifCond .eq 5, 3) := by decide +kernel
theorem dL_law_878 : decode cL_law 878 = .ok (.iconst 0, 1) := by decide +kernel
theorem dL_law_879 : decode cL_law 879 = .ok (.ireturn, 1) := by decide +kernel
theorem dL_law_880 : decode cL_law 880 = .ok (.goto 806, 3) := by decide +kernel
theorem dL_law_883 : decode cL_law 883 = .ok (.aload_n 1, 1) := by decide +kernel
theorem dL_law_884 : decode cL_law 884 = .ok (.invokevirtual 145, 3) := by decide +kernel
theorem dL_law_887 : decode cL_law 887 = .ok (.aload_n 2, 1) := by decide +kernel
theorem dL_law_888 : decode cL_law 888 = .ok (.invokevirtual 148, 3) := by decide +kernel
theorem dL_law_891 : decode cL_law 891 = .ok (.if_icmp .eq 795, 3) := by decide +kernel
theorem dL_law_894 : decode cL_law 894 = .ok (.iconst 0, 1) := by decide +kernel
theorem dL_law_895 : decode cL_law 895 = .ok (.ireturn, 1) := by decide +kernel
theorem dL_law_896 : decode cL_law 896 = .ok (.aload_n 1, 1) := by decide +kernel
theorem dL_law_897 : decode cL_law 897 = .ok (.aload_n 0, 1) := by decide +kernel
theorem dL_law_898 : decode cL_law 898 = .ok (.iload 4, 2) := by decide +kernel
theorem dL_law_900 : decode cL_law 900 = .ok (.iconst 1, 1) := by decide +kernel
theorem dL_law_901 : decode cL_law 901 = .ok (.iadd, 1) := by decide +kernel
theorem dL_law_902 : decode cL_law 902 = .ok (.iaload, 1) := by decide +kernel
theorem dL_law_903 : decode cL_law 903 = .ok (.invokevirtual 149, 3) := by decide +kernel
theorem dL_law_906 : decode cL_law 906 = .ok (.aload_n 2, 1) := by decide +kernel
theorem dL_law_907 : decode cL_law 907 = .ok (.aload_n 0, 1) := by decide +kernel
theorem dL_law_908 : decode cL_law 908 = .ok (.iload 4, 2) := by decide +kernel
theorem dL_law_910 : decode cL_law 910 = .ok (.iconst 1, 1) := by decide +kernel
theorem dL_law_911 : decode cL_law 911 = .ok (.iadd, 1) := by decide +kernel
theorem dL_law_912 : decode cL_law 912 = .ok (.iaload, 1) := by decide +kernel
theorem dL_law_913 : decode cL_law 913 = .ok (.invokevirtual 152, 3) := by decide +kernel
theorem dL_law_916 : decode cL_law 916 = .ok (.if_icmp .eq 770, 3) := by decide +kernel
theorem dL_law_919 : decode cL_law 919 = .ok (.iconst 0, 1) := by decide +kernel
theorem dL_law_920 : decode cL_law 920 = .ok (.ireturn, 1) := by decide +kernel
theorem dL_law_921 : decode cL_law 921 = .ok (.aload_n 1, 1) := by decide +kernel
theorem dL_law_922 : decode cL_law 922 = .ok (.aload_n 0, 1) := by decide +kernel
theorem dL_law_923 : decode cL_law 923 = .ok (.iload 4, 2) := by decide +kernel
theorem dL_law_925 : decode cL_law 925 = .ok (.iconst 1, 1) := by decide +kernel
theorem dL_law_926 : decode cL_law 926 = .ok (.iadd, 1) := by decide +kernel
theorem dL_law_927 : decode cL_law 927 = .ok (.iaload, 1) := by decide +kernel
theorem dL_law_928 : decode cL_law 928 = .ok (.aload_n 0, 1) := by decide +kernel
theorem dL_law_929 : decode cL_law 929 = .ok (.iload 4, 2) := by decide +kernel
theorem dL_law_931 : decode cL_law 931 = .ok (.iconst 2, 1) := by decide +kernel
theorem dL_law_932 : decode cL_law 932 = .ok (.iadd, 1) := by decide +kernel
theorem dL_law_933 : decode cL_law 933 = .ok (.iaload, 1) := by decide +kernel
theorem dL_law_934 : decode cL_law 934 = .ok (.aload_n 3, 1) := by decide +kernel
theorem dL_law_935 : decode cL_law 935 = .ok (.invokestatic 153, 3) := by decide +kernel
theorem dL_law_938 : decode cL_law 938 = .ok (.istore 5, 2) := by decide +kernel
theorem dL_law_940 : decode cL_law 940 = .ok (.aload_n 2, 1) := by decide +kernel
theorem dL_law_941 : decode cL_law 941 = .ok (.aload_n 0, 1) := by decide +kernel
theorem dL_law_942 : decode cL_law 942 = .ok (.iload 4, 2) := by decide +kernel
theorem dL_law_944 : decode cL_law 944 = .ok (.iconst 1, 1) := by decide +kernel
theorem dL_law_945 : decode cL_law 945 = .ok (.iadd, 1) := by decide +kernel
theorem dL_law_946 : decode cL_law 946 = .ok (.iaload, 1) := by decide +kernel
theorem dL_law_947 : decode cL_law 947 = .ok (.aload_n 0, 1) := by decide +kernel
theorem dL_law_948 : decode cL_law 948 = .ok (.iload 4, 2) := by decide +kernel
theorem dL_law_950 : decode cL_law 950 = .ok (.iconst 2, 1) := by decide +kernel
theorem dL_law_951 : decode cL_law 951 = .ok (.iadd, 1) := by decide +kernel
theorem dL_law_952 : decode cL_law 952 = .ok (.iaload, 1) := by decide +kernel
theorem dL_law_953 : decode cL_law 953 = .ok (.invokevirtual 155, 3) := by decide +kernel
theorem dL_law_956 : decode cL_law 956 = .ok (.istore 6, 2) := by decide +kernel
theorem dL_law_958 : decode cL_law 958 = .ok (.aload_n 2, 1) := by decide +kernel
theorem dL_law_959 : decode cL_law 959 = .ok (.invokevirtual 101, 3) := by decide +kernel
theorem dL_law_962 : decode cL_law 962 = .ok (.iload 5, 2) := by decide +kernel
theorem dL_law_964 : decode cL_law 964 = .ok (.if_icmp .eq 5, 3) := by decide +kernel
theorem dL_law_967 : decode cL_law 967 = .ok (.iconst 0, 1) := by decide +kernel
theorem dL_law_968 : decode cL_law 968 = .ok (.ireturn, 1) := by decide +kernel
theorem dL_law_969 : decode cL_law 969 = .ok (.iload 5, 2) := by decide +kernel
theorem dL_law_971 : decode cL_law 971 = .ok (.ifCond .ne 15, 3) := by decide +kernel
theorem dL_law_974 : decode cL_law 974 = .ok (.aload_n 3, 1) := by decide +kernel
theorem dL_law_975 : decode cL_law 975 = .ok (.iconst 0, 1) := by decide +kernel
theorem dL_law_976 : decode cL_law 976 = .ok (.laload, 1) := by decide +kernel
theorem dL_law_977 : decode cL_law 977 = .ok (.iload 6, 2) := by decide +kernel
theorem dL_law_979 : decode cL_law 979 = .ok (.i2l, 1) := by decide +kernel
theorem dL_law_980 : decode cL_law 980 = .ok (.lcmp, 1) := by decide +kernel
theorem dL_law_981 : decode cL_law 981 = .ok (.ifCond .eq 5, 3) := by decide +kernel
theorem dL_law_984 : decode cL_law 984 = .ok (.iconst 0, 1) := by decide +kernel
theorem dL_law_985 : decode cL_law 985 = .ok (.ireturn, 1) := by decide +kernel
theorem dL_law_986 : decode cL_law 986 = .ok (.goto 700, 3) := by decide +kernel
theorem dL_law_989 : decode cL_law 989 = .ok (.aload_n 1, 1) := by decide +kernel
theorem dL_law_990 : decode cL_law 990 = .ok (.invokevirtual 156, 3) := by decide +kernel
theorem dL_law_993 : decode cL_law 993 = .ok (.aload_n 2, 1) := by decide +kernel
theorem dL_law_994 : decode cL_law 994 = .ok (.invokevirtual 160, 3) := by decide +kernel
theorem dL_law_997 : decode cL_law 997 = .ok (.if_icmp .eq 689, 3) := by decide +kernel
theorem dL_law_1000 : decode cL_law 1000 = .ok (.iconst 0, 1) := by decide +kernel
theorem dL_law_1001 : decode cL_law 1001 = .ok (.ireturn, 1) := by decide +kernel
theorem dL_law_1002 : decode cL_law 1002 = .ok (.aload_n 1, 1) := by decide +kernel
theorem dL_law_1003 : decode cL_law 1003 = .ok (.aload_n 0, 1) := by decide +kernel
theorem dL_law_1004 : decode cL_law 1004 = .ok (.iload 4, 2) := by decide +kernel
theorem dL_law_1006 : decode cL_law 1006 = .ok (.iconst 1, 1) := by decide +kernel
theorem dL_law_1007 : decode cL_law 1007 = .ok (.iadd, 1) := by decide +kernel
theorem dL_law_1008 : decode cL_law 1008 = .ok (.iaload, 1) := by decide +kernel
theorem dL_law_1009 : decode cL_law 1009 = .ok (.aload_n 3, 1) := by decide +kernel
theorem dL_law_1010 : decode cL_law 1010 = .ok (.invokestatic 161, 3) := by decide +kernel
theorem dL_law_1013 : decode cL_law 1013 = .ok (.istore 5, 2) := by decide +kernel
theorem dL_law_1015 : decode cL_law 1015 = .ok (.aload_n 2, 1) := by decide +kernel
theorem dL_law_1016 : decode cL_law 1016 = .ok (.aload_n 0, 1) := by decide +kernel
theorem dL_law_1017 : decode cL_law 1017 = .ok (.iload 4, 2) := by decide +kernel
theorem dL_law_1019 : decode cL_law 1019 = .ok (.iconst 1, 1) := by decide +kernel
theorem dL_law_1020 : decode cL_law 1020 = .ok (.iadd, 1) := by decide +kernel
theorem dL_law_1021 : decode cL_law 1021 = .ok (.iaload, 1) := by decide +kernel
theorem dL_law_1022 : decode cL_law 1022 = .ok (.invokevirtual 163, 3) := by decide +kernel
theorem dL_law_1025 : decode cL_law 1025 = .ok (.istore 6, 2) := by decide +kernel
theorem dL_law_1027 : decode cL_law 1027 = .ok (.aload_n 2, 1) := by decide +kernel
theorem dL_law_1028 : decode cL_law 1028 = .ok (.invokevirtual 101, 3) := by decide +kernel
theorem dL_law_1031 : decode cL_law 1031 = .ok (.iload 5, 2) := by decide +kernel
theorem dL_law_1033 : decode cL_law 1033 = .ok (.if_icmp .eq 5, 3) := by decide +kernel
theorem dL_law_1036 : decode cL_law 1036 = .ok (.iconst 0, 1) := by decide +kernel
theorem dL_law_1037 : decode cL_law 1037 = .ok (.ireturn, 1) := by decide +kernel
theorem dL_law_1038 : decode cL_law 1038 = .ok (.iload 5, 2) := by decide +kernel
theorem dL_law_1040 : decode cL_law 1040 = .ok (.ifCond .ne 15, 3) := by decide +kernel
theorem dL_law_1043 : decode cL_law 1043 = .ok (.aload_n 3, 1) := by decide +kernel
theorem dL_law_1044 : decode cL_law 1044 = .ok (.iconst 0, 1) := by decide +kernel
theorem dL_law_1045 : decode cL_law 1045 = .ok (.laload, 1) := by decide +kernel
theorem dL_law_1046 : decode cL_law 1046 = .ok (.iload 6, 2) := by decide +kernel
theorem dL_law_1048 : decode cL_law 1048 = .ok (.i2l, 1) := by decide +kernel
theorem dL_law_1049 : decode cL_law 1049 = .ok (.lcmp, 1) := by decide +kernel
theorem dL_law_1050 : decode cL_law 1050 = .ok (.ifCond .eq 5, 3) := by decide +kernel
theorem dL_law_1053 : decode cL_law 1053 = .ok (.iconst 0, 1) := by decide +kernel
theorem dL_law_1054 : decode cL_law 1054 = .ok (.ireturn, 1) := by decide +kernel
theorem dL_law_1055 : decode cL_law 1055 = .ok (.goto 631, 3) := by decide +kernel
theorem dL_law_1058 : decode cL_law 1058 = .ok (.aload_n 1, 1) := by decide +kernel
theorem dL_law_1059 : decode cL_law 1059 = .ok (.aload_n 0, 1) := by decide +kernel
theorem dL_law_1060 : decode cL_law 1060 = .ok (.iload 4, 2) := by decide +kernel
theorem dL_law_1062 : decode cL_law 1062 = .ok (.iconst 1, 1) := by decide +kernel
theorem dL_law_1063 : decode cL_law 1063 = .ok (.iadd, 1) := by decide +kernel
theorem dL_law_1064 : decode cL_law 1064 = .ok (.iaload, 1) := by decide +kernel
theorem dL_law_1065 : decode cL_law 1065 = .ok (.aload_n 3, 1) := by decide +kernel
theorem dL_law_1066 : decode cL_law 1066 = .ok (.invokestatic 164, 3) := by decide +kernel
theorem dL_law_1069 : decode cL_law 1069 = .ok (.istore 5, 2) := by decide +kernel
theorem dL_law_1071 : decode cL_law 1071 = .ok (.aload_n 2, 1) := by decide +kernel
theorem dL_law_1072 : decode cL_law 1072 = .ok (.aload_n 0, 1) := by decide +kernel
theorem dL_law_1073 : decode cL_law 1073 = .ok (.iload 4, 2) := by decide +kernel
theorem dL_law_1075 : decode cL_law 1075 = .ok (.iconst 1, 1) := by decide +kernel
theorem dL_law_1076 : decode cL_law 1076 = .ok (.iadd, 1) := by decide +kernel
theorem dL_law_1077 : decode cL_law 1077 = .ok (.iaload, 1) := by decide +kernel
theorem dL_law_1078 : decode cL_law 1078 = .ok (.invokevirtual 166, 3) := by decide +kernel
theorem dL_law_1081 : decode cL_law 1081 = .ok (.istore 6, 2) := by decide +kernel
theorem dL_law_1083 : decode cL_law 1083 = .ok (.aload_n 2, 1) := by decide +kernel
theorem dL_law_1084 : decode cL_law 1084 = .ok (.invokevirtual 101, 3) := by decide +kernel
theorem dL_law_1087 : decode cL_law 1087 = .ok (.iload 5, 2) := by decide +kernel
theorem dL_law_1089 : decode cL_law 1089 = .ok (.if_icmp .eq 5, 3) := by decide +kernel
theorem dL_law_1092 : decode cL_law 1092 = .ok (.iconst 0, 1) := by decide +kernel
theorem dL_law_1093 : decode cL_law 1093 = .ok (.ireturn, 1) := by decide +kernel
theorem dL_law_1094 : decode cL_law 1094 = .ok (.iload 5, 2) := by decide +kernel
theorem dL_law_1096 : decode cL_law 1096 = .ok (.ifCond .ne 15, 3) := by decide +kernel
theorem dL_law_1099 : decode cL_law 1099 = .ok (.aload_n 3, 1) := by decide +kernel
theorem dL_law_1100 : decode cL_law 1100 = .ok (.iconst 0, 1) := by decide +kernel
theorem dL_law_1101 : decode cL_law 1101 = .ok (.laload, 1) := by decide +kernel
theorem dL_law_1102 : decode cL_law 1102 = .ok (.iload 6, 2) := by decide +kernel
theorem dL_law_1104 : decode cL_law 1104 = .ok (.i2l, 1) := by decide +kernel
theorem dL_law_1105 : decode cL_law 1105 = .ok (.lcmp, 1) := by decide +kernel
theorem dL_law_1106 : decode cL_law 1106 = .ok (.ifCond .eq 5, 3) := by decide +kernel
theorem dL_law_1109 : decode cL_law 1109 = .ok (.iconst 0, 1) := by decide +kernel
theorem dL_law_1110 : decode cL_law 1110 = .ok (.ireturn, 1) := by decide +kernel
theorem dL_law_1111 : decode cL_law 1111 = .ok (.goto 575, 3) := by decide +kernel
theorem dL_law_1114 : decode cL_law 1114 = .ok (.aload_n 1, 1) := by decide +kernel
theorem dL_law_1115 : decode cL_law 1115 = .ok (.aload_n 0, 1) := by decide +kernel
theorem dL_law_1116 : decode cL_law 1116 = .ok (.iload 4, 2) := by decide +kernel
theorem dL_law_1118 : decode cL_law 1118 = .ok (.iconst 1, 1) := by decide +kernel
theorem dL_law_1119 : decode cL_law 1119 = .ok (.iadd, 1) := by decide +kernel
theorem dL_law_1120 : decode cL_law 1120 = .ok (.iaload, 1) := by decide +kernel
theorem dL_law_1121 : decode cL_law 1121 = .ok (.aload_n 3, 1) := by decide +kernel
theorem dL_law_1122 : decode cL_law 1122 = .ok (.invokestatic 167, 3) := by decide +kernel
theorem dL_law_1125 : decode cL_law 1125 = .ok (.istore 5, 2) := by decide +kernel
theorem dL_law_1127 : decode cL_law 1127 = .ok (.aload_n 2, 1) := by decide +kernel
theorem dL_law_1128 : decode cL_law 1128 = .ok (.aload_n 0, 1) := by decide +kernel
theorem dL_law_1129 : decode cL_law 1129 = .ok (.iload 4, 2) := by decide +kernel
theorem dL_law_1131 : decode cL_law 1131 = .ok (.iconst 1, 1) := by decide +kernel
theorem dL_law_1132 : decode cL_law 1132 = .ok (.iadd, 1) := by decide +kernel
theorem dL_law_1133 : decode cL_law 1133 = .ok (.iaload, 1) := by decide +kernel
theorem dL_law_1134 : decode cL_law 1134 = .ok (.invokevirtual 169, 3) := by decide +kernel
theorem dL_law_1137 : decode cL_law 1137 = .ok (.istore 6, 2) := by decide +kernel
theorem dL_law_1139 : decode cL_law 1139 = .ok (.aload_n 2, 1) := by decide +kernel
theorem dL_law_1140 : decode cL_law 1140 = .ok (.invokevirtual 101, 3) := by decide +kernel
theorem dL_law_1143 : decode cL_law 1143 = .ok (.iload 5, 2) := by decide +kernel
theorem dL_law_1145 : decode cL_law 1145 = .ok (.if_icmp .eq 5, 3) := by decide +kernel
theorem dL_law_1148 : decode cL_law 1148 = .ok (.iconst 0, 1) := by decide +kernel
theorem dL_law_1149 : decode cL_law 1149 = .ok (.ireturn, 1) := by decide +kernel
theorem dL_law_1150 : decode cL_law 1150 = .ok (.iload 5, 2) := by decide +kernel
theorem dL_law_1152 : decode cL_law 1152 = .ok (.ifCond .ne 15, 3) := by decide +kernel
theorem dL_law_1155 : decode cL_law 1155 = .ok (.aload_n 3, 1) := by decide +kernel
theorem dL_law_1156 : decode cL_law 1156 = .ok (.iconst 0, 1) := by decide +kernel
theorem dL_law_1157 : decode cL_law 1157 = .ok (.laload, 1) := by decide +kernel
theorem dL_law_1158 : decode cL_law 1158 = .ok (.iload 6, 2) := by decide +kernel
theorem dL_law_1160 : decode cL_law 1160 = .ok (.i2l, 1) := by decide +kernel
theorem dL_law_1161 : decode cL_law 1161 = .ok (.lcmp, 1) := by decide +kernel
theorem dL_law_1162 : decode cL_law 1162 = .ok (.ifCond .eq 5, 3) := by decide +kernel
theorem dL_law_1165 : decode cL_law 1165 = .ok (.iconst 0, 1) := by decide +kernel
theorem dL_law_1166 : decode cL_law 1166 = .ok (.ireturn, 1) := by decide +kernel
theorem dL_law_1167 : decode cL_law 1167 = .ok (.goto 519, 3) := by decide +kernel
theorem dL_law_1170 : decode cL_law 1170 = .ok (.aload_n 1, 1) := by decide +kernel
theorem dL_law_1171 : decode cL_law 1171 = .ok (.aload_n 0, 1) := by decide +kernel
theorem dL_law_1172 : decode cL_law 1172 = .ok (.iload 4, 2) := by decide +kernel
theorem dL_law_1174 : decode cL_law 1174 = .ok (.iconst 1, 1) := by decide +kernel
theorem dL_law_1175 : decode cL_law 1175 = .ok (.iadd, 1) := by decide +kernel
theorem dL_law_1176 : decode cL_law 1176 = .ok (.iaload, 1) := by decide +kernel
theorem dL_law_1177 : decode cL_law 1177 = .ok (.aload_n 0, 1) := by decide +kernel
theorem dL_law_1178 : decode cL_law 1178 = .ok (.iload 4, 2) := by decide +kernel
theorem dL_law_1180 : decode cL_law 1180 = .ok (.iconst 2, 1) := by decide +kernel
theorem dL_law_1181 : decode cL_law 1181 = .ok (.iadd, 1) := by decide +kernel
theorem dL_law_1182 : decode cL_law 1182 = .ok (.iaload, 1) := by decide +kernel
theorem dL_law_1183 : decode cL_law 1183 = .ok (.aload_n 0, 1) := by decide +kernel
theorem dL_law_1184 : decode cL_law 1184 = .ok (.iload 4, 2) := by decide +kernel
theorem dL_law_1186 : decode cL_law 1186 = .ok (.iconst 3, 1) := by decide +kernel
theorem dL_law_1187 : decode cL_law 1187 = .ok (.iadd, 1) := by decide +kernel
theorem dL_law_1188 : decode cL_law 1188 = .ok (.iaload, 1) := by decide +kernel
theorem dL_law_1189 : decode cL_law 1189 = .ok (.aload_n 3, 1) := by decide +kernel
theorem dL_law_1190 : decode cL_law 1190 = .ok (.invokestatic 170, 3) := by decide +kernel
theorem dL_law_1193 : decode cL_law 1193 = .ok (.istore 5, 2) := by decide +kernel
theorem dL_law_1195 : decode cL_law 1195 = .ok (.aload_n 2, 1) := by decide +kernel
theorem dL_law_1196 : decode cL_law 1196 = .ok (.aload_n 0, 1) := by decide +kernel
theorem dL_law_1197 : decode cL_law 1197 = .ok (.iload 4, 2) := by decide +kernel
theorem dL_law_1199 : decode cL_law 1199 = .ok (.iconst 1, 1) := by decide +kernel
theorem dL_law_1200 : decode cL_law 1200 = .ok (.iadd, 1) := by decide +kernel
theorem dL_law_1201 : decode cL_law 1201 = .ok (.iaload, 1) := by decide +kernel
theorem dL_law_1202 : decode cL_law 1202 = .ok (.aload_n 0, 1) := by decide +kernel
theorem dL_law_1203 : decode cL_law 1203 = .ok (.iload 4, 2) := by decide +kernel
theorem dL_law_1205 : decode cL_law 1205 = .ok (.iconst 2, 1) := by decide +kernel
theorem dL_law_1206 : decode cL_law 1206 = .ok (.iadd, 1) := by decide +kernel
theorem dL_law_1207 : decode cL_law 1207 = .ok (.iaload, 1) := by decide +kernel
theorem dL_law_1208 : decode cL_law 1208 = .ok (.aload_n 0, 1) := by decide +kernel
theorem dL_law_1209 : decode cL_law 1209 = .ok (.iload 4, 2) := by decide +kernel
theorem dL_law_1211 : decode cL_law 1211 = .ok (.iconst 3, 1) := by decide +kernel
theorem dL_law_1212 : decode cL_law 1212 = .ok (.iadd, 1) := by decide +kernel
theorem dL_law_1213 : decode cL_law 1213 = .ok (.iaload, 1) := by decide +kernel
theorem dL_law_1214 : decode cL_law 1214 = .ok (.invokevirtual 173, 3) := by decide +kernel
theorem dL_law_1217 : decode cL_law 1217 = .ok (.istore 6, 2) := by decide +kernel
theorem dL_law_1219 : decode cL_law 1219 = .ok (.aload_n 2, 1) := by decide +kernel
theorem dL_law_1220 : decode cL_law 1220 = .ok (.invokevirtual 101, 3) := by decide +kernel
theorem dL_law_1223 : decode cL_law 1223 = .ok (.iload 5, 2) := by decide +kernel
theorem dL_law_1225 : decode cL_law 1225 = .ok (.if_icmp .eq 5, 3) := by decide +kernel
theorem dL_law_1228 : decode cL_law 1228 = .ok (.iconst 0, 1) := by decide +kernel
theorem dL_law_1229 : decode cL_law 1229 = .ok (.ireturn, 1) := by decide +kernel
theorem dL_law_1230 : decode cL_law 1230 = .ok (.iload 5, 2) := by decide +kernel
theorem dL_law_1232 : decode cL_law 1232 = .ok (.ifCond .ne 15, 3) := by decide +kernel
theorem dL_law_1235 : decode cL_law 1235 = .ok (.aload_n 3, 1) := by decide +kernel
theorem dL_law_1236 : decode cL_law 1236 = .ok (.iconst 0, 1) := by decide +kernel
theorem dL_law_1237 : decode cL_law 1237 = .ok (.laload, 1) := by decide +kernel
theorem dL_law_1238 : decode cL_law 1238 = .ok (.iload 6, 2) := by decide +kernel
theorem dL_law_1240 : decode cL_law 1240 = .ok (.i2l, 1) := by decide +kernel
theorem dL_law_1241 : decode cL_law 1241 = .ok (.lcmp, 1) := by decide +kernel
theorem dL_law_1242 : decode cL_law 1242 = .ok (.ifCond .eq 5, 3) := by decide +kernel
theorem dL_law_1245 : decode cL_law 1245 = .ok (.iconst 0, 1) := by decide +kernel
theorem dL_law_1246 : decode cL_law 1246 = .ok (.ireturn, 1) := by decide +kernel
theorem dL_law_1247 : decode cL_law 1247 = .ok (.goto 439, 3) := by decide +kernel
theorem dL_law_1250 : decode cL_law 1250 = .ok (.aload_n 1, 1) := by decide +kernel
theorem dL_law_1251 : decode cL_law 1251 = .ok (.aload_n 0, 1) := by decide +kernel
theorem dL_law_1252 : decode cL_law 1252 = .ok (.iload 4, 2) := by decide +kernel
theorem dL_law_1254 : decode cL_law 1254 = .ok (.iconst 1, 1) := by decide +kernel
theorem dL_law_1255 : decode cL_law 1255 = .ok (.iadd, 1) := by decide +kernel
theorem dL_law_1256 : decode cL_law 1256 = .ok (.iaload, 1) := by decide +kernel
theorem dL_law_1257 : decode cL_law 1257 = .ok (.aload_n 3, 1) := by decide +kernel
theorem dL_law_1258 : decode cL_law 1258 = .ok (.invokestatic 174, 3) := by decide +kernel
theorem dL_law_1261 : decode cL_law 1261 = .ok (.istore 5, 2) := by decide +kernel
theorem dL_law_1263 : decode cL_law 1263 = .ok (.aload_n 2, 1) := by decide +kernel
theorem dL_law_1264 : decode cL_law 1264 = .ok (.aload_n 0, 1) := by decide +kernel
theorem dL_law_1265 : decode cL_law 1265 = .ok (.iload 4, 2) := by decide +kernel
theorem dL_law_1267 : decode cL_law 1267 = .ok (.iconst 1, 1) := by decide +kernel
theorem dL_law_1268 : decode cL_law 1268 = .ok (.iadd, 1) := by decide +kernel
theorem dL_law_1269 : decode cL_law 1269 = .ok (.iaload, 1) := by decide +kernel
theorem dL_law_1270 : decode cL_law 1270 = .ok (.invokevirtual 176, 3) := by decide +kernel
theorem dL_law_1273 : decode cL_law 1273 = .ok (.istore 6, 2) := by decide +kernel
theorem dL_law_1275 : decode cL_law 1275 = .ok (.aload_n 2, 1) := by decide +kernel
theorem dL_law_1276 : decode cL_law 1276 = .ok (.invokevirtual 101, 3) := by decide +kernel
theorem dL_law_1279 : decode cL_law 1279 = .ok (.iload 5, 2) := by decide +kernel
theorem dL_law_1281 : decode cL_law 1281 = .ok (.if_icmp .eq 5, 3) := by decide +kernel
theorem dL_law_1284 : decode cL_law 1284 = .ok (.iconst 0, 1) := by decide +kernel
theorem dL_law_1285 : decode cL_law 1285 = .ok (.ireturn, 1) := by decide +kernel
theorem dL_law_1286 : decode cL_law 1286 = .ok (.iload 5, 2) := by decide +kernel
theorem dL_law_1288 : decode cL_law 1288 = .ok (.ifCond .ne 15, 3) := by decide +kernel
theorem dL_law_1291 : decode cL_law 1291 = .ok (.aload_n 3, 1) := by decide +kernel
theorem dL_law_1292 : decode cL_law 1292 = .ok (.iconst 0, 1) := by decide +kernel
theorem dL_law_1293 : decode cL_law 1293 = .ok (.laload, 1) := by decide +kernel
theorem dL_law_1294 : decode cL_law 1294 = .ok (.iload 6, 2) := by decide +kernel
theorem dL_law_1296 : decode cL_law 1296 = .ok (.i2l, 1) := by decide +kernel
theorem dL_law_1297 : decode cL_law 1297 = .ok (.lcmp, 1) := by decide +kernel
theorem dL_law_1298 : decode cL_law 1298 = .ok (.ifCond .eq 5, 3) := by decide +kernel
theorem dL_law_1301 : decode cL_law 1301 = .ok (.iconst 0, 1) := by decide +kernel
theorem dL_law_1302 : decode cL_law 1302 = .ok (.ireturn, 1) := by decide +kernel
theorem dL_law_1303 : decode cL_law 1303 = .ok (.goto 383, 3) := by decide +kernel
theorem dL_law_1306 : decode cL_law 1306 = .ok (.aload_n 1, 1) := by decide +kernel
theorem dL_law_1307 : decode cL_law 1307 = .ok (.aload_n 0, 1) := by decide +kernel
theorem dL_law_1308 : decode cL_law 1308 = .ok (.iload 4, 2) := by decide +kernel
theorem dL_law_1310 : decode cL_law 1310 = .ok (.iconst 1, 1) := by decide +kernel
theorem dL_law_1311 : decode cL_law 1311 = .ok (.iadd, 1) := by decide +kernel
theorem dL_law_1312 : decode cL_law 1312 = .ok (.iaload, 1) := by decide +kernel
theorem dL_law_1313 : decode cL_law 1313 = .ok (.aload_n 3, 1) := by decide +kernel
theorem dL_law_1314 : decode cL_law 1314 = .ok (.invokestatic 177, 3) := by decide +kernel
theorem dL_law_1317 : decode cL_law 1317 = .ok (.istore 5, 2) := by decide +kernel
theorem dL_law_1319 : decode cL_law 1319 = .ok (.aload_n 2, 1) := by decide +kernel
theorem dL_law_1320 : decode cL_law 1320 = .ok (.aload_n 0, 1) := by decide +kernel
theorem dL_law_1321 : decode cL_law 1321 = .ok (.iload 4, 2) := by decide +kernel
theorem dL_law_1323 : decode cL_law 1323 = .ok (.iconst 1, 1) := by decide +kernel
theorem dL_law_1324 : decode cL_law 1324 = .ok (.iadd, 1) := by decide +kernel
theorem dL_law_1325 : decode cL_law 1325 = .ok (.iaload, 1) := by decide +kernel
theorem dL_law_1326 : decode cL_law 1326 = .ok (.invokevirtual 179, 3) := by decide +kernel
theorem dL_law_1329 : decode cL_law 1329 = .ok (.istore 6, 2) := by decide +kernel
theorem dL_law_1331 : decode cL_law 1331 = .ok (.aload_n 2, 1) := by decide +kernel
theorem dL_law_1332 : decode cL_law 1332 = .ok (.invokevirtual 101, 3) := by decide +kernel
theorem dL_law_1335 : decode cL_law 1335 = .ok (.iload 5, 2) := by decide +kernel
theorem dL_law_1337 : decode cL_law 1337 = .ok (.if_icmp .eq 5, 3) := by decide +kernel
theorem dL_law_1340 : decode cL_law 1340 = .ok (.iconst 0, 1) := by decide +kernel
theorem dL_law_1341 : decode cL_law 1341 = .ok (.ireturn, 1) := by decide +kernel
theorem dL_law_1342 : decode cL_law 1342 = .ok (.iload 5, 2) := by decide +kernel
theorem dL_law_1344 : decode cL_law 1344 = .ok (.ifCond .ne 15, 3) := by decide +kernel
theorem dL_law_1347 : decode cL_law 1347 = .ok (.aload_n 3, 1) := by decide +kernel
theorem dL_law_1348 : decode cL_law 1348 = .ok (.iconst 0, 1) := by decide +kernel
theorem dL_law_1349 : decode cL_law 1349 = .ok (.laload, 1) := by decide +kernel
theorem dL_law_1350 : decode cL_law 1350 = .ok (.iload 6, 2) := by decide +kernel
theorem dL_law_1352 : decode cL_law 1352 = .ok (.i2l, 1) := by decide +kernel
theorem dL_law_1353 : decode cL_law 1353 = .ok (.lcmp, 1) := by decide +kernel
theorem dL_law_1354 : decode cL_law 1354 = .ok (.ifCond .eq 5, 3) := by decide +kernel
theorem dL_law_1357 : decode cL_law 1357 = .ok (.iconst 0, 1) := by decide +kernel
theorem dL_law_1358 : decode cL_law 1358 = .ok (.ireturn, 1) := by decide +kernel
theorem dL_law_1359 : decode cL_law 1359 = .ok (.goto 327, 3) := by decide +kernel
theorem dL_law_1362 : decode cL_law 1362 = .ok (.aload_n 1, 1) := by decide +kernel
theorem dL_law_1363 : decode cL_law 1363 = .ok (.aload_n 0, 1) := by decide +kernel
theorem dL_law_1364 : decode cL_law 1364 = .ok (.iload 4, 2) := by decide +kernel
theorem dL_law_1366 : decode cL_law 1366 = .ok (.iconst 1, 1) := by decide +kernel
theorem dL_law_1367 : decode cL_law 1367 = .ok (.iadd, 1) := by decide +kernel
theorem dL_law_1368 : decode cL_law 1368 = .ok (.iaload, 1) := by decide +kernel
theorem dL_law_1369 : decode cL_law 1369 = .ok (.aload_n 0, 1) := by decide +kernel
theorem dL_law_1370 : decode cL_law 1370 = .ok (.iload 4, 2) := by decide +kernel
theorem dL_law_1372 : decode cL_law 1372 = .ok (.iconst 2, 1) := by decide +kernel
theorem dL_law_1373 : decode cL_law 1373 = .ok (.iadd, 1) := by decide +kernel
theorem dL_law_1374 : decode cL_law 1374 = .ok (.iaload, 1) := by decide +kernel
theorem dL_law_1375 : decode cL_law 1375 = .ok (.aload_n 3, 1) := by decide +kernel
theorem dL_law_1376 : decode cL_law 1376 = .ok (.invokestatic 180, 3) := by decide +kernel
theorem dL_law_1379 : decode cL_law 1379 = .ok (.istore 5, 2) := by decide +kernel
theorem dL_law_1381 : decode cL_law 1381 = .ok (.aload_n 2, 1) := by decide +kernel
theorem dL_law_1382 : decode cL_law 1382 = .ok (.aload_n 0, 1) := by decide +kernel
theorem dL_law_1383 : decode cL_law 1383 = .ok (.iload 4, 2) := by decide +kernel
theorem dL_law_1385 : decode cL_law 1385 = .ok (.iconst 1, 1) := by decide +kernel
theorem dL_law_1386 : decode cL_law 1386 = .ok (.iadd, 1) := by decide +kernel
theorem dL_law_1387 : decode cL_law 1387 = .ok (.iaload, 1) := by decide +kernel
theorem dL_law_1388 : decode cL_law 1388 = .ok (.aload_n 0, 1) := by decide +kernel
theorem dL_law_1389 : decode cL_law 1389 = .ok (.iload 4, 2) := by decide +kernel
theorem dL_law_1391 : decode cL_law 1391 = .ok (.iconst 2, 1) := by decide +kernel
theorem dL_law_1392 : decode cL_law 1392 = .ok (.iadd, 1) := by decide +kernel
theorem dL_law_1393 : decode cL_law 1393 = .ok (.iaload, 1) := by decide +kernel
theorem dL_law_1394 : decode cL_law 1394 = .ok (.invokevirtual 182, 3) := by decide +kernel
theorem dL_law_1397 : decode cL_law 1397 = .ok (.istore 6, 2) := by decide +kernel
theorem dL_law_1399 : decode cL_law 1399 = .ok (.aload_n 2, 1) := by decide +kernel
theorem dL_law_1400 : decode cL_law 1400 = .ok (.invokevirtual 101, 3) := by decide +kernel
theorem dL_law_1403 : decode cL_law 1403 = .ok (.iload 5, 2) := by decide +kernel
theorem dL_law_1405 : decode cL_law 1405 = .ok (.if_icmp .eq 5, 3) := by decide +kernel
theorem dL_law_1408 : decode cL_law 1408 = .ok (.iconst 0, 1) := by decide +kernel
theorem dL_law_1409 : decode cL_law 1409 = .ok (.ireturn, 1) := by decide +kernel
theorem dL_law_1410 : decode cL_law 1410 = .ok (.iload 5, 2) := by decide +kernel
theorem dL_law_1412 : decode cL_law 1412 = .ok (.ifCond .ne 15, 3) := by decide +kernel
theorem dL_law_1415 : decode cL_law 1415 = .ok (.aload_n 3, 1) := by decide +kernel
theorem dL_law_1416 : decode cL_law 1416 = .ok (.iconst 0, 1) := by decide +kernel
theorem dL_law_1417 : decode cL_law 1417 = .ok (.laload, 1) := by decide +kernel
theorem dL_law_1418 : decode cL_law 1418 = .ok (.iload 6, 2) := by decide +kernel
theorem dL_law_1420 : decode cL_law 1420 = .ok (.i2l, 1) := by decide +kernel
theorem dL_law_1421 : decode cL_law 1421 = .ok (.lcmp, 1) := by decide +kernel
theorem dL_law_1422 : decode cL_law 1422 = .ok (.ifCond .eq 5, 3) := by decide +kernel
theorem dL_law_1425 : decode cL_law 1425 = .ok (.iconst 0, 1) := by decide +kernel
theorem dL_law_1426 : decode cL_law 1426 = .ok (.ireturn, 1) := by decide +kernel
theorem dL_law_1427 : decode cL_law 1427 = .ok (.goto 259, 3) := by decide +kernel
theorem dL_law_1430 : decode cL_law 1430 = .ok (.aload_n 1, 1) := by decide +kernel
theorem dL_law_1431 : decode cL_law 1431 = .ok (.aload_n 0, 1) := by decide +kernel
theorem dL_law_1432 : decode cL_law 1432 = .ok (.iload 4, 2) := by decide +kernel
theorem dL_law_1434 : decode cL_law 1434 = .ok (.iconst 1, 1) := by decide +kernel
theorem dL_law_1435 : decode cL_law 1435 = .ok (.iadd, 1) := by decide +kernel
theorem dL_law_1436 : decode cL_law 1436 = .ok (.iaload, 1) := by decide +kernel
theorem dL_law_1437 : decode cL_law 1437 = .ok (.aload_n 0, 1) := by decide +kernel
theorem dL_law_1438 : decode cL_law 1438 = .ok (.iload 4, 2) := by decide +kernel
theorem dL_law_1440 : decode cL_law 1440 = .ok (.iconst 2, 1) := by decide +kernel
theorem dL_law_1441 : decode cL_law 1441 = .ok (.iadd, 1) := by decide +kernel
theorem dL_law_1442 : decode cL_law 1442 = .ok (.iaload, 1) := by decide +kernel
theorem dL_law_1443 : decode cL_law 1443 = .ok (.aload_n 3, 1) := by decide +kernel
theorem dL_law_1444 : decode cL_law 1444 = .ok (.invokestatic 183, 3) := by decide +kernel
theorem dL_law_1447 : decode cL_law 1447 = .ok (.istore 5, 2) := by decide +kernel
theorem dL_law_1449 : decode cL_law 1449 = .ok (.aload_n 2, 1) := by decide +kernel
theorem dL_law_1450 : decode cL_law 1450 = .ok (.aload_n 0, 1) := by decide +kernel
theorem dL_law_1451 : decode cL_law 1451 = .ok (.iload 4, 2) := by decide +kernel
theorem dL_law_1453 : decode cL_law 1453 = .ok (.iconst 1, 1) := by decide +kernel
theorem dL_law_1454 : decode cL_law 1454 = .ok (.iadd, 1) := by decide +kernel
theorem dL_law_1455 : decode cL_law 1455 = .ok (.iaload, 1) := by decide +kernel
theorem dL_law_1456 : decode cL_law 1456 = .ok (.aload_n 0, 1) := by decide +kernel
theorem dL_law_1457 : decode cL_law 1457 = .ok (.iload 4, 2) := by decide +kernel
theorem dL_law_1459 : decode cL_law 1459 = .ok (.iconst 2, 1) := by decide +kernel
theorem dL_law_1460 : decode cL_law 1460 = .ok (.iadd, 1) := by decide +kernel
theorem dL_law_1461 : decode cL_law 1461 = .ok (.iaload, 1) := by decide +kernel
theorem dL_law_1462 : decode cL_law 1462 = .ok (.invokevirtual 185, 3) := by decide +kernel
theorem dL_law_1465 : decode cL_law 1465 = .ok (.istore 6, 2) := by decide +kernel
theorem dL_law_1467 : decode cL_law 1467 = .ok (.aload_n 2, 1) := by decide +kernel
theorem dL_law_1468 : decode cL_law 1468 = .ok (.invokevirtual 101, 3) := by decide +kernel
theorem dL_law_1471 : decode cL_law 1471 = .ok (.iload 5, 2) := by decide +kernel
theorem dL_law_1473 : decode cL_law 1473 = .ok (.if_icmp .eq 5, 3) := by decide +kernel
theorem dL_law_1476 : decode cL_law 1476 = .ok (.iconst 0, 1) := by decide +kernel
theorem dL_law_1477 : decode cL_law 1477 = .ok (.ireturn, 1) := by decide +kernel
theorem dL_law_1478 : decode cL_law 1478 = .ok (.iload 5, 2) := by decide +kernel
theorem dL_law_1480 : decode cL_law 1480 = .ok (.ifCond .ne 15, 3) := by decide +kernel
theorem dL_law_1483 : decode cL_law 1483 = .ok (.aload_n 3, 1) := by decide +kernel
theorem dL_law_1484 : decode cL_law 1484 = .ok (.iconst 0, 1) := by decide +kernel
theorem dL_law_1485 : decode cL_law 1485 = .ok (.laload, 1) := by decide +kernel
theorem dL_law_1486 : decode cL_law 1486 = .ok (.iload 6, 2) := by decide +kernel
theorem dL_law_1488 : decode cL_law 1488 = .ok (.i2l, 1) := by decide +kernel
theorem dL_law_1489 : decode cL_law 1489 = .ok (.lcmp, 1) := by decide +kernel
theorem dL_law_1490 : decode cL_law 1490 = .ok (.ifCond .eq 5, 3) := by decide +kernel
theorem dL_law_1493 : decode cL_law 1493 = .ok (.iconst 0, 1) := by decide +kernel
theorem dL_law_1494 : decode cL_law 1494 = .ok (.ireturn, 1) := by decide +kernel
theorem dL_law_1495 : decode cL_law 1495 = .ok (.goto 191, 3) := by decide +kernel
theorem dL_law_1498 : decode cL_law 1498 = .ok (.aload_n 1, 1) := by decide +kernel
theorem dL_law_1499 : decode cL_law 1499 = .ok (.aload_n 0, 1) := by decide +kernel
theorem dL_law_1500 : decode cL_law 1500 = .ok (.iload 4, 2) := by decide +kernel
theorem dL_law_1502 : decode cL_law 1502 = .ok (.iconst 1, 1) := by decide +kernel
theorem dL_law_1503 : decode cL_law 1503 = .ok (.iadd, 1) := by decide +kernel
theorem dL_law_1504 : decode cL_law 1504 = .ok (.iaload, 1) := by decide +kernel
theorem dL_law_1505 : decode cL_law 1505 = .ok (.aload_n 3, 1) := by decide +kernel
theorem dL_law_1506 : decode cL_law 1506 = .ok (.invokestatic 186, 3) := by decide +kernel
theorem dL_law_1509 : decode cL_law 1509 = .ok (.istore 5, 2) := by decide +kernel
theorem dL_law_1511 : decode cL_law 1511 = .ok (.aload_n 2, 1) := by decide +kernel
theorem dL_law_1512 : decode cL_law 1512 = .ok (.aload_n 0, 1) := by decide +kernel
theorem dL_law_1513 : decode cL_law 1513 = .ok (.iload 4, 2) := by decide +kernel
theorem dL_law_1515 : decode cL_law 1515 = .ok (.iconst 1, 1) := by decide +kernel
theorem dL_law_1516 : decode cL_law 1516 = .ok (.iadd, 1) := by decide +kernel
theorem dL_law_1517 : decode cL_law 1517 = .ok (.iaload, 1) := by decide +kernel
theorem dL_law_1518 : decode cL_law 1518 = .ok (.invokevirtual 188, 3) := by decide +kernel
theorem dL_law_1521 : decode cL_law 1521 = .ok (.istore 6, 2) := by decide +kernel
theorem dL_law_1523 : decode cL_law 1523 = .ok (.aload_n 2, 1) := by decide +kernel
theorem dL_law_1524 : decode cL_law 1524 = .ok (.invokevirtual 101, 3) := by decide +kernel
theorem dL_law_1527 : decode cL_law 1527 = .ok (.iload 5, 2) := by decide +kernel
theorem dL_law_1529 : decode cL_law 1529 = .ok (.if_icmp .eq 5, 3) := by decide +kernel
theorem dL_law_1532 : decode cL_law 1532 = .ok (.iconst 0, 1) := by decide +kernel
theorem dL_law_1533 : decode cL_law 1533 = .ok (.ireturn, 1) := by decide +kernel
theorem dL_law_1534 : decode cL_law 1534 = .ok (.iload 5, 2) := by decide +kernel
theorem dL_law_1536 : decode cL_law 1536 = .ok (.ifCond .ne 15, 3) := by decide +kernel
theorem dL_law_1539 : decode cL_law 1539 = .ok (.aload_n 3, 1) := by decide +kernel
theorem dL_law_1540 : decode cL_law 1540 = .ok (.iconst 0, 1) := by decide +kernel
theorem dL_law_1541 : decode cL_law 1541 = .ok (.laload, 1) := by decide +kernel
theorem dL_law_1542 : decode cL_law 1542 = .ok (.iload 6, 2) := by decide +kernel
theorem dL_law_1544 : decode cL_law 1544 = .ok (.i2l, 1) := by decide +kernel
theorem dL_law_1545 : decode cL_law 1545 = .ok (.lcmp, 1) := by decide +kernel
theorem dL_law_1546 : decode cL_law 1546 = .ok (.ifCond .eq 5, 3) := by decide +kernel
theorem dL_law_1549 : decode cL_law 1549 = .ok (.iconst 0, 1) := by decide +kernel
theorem dL_law_1550 : decode cL_law 1550 = .ok (.ireturn, 1) := by decide +kernel
theorem dL_law_1551 : decode cL_law 1551 = .ok (.goto 135, 3) := by decide +kernel
theorem dL_law_1554 : decode cL_law 1554 = .ok (.aload_n 1, 1) := by decide +kernel
theorem dL_law_1555 : decode cL_law 1555 = .ok (.invokevirtual 189, 3) := by decide +kernel
theorem dL_law_1558 : decode cL_law 1558 = .ok (.aload_n 2, 1) := by decide +kernel
theorem dL_law_1559 : decode cL_law 1559 = .ok (.invokevirtual 192, 3) := by decide +kernel
theorem dL_law_1562 : decode cL_law 1562 = .ok (.if_icmp .eq 124, 3) := by decide +kernel
theorem dL_law_1565 : decode cL_law 1565 = .ok (.iconst 0, 1) := by decide +kernel
theorem dL_law_1566 : decode cL_law 1566 = .ok (.ireturn, 1) := by decide +kernel
theorem dL_law_1567 : decode cL_law 1567 = .ok (.aload_n 1, 1) := by decide +kernel
theorem dL_law_1568 : decode cL_law 1568 = .ok (.aload_n 0, 1) := by decide +kernel
theorem dL_law_1569 : decode cL_law 1569 = .ok (.iload 4, 2) := by decide +kernel
theorem dL_law_1571 : decode cL_law 1571 = .ok (.iconst 1, 1) := by decide +kernel
theorem dL_law_1572 : decode cL_law 1572 = .ok (.iadd, 1) := by decide +kernel
theorem dL_law_1573 : decode cL_law 1573 = .ok (.iaload, 1) := by decide +kernel
theorem dL_law_1574 : decode cL_law 1574 = .ok (.aload_n 3, 1) := by decide +kernel
theorem dL_law_1575 : decode cL_law 1575 = .ok (.invokestatic 193, 3) := by decide +kernel
theorem dL_law_1578 : decode cL_law 1578 = .ok (.istore 5, 2) := by decide +kernel
theorem dL_law_1580 : decode cL_law 1580 = .ok (.aload_n 2, 1) := by decide +kernel
theorem dL_law_1581 : decode cL_law 1581 = .ok (.aload_n 0, 1) := by decide +kernel
theorem dL_law_1582 : decode cL_law 1582 = .ok (.iload 4, 2) := by decide +kernel
theorem dL_law_1584 : decode cL_law 1584 = .ok (.iconst 1, 1) := by decide +kernel
theorem dL_law_1585 : decode cL_law 1585 = .ok (.iadd, 1) := by decide +kernel
theorem dL_law_1586 : decode cL_law 1586 = .ok (.iaload, 1) := by decide +kernel
theorem dL_law_1587 : decode cL_law 1587 = .ok (.invokevirtual 195, 3) := by decide +kernel
theorem dL_law_1590 : decode cL_law 1590 = .ok (.istore 6, 2) := by decide +kernel
theorem dL_law_1592 : decode cL_law 1592 = .ok (.aload_n 2, 1) := by decide +kernel
theorem dL_law_1593 : decode cL_law 1593 = .ok (.invokevirtual 101, 3) := by decide +kernel
theorem dL_law_1596 : decode cL_law 1596 = .ok (.iload 5, 2) := by decide +kernel
theorem dL_law_1598 : decode cL_law 1598 = .ok (.if_icmp .eq 5, 3) := by decide +kernel
theorem dL_law_1601 : decode cL_law 1601 = .ok (.iconst 0, 1) := by decide +kernel
theorem dL_law_1602 : decode cL_law 1602 = .ok (.ireturn, 1) := by decide +kernel
theorem dL_law_1603 : decode cL_law 1603 = .ok (.iload 5, 2) := by decide +kernel
theorem dL_law_1605 : decode cL_law 1605 = .ok (.ifCond .ne 22, 3) := by decide +kernel
theorem dL_law_1608 : decode cL_law 1608 = .ok (.aload_n 3, 1) := by decide +kernel
theorem dL_law_1609 : decode cL_law 1609 = .ok (.iconst 0, 1) := by decide +kernel
theorem dL_law_1610 : decode cL_law 1610 = .ok (.laload, 1) := by decide +kernel
theorem dL_law_1611 : decode cL_law 1611 = .ok (.iload 6, 2) := by decide +kernel
theorem dL_law_1613 : decode cL_law 1613 = .ok (.ifCond .eq 7, 3) := by decide +kernel
theorem dL_law_1616 : decode cL_law 1616 = .ok (.lconst 1, 1) := by decide +kernel
theorem dL_law_1617 : decode cL_law 1617 = .ok (.goto 4, 3) := by decide +kernel
theorem dL_law_1620 : decode cL_law 1620 = .ok (.lconst 0, 1) := by decide +kernel
theorem dL_law_1621 : decode cL_law 1621 = .ok (.lcmp, 1) := by decide +kernel
theorem dL_law_1622 : decode cL_law 1622 = .ok (.ifCond .eq 5, 3) := by decide +kernel
theorem dL_law_1625 : decode cL_law 1625 = .ok (.iconst 0, 1) := by decide +kernel
theorem dL_law_1626 : decode cL_law 1626 = .ok (.ireturn, 1) := by decide +kernel
theorem dL_law_1627 : decode cL_law 1627 = .ok (.goto 59, 3) := by decide +kernel
theorem dL_law_1630 : decode cL_law 1630 = .ok (.aload_n 1, 1) := by decide +kernel
theorem dL_law_1631 : decode cL_law 1631 = .ok (.aload_n 0, 1) := by decide +kernel
theorem dL_law_1632 : decode cL_law 1632 = .ok (.iload 4, 2) := by decide +kernel
theorem dL_law_1634 : decode cL_law 1634 = .ok (.iconst 1, 1) := by decide +kernel
theorem dL_law_1635 : decode cL_law 1635 = .ok (.iadd, 1) := by decide +kernel
theorem dL_law_1636 : decode cL_law 1636 = .ok (.iaload, 1) := by decide +kernel
theorem dL_law_1637 : decode cL_law 1637 = .ok (.aload_n 3, 1) := by decide +kernel
theorem dL_law_1638 : decode cL_law 1638 = .ok (.invokestatic 196, 3) := by decide +kernel
theorem dL_law_1641 : decode cL_law 1641 = .ok (.istore 5, 2) := by decide +kernel
theorem dL_law_1643 : decode cL_law 1643 = .ok (.aload_n 2, 1) := by decide +kernel
theorem dL_law_1644 : decode cL_law 1644 = .ok (.aload_n 0, 1) := by decide +kernel
theorem dL_law_1645 : decode cL_law 1645 = .ok (.iload 4, 2) := by decide +kernel
theorem dL_law_1647 : decode cL_law 1647 = .ok (.iconst 1, 1) := by decide +kernel
theorem dL_law_1648 : decode cL_law 1648 = .ok (.iadd, 1) := by decide +kernel
theorem dL_law_1649 : decode cL_law 1649 = .ok (.iaload, 1) := by decide +kernel
theorem dL_law_1650 : decode cL_law 1650 = .ok (.invokevirtual 198, 3) := by decide +kernel
theorem dL_law_1653 : decode cL_law 1653 = .ok (.istore 6, 2) := by decide +kernel
theorem dL_law_1655 : decode cL_law 1655 = .ok (.aload_n 2, 1) := by decide +kernel
theorem dL_law_1656 : decode cL_law 1656 = .ok (.invokevirtual 101, 3) := by decide +kernel
theorem dL_law_1659 : decode cL_law 1659 = .ok (.iload 5, 2) := by decide +kernel
theorem dL_law_1661 : decode cL_law 1661 = .ok (.if_icmp .eq 5, 3) := by decide +kernel
theorem dL_law_1664 : decode cL_law 1664 = .ok (.iconst 0, 1) := by decide +kernel
theorem dL_law_1665 : decode cL_law 1665 = .ok (.ireturn, 1) := by decide +kernel
theorem dL_law_1666 : decode cL_law 1666 = .ok (.iload 5, 2) := by decide +kernel
theorem dL_law_1668 : decode cL_law 1668 = .ok (.ifCond .ne 15, 3) := by decide +kernel
theorem dL_law_1671 : decode cL_law 1671 = .ok (.aload_n 3, 1) := by decide +kernel
theorem dL_law_1672 : decode cL_law 1672 = .ok (.iconst 0, 1) := by decide +kernel
theorem dL_law_1673 : decode cL_law 1673 = .ok (.laload, 1) := by decide +kernel
theorem dL_law_1674 : decode cL_law 1674 = .ok (.iload 6, 2) := by decide +kernel
theorem dL_law_1676 : decode cL_law 1676 = .ok (.i2l, 1) := by decide +kernel
theorem dL_law_1677 : decode cL_law 1677 = .ok (.lcmp, 1) := by decide +kernel
theorem dL_law_1678 : decode cL_law 1678 = .ok (.ifCond .eq 5, 3) := by decide +kernel
theorem dL_law_1681 : decode cL_law 1681 = .ok (.iconst 0, 1) := by decide +kernel
theorem dL_law_1682 : decode cL_law 1682 = .ok (.ireturn, 1) := by decide +kernel
theorem dL_law_1683 : decode cL_law 1683 = .ok (.goto 3, 3) := by decide +kernel
theorem dL_law_1686 : decode cL_law 1686 = .ok (.iinc 4 6, 3) := by decide +kernel
theorem dL_law_1689 : decode cL_law 1689 = .ok (.goto (-1666), 3) := by decide +kernel
theorem dL_law_1692 : decode cL_law 1692 = .ok (.iconst 1, 1) := by decide +kernel
theorem dL_law_1693 : decode cL_law 1693 = .ok (.ireturn, 1) := by decide +kernel
abbrev vwCl : List vw_C := [(RX0, TX0, 3), (RX1, TX1, 6), (RX2, TX2, 1), (RX3, TX3, 9), (RX4, TX4, 4), (RX5, TX5, 2), (RX6, TX6, 11), (RX7, TX7, 2), (RX8, TX8, 9), (RX9, TX9, 22)]
