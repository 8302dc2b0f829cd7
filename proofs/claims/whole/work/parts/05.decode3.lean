theorem dX9_ticksTo_14 : decode cX9_ticksTo 14 = .ok (.ifCond .ne 7, 3) := by decide +kernel
theorem dX9_ticksTo_17 : decode cX9_ticksTo 17 = .ok (.iconst 1, 1) := by decide +kernel
theorem dX9_ticksTo_18 : decode cX9_ticksTo 18 = .ok (.goto 4, 3) := by decide +kernel
theorem dX9_ticksTo_21 : decode cX9_ticksTo 21 = .ok (.iconst 0, 1) := by decide +kernel
theorem dX9_ticksTo_22 : decode cX9_ticksTo 22 = .ok (.iconst 1, 1) := by decide +kernel
theorem dX9_ticksTo_23 : decode cX9_ticksTo 23 = .ok (.invokevirtual 153, 3) := by decide +kernel
theorem dX9_ticksTo_26 : decode cX9_ticksTo 26 = .ok (.ifCond .eq 5, 3) := by decide +kernel
theorem dX9_ticksTo_29 : decode cX9_ticksTo 29 = .ok (.iconst 0, 1) := by decide +kernel
theorem dX9_ticksTo_30 : decode cX9_ticksTo 30 = .ok (.ireturn, 1) := by decide +kernel
theorem dX9_ticksTo_31 : decode cX9_ticksTo 31 = .ok (.aload_n 0, 1) := by decide +kernel
theorem dX9_ticksTo_32 : decode cX9_ticksTo 32 = .ok (.getfield 7, 3) := by decide +kernel
theorem dX9_ticksTo_35 : decode cX9_ticksTo 35 = .ok (.iconst 0, 1) := by decide +kernel
theorem dX9_ticksTo_36 : decode cX9_ticksTo 36 = .ok (.aload_n 0, 1) := by decide +kernel
theorem dX9_ticksTo_37 : decode cX9_ticksTo 37 = .ok (.getfield 33, 3) := by decide +kernel
theorem dX9_ticksTo_40 : decode cX9_ticksTo 40 = .ok (.iconst 0, 1) := by decide +kernel
theorem dX9_ticksTo_41 : decode cX9_ticksTo 41 = .ok (.sipush 214, 3) := by decide +kernel
theorem dX9_ticksTo_44 : decode cX9_ticksTo 44 = .ok (.invokestatic 259, 3) := by decide +kernel
theorem dX9_ticksTo_47 : decode cX9_ticksTo 47 = .ok (.iconst 0, 1) := by decide +kernel
theorem dX9_ticksTo_48 : decode cX9_ticksTo 48 = .ok (.istore_n 3, 1) := by decide +kernel
theorem dX9_ticksTo_49 : decode cX9_ticksTo 49 = .ok (.iload_n 3, 1) := by decide +kernel
theorem dX9_ticksTo_50 : decode cX9_ticksTo 50 = .ok (.iload_n 2, 1) := by decide +kernel
theorem dX9_ticksTo_51 : decode cX9_ticksTo 51 = .ok (.if_icmp .ge 23, 3) := by decide +kernel
theorem dX9_ticksTo_54 : decode cX9_ticksTo 54 = .ok (.aload_n 0, 1) := by decide +kernel
theorem dX9_ticksTo_55 : decode cX9_ticksTo 55 = .ok (.getfield 7, 3) := by decide +kernel
theorem dX9_ticksTo_58 : decode cX9_ticksTo 58 = .ok (.iconst 1, 1) := by decide +kernel
theorem dX9_ticksTo_59 : decode cX9_ticksTo 59 = .ok (.iaload, 1) := by decide +kernel
theorem dX9_ticksTo_60 : decode cX9_ticksTo 60 = .ok (.iload_n 1, 1) := by decide +kernel
theorem dX9_ticksTo_61 : decode cX9_ticksTo 61 = .ok (.if_icmp .eq 13, 3) := by decide +kernel
theorem dX9_ticksTo_64 : decode cX9_ticksTo 64 = .ok (.aload_n 0, 1) := by decide +kernel
theorem dX9_ticksTo_65 : decode cX9_ticksTo 65 = .ok (.invokevirtual 263, 3) := by decide +kernel
theorem dX9_ticksTo_68 : decode cX9_ticksTo 68 = .ok (.iinc 3 1, 3) := by decide +kernel
theorem dX9_ticksTo_71 : decode cX9_ticksTo 71 = .ok (.goto (-22), 3) := by decide +kernel
theorem dX9_ticksTo_74 : decode cX9_ticksTo 74 = .ok (.aload_n 0, 1) := by decide +kernel
theorem dX9_ticksTo_75 : decode cX9_ticksTo 75 = .ok (.getfield 7, 3) := by decide +kernel
theorem dX9_ticksTo_78 : decode cX9_ticksTo 78 = .ok (.iconst 1, 1) := by decide +kernel
theorem dX9_ticksTo_79 : decode cX9_ticksTo 79 = .ok (.iaload, 1) := by decide +kernel
theorem dX9_ticksTo_80 : decode cX9_ticksTo 80 = .ok (.iload_n 1, 1) := by decide +kernel
theorem dX9_ticksTo_81 : decode cX9_ticksTo 81 = .ok (.if_icmp .ne 7, 3) := by decide +kernel
theorem dX9_ticksTo_84 : decode cX9_ticksTo 84 = .ok (.iconst 1, 1) := by decide +kernel
theorem dX9_ticksTo_85 : decode cX9_ticksTo 85 = .ok (.goto 4, 3) := by decide +kernel
theorem dX9_ticksTo_88 : decode cX9_ticksTo 88 = .ok (.iconst 0, 1) := by decide +kernel
theorem dX9_ticksTo_89 : decode cX9_ticksTo 89 = .ok (.istore 4, 2) := by decide +kernel
theorem dX9_ticksTo_91 : decode cX9_ticksTo 91 = .ok (.aload_n 0, 1) := by decide +kernel
theorem dX9_ticksTo_92 : decode cX9_ticksTo 92 = .ok (.getfield 33, 3) := by decide +kernel
theorem dX9_ticksTo_95 : decode cX9_ticksTo 95 = .ok (.iconst 0, 1) := by decide +kernel
theorem dX9_ticksTo_96 : decode cX9_ticksTo 96 = .ok (.aload_n 0, 1) := by decide +kernel
theorem dX9_ticksTo_97 : decode cX9_ticksTo 97 = .ok (.getfield 7, 3) := by decide +kernel
theorem dX9_ticksTo_100 : decode cX9_ticksTo 100 = .ok (.iconst 0, 1) := by decide +kernel
theorem dX9_ticksTo_101 : decode cX9_ticksTo 101 = .ok (.sipush 214, 3) := by decide +kernel
theorem dX9_ticksTo_104 : decode cX9_ticksTo 104 = .ok (.invokestatic 259, 3) := by decide +kernel
theorem dX9_ticksTo_107 : decode cX9_ticksTo 107 = .ok (.iload 4, 2) := by decide +kernel
theorem dX9_ticksTo_109 : decode cX9_ticksTo 109 = .ok (.ifCond .eq 7, 3) := by decide +kernel
theorem dX9_ticksTo_112 : decode cX9_ticksTo 112 = .ok (.iload_n 3, 1) := by decide +kernel
theorem dX9_ticksTo_113 : decode cX9_ticksTo 113 = .ok (.goto 4, 3) := by decide +kernel
theorem dX9_ticksTo_116 : decode cX9_ticksTo 116 = .ok (.iconst (-1), 1) := by decide +kernel
theorem dX9_ticksTo_117 : decode cX9_ticksTo 117 = .ok (.ireturn, 1) := by decide +kernel
set_option maxRecDepth 20000 in
theorem ggX9_ticksToBalance_X9_ticksTo : GoodIn wsX9_ticksToBalance wsX9_ticksTo := goodIn_r _ [5, 6, 7, 8, 9, 10, 4, 11, 12, 13, 14, 15, 16, 17, 18, 19, 20, 21, 22, 23, 24, 25, 26, 27, 28, 29, 30, 31, 32, 33, 34, 35, 36, 37, 38, 39, 40, 41, 42, 43, 44, 45, 46, 47, 48, 49, 50, 51, 52, 53, 54, 55, 56, 57, 58, 59, 60, 61, 62, 63, 64, 65, 66, 67, 68, 69, 70, 71, 72, 73, 74, 75, 76, 77, 78, 79, 80, 81, 82, 83, 84, 85, 86, 87, 88, 89, 90, 91, 92, 93, 94, 95, 96, 97, 98, 99, 100, 101, 102, 103, 104, 105, 106, 107, 108, 109, 110, 111, 112, 113, 114, 115, 116, 117, 118, 119, 120, 121, 122, 123, 124, 125, 126, 127, 128, 129, 130, 131] (by decide +kernel) (by decide +kernel)
set_option maxRecDepth 20000 in
theorem gX9_ticksToBalance_X9_ticksTo : GoodIn wsX9_ticksToBalance (wsV RX9 266 RX9 yX9_ticksTo wsX9_ticksTo) := goodIn_app (goodIn_of _ (by decide +kernel)) ggX9_ticksToBalance_X9_ticksTo
theorem dX9_ticksToBalance_0 : decode cX9_ticksToBalance 0 = .ok (.aload_n 0, 1) := by decide +kernel
theorem dX9_ticksToBalance_1 : decode cX9_ticksToBalance 1 = .ok (.iconst 2, 1) := by decide +kernel
theorem dX9_ticksToBalance_2 : decode cX9_ticksToBalance 2 = .ok (.iload_n 1, 1) := by decide +kernel
theorem dX9_ticksToBalance_3 : decode cX9_ticksToBalance 3 = .ok (.invokevirtual 266, 3) := by decide +kernel
theorem dX9_ticksToBalance_6 : decode cX9_ticksToBalance 6 = .ok (.ireturn, 1) := by decide +kernel
set_option maxRecDepth 20000 in
theorem ggX9_ticksToStop_X9_ticksTo : GoodIn wsX9_ticksToStop wsX9_ticksTo := goodIn_r _ [5, 6, 7, 8, 9, 10, 4, 11, 12, 13, 14, 15, 16, 17, 18, 19, 20, 21, 22, 23, 24, 25, 26, 27, 28, 29, 30, 31, 32, 33, 34, 35, 36, 37, 38, 39, 40, 41, 42, 43, 44, 45, 46, 47, 48, 49, 50, 51, 52, 53, 54, 55, 56, 57, 58, 59, 60, 61, 62, 63, 64, 65, 66, 67, 68, 69, 70, 71, 72, 73, 74, 75, 76, 77, 78, 79, 80, 81, 82, 83, 84, 85, 86, 87, 88, 89, 90, 91, 92, 93, 94, 95, 96, 97, 98, 99, 100, 101, 102, 103, 104, 105, 106, 107, 108, 109, 110, 111, 112, 113, 114, 115, 116, 117, 118, 119, 120, 121, 122, 123, 124, 125, 126, 127, 128, 129, 130, 131] (by decide +kernel) (by decide +kernel)
set_option maxRecDepth 20000 in
theorem gX9_ticksToStop_X9_ticksTo : GoodIn wsX9_ticksToStop (wsV RX9 266 RX9 yX9_ticksTo wsX9_ticksTo) := goodIn_app (goodIn_of _ (by decide +kernel)) ggX9_ticksToStop_X9_ticksTo
theorem dX9_ticksToStop_0 : decode cX9_ticksToStop 0 = .ok (.aload_n 0, 1) := by decide +kernel
theorem dX9_ticksToStop_1 : decode cX9_ticksToStop 1 = .ok (.iconst 3, 1) := by decide +kernel
theorem dX9_ticksToStop_2 : decode cX9_ticksToStop 2 = .ok (.iload_n 1, 1) := by decide +kernel
theorem dX9_ticksToStop_3 : decode cX9_ticksToStop 3 = .ok (.invokevirtual 266, 3) := by decide +kernel
theorem dX9_ticksToStop_6 : decode cX9_ticksToStop 6 = .ok (.ireturn, 1) := by decide +kernel
set_option maxRecDepth 20000 in
theorem ggX9_farthest_X9_within : GoodIn wsX9_farthest wsX9_within := goodIn_r _ [7] (by decide +kernel) (by decide +kernel)
set_option maxRecDepth 20000 in
theorem gX9_farthest_X9_within : GoodIn wsX9_farthest (va_wsS RX9 88 yX9_within wsX9_within) := goodIn_app (goodIn_of _ (by decide +kernel)) ggX9_farthest_X9_within
set_option maxRecDepth 20000 in
theorem ggX9_farthest_X9_throwsIf : GoodIn wsX9_farthest wsX9_throwsIf := goodIn_r _ [11, 1, 106, 107, 108, 109, 110, 111, 112, 113, 114, 115, 116, 117, 118, 119, 120, 121, 122, 123, 124, 125, 126, 127] (by decide +kernel) (by decide +kernel)
set_option maxRecDepth 20000 in
theorem gX9_farthest_X9_throwsIf : GoodIn wsX9_farthest (wsV RX9 153 RX9 yX9_throwsIf wsX9_throwsIf) := goodIn_app (goodIn_of _ (by decide +kernel)) ggX9_farthest_X9_throwsIf
set_option maxRecDepth 20000 in
theorem ggX9_farthest_X9_copies : GoodIn wsX9_farthest wsX9_copies := goodIn_r _ [14] (by decide +kernel) (by decide +kernel)
set_option maxRecDepth 20000 in
theorem gX9_farthest_X9_copies : GoodIn wsX9_farthest (va_wsS RX9 259 yX9_copies wsX9_copies) := goodIn_app (goodIn_of _ (by decide +kernel)) ggX9_farthest_X9_copies
set_option maxRecDepth 20000 in
theorem ggX9_farthest_X9_passes : GoodIn wsX9_farthest wsX9_passes := goodIn_r _ [18, 2, 19, 20, 21, 6, 22, 23, 24, 25, 26, 27, 28, 29, 30, 31, 32, 33, 34, 35, 36, 37, 38, 39, 40, 41, 42, 43, 44, 45, 46, 47, 48, 49, 50, 51, 52, 53, 54, 55, 56, 57, 58, 59, 60, 61, 62, 63, 64, 65, 66, 67, 68, 69, 70, 71, 72, 73, 74, 75, 76, 77, 78, 79, 80, 81, 82, 83, 84, 85, 86, 87, 88, 89, 90, 4, 5, 7, 91, 92, 93, 94, 95, 96, 97, 98, 99, 100, 101, 102, 103, 104, 105, 106, 107, 108, 109, 110, 111, 112, 113, 114, 115, 116, 117, 118, 119, 120, 121, 122, 123, 124, 125, 126, 127] (by decide +kernel) (by decide +kernel)
set_option maxRecDepth 20000 in
theorem gX9_farthest_X9_passes : GoodIn wsX9_farthest (wsV RX9 263 RX9 yX9_passes wsX9_passes) := goodIn_app (goodIn_of _ (by decide +kernel)) ggX9_farthest_X9_passes
theorem dX9_farthest_0 : decode cX9_farthest 0 = .ok (.aload_n 0, 1) := by decide +kernel
theorem dX9_farthest_1 : decode cX9_farthest 1 = .ok (.iconst 0, 1) := by decide +kernel
theorem dX9_farthest_2 : decode cX9_farthest 2 = .ok (.putfield 55, 3) := by decide +kernel
theorem dX9_farthest_5 : decode cX9_farthest 5 = .ok (.aload_n 0, 1) := by decide +kernel
theorem dX9_farthest_6 : decode cX9_farthest 6 = .ok (.iload_n 1, 1) := by decide +kernel
theorem dX9_farthest_7 : decode cX9_farthest 7 = .ok (.iconst 0, 1) := by decide +kernel
theorem dX9_farthest_8 : decode cX9_farthest 8 = .ok (.sipush 1000, 3) := by decide +kernel
theorem dX9_farthest_11 : decode cX9_farthest 11 = .ok (.invokestatic 88, 3) := by decide +kernel
theorem dX9_farthest_14 : decode cX9_farthest 14 = .ok (.ifCond .ne 7, 3) := by decide +kernel
theorem dX9_farthest_17 : decode cX9_farthest 17 = .ok (.iconst 1, 1) := by decide +kernel
theorem dX9_farthest_18 : decode cX9_farthest 18 = .ok (.goto 4, 3) := by decide +kernel
theorem dX9_farthest_21 : decode cX9_farthest 21 = .ok (.iconst 0, 1) := by decide +kernel
theorem dX9_farthest_22 : decode cX9_farthest 22 = .ok (.iconst 1, 1) := by decide +kernel
theorem dX9_farthest_23 : decode cX9_farthest 23 = .ok (.invokevirtual 153, 3) := by decide +kernel
theorem dX9_farthest_26 : decode cX9_farthest 26 = .ok (.ifCond .eq 5, 3) := by decide +kernel
theorem dX9_farthest_29 : decode cX9_farthest 29 = .ok (.iconst 0, 1) := by decide +kernel
theorem dX9_farthest_30 : decode cX9_farthest 30 = .ok (.ireturn, 1) := by decide +kernel
theorem dX9_farthest_31 : decode cX9_farthest 31 = .ok (.aload_n 0, 1) := by decide +kernel
theorem dX9_farthest_32 : decode cX9_farthest 32 = .ok (.getfield 7, 3) := by decide +kernel
theorem dX9_farthest_35 : decode cX9_farthest 35 = .ok (.iconst 0, 1) := by decide +kernel
theorem dX9_farthest_36 : decode cX9_farthest 36 = .ok (.aload_n 0, 1) := by decide +kernel
theorem dX9_farthest_37 : decode cX9_farthest 37 = .ok (.getfield 33, 3) := by decide +kernel
theorem dX9_farthest_40 : decode cX9_farthest 40 = .ok (.iconst 0, 1) := by decide +kernel
theorem dX9_farthest_41 : decode cX9_farthest 41 = .ok (.sipush 214, 3) := by decide +kernel
theorem dX9_farthest_44 : decode cX9_farthest 44 = .ok (.invokestatic 259, 3) := by decide +kernel
theorem dX9_farthest_47 : decode cX9_farthest 47 = .ok (.aload_n 0, 1) := by decide +kernel
theorem dX9_farthest_48 : decode cX9_farthest 48 = .ok (.getfield 7, 3) := by decide +kernel
theorem dX9_farthest_51 : decode cX9_farthest 51 = .ok (.iconst 2, 1) := by decide +kernel
theorem dX9_farthest_52 : decode cX9_farthest 52 = .ok (.iaload, 1) := by decide +kernel
theorem dX9_farthest_53 : decode cX9_farthest 53 = .ok (.ifCond .ge 13, 3) := by decide +kernel
theorem dX9_farthest_56 : decode cX9_farthest 56 = .ok (.aload_n 0, 1) := by decide +kernel
theorem dX9_farthest_57 : decode cX9_farthest 57 = .ok (.getfield 7, 3) := by decide +kernel
theorem dX9_farthest_60 : decode cX9_farthest 60 = .ok (.iconst 2, 1) := by decide +kernel
theorem dX9_farthest_61 : decode cX9_farthest 61 = .ok (.iaload, 1) := by decide +kernel
theorem dX9_farthest_62 : decode cX9_farthest 62 = .ok (.ineg, 1) := by decide +kernel
theorem dX9_farthest_63 : decode cX9_farthest 63 = .ok (.goto 9, 3) := by decide +kernel
theorem dX9_farthest_66 : decode cX9_farthest 66 = .ok (.aload_n 0, 1) := by decide +kernel
theorem dX9_farthest_67 : decode cX9_farthest 67 = .ok (.getfield 7, 3) := by decide +kernel
theorem dX9_farthest_70 : decode cX9_farthest 70 = .ok (.iconst 2, 1) := by decide +kernel
theorem dX9_farthest_71 : decode cX9_farthest 71 = .ok (.iaload, 1) := by decide +kernel
theorem dX9_farthest_72 : decode cX9_farthest 72 = .ok (.istore_n 2, 1) := by decide +kernel
theorem dX9_farthest_73 : decode cX9_farthest 73 = .ok (.iconst 0, 1) := by decide +kernel
theorem dX9_farthest_74 : decode cX9_farthest 74 = .ok (.istore_n 3, 1) := by decide +kernel
theorem dX9_farthest_75 : decode cX9_farthest 75 = .ok (.iload_n 3, 1) := by decide +kernel
theorem dX9_farthest_76 : decode cX9_farthest 76 = .ok (.iload_n 1, 1) := by decide +kernel
theorem dX9_farthest_77 : decode cX9_farthest 77 = .ok (.if_icmp .ge 53, 3) := by decide +kernel
theorem dX9_farthest_80 : decode cX9_farthest 80 = .ok (.aload_n 0, 1) := by decide +kernel
theorem dX9_farthest_81 : decode cX9_farthest 81 = .ok (.invokevirtual 263, 3) := by decide +kernel
theorem dX9_farthest_84 : decode cX9_farthest 84 = .ok (.aload_n 0, 1) := by decide +kernel
theorem dX9_farthest_85 : decode cX9_farthest 85 = .ok (.getfield 7, 3) := by decide +kernel
theorem dX9_farthest_88 : decode cX9_farthest 88 = .ok (.iconst 2, 1) := by decide +kernel
theorem dX9_farthest_89 : decode cX9_farthest 89 = .ok (.iaload, 1) := by decide +kernel
theorem dX9_farthest_90 : decode cX9_farthest 90 = .ok (.ifCond .ge 13, 3) := by decide +kernel
theorem dX9_farthest_93 : decode cX9_farthest 93 = .ok (.aload_n 0, 1) := by decide +kernel
theorem dX9_farthest_94 : decode cX9_farthest 94 = .ok (.getfield 7, 3) := by decide +kernel
theorem dX9_farthest_97 : decode cX9_farthest 97 = .ok (.iconst 2, 1) := by decide +kernel
theorem dX9_farthest_98 : decode cX9_farthest 98 = .ok (.iaload, 1) := by decide +kernel
theorem dX9_farthest_99 : decode cX9_farthest 99 = .ok (.ineg, 1) := by decide +kernel
theorem dX9_farthest_100 : decode cX9_farthest 100 = .ok (.goto 9, 3) := by decide +kernel
theorem dX9_farthest_103 : decode cX9_farthest 103 = .ok (.aload_n 0, 1) := by decide +kernel
theorem dX9_farthest_104 : decode cX9_farthest 104 = .ok (.getfield 7, 3) := by decide +kernel
theorem dX9_farthest_107 : decode cX9_farthest 107 = .ok (.iconst 2, 1) := by decide +kernel
theorem dX9_farthest_108 : decode cX9_farthest 108 = .ok (.iaload, 1) := by decide +kernel
theorem dX9_farthest_109 : decode cX9_farthest 109 = .ok (.istore 4, 2) := by decide +kernel
theorem dX9_farthest_111 : decode cX9_farthest 111 = .ok (.iload 4, 2) := by decide +kernel
theorem dX9_farthest_113 : decode cX9_farthest 113 = .ok (.iload_n 2, 1) := by decide +kernel
theorem dX9_farthest_114 : decode cX9_farthest 114 = .ok (.if_icmp .le 8, 3) := by decide +kernel
theorem dX9_farthest_117 : decode cX9_farthest 117 = .ok (.iload 4, 2) := by decide +kernel
theorem dX9_farthest_119 : decode cX9_farthest 119 = .ok (.goto 4, 3) := by decide +kernel
theorem dX9_farthest_122 : decode cX9_farthest 122 = .ok (.iload_n 2, 1) := by decide +kernel
theorem dX9_farthest_123 : decode cX9_farthest 123 = .ok (.istore_n 2, 1) := by decide +kernel
theorem dX9_farthest_124 : decode cX9_farthest 124 = .ok (.iinc 3 1, 3) := by decide +kernel
theorem dX9_farthest_127 : decode cX9_farthest 127 = .ok (.goto (-52), 3) := by decide +kernel
theorem dX9_farthest_130 : decode cX9_farthest 130 = .ok (.aload_n 0, 1) := by decide +kernel
theorem dX9_farthest_131 : decode cX9_farthest 131 = .ok (.getfield 33, 3) := by decide +kernel
theorem dX9_farthest_134 : decode cX9_farthest 134 = .ok (.iconst 0, 1) := by decide +kernel
theorem dX9_farthest_135 : decode cX9_farthest 135 = .ok (.aload_n 0, 1) := by decide +kernel
theorem dX9_farthest_136 : decode cX9_farthest 136 = .ok (.getfield 7, 3) := by decide +kernel
theorem dX9_farthest_139 : decode cX9_farthest 139 = .ok (.iconst 0, 1) := by decide +kernel
theorem dX9_farthest_140 : decode cX9_farthest 140 = .ok (.sipush 214, 3) := by decide +kernel
theorem dX9_farthest_143 : decode cX9_farthest 143 = .ok (.invokestatic 259, 3) := by decide +kernel
theorem dX9_farthest_146 : decode cX9_farthest 146 = .ok (.iload_n 2, 1) := by decide +kernel
theorem dX9_farthest_147 : decode cX9_farthest 147 = .ok (.ireturn, 1) := by decide +kernel
set_option maxRecDepth 20000 in
theorem ggX9_linkAfter_X9_noLink : GoodIn wsX9_linkAfter wsX9_noLink := goodIn_r _ [7, 8, 9, 10, 6, 11, 12, 13, 14, 15, 114, 115, 116, 117, 118, 119, 120, 121, 122, 123, 124, 125, 126, 127, 128, 129, 130, 131, 132, 133, 134, 135] (by decide +kernel) (by decide +kernel)
set_option maxRecDepth 20000 in
theorem gX9_linkAfter_X9_noLink : GoodIn wsX9_linkAfter (wsV RX9 231 RX9 yX9_noLink wsX9_noLink) := goodIn_app (goodIn_of _ (by decide +kernel)) ggX9_linkAfter_X9_noLink
set_option maxRecDepth 20000 in
theorem ggX9_linkAfter_X9_within : GoodIn wsX9_linkAfter wsX9_within := goodIn_r _ [11] (by decide +kernel) (by decide +kernel)
set_option maxRecDepth 20000 in
theorem gX9_linkAfter_X9_within : GoodIn wsX9_linkAfter (va_wsS RX9 88 yX9_within wsX9_within) := goodIn_app (goodIn_of _ (by decide +kernel)) ggX9_linkAfter_X9_within
set_option maxRecDepth 20000 in
theorem ggX9_linkAfter_X9_throwsIf : GoodIn wsX9_linkAfter wsX9_throwsIf := goodIn_r _ [15, 8, 114, 115, 116, 117, 118, 119, 120, 121, 122, 123, 124, 125, 126, 127, 128, 129, 130, 131, 132, 133, 134, 135] (by decide +kernel) (by decide +kernel)
set_option maxRecDepth 20000 in
theorem gX9_linkAfter_X9_throwsIf : GoodIn wsX9_linkAfter (wsV RX9 153 RX9 yX9_throwsIf wsX9_throwsIf) := goodIn_app (goodIn_of _ (by decide +kernel)) ggX9_linkAfter_X9_throwsIf
set_option maxRecDepth 20000 in
theorem ggX9_linkAfter_X9_copies : GoodIn wsX9_linkAfter wsX9_copies := goodIn_r _ [18] (by decide +kernel) (by decide +kernel)
set_option maxRecDepth 20000 in
theorem gX9_linkAfter_X9_copies : GoodIn wsX9_linkAfter (va_wsS RX9 259 yX9_copies wsX9_copies) := goodIn_app (goodIn_of _ (by decide +kernel)) ggX9_linkAfter_X9_copies
set_option maxRecDepth 20000 in
theorem ggX9_linkAfter_X9_passes : GoodIn wsX9_linkAfter wsX9_passes := goodIn_r _ [22, 1, 23, 24, 25, 6, 26, 27, 28, 29, 30, 31, 32, 33, 34, 35, 36, 37, 38, 39, 40, 41, 42, 43, 44, 45, 46, 47, 48, 49, 50, 51, 52, 53, 54, 55, 56, 57, 58, 59, 60, 61, 62, 63, 64, 65, 66, 67, 68, 69, 70, 71, 72, 73, 74, 75, 76, 77, 78, 79, 80, 81, 82, 83, 84, 85, 86, 87, 88, 89, 90, 91, 92, 93, 94, 9, 10, 11, 95, 96, 97, 98, 99, 100, 101, 102, 103, 104, 105, 106, 107, 108, 109, 114, 115, 116, 117, 118, 119, 120, 121, 122, 123, 124, 125, 126, 127, 128, 129, 130, 131, 132, 133, 134, 135] (by decide +kernel) (by decide +kernel)
set_option maxRecDepth 20000 in
theorem gX9_linkAfter_X9_passes : GoodIn wsX9_linkAfter (wsV RX9 263 RX9 yX9_passes wsX9_passes) := goodIn_app (goodIn_of _ (by decide +kernel)) ggX9_linkAfter_X9_passes
set_option maxRecDepth 20000 in
theorem ggX9_linkAfter_X9_ofLink : GoodIn wsX9_linkAfter wsX9_ofLink := goodIn_r _ [113, 1, 51, 52, 6, 53, 114, 115, 116, 117, 118, 119, 120, 121, 122, 123, 124, 125, 126, 127, 128, 129, 130, 131, 132, 133, 134, 135] (by decide +kernel) (by decide +kernel)
set_option maxRecDepth 20000 in
theorem gX9_linkAfter_X9_ofLink : GoodIn wsX9_linkAfter (wsV RX9 237 RX9 yX9_ofLink wsX9_ofLink) := goodIn_app (goodIn_of _ (by decide +kernel)) ggX9_linkAfter_X9_ofLink
theorem dX9_linkAfter_0 : decode cX9_linkAfter 0 = .ok (.aload_n 0, 1) := by decide +kernel
theorem dX9_linkAfter_1 : decode cX9_linkAfter 1 = .ok (.iload_n 1, 1) := by decide +kernel
theorem dX9_linkAfter_2 : decode cX9_linkAfter 2 = .ok (.invokevirtual 231, 3) := by decide +kernel
theorem dX9_linkAfter_5 : decode cX9_linkAfter 5 = .ok (.ifCond .ne 36, 3) := by decide +kernel
theorem dX9_linkAfter_8 : decode cX9_linkAfter 8 = .ok (.aload_n 0, 1) := by decide +kernel
theorem dX9_linkAfter_9 : decode cX9_linkAfter 9 = .ok (.iload_n 2, 1) := by decide +kernel
theorem dX9_linkAfter_10 : decode cX9_linkAfter 10 = .ok (.iconst 0, 1) := by decide +kernel
theorem dX9_linkAfter_11 : decode cX9_linkAfter 11 = .ok (.iconst 2, 1) := by decide +kernel
theorem dX9_linkAfter_12 : decode cX9_linkAfter 12 = .ok (.invokestatic 88, 3) := by decide +kernel
theorem dX9_linkAfter_15 : decode cX9_linkAfter 15 = .ok (.ifCond .eq 14, 3) := by decide +kernel
theorem dX9_linkAfter_18 : decode cX9_linkAfter 18 = .ok (.iload_n 3, 1) := by decide +kernel
theorem dX9_linkAfter_19 : decode cX9_linkAfter 19 = .ok (.iconst 0, 1) := by decide +kernel
theorem dX9_linkAfter_20 : decode cX9_linkAfter 20 = .ok (.sipush 1000, 3) := by decide +kernel
theorem dX9_linkAfter_23 : decode cX9_linkAfter 23 = .ok (.invokestatic 88, 3) := by decide +kernel
theorem dX9_linkAfter_26 : decode cX9_linkAfter 26 = .ok (.ifCond .ne 7, 3) := by decide +kernel
theorem dX9_linkAfter_29 : decode cX9_linkAfter 29 = .ok (.iconst 1, 1) := by decide +kernel
theorem dX9_linkAfter_30 : decode cX9_linkAfter 30 = .ok (.goto 4, 3) := by decide +kernel
theorem dX9_linkAfter_33 : decode cX9_linkAfter 33 = .ok (.iconst 0, 1) := by decide +kernel
theorem dX9_linkAfter_34 : decode cX9_linkAfter 34 = .ok (.iconst 2, 1) := by decide +kernel
theorem dX9_linkAfter_35 : decode cX9_linkAfter 35 = .ok (.invokevirtual 153, 3) := by decide +kernel
theorem dX9_linkAfter_38 : decode cX9_linkAfter 38 = .ok (.ifCond .eq 5, 3) := by decide +kernel
theorem dX9_linkAfter_41 : decode cX9_linkAfter 41 = .ok (.iconst 0, 1) := by decide +kernel
theorem dX9_linkAfter_42 : decode cX9_linkAfter 42 = .ok (.ireturn, 1) := by decide +kernel
theorem dX9_linkAfter_43 : decode cX9_linkAfter 43 = .ok (.aload_n 0, 1) := by decide +kernel
theorem dX9_linkAfter_44 : decode cX9_linkAfter 44 = .ok (.getfield 7, 3) := by decide +kernel
theorem dX9_linkAfter_47 : decode cX9_linkAfter 47 = .ok (.iconst 0, 1) := by decide +kernel
theorem dX9_linkAfter_48 : decode cX9_linkAfter 48 = .ok (.aload_n 0, 1) := by decide +kernel
theorem dX9_linkAfter_49 : decode cX9_linkAfter 49 = .ok (.getfield 33, 3) := by decide +kernel
theorem dX9_linkAfter_52 : decode cX9_linkAfter 52 = .ok (.iconst 0, 1) := by decide +kernel
theorem dX9_linkAfter_53 : decode cX9_linkAfter 53 = .ok (.sipush 214, 3) := by decide +kernel
theorem dX9_linkAfter_56 : decode cX9_linkAfter 56 = .ok (.invokestatic 259, 3) := by decide +kernel
theorem dX9_linkAfter_59 : decode cX9_linkAfter 59 = .ok (.iconst 0, 1) := by decide +kernel
theorem dX9_linkAfter_60 : decode cX9_linkAfter 60 = .ok (.istore 4, 2) := by decide +kernel
theorem dX9_linkAfter_62 : decode cX9_linkAfter 62 = .ok (.iload 4, 2) := by decide +kernel
theorem dX9_linkAfter_64 : decode cX9_linkAfter 64 = .ok (.iload_n 3, 1) := by decide +kernel
theorem dX9_linkAfter_65 : decode cX9_linkAfter 65 = .ok (.if_icmp .ge 13, 3) := by decide +kernel
theorem dX9_linkAfter_68 : decode cX9_linkAfter 68 = .ok (.aload_n 0, 1) := by decide +kernel
theorem dX9_linkAfter_69 : decode cX9_linkAfter 69 = .ok (.invokevirtual 263, 3) := by decide +kernel
theorem dX9_linkAfter_72 : decode cX9_linkAfter 72 = .ok (.iinc 4 1, 3) := by decide +kernel
theorem dX9_linkAfter_75 : decode cX9_linkAfter 75 = .ok (.goto (-13), 3) := by decide +kernel
theorem dX9_linkAfter_78 : decode cX9_linkAfter 78 = .ok (.aload_n 0, 1) := by decide +kernel
theorem dX9_linkAfter_79 : decode cX9_linkAfter 79 = .ok (.iload_n 1, 1) := by decide +kernel
theorem dX9_linkAfter_80 : decode cX9_linkAfter 80 = .ok (.iload_n 2, 1) := by decide +kernel
theorem dX9_linkAfter_81 : decode cX9_linkAfter 81 = .ok (.invokevirtual 237, 3) := by decide +kernel
theorem dX9_linkAfter_84 : decode cX9_linkAfter 84 = .ok (.istore 4, 2) := by decide +kernel
theorem dX9_linkAfter_86 : decode cX9_linkAfter 86 = .ok (.aload_n 0, 1) := by decide +kernel
theorem dX9_linkAfter_87 : decode cX9_linkAfter 87 = .ok (.getfield 33, 3) := by decide +kernel
theorem dX9_linkAfter_90 : decode cX9_linkAfter 90 = .ok (.iconst 0, 1) := by decide +kernel
theorem dX9_linkAfter_91 : decode cX9_linkAfter 91 = .ok (.aload_n 0, 1) := by decide +kernel
theorem dX9_linkAfter_92 : decode cX9_linkAfter 92 = .ok (.getfield 7, 3) := by decide +kernel
theorem dX9_linkAfter_95 : decode cX9_linkAfter 95 = .ok (.iconst 0, 1) := by decide +kernel
theorem dX9_linkAfter_96 : decode cX9_linkAfter 96 = .ok (.sipush 214, 3) := by decide +kernel
theorem dX9_linkAfter_99 : decode cX9_linkAfter 99 = .ok (.invokestatic 259, 3) := by decide +kernel
theorem dX9_linkAfter_102 : decode cX9_linkAfter 102 = .ok (.iload 4, 2) := by decide +kernel
theorem dX9_linkAfter_104 : decode cX9_linkAfter 104 = .ok (.ireturn, 1) := by decide +kernel
set_option maxRecDepth 20000 in
theorem ggX9_run_X9_within : GoodIn wsX9_run wsX9_within := goodIn_r _ [6] (by decide +kernel) (by decide +kernel)
set_option maxRecDepth 20000 in
theorem gX9_run_X9_within : GoodIn wsX9_run (va_wsS RX9 88 yX9_within wsX9_within) := goodIn_app (goodIn_of _ (by decide +kernel)) ggX9_run_X9_within
set_option maxRecDepth 20000 in
theorem ggX9_run_X9_throwsIf : GoodIn wsX9_run wsX9_throwsIf := goodIn_r _ [10, 1, 111, 112, 113, 114, 115, 116, 117, 118, 119, 120, 121, 122, 123, 124, 125, 126, 127, 128, 129, 130, 131, 132] (by decide +kernel) (by decide +kernel)
set_option maxRecDepth 20000 in
theorem gX9_run_X9_throwsIf : GoodIn wsX9_run (wsV RX9 153 RX9 yX9_throwsIf wsX9_throwsIf) := goodIn_app (goodIn_of _ (by decide +kernel)) ggX9_run_X9_throwsIf
set_option maxRecDepth 20000 in
theorem ggX9_run_X9_keeps : GoodIn wsX9_run wsX9_keeps := goodIn_r _ [14, 15, 16, 2, 17, 18, 5, 19, 111, 112, 113, 114, 115, 116, 117, 118, 119, 120, 121, 122, 123, 124, 125, 126, 127, 128, 129, 130, 131, 132] (by decide +kernel) (by decide +kernel)
set_option maxRecDepth 20000 in
theorem gX9_run_X9_keeps : GoodIn wsX9_run (wsV RX9 269 RX9 yX9_keeps wsX9_keeps) := goodIn_app (goodIn_of _ (by decide +kernel)) ggX9_run_X9_keeps
set_option maxRecDepth 20000 in
theorem ggX9_run_X9_passes : GoodIn wsX9_run wsX9_passes := goodIn_r _ [23, 2, 24, 25, 26, 5, 27, 28, 29, 30, 31, 32, 33, 34, 35, 36, 37, 38, 39, 40, 41, 42, 43, 44, 45, 46, 47, 48, 49, 50, 51, 52, 53, 54, 55, 56, 57, 58, 59, 60, 61, 62, 63, 64, 65, 66, 67, 68, 69, 70, 71, 72, 73, 74, 75, 76, 77, 78, 79, 80, 81, 82, 83, 84, 85, 86, 87, 88, 89, 90, 91, 92, 93, 94, 95, 3, 4, 6, 96, 97, 98, 99, 100, 101, 102, 103, 104, 105, 106, 107, 108, 109, 110, 111, 112, 113, 114, 115, 116, 117, 118, 119, 120, 121, 122, 123, 124, 125, 126, 127, 128, 129, 130, 131, 132] (by decide +kernel) (by decide +kernel)
set_option maxRecDepth 20000 in
theorem gX9_run_X9_passes : GoodIn wsX9_run (wsV RX9 263 RX9 yX9_passes wsX9_passes) := goodIn_app (goodIn_of _ (by decide +kernel)) ggX9_run_X9_passes
theorem dX9_run_0 : decode cX9_run 0 = .ok (.aload_n 0, 1) := by decide +kernel
theorem dX9_run_1 : decode cX9_run 1 = .ok (.iconst 0, 1) := by decide +kernel
theorem dX9_run_2 : decode cX9_run 2 = .ok (.putfield 55, 3) := by decide +kernel
theorem dX9_run_5 : decode cX9_run 5 = .ok (.aload_n 0, 1) := by decide +kernel
theorem dX9_run_6 : decode cX9_run 6 = .ok (.iload_n 1, 1) := by decide +kernel
theorem dX9_run_7 : decode cX9_run 7 = .ok (.iconst 1, 1) := by decide +kernel
theorem dX9_run_8 : decode cX9_run 8 = .ok (.sipush 1000, 3) := by decide +kernel
theorem dX9_run_11 : decode cX9_run 11 = .ok (.invokestatic 88, 3) := by decide +kernel
theorem dX9_run_14 : decode cX9_run 14 = .ok (.ifCond .ne 7, 3) := by decide +kernel
theorem dX9_run_17 : decode cX9_run 17 = .ok (.iconst 1, 1) := by decide +kernel
theorem dX9_run_18 : decode cX9_run 18 = .ok (.goto 4, 3) := by decide +kernel
theorem dX9_run_21 : decode cX9_run 21 = .ok (.iconst 0, 1) := by decide +kernel
theorem dX9_run_22 : decode cX9_run 22 = .ok (.iconst 1, 1) := by decide +kernel
theorem dX9_run_23 : decode cX9_run 23 = .ok (.invokevirtual 153, 3) := by decide +kernel
theorem dX9_run_26 : decode cX9_run 26 = .ok (.ifCond .ne 30, 3) := by decide +kernel
theorem dX9_run_29 : decode cX9_run 29 = .ok (.aload_n 0, 1) := by decide +kernel
theorem dX9_run_30 : decode cX9_run 30 = .ok (.aload_n 0, 1) := by decide +kernel
theorem dX9_run_31 : decode cX9_run 31 = .ok (.getfield 7, 3) := by decide +kernel
theorem dX9_run_34 : decode cX9_run 34 = .ok (.iconst 0, 1) := by decide +kernel
theorem dX9_run_35 : decode cX9_run 35 = .ok (.iaload, 1) := by decide +kernel
theorem dX9_run_36 : decode cX9_run 36 = .ok (.iload_n 1, 1) := by decide +kernel
theorem dX9_run_37 : decode cX9_run 37 = .ok (.iadd, 1) := by decide +kernel
theorem dX9_run_38 : decode cX9_run 38 = .ok (.sipush 9999, 3) := by decide +kernel
theorem dX9_run_41 : decode cX9_run 41 = .ok (.if_icmp .le 7, 3) := by decide +kernel
theorem dX9_run_44 : decode cX9_run 44 = .ok (.iconst 1, 1) := by decide +kernel
theorem dX9_run_45 : decode cX9_run 45 = .ok (.goto 4, 3) := by decide +kernel
theorem dX9_run_48 : decode cX9_run 48 = .ok (.iconst 0, 1) := by decide +kernel
theorem dX9_run_49 : decode cX9_run 49 = .ok (.iconst 2, 1) := by decide +kernel
theorem dX9_run_50 : decode cX9_run 50 = .ok (.invokevirtual 153, 3) := by decide +kernel
theorem dX9_run_53 : decode cX9_run 53 = .ok (.ifCond .eq 5, 3) := by decide +kernel
theorem dX9_run_56 : decode cX9_run 56 = .ok (.iconst 0, 1) := by decide +kernel
theorem dX9_run_57 : decode cX9_run 57 = .ok (.ireturn, 1) := by decide +kernel
theorem dX9_run_58 : decode cX9_run 58 = .ok (.aload_n 0, 1) := by decide +kernel
theorem dX9_run_59 : decode cX9_run 59 = .ok (.invokevirtual 269, 3) := by decide +kernel
theorem dX9_run_62 : decode cX9_run 62 = .ok (.iconst 0, 1) := by decide +kernel
theorem dX9_run_63 : decode cX9_run 63 = .ok (.istore_n 2, 1) := by decide +kernel
theorem dX9_run_64 : decode cX9_run 64 = .ok (.iload_n 2, 1) := by decide +kernel
theorem dX9_run_65 : decode cX9_run 65 = .ok (.iload_n 1, 1) := by decide +kernel
theorem dX9_run_66 : decode cX9_run 66 = .ok (.if_icmp .ge 13, 3) := by decide +kernel
theorem dX9_run_69 : decode cX9_run 69 = .ok (.aload_n 0, 1) := by decide +kernel
theorem dX9_run_70 : decode cX9_run 70 = .ok (.invokevirtual 263, 3) := by decide +kernel
theorem dX9_run_73 : decode cX9_run 73 = .ok (.iinc 2 1, 3) := by decide +kernel
theorem dX9_run_76 : decode cX9_run 76 = .ok (.goto (-12), 3) := by decide +kernel
theorem dX9_run_79 : decode cX9_run 79 = .ok (.aload_n 0, 1) := by decide +kernel
theorem dX9_run_80 : decode cX9_run 80 = .ok (.getfield 7, 3) := by decide +kernel
theorem dX9_run_83 : decode cX9_run 83 = .ok (.iconst 1, 1) := by decide +kernel
theorem dX9_run_84 : decode cX9_run 84 = .ok (.iaload, 1) := by decide +kernel
theorem dX9_run_85 : decode cX9_run 85 = .ok (.ireturn, 1) := by decide +kernel
set_option maxRecDepth 20000 in
theorem ggX9_setMode_X9_within : GoodIn wsX9_setMode wsX9_within := goodIn_r _ [6] (by decide +kernel) (by decide +kernel)
set_option maxRecDepth 20000 in
theorem gX9_setMode_X9_within : GoodIn wsX9_setMode (va_wsS RX9 88 yX9_within wsX9_within) := goodIn_app (goodIn_of _ (by decide +kernel)) ggX9_setMode_X9_within
set_option maxRecDepth 20000 in
theorem ggX9_setMode_X9_throwsIf : GoodIn wsX9_setMode wsX9_throwsIf := goodIn_r _ [10, 1, 20, 21, 22, 23, 24, 25, 26, 27, 28, 29, 30, 31, 32, 33, 34, 35, 36, 37, 38, 39, 40, 41] (by decide +kernel) (by decide +kernel)
set_option maxRecDepth 20000 in
theorem gX9_setMode_X9_throwsIf : GoodIn wsX9_setMode (wsV RX9 153 RX9 yX9_throwsIf wsX9_throwsIf) := goodIn_app (goodIn_of _ (by decide +kernel)) ggX9_setMode_X9_throwsIf
set_option maxRecDepth 20000 in
theorem ggX9_setMode_X9_keeps : GoodIn wsX9_setMode wsX9_keeps := goodIn_r _ [14, 15, 16, 2, 17, 18, 5, 19, 20, 21, 22, 23, 24, 25, 26, 27, 28, 29, 30, 31, 32, 33, 34, 35, 36, 37, 38, 39, 40, 41] (by decide +kernel) (by decide +kernel)
set_option maxRecDepth 20000 in
theorem gX9_setMode_X9_keeps : GoodIn wsX9_setMode (wsV RX9 269 RX9 yX9_keeps wsX9_keeps) := goodIn_app (goodIn_of _ (by decide +kernel)) ggX9_setMode_X9_keeps
theorem dX9_setMode_0 : decode cX9_setMode 0 = .ok (.aload_n 0, 1) := by decide +kernel
theorem dX9_setMode_1 : decode cX9_setMode 1 = .ok (.iconst 0, 1) := by decide +kernel
theorem dX9_setMode_2 : decode cX9_setMode 2 = .ok (.putfield 55, 3) := by decide +kernel
theorem dX9_setMode_5 : decode cX9_setMode 5 = .ok (.aload_n 0, 1) := by decide +kernel
theorem dX9_setMode_6 : decode cX9_setMode 6 = .ok (.iload_n 1, 1) := by decide +kernel
theorem dX9_setMode_7 : decode cX9_setMode 7 = .ok (.iconst 0, 1) := by decide +kernel
theorem dX9_setMode_8 : decode cX9_setMode 8 = .ok (.iconst 2, 1) := by decide +kernel
theorem dX9_setMode_9 : decode cX9_setMode 9 = .ok (.invokestatic 88, 3) := by decide +kernel
theorem dX9_setMode_12 : decode cX9_setMode 12 = .ok (.ifCond .ne 7, 3) := by decide +kernel
theorem dX9_setMode_15 : decode cX9_setMode 15 = .ok (.iconst 1, 1) := by decide +kernel
theorem dX9_setMode_16 : decode cX9_setMode 16 = .ok (.goto 4, 3) := by decide +kernel
theorem dX9_setMode_19 : decode cX9_setMode 19 = .ok (.iconst 0, 1) := by decide +kernel
theorem dX9_setMode_20 : decode cX9_setMode 20 = .ok (.iconst 1, 1) := by decide +kernel
theorem dX9_setMode_21 : decode cX9_setMode 21 = .ok (.invokevirtual 153, 3) := by decide +kernel
theorem dX9_setMode_24 : decode cX9_setMode 24 = .ok (.ifCond .ne 26, 3) := by decide +kernel
theorem dX9_setMode_27 : decode cX9_setMode 27 = .ok (.aload_n 0, 1) := by decide +kernel
theorem dX9_setMode_28 : decode cX9_setMode 28 = .ok (.aload_n 0, 1) := by decide +kernel
theorem dX9_setMode_29 : decode cX9_setMode 29 = .ok (.getfield 7, 3) := by decide +kernel
theorem dX9_setMode_32 : decode cX9_setMode 32 = .ok (.iconst 1, 1) := by decide +kernel
theorem dX9_setMode_33 : decode cX9_setMode 33 = .ok (.iaload, 1) := by decide +kernel
theorem dX9_setMode_34 : decode cX9_setMode 34 = .ok (.iconst 3, 1) := by decide +kernel
theorem dX9_setMode_35 : decode cX9_setMode 35 = .ok (.if_icmp .ne 7, 3) := by decide +kernel
theorem dX9_setMode_38 : decode cX9_setMode 38 = .ok (.iconst 1, 1) := by decide +kernel
theorem dX9_setMode_39 : decode cX9_setMode 39 = .ok (.goto 4, 3) := by decide +kernel
theorem dX9_setMode_42 : decode cX9_setMode 42 = .ok (.iconst 0, 1) := by decide +kernel
theorem dX9_setMode_43 : decode cX9_setMode 43 = .ok (.iconst 2, 1) := by decide +kernel
theorem dX9_setMode_44 : decode cX9_setMode 44 = .ok (.invokevirtual 153, 3) := by decide +kernel
theorem dX9_setMode_47 : decode cX9_setMode 47 = .ok (.ifCond .eq 5, 3) := by decide +kernel
theorem dX9_setMode_50 : decode cX9_setMode 50 = .ok (.iconst 0, 1) := by decide +kernel
theorem dX9_setMode_51 : decode cX9_setMode 51 = .ok (.ireturn, 1) := by decide +kernel
theorem dX9_setMode_52 : decode cX9_setMode 52 = .ok (.aload_n 0, 1) := by decide +kernel
theorem dX9_setMode_53 : decode cX9_setMode 53 = .ok (.invokevirtual 269, 3) := by decide +kernel
theorem dX9_setMode_56 : decode cX9_setMode 56 = .ok (.aload_n 0, 1) := by decide +kernel
theorem dX9_setMode_57 : decode cX9_setMode 57 = .ok (.getfield 7, 3) := by decide +kernel
theorem dX9_setMode_60 : decode cX9_setMode 60 = .ok (.iconst 1, 1) := by decide +kernel
theorem dX9_setMode_61 : decode cX9_setMode 61 = .ok (.iaload, 1) := by decide +kernel
theorem dX9_setMode_62 : decode cX9_setMode 62 = .ok (.istore_n 2, 1) := by decide +kernel
theorem dX9_setMode_63 : decode cX9_setMode 63 = .ok (.aload_n 0, 1) := by decide +kernel
theorem dX9_setMode_64 : decode cX9_setMode 64 = .ok (.getfield 7, 3) := by decide +kernel
theorem dX9_setMode_67 : decode cX9_setMode 67 = .ok (.iconst 1, 1) := by decide +kernel
theorem dX9_setMode_68 : decode cX9_setMode 68 = .ok (.iload_n 1, 1) := by decide +kernel
theorem dX9_setMode_69 : decode cX9_setMode 69 = .ok (.iastore, 1) := by decide +kernel
theorem dX9_setMode_70 : decode cX9_setMode 70 = .ok (.iload_n 2, 1) := by decide +kernel
theorem dX9_setMode_71 : decode cX9_setMode 71 = .ok (.ireturn, 1) := by decide +kernel
set_option maxRecDepth 20000 in
theorem ggX9_reset_X9_within : GoodIn wsX9_reset wsX9_within := goodIn_r _ [6] (by decide +kernel) (by decide +kernel)
set_option maxRecDepth 20000 in
theorem gX9_reset_X9_within : GoodIn wsX9_reset (va_wsS RX9 88 yX9_within wsX9_within) := goodIn_app (goodIn_of _ (by decide +kernel)) ggX9_reset_X9_within
set_option maxRecDepth 20000 in
theorem ggX9_reset_X9_throwsIf : GoodIn wsX9_reset wsX9_throwsIf := goodIn_r _ [10, 1, 20, 21, 22, 23, 24, 25, 26, 27, 28, 29, 30, 31, 32, 33, 34, 35, 36, 37, 38, 39, 40, 41] (by decide +kernel) (by decide +kernel)
set_option maxRecDepth 20000 in
theorem gX9_reset_X9_throwsIf : GoodIn wsX9_reset (wsV RX9 153 RX9 yX9_throwsIf wsX9_throwsIf) := goodIn_app (goodIn_of _ (by decide +kernel)) ggX9_reset_X9_throwsIf
set_option maxRecDepth 20000 in
theorem ggX9_reset_X9_keeps : GoodIn wsX9_reset wsX9_keeps := goodIn_r _ [14, 15, 16, 2, 17, 18, 5, 19, 20, 21, 22, 23, 24, 25, 26, 27, 28, 29, 30, 31, 32, 33, 34, 35, 36, 37, 38, 39, 40, 41] (by decide +kernel) (by decide +kernel)
set_option maxRecDepth 20000 in
theorem gX9_reset_X9_keeps : GoodIn wsX9_reset (wsV RX9 269 RX9 yX9_keeps wsX9_keeps) := goodIn_app (goodIn_of _ (by decide +kernel)) ggX9_reset_X9_keeps
theorem dX9_reset_0 : decode cX9_reset 0 = .ok (.aload_n 0, 1) := by decide +kernel
theorem dX9_reset_1 : decode cX9_reset 1 = .ok (.iconst 0, 1) := by decide +kernel
theorem dX9_reset_2 : decode cX9_reset 2 = .ok (.putfield 55, 3) := by decide +kernel
theorem dX9_reset_5 : decode cX9_reset 5 = .ok (.aload_n 0, 1) := by decide +kernel
theorem dX9_reset_6 : decode cX9_reset 6 = .ok (.iload_n 1, 1) := by decide +kernel
theorem dX9_reset_7 : decode cX9_reset 7 = .ok (.iconst 0, 1) := by decide +kernel
theorem dX9_reset_8 : decode cX9_reset 8 = .ok (.sipush 4095, 3) := by decide +kernel
theorem dX9_reset_11 : decode cX9_reset 11 = .ok (.invokestatic 88, 3) := by decide +kernel
theorem dX9_reset_14 : decode cX9_reset 14 = .ok (.ifCond .eq 14, 3) := by decide +kernel
theorem dX9_reset_17 : decode cX9_reset 17 = .ok (.iload_n 2, 1) := by decide +kernel
theorem dX9_reset_18 : decode cX9_reset 18 = .ok (.iconst 0, 1) := by decide +kernel
theorem dX9_reset_19 : decode cX9_reset 19 = .ok (.sipush 4095, 3) := by decide +kernel
theorem dX9_reset_22 : decode cX9_reset 22 = .ok (.invokestatic 88, 3) := by decide +kernel
theorem dX9_reset_25 : decode cX9_reset 25 = .ok (.ifCond .ne 7, 3) := by decide +kernel
theorem dX9_reset_28 : decode cX9_reset 28 = .ok (.iconst 1, 1) := by decide +kernel
theorem dX9_reset_29 : decode cX9_reset 29 = .ok (.goto 4, 3) := by decide +kernel
theorem dX9_reset_32 : decode cX9_reset 32 = .ok (.iconst 0, 1) := by decide +kernel
theorem dX9_reset_33 : decode cX9_reset 33 = .ok (.iconst 1, 1) := by decide +kernel
theorem dX9_reset_34 : decode cX9_reset 34 = .ok (.invokevirtual 153, 3) := by decide +kernel
theorem dX9_reset_37 : decode cX9_reset 37 = .ok (.ifCond .eq 5, 3) := by decide +kernel
theorem dX9_reset_40 : decode cX9_reset 40 = .ok (.iconst 0, 1) := by decide +kernel
theorem dX9_reset_41 : decode cX9_reset 41 = .ok (.ireturn, 1) := by decide +kernel
theorem dX9_reset_42 : decode cX9_reset 42 = .ok (.aload_n 0, 1) := by decide +kernel
theorem dX9_reset_43 : decode cX9_reset 43 = .ok (.invokevirtual 269, 3) := by decide +kernel
theorem dX9_reset_46 : decode cX9_reset 46 = .ok (.aload_n 0, 1) := by decide +kernel
theorem dX9_reset_47 : decode cX9_reset 47 = .ok (.getfield 7, 3) := by decide +kernel
theorem dX9_reset_50 : decode cX9_reset 50 = .ok (.iconst 1, 1) := by decide +kernel
theorem dX9_reset_51 : decode cX9_reset 51 = .ok (.iaload, 1) := by decide +kernel
theorem dX9_reset_52 : decode cX9_reset 52 = .ok (.istore_n 3, 1) := by decide +kernel
theorem dX9_reset_53 : decode cX9_reset 53 = .ok (.aload_n 0, 1) := by decide +kernel
theorem dX9_reset_54 : decode cX9_reset 54 = .ok (.getfield 7, 3) := by decide +kernel
theorem dX9_reset_57 : decode cX9_reset 57 = .ok (.iconst 1, 1) := by decide +kernel
theorem dX9_reset_58 : decode cX9_reset 58 = .ok (.iconst 0, 1) := by decide +kernel
theorem dX9_reset_59 : decode cX9_reset 59 = .ok (.iastore, 1) := by decide +kernel
theorem dX9_reset_60 : decode cX9_reset 60 = .ok (.aload_n 0, 1) := by decide +kernel
theorem dX9_reset_61 : decode cX9_reset 61 = .ok (.getfield 7, 3) := by decide +kernel
theorem dX9_reset_64 : decode cX9_reset 64 = .ok (.iconst 2, 1) := by decide +kernel
theorem dX9_reset_65 : decode cX9_reset 65 = .ok (.iconst 0, 1) := by decide +kernel
theorem dX9_reset_66 : decode cX9_reset 66 = .ok (.iastore, 1) := by decide +kernel
theorem dX9_reset_67 : decode cX9_reset 67 = .ok (.aload_n 0, 1) := by decide +kernel
theorem dX9_reset_68 : decode cX9_reset 68 = .ok (.getfield 7, 3) := by decide +kernel
theorem dX9_reset_71 : decode cX9_reset 71 = .ok (.iconst 3, 1) := by decide +kernel
theorem dX9_reset_72 : decode cX9_reset 72 = .ok (.iconst 0, 1) := by decide +kernel
theorem dX9_reset_73 : decode cX9_reset 73 = .ok (.iastore, 1) := by decide +kernel
theorem dX9_reset_74 : decode cX9_reset 74 = .ok (.aload_n 0, 1) := by decide +kernel
theorem dX9_reset_75 : decode cX9_reset 75 = .ok (.getfield 7, 3) := by decide +kernel
theorem dX9_reset_78 : decode cX9_reset 78 = .ok (.iconst 4, 1) := by decide +kernel
theorem dX9_reset_79 : decode cX9_reset 79 = .ok (.iconst 0, 1) := by decide +kernel
theorem dX9_reset_80 : decode cX9_reset 80 = .ok (.iastore, 1) := by decide +kernel
theorem dX9_reset_81 : decode cX9_reset 81 = .ok (.aload_n 0, 1) := by decide +kernel
theorem dX9_reset_82 : decode cX9_reset 82 = .ok (.getfield 7, 3) := by decide +kernel
theorem dX9_reset_85 : decode cX9_reset 85 = .ok (.bipush 10, 2) := by decide +kernel
theorem dX9_reset_87 : decode cX9_reset 87 = .ok (.iload_n 1, 1) := by decide +kernel
theorem dX9_reset_88 : decode cX9_reset 88 = .ok (.iastore, 1) := by decide +kernel
theorem dX9_reset_89 : decode cX9_reset 89 = .ok (.aload_n 0, 1) := by decide +kernel
theorem dX9_reset_90 : decode cX9_reset 90 = .ok (.getfield 7, 3) := by decide +kernel
theorem dX9_reset_93 : decode cX9_reset 93 = .ok (.bipush 11, 2) := by decide +kernel
theorem dX9_reset_95 : decode cX9_reset 95 = .ok (.iload_n 2, 1) := by decide +kernel
theorem dX9_reset_96 : decode cX9_reset 96 = .ok (.iastore, 1) := by decide +kernel
theorem dX9_reset_97 : decode cX9_reset 97 = .ok (.aload_n 0, 1) := by decide +kernel
theorem dX9_reset_98 : decode cX9_reset 98 = .ok (.getfield 7, 3) := by decide +kernel
theorem dX9_reset_101 : decode cX9_reset 101 = .ok (.bipush 12, 2) := by decide +kernel
theorem dX9_reset_103 : decode cX9_reset 103 = .ok (.iconst 0, 1) := by decide +kernel
theorem dX9_reset_104 : decode cX9_reset 104 = .ok (.iastore, 1) := by decide +kernel
theorem dX9_reset_105 : decode cX9_reset 105 = .ok (.aload_n 0, 1) := by decide +kernel
theorem dX9_reset_106 : decode cX9_reset 106 = .ok (.getfield 7, 3) := by decide +kernel
theorem dX9_reset_109 : decode cX9_reset 109 = .ok (.bipush 13, 2) := by decide +kernel
theorem dX9_reset_111 : decode cX9_reset 111 = .ok (.iconst 0, 1) := by decide +kernel
theorem dX9_reset_112 : decode cX9_reset 112 = .ok (.iastore, 1) := by decide +kernel
theorem dX9_reset_113 : decode cX9_reset 113 = .ok (.aload_n 0, 1) := by decide +kernel
theorem dX9_reset_114 : decode cX9_reset 114 = .ok (.getfield 7, 3) := by decide +kernel
theorem dX9_reset_117 : decode cX9_reset 117 = .ok (.bipush 8, 2) := by decide +kernel
theorem dX9_reset_119 : decode cX9_reset 119 = .ok (.dup2, 1) := by decide +kernel
theorem dX9_reset_120 : decode cX9_reset 120 = .ok (.iaload, 1) := by decide +kernel
theorem dX9_reset_121 : decode cX9_reset 121 = .ok (.iconst 1, 1) := by decide +kernel
theorem dX9_reset_122 : decode cX9_reset 122 = .ok (.iadd, 1) := by decide +kernel
theorem dX9_reset_123 : decode cX9_reset 123 = .ok (.iastore, 1) := by decide +kernel
theorem dX9_reset_124 : decode cX9_reset 124 = .ok (.iload_n 3, 1) := by decide +kernel
theorem dX9_reset_125 : decode cX9_reset 125 = .ok (.ireturn, 1) := by decide +kernel
set_option maxRecDepth 20000 in
theorem ggX9_nudge_X9_noLink : GoodIn wsX9_nudge wsX9_noLink := goodIn_r _ [6, 7, 8, 9, 5, 10, 11, 12, 13, 14, 27, 28, 29, 30, 31, 32, 33, 34, 35, 36, 37, 38, 39, 40, 41, 42, 43, 44, 45, 46, 47, 48] (by decide +kernel) (by decide +kernel)
set_option maxRecDepth 20000 in
theorem gX9_nudge_X9_noLink : GoodIn wsX9_nudge (wsV RX9 231 RX9 yX9_noLink wsX9_noLink) := goodIn_app (goodIn_of _ (by decide +kernel)) ggX9_nudge_X9_noLink
set_option maxRecDepth 20000 in
theorem ggX9_nudge_X9_within : GoodIn wsX9_nudge wsX9_within := goodIn_r _ [10] (by decide +kernel) (by decide +kernel)
set_option maxRecDepth 20000 in
theorem gX9_nudge_X9_within : GoodIn wsX9_nudge (va_wsS RX9 88 yX9_within wsX9_within) := goodIn_app (goodIn_of _ (by decide +kernel)) ggX9_nudge_X9_within
set_option maxRecDepth 20000 in
theorem ggX9_nudge_X9_throwsIf : GoodIn wsX9_nudge wsX9_throwsIf := goodIn_r _ [14, 7, 27, 28, 29, 30, 31, 32, 33, 34, 35, 36, 37, 38, 39, 40, 41, 42, 43, 44, 45, 46, 47, 48] (by decide +kernel) (by decide +kernel)
set_option maxRecDepth 20000 in
theorem gX9_nudge_X9_throwsIf : GoodIn wsX9_nudge (wsV RX9 153 RX9 yX9_throwsIf wsX9_throwsIf) := goodIn_app (goodIn_of _ (by decide +kernel)) ggX9_nudge_X9_throwsIf
set_option maxRecDepth 20000 in
theorem ggX9_nudge_X9_isBeyond : GoodIn wsX9_nudge wsX9_isBeyond := goodIn_r _ [17] (by decide +kernel) (by decide +kernel)
set_option maxRecDepth 20000 in
theorem gX9_nudge_X9_isBeyond : GoodIn wsX9_nudge (va_wsS RX9 191 yX9_isBeyond wsX9_isBeyond) := goodIn_app (goodIn_of _ (by decide +kernel)) ggX9_nudge_X9_isBeyond
set_option maxRecDepth 20000 in
theorem ggX9_nudge_X9_keeps : GoodIn wsX9_nudge wsX9_keeps := goodIn_r _ [21, 22, 23, 1, 24, 25, 5, 26, 27, 28, 29, 30, 31, 32, 33, 34, 35, 36, 37, 38, 39, 40, 41, 42, 43, 44, 45, 46, 47, 48] (by decide +kernel) (by decide +kernel)
set_option maxRecDepth 20000 in
theorem gX9_nudge_X9_keeps : GoodIn wsX9_nudge (wsV RX9 269 RX9 yX9_keeps wsX9_keeps) := goodIn_app (goodIn_of _ (by decide +kernel)) ggX9_nudge_X9_keeps
theorem dX9_nudge_0 : decode cX9_nudge 0 = .ok (.aload_n 0, 1) := by decide +kernel
theorem dX9_nudge_1 : decode cX9_nudge 1 = .ok (.iload_n 1, 1) := by decide +kernel
theorem dX9_nudge_2 : decode cX9_nudge 2 = .ok (.invokevirtual 231, 3) := by decide +kernel
theorem dX9_nudge_5 : decode cX9_nudge 5 = .ok (.ifCond .ne 29, 3) := by decide +kernel
theorem dX9_nudge_8 : decode cX9_nudge 8 = .ok (.aload_n 0, 1) := by decide +kernel
theorem dX9_nudge_9 : decode cX9_nudge 9 = .ok (.iload_n 2, 1) := by decide +kernel
theorem dX9_nudge_10 : decode cX9_nudge 10 = .ok (.sipush (-500), 3) := by decide +kernel
theorem dX9_nudge_13 : decode cX9_nudge 13 = .ok (.sipush 500, 3) := by decide +kernel
theorem dX9_nudge_16 : decode cX9_nudge 16 = .ok (.invokestatic 88, 3) := by decide +kernel
theorem dX9_nudge_19 : decode cX9_nudge 19 = .ok (.ifCond .ne 7, 3) := by decide +kernel
theorem dX9_nudge_22 : decode cX9_nudge 22 = .ok (.iconst 1, 1) := by decide +kernel
theorem dX9_nudge_23 : decode cX9_nudge 23 = .ok (.goto 4, 3) := by decide +kernel
theorem dX9_nudge_26 : decode cX9_nudge 26 = .ok (.iconst 0, 1) := by decide +kernel
theorem dX9_nudge_27 : decode cX9_nudge 27 = .ok (.iconst 2, 1) := by decide +kernel
theorem dX9_nudge_28 : decode cX9_nudge 28 = .ok (.invokevirtual 153, 3) := by decide +kernel
theorem dX9_nudge_31 : decode cX9_nudge 31 = .ok (.ifCond .eq 5, 3) := by decide +kernel
theorem dX9_nudge_34 : decode cX9_nudge 34 = .ok (.iconst 0, 1) := by decide +kernel
theorem dX9_nudge_35 : decode cX9_nudge 35 = .ok (.ireturn, 1) := by decide +kernel
theorem dX9_nudge_36 : decode cX9_nudge 36 = .ok (.aload_n 0, 1) := by decide +kernel
theorem dX9_nudge_37 : decode cX9_nudge 37 = .ok (.getfield 7, 3) := by decide +kernel
theorem dX9_nudge_40 : decode cX9_nudge 40 = .ok (.bipush 12, 2) := by decide +kernel
theorem dX9_nudge_42 : decode cX9_nudge 42 = .ok (.iload_n 1, 1) := by decide +kernel
theorem dX9_nudge_43 : decode cX9_nudge 43 = .ok (.iadd, 1) := by decide +kernel
theorem dX9_nudge_44 : decode cX9_nudge 44 = .ok (.iconst 1, 1) := by decide +kernel
theorem dX9_nudge_45 : decode cX9_nudge 45 = .ok (.isub, 1) := by decide +kernel
theorem dX9_nudge_46 : decode cX9_nudge 46 = .ok (.iaload, 1) := by decide +kernel
theorem dX9_nudge_47 : decode cX9_nudge 47 = .ok (.iload_n 2, 1) := by decide +kernel
theorem dX9_nudge_48 : decode cX9_nudge 48 = .ok (.iadd, 1) := by decide +kernel
theorem dX9_nudge_49 : decode cX9_nudge 49 = .ok (.istore_n 3, 1) := by decide +kernel
theorem dX9_nudge_50 : decode cX9_nudge 50 = .ok (.aload_n 0, 1) := by decide +kernel
theorem dX9_nudge_51 : decode cX9_nudge 51 = .ok (.aload_n 0, 1) := by decide +kernel
theorem dX9_nudge_52 : decode cX9_nudge 52 = .ok (.getfield 7, 3) := by decide +kernel
theorem dX9_nudge_55 : decode cX9_nudge 55 = .ok (.iconst 1, 1) := by decide +kernel
theorem dX9_nudge_56 : decode cX9_nudge 56 = .ok (.iaload, 1) := by decide +kernel
theorem dX9_nudge_57 : decode cX9_nudge 57 = .ok (.iconst 3, 1) := by decide +kernel
theorem dX9_nudge_58 : decode cX9_nudge 58 = .ok (.if_icmp .eq 13, 3) := by decide +kernel
theorem dX9_nudge_61 : decode cX9_nudge 61 = .ok (.iload_n 3, 1) := by decide +kernel
theorem dX9_nudge_62 : decode cX9_nudge 62 = .ok (.sipush 9999, 3) := by decide +kernel
theorem dX9_nudge_65 : decode cX9_nudge 65 = .ok (.invokestatic 191, 3) := by decide +kernel
theorem dX9_nudge_68 : decode cX9_nudge 68 = .ok (.ifCond .eq 7, 3) := by decide +kernel
theorem dX9_nudge_71 : decode cX9_nudge 71 = .ok (.iconst 1, 1) := by decide +kernel
theorem dX9_nudge_72 : decode cX9_nudge 72 = .ok (.goto 4, 3) := by decide +kernel
theorem dX9_nudge_75 : decode cX9_nudge 75 = .ok (.iconst 0, 1) := by decide +kernel
theorem dX9_nudge_76 : decode cX9_nudge 76 = .ok (.iconst 3, 1) := by decide +kernel
theorem dX9_nudge_77 : decode cX9_nudge 77 = .ok (.invokevirtual 153, 3) := by decide +kernel
theorem dX9_nudge_80 : decode cX9_nudge 80 = .ok (.ifCond .eq 5, 3) := by decide +kernel
theorem dX9_nudge_83 : decode cX9_nudge 83 = .ok (.iconst 0, 1) := by decide +kernel
theorem dX9_nudge_84 : decode cX9_nudge 84 = .ok (.ireturn, 1) := by decide +kernel
theorem dX9_nudge_85 : decode cX9_nudge 85 = .ok (.aload_n 0, 1) := by decide +kernel
theorem dX9_nudge_86 : decode cX9_nudge 86 = .ok (.invokevirtual 269, 3) := by decide +kernel
theorem dX9_nudge_89 : decode cX9_nudge 89 = .ok (.aload_n 0, 1) := by decide +kernel
theorem dX9_nudge_90 : decode cX9_nudge 90 = .ok (.getfield 7, 3) := by decide +kernel
theorem dX9_nudge_93 : decode cX9_nudge 93 = .ok (.bipush 12, 2) := by decide +kernel
theorem dX9_nudge_95 : decode cX9_nudge 95 = .ok (.iload_n 1, 1) := by decide +kernel
theorem dX9_nudge_96 : decode cX9_nudge 96 = .ok (.iadd, 1) := by decide +kernel
theorem dX9_nudge_97 : decode cX9_nudge 97 = .ok (.iconst 1, 1) := by decide +kernel
theorem dX9_nudge_98 : decode cX9_nudge 98 = .ok (.isub, 1) := by decide +kernel
theorem dX9_nudge_99 : decode cX9_nudge 99 = .ok (.iload_n 3, 1) := by decide +kernel
theorem dX9_nudge_100 : decode cX9_nudge 100 = .ok (.iastore, 1) := by decide +kernel
theorem dX9_nudge_101 : decode cX9_nudge 101 = .ok (.iload_n 3, 1) := by decide +kernel
theorem dX9_nudge_102 : decode cX9_nudge 102 = .ok (.ireturn, 1) := by decide +kernel
set_option maxRecDepth 20000 in
theorem ggX9_setForce_X9_within : GoodIn wsX9_setForce wsX9_within := goodIn_r _ [6] (by decide +kernel) (by decide +kernel)
set_option maxRecDepth 20000 in
theorem gX9_setForce_X9_within : GoodIn wsX9_setForce (va_wsS RX9 88 yX9_within wsX9_within) := goodIn_app (goodIn_of _ (by decide +kernel)) ggX9_setForce_X9_within
set_option maxRecDepth 20000 in
theorem ggX9_setForce_X9_throwsIf : GoodIn wsX9_setForce wsX9_throwsIf := goodIn_r _ [10, 1, 73, 74, 75, 76, 77, 78, 79, 80, 81, 82, 83, 84, 85, 86, 87, 88, 89, 90, 91, 92, 93, 94] (by decide +kernel) (by decide +kernel)
set_option maxRecDepth 20000 in
theorem gX9_setForce_X9_throwsIf : GoodIn wsX9_setForce (wsV RX9 153 RX9 yX9_throwsIf wsX9_throwsIf) := goodIn_app (goodIn_of _ (by decide +kernel)) ggX9_setForce_X9_throwsIf
set_option maxRecDepth 20000 in
theorem ggX9_setForce_X9_keeps : GoodIn wsX9_setForce wsX9_keeps := goodIn_r _ [14, 15, 16, 2, 17, 18, 5, 19, 73, 74, 75, 76, 77, 78, 79, 80, 81, 82, 83, 84, 85, 86, 87, 88, 89, 90, 91, 92, 93, 94] (by decide +kernel) (by decide +kernel)
set_option maxRecDepth 20000 in
theorem gX9_setForce_X9_keeps : GoodIn wsX9_setForce (wsV RX9 269 RX9 yX9_keeps wsX9_keeps) := goodIn_app (goodIn_of _ (by decide +kernel)) ggX9_setForce_X9_keeps
set_option maxRecDepth 20000 in
theorem ggX9_setForce_X9_cells : GoodIn wsX9_setForce wsX9_cells := goodIn_r _ [23, 24, 25, 26, 27, 28, 5, 29, 30, 2, 31, 32, 33, 34, 35, 36, 37, 38, 39, 40, 41, 42, 43, 44, 45, 46, 47, 48, 49, 50, 51, 52, 53, 54, 55, 56, 57, 58, 59, 60, 61, 62, 63, 64, 65, 66, 67, 68, 69, 70, 71, 72, 73, 74, 75, 76, 77, 78, 79, 80, 81, 82, 83, 84, 85, 86, 87, 88, 89, 90, 91, 92, 93, 94] (by decide +kernel) (by decide +kernel)
set_option maxRecDepth 20000 in
theorem gX9_setForce_X9_cells : GoodIn wsX9_setForce (wsV RX9 219 RX9 yX9_cells wsX9_cells) := goodIn_app (goodIn_of _ (by decide +kernel)) ggX9_setForce_X9_cells
theorem dX9_setForce_0 : decode cX9_setForce 0 = .ok (.aload_n 0, 1) := by decide +kernel
theorem dX9_setForce_1 : decode cX9_setForce 1 = .ok (.iconst 0, 1) := by decide +kernel
theorem dX9_setForce_2 : decode cX9_setForce 2 = .ok (.putfield 55, 3) := by decide +kernel
theorem dX9_setForce_5 : decode cX9_setForce 5 = .ok (.aload_n 0, 1) := by decide +kernel
theorem dX9_setForce_6 : decode cX9_setForce 6 = .ok (.iload_n 1, 1) := by decide +kernel
theorem dX9_setForce_7 : decode cX9_setForce 7 = .ok (.iconst 1, 1) := by decide +kernel
theorem dX9_setForce_8 : decode cX9_setForce 8 = .ok (.sipush 500, 3) := by decide +kernel
theorem dX9_setForce_11 : decode cX9_setForce 11 = .ok (.invokestatic 88, 3) := by decide +kernel
theorem dX9_setForce_14 : decode cX9_setForce 14 = .ok (.ifCond .ne 7, 3) := by decide +kernel
theorem dX9_setForce_17 : decode cX9_setForce 17 = .ok (.iconst 1, 1) := by decide +kernel
theorem dX9_setForce_18 : decode cX9_setForce 18 = .ok (.goto 4, 3) := by decide +kernel
theorem dX9_setForce_21 : decode cX9_setForce 21 = .ok (.iconst 0, 1) := by decide +kernel
theorem dX9_setForce_22 : decode cX9_setForce 22 = .ok (.iconst 1, 1) := by decide +kernel
theorem dX9_setForce_23 : decode cX9_setForce 23 = .ok (.invokevirtual 153, 3) := by decide +kernel
theorem dX9_setForce_26 : decode cX9_setForce 26 = .ok (.ifCond .eq 5, 3) := by decide +kernel
theorem dX9_setForce_29 : decode cX9_setForce 29 = .ok (.iconst 0, 1) := by decide +kernel
theorem dX9_setForce_30 : decode cX9_setForce 30 = .ok (.ireturn, 1) := by decide +kernel
theorem dX9_setForce_31 : decode cX9_setForce 31 = .ok (.aload_n 0, 1) := by decide +kernel
theorem dX9_setForce_32 : decode cX9_setForce 32 = .ok (.invokevirtual 269, 3) := by decide +kernel
theorem dX9_setForce_35 : decode cX9_setForce 35 = .ok (.aload_n 0, 1) := by decide +kernel
theorem dX9_setForce_36 : decode cX9_setForce 36 = .ok (.getfield 7, 3) := by decide +kernel
theorem dX9_setForce_39 : decode cX9_setForce 39 = .ok (.iconst 5, 1) := by decide +kernel
theorem dX9_setForce_40 : decode cX9_setForce 40 = .ok (.iload_n 1, 1) := by decide +kernel
theorem dX9_setForce_41 : decode cX9_setForce 41 = .ok (.iastore, 1) := by decide +kernel
theorem dX9_setForce_42 : decode cX9_setForce 42 = .ok (.aload_n 0, 1) := by decide +kernel
theorem dX9_setForce_43 : decode cX9_setForce 43 = .ok (.iconst 0, 1) := by decide +kernel
theorem dX9_setForce_44 : decode cX9_setForce 44 = .ok (.invokevirtual 219, 3) := by decide +kernel
theorem dX9_setForce_47 : decode cX9_setForce 47 = .ok (.ireturn, 1) := by decide +kernel
theorem dX9_copies_0 : decode cX9_copies 0 = .ok (.iconst 0, 1) := by decide +kernel
theorem dX9_copies_1 : decode cX9_copies 1 = .ok (.istore 5, 2) := by decide +kernel
theorem dX9_copies_3 : decode cX9_copies 3 = .ok (.iload 5, 2) := by decide +kernel
theorem dX9_copies_5 : decode cX9_copies 5 = .ok (.iload 4, 2) := by decide +kernel
theorem dX9_copies_7 : decode cX9_copies 7 = .ok (.if_icmp .ge 21, 3) := by decide +kernel
theorem dX9_copies_10 : decode cX9_copies 10 = .ok (.aload_n 2, 1) := by decide +kernel
theorem dX9_copies_11 : decode cX9_copies 11 = .ok (.iload_n 3, 1) := by decide +kernel
theorem dX9_copies_12 : decode cX9_copies 12 = .ok (.iload 5, 2) := by decide +kernel
theorem dX9_copies_14 : decode cX9_copies 14 = .ok (.iadd, 1) := by decide +kernel
theorem dX9_copies_15 : decode cX9_copies 15 = .ok (.aload_n 0, 1) := by decide +kernel
theorem dX9_copies_16 : decode cX9_copies 16 = .ok (.iload_n 1, 1) := by decide +kernel
theorem dX9_copies_17 : decode cX9_copies 17 = .ok (.iload 5, 2) := by decide +kernel
theorem dX9_copies_19 : decode cX9_copies 19 = .ok (.iadd, 1) := by decide +kernel
theorem dX9_copies_20 : decode cX9_copies 20 = .ok (.iaload, 1) := by decide +kernel
theorem dX9_copies_21 : decode cX9_copies 21 = .ok (.iastore, 1) := by decide +kernel
theorem dX9_copies_22 : decode cX9_copies 22 = .ok (.iinc 5 1, 3) := by decide +kernel
theorem dX9_copies_25 : decode cX9_copies 25 = .ok (.goto (-22), 3) := by decide +kernel
theorem dX9_copies_28 : decode cX9_copies 28 = .ok (.return_, 1) := by decide +kernel
set_option maxRecDepth 20000 in
theorem ggX9_keeps_X9_copies : GoodIn wsX9_keeps wsX9_copies := goodIn_r _ [7] (by decide +kernel) (by decide +kernel)
set_option maxRecDepth 20000 in
theorem gX9_keeps_X9_copies : GoodIn wsX9_keeps (va_wsS RX9 259 yX9_copies wsX9_copies) := goodIn_app (goodIn_of _ (by decide +kernel)) ggX9_keeps_X9_copies
theorem dX9_keeps_0 : decode cX9_keeps 0 = .ok (.aload_n 0, 1) := by decide +kernel
theorem dX9_keeps_1 : decode cX9_keeps 1 = .ok (.getfield 163, 3) := by decide +kernel
theorem dX9_keeps_4 : decode cX9_keeps 4 = .ok (.bipush 10, 2) := by decide +kernel
theorem dX9_keeps_6 : decode cX9_keeps 6 = .ok (.if_icmp .ne 36, 3) := by decide +kernel
theorem dX9_keeps_9 : decode cX9_keeps 9 = .ok (.aload_n 0, 1) := by decide +kernel
theorem dX9_keeps_10 : decode cX9_keeps 10 = .ok (.dup, 1) := by decide +kernel
theorem dX9_keeps_11 : decode cX9_keeps 11 = .ok (.getfield 163, 3) := by decide +kernel
theorem dX9_keeps_14 : decode cX9_keeps 14 = .ok (.iconst 1, 1) := by decide +kernel
theorem dX9_keeps_15 : decode cX9_keeps 15 = .ok (.isub, 1) := by decide +kernel
theorem dX9_keeps_16 : decode cX9_keeps 16 = .ok (.putfield 163, 3) := by decide +kernel
theorem dX9_keeps_19 : decode cX9_keeps 19 = .ok (.aload_n 0, 1) := by decide +kernel
theorem dX9_keeps_20 : decode cX9_keeps 20 = .ok (.getfield 36, 3) := by decide +kernel
theorem dX9_keeps_23 : decode cX9_keeps 23 = .ok (.sipush 214, 3) := by decide +kernel
theorem dX9_keeps_26 : decode cX9_keeps 26 = .ok (.aload_n 0, 1) := by decide +kernel
theorem dX9_keeps_27 : decode cX9_keeps 27 = .ok (.getfield 36, 3) := by decide +kernel
theorem dX9_keeps_30 : decode cX9_keeps 30 = .ok (.iconst 0, 1) := by decide +kernel
theorem dX9_keeps_31 : decode cX9_keeps 31 = .ok (.sipush 214, 3) := by decide +kernel
theorem dX9_keeps_34 : decode cX9_keeps 34 = .ok (.aload_n 0, 1) := by decide +kernel
theorem dX9_keeps_35 : decode cX9_keeps 35 = .ok (.getfield 163, 3) := by decide +kernel
theorem dX9_keeps_38 : decode cX9_keeps 38 = .ok (.imul, 1) := by decide +kernel
theorem dX9_keeps_39 : decode cX9_keeps 39 = .ok (.invokestatic 259, 3) := by decide +kernel
theorem dX9_keeps_42 : decode cX9_keeps 42 = .ok (.aload_n 0, 1) := by decide +kernel
theorem dX9_keeps_43 : decode cX9_keeps 43 = .ok (.getfield 7, 3) := by decide +kernel
theorem dX9_keeps_46 : decode cX9_keeps 46 = .ok (.iconst 0, 1) := by decide +kernel
theorem dX9_keeps_47 : decode cX9_keeps 47 = .ok (.aload_n 0, 1) := by decide +kernel
theorem dX9_keeps_48 : decode cX9_keeps 48 = .ok (.getfield 36, 3) := by decide +kernel
theorem dX9_keeps_51 : decode cX9_keeps 51 = .ok (.sipush 214, 3) := by decide +kernel
theorem dX9_keeps_54 : decode cX9_keeps 54 = .ok (.aload_n 0, 1) := by decide +kernel
theorem dX9_keeps_55 : decode cX9_keeps 55 = .ok (.getfield 163, 3) := by decide +kernel
theorem dX9_keeps_58 : decode cX9_keeps 58 = .ok (.imul, 1) := by decide +kernel
theorem dX9_keeps_59 : decode cX9_keeps 59 = .ok (.sipush 214, 3) := by decide +kernel
theorem dX9_keeps_62 : decode cX9_keeps 62 = .ok (.invokestatic 259, 3) := by decide +kernel
theorem dX9_keeps_65 : decode cX9_keeps 65 = .ok (.aload_n 0, 1) := by decide +kernel
theorem dX9_keeps_66 : decode cX9_keeps 66 = .ok (.dup, 1) := by decide +kernel
theorem dX9_keeps_67 : decode cX9_keeps 67 = .ok (.getfield 163, 3) := by decide +kernel
theorem dX9_keeps_70 : decode cX9_keeps 70 = .ok (.iconst 1, 1) := by decide +kernel
theorem dX9_keeps_71 : decode cX9_keeps 71 = .ok (.iadd, 1) := by decide +kernel
theorem dX9_keeps_72 : decode cX9_keeps 72 = .ok (.putfield 163, 3) := by decide +kernel
theorem dX9_keeps_75 : decode cX9_keeps 75 = .ok (.return_, 1) := by decide +kernel
set_option maxRecDepth 20000 in
theorem ggX9_undo_X9_copies : GoodIn wsX9_undo wsX9_copies := goodIn_r _ [8] (by decide +kernel) (by decide +kernel)
set_option maxRecDepth 20000 in
theorem gX9_undo_X9_copies : GoodIn wsX9_undo (va_wsS RX9 259 yX9_copies wsX9_copies) := goodIn_app (goodIn_of _ (by decide +kernel)) ggX9_undo_X9_copies
theorem dX9_undo_0 : decode cX9_undo 0 = .ok (.aload_n 0, 1) := by decide +kernel
theorem dX9_undo_1 : decode cX9_undo 1 = .ok (.iconst 0, 1) := by decide +kernel
theorem dX9_undo_2 : decode cX9_undo 2 = .ok (.putfield 55, 3) := by decide +kernel
theorem dX9_undo_5 : decode cX9_undo 5 = .ok (.aload_n 0, 1) := by decide +kernel
theorem dX9_undo_6 : decode cX9_undo 6 = .ok (.getfield 163, 3) := by decide +kernel
theorem dX9_undo_9 : decode cX9_undo 9 = .ok (.ifCond .ne 5, 3) := by decide +kernel
theorem dX9_undo_12 : decode cX9_undo 12 = .ok (.iconst (-1), 1) := by decide +kernel
theorem dX9_undo_13 : decode cX9_undo 13 = .ok (.ireturn, 1) := by decide +kernel
theorem dX9_undo_14 : decode cX9_undo 14 = .ok (.aload_n 0, 1) := by decide +kernel
theorem dX9_undo_15 : decode cX9_undo 15 = .ok (.dup, 1) := by decide +kernel
theorem dX9_undo_16 : decode cX9_undo 16 = .ok (.getfield 163, 3) := by decide +kernel
theorem dX9_undo_19 : decode cX9_undo 19 = .ok (.iconst 1, 1) := by decide +kernel
theorem dX9_undo_20 : decode cX9_undo 20 = .ok (.isub, 1) := by decide +kernel
theorem dX9_undo_21 : decode cX9_undo 21 = .ok (.putfield 163, 3) := by decide +kernel
theorem dX9_undo_24 : decode cX9_undo 24 = .ok (.aload_n 0, 1) := by decide +kernel
theorem dX9_undo_25 : decode cX9_undo 25 = .ok (.getfield 36, 3) := by decide +kernel
theorem dX9_undo_28 : decode cX9_undo 28 = .ok (.sipush 214, 3) := by decide +kernel
theorem dX9_undo_31 : decode cX9_undo 31 = .ok (.aload_n 0, 1) := by decide +kernel
theorem dX9_undo_32 : decode cX9_undo 32 = .ok (.getfield 163, 3) := by decide +kernel
theorem dX9_undo_35 : decode cX9_undo 35 = .ok (.imul, 1) := by decide +kernel
theorem dX9_undo_36 : decode cX9_undo 36 = .ok (.aload_n 0, 1) := by decide +kernel
theorem dX9_undo_37 : decode cX9_undo 37 = .ok (.getfield 7, 3) := by decide +kernel
theorem dX9_undo_40 : decode cX9_undo 40 = .ok (.iconst 0, 1) := by decide +kernel
theorem dX9_undo_41 : decode cX9_undo 41 = .ok (.sipush 214, 3) := by decide +kernel
theorem dX9_undo_44 : decode cX9_undo 44 = .ok (.invokestatic 259, 3) := by decide +kernel
theorem dX9_undo_47 : decode cX9_undo 47 = .ok (.aload_n 0, 1) := by decide +kernel
theorem dX9_undo_48 : decode cX9_undo 48 = .ok (.getfield 163, 3) := by decide +kernel
theorem dX9_undo_51 : decode cX9_undo 51 = .ok (.ireturn, 1) := by decide +kernel
set_option maxRecDepth 20000 in
theorem ggX9_noSlot_X9_within : GoodIn wsX9_noSlot wsX9_within := goodIn_r _ [5] (by decide +kernel) (by decide +kernel)
set_option maxRecDepth 20000 in
theorem gX9_noSlot_X9_within : GoodIn wsX9_noSlot (va_wsS RX9 88 yX9_within wsX9_within) := goodIn_app (goodIn_of _ (by decide +kernel)) ggX9_noSlot_X9_within
set_option maxRecDepth 20000 in
theorem ggX9_noSlot_X9_throwsIf : GoodIn wsX9_noSlot wsX9_throwsIf := goodIn_r _ [9, 1, 10, 11, 12, 13, 14, 15, 16, 17, 18, 19, 20, 21, 22, 23, 24, 25, 26, 27, 28, 29, 30, 31] (by decide +kernel) (by decide +kernel)
set_option maxRecDepth 20000 in
theorem gX9_noSlot_X9_throwsIf : GoodIn wsX9_noSlot (wsV RX9 153 RX9 yX9_throwsIf wsX9_throwsIf) := goodIn_app (goodIn_of _ (by decide +kernel)) ggX9_noSlot_X9_throwsIf
theorem dX9_noSlot_0 : decode cX9_noSlot 0 = .ok (.aload_n 0, 1) := by decide +kernel
theorem dX9_noSlot_1 : decode cX9_noSlot 1 = .ok (.iconst 0, 1) := by decide +kernel
theorem dX9_noSlot_2 : decode cX9_noSlot 2 = .ok (.putfield 55, 3) := by decide +kernel
theorem dX9_noSlot_5 : decode cX9_noSlot 5 = .ok (.aload_n 0, 1) := by decide +kernel
theorem dX9_noSlot_6 : decode cX9_noSlot 6 = .ok (.iload_n 1, 1) := by decide +kernel
theorem dX9_noSlot_7 : decode cX9_noSlot 7 = .ok (.iconst 0, 1) := by decide +kernel
theorem dX9_noSlot_8 : decode cX9_noSlot 8 = .ok (.iconst 1, 1) := by decide +kernel
theorem dX9_noSlot_9 : decode cX9_noSlot 9 = .ok (.invokestatic 88, 3) := by decide +kernel
theorem dX9_noSlot_12 : decode cX9_noSlot 12 = .ok (.ifCond .ne 7, 3) := by decide +kernel
theorem dX9_noSlot_15 : decode cX9_noSlot 15 = .ok (.iconst 1, 1) := by decide +kernel
theorem dX9_noSlot_16 : decode cX9_noSlot 16 = .ok (.goto 4, 3) := by decide +kernel
theorem dX9_noSlot_19 : decode cX9_noSlot 19 = .ok (.iconst 0, 1) := by decide +kernel
theorem dX9_noSlot_20 : decode cX9_noSlot 20 = .ok (.iconst 1, 1) := by decide +kernel
theorem dX9_noSlot_21 : decode cX9_noSlot 21 = .ok (.invokevirtual 153, 3) := by decide +kernel
theorem dX9_noSlot_24 : decode cX9_noSlot 24 = .ok (.ireturn, 1) := by decide +kernel
set_option maxRecDepth 20000 in
theorem ggX9_saveSnapshot_X9_noSlot : GoodIn wsX9_saveSnapshot wsX9_noSlot := goodIn_r _ [8, 9, 10, 11, 7, 12, 13, 14, 15, 16, 20, 21, 22, 23, 24, 25, 26, 27, 28, 29, 30, 31, 32, 33, 34, 35, 36, 37, 38, 39, 40, 41] (by decide +kernel) (by decide +kernel)
set_option maxRecDepth 20000 in
theorem gX9_saveSnapshot_X9_noSlot : GoodIn wsX9_saveSnapshot (wsV RX9 272 RX9 yX9_noSlot wsX9_noSlot) := goodIn_app (goodIn_of _ (by decide +kernel)) ggX9_saveSnapshot_X9_noSlot
set_option maxRecDepth 20000 in
theorem ggX9_saveSnapshot_X9_copies : GoodIn wsX9_saveSnapshot wsX9_copies := goodIn_r _ [19] (by decide +kernel) (by decide +kernel)
set_option maxRecDepth 20000 in
theorem gX9_saveSnapshot_X9_copies : GoodIn wsX9_saveSnapshot (va_wsS RX9 259 yX9_copies wsX9_copies) := goodIn_app (goodIn_of _ (by decide +kernel)) ggX9_saveSnapshot_X9_copies
theorem dX9_saveSnapshot_0 : decode cX9_saveSnapshot 0 = .ok (.aload_n 0, 1) := by decide +kernel
theorem dX9_saveSnapshot_1 : decode cX9_saveSnapshot 1 = .ok (.iload_n 1, 1) := by decide +kernel
theorem dX9_saveSnapshot_2 : decode cX9_saveSnapshot 2 = .ok (.invokevirtual 272, 3) := by decide +kernel
theorem dX9_saveSnapshot_5 : decode cX9_saveSnapshot 5 = .ok (.ifCond .eq 5, 3) := by decide +kernel
theorem dX9_saveSnapshot_8 : decode cX9_saveSnapshot 8 = .ok (.iconst 0, 1) := by decide +kernel
theorem dX9_saveSnapshot_9 : decode cX9_saveSnapshot 9 = .ok (.ireturn, 1) := by decide +kernel
theorem dX9_saveSnapshot_10 : decode cX9_saveSnapshot 10 = .ok (.aload_n 0, 1) := by decide +kernel
theorem dX9_saveSnapshot_11 : decode cX9_saveSnapshot 11 = .ok (.getfield 42, 3) := by decide +kernel
theorem dX9_saveSnapshot_14 : decode cX9_saveSnapshot 14 = .ok (.iload_n 1, 1) := by decide +kernel
theorem dX9_saveSnapshot_15 : decode cX9_saveSnapshot 15 = .ok (.baload, 1) := by decide +kernel
theorem dX9_saveSnapshot_16 : decode cX9_saveSnapshot 16 = .ok (.istore_n 2, 1) := by decide +kernel
theorem dX9_saveSnapshot_17 : decode cX9_saveSnapshot 17 = .ok (.aload_n 0, 1) := by decide +kernel
theorem dX9_saveSnapshot_18 : decode cX9_saveSnapshot 18 = .ok (.getfield 7, 3) := by decide +kernel
theorem dX9_saveSnapshot_21 : decode cX9_saveSnapshot 21 = .ok (.iconst 0, 1) := by decide +kernel
theorem dX9_saveSnapshot_22 : decode cX9_saveSnapshot 22 = .ok (.aload_n 0, 1) := by decide +kernel
theorem dX9_saveSnapshot_23 : decode cX9_saveSnapshot 23 = .ok (.getfield 39, 3) := by decide +kernel
theorem dX9_saveSnapshot_26 : decode cX9_saveSnapshot 26 = .ok (.sipush 214, 3) := by decide +kernel
theorem dX9_saveSnapshot_29 : decode cX9_saveSnapshot 29 = .ok (.iload_n 1, 1) := by decide +kernel
theorem dX9_saveSnapshot_30 : decode cX9_saveSnapshot 30 = .ok (.imul, 1) := by decide +kernel
theorem dX9_saveSnapshot_31 : decode cX9_saveSnapshot 31 = .ok (.sipush 214, 3) := by decide +kernel
theorem dX9_saveSnapshot_34 : decode cX9_saveSnapshot 34 = .ok (.invokestatic 259, 3) := by decide +kernel
theorem dX9_saveSnapshot_37 : decode cX9_saveSnapshot 37 = .ok (.aload_n 0, 1) := by decide +kernel
theorem dX9_saveSnapshot_38 : decode cX9_saveSnapshot 38 = .ok (.getfield 42, 3) := by decide +kernel
theorem dX9_saveSnapshot_41 : decode cX9_saveSnapshot 41 = .ok (.iload_n 1, 1) := by decide +kernel
theorem dX9_saveSnapshot_42 : decode cX9_saveSnapshot 42 = .ok (.iconst 1, 1) := by decide +kernel
theorem dX9_saveSnapshot_43 : decode cX9_saveSnapshot 43 = .ok (.bastore, 1) := by decide +kernel
theorem dX9_saveSnapshot_44 : decode cX9_saveSnapshot 44 = .ok (.iload_n 2, 1) := by decide +kernel
theorem dX9_saveSnapshot_45 : decode cX9_saveSnapshot 45 = .ok (.ireturn, 1) := by decide +kernel
set_option maxRecDepth 20000 in
theorem ggX9_restoreSnapshot_X9_noSlot : GoodIn wsX9_restoreSnapshot wsX9_noSlot := goodIn_r _ [9, 10, 11, 12, 8, 13, 14, 15, 16, 17, 21, 22, 23, 24, 25, 26, 27, 28, 29, 30, 31, 32, 33, 34, 35, 36, 37, 38, 39, 40, 41, 42] (by decide +kernel) (by decide +kernel)
set_option maxRecDepth 20000 in
theorem gX9_restoreSnapshot_X9_noSlot : GoodIn wsX9_restoreSnapshot (wsV RX9 272 RX9 yX9_noSlot wsX9_noSlot) := goodIn_app (goodIn_of _ (by decide +kernel)) ggX9_restoreSnapshot_X9_noSlot
set_option maxRecDepth 20000 in
theorem ggX9_restoreSnapshot_X9_throwsIf : GoodIn wsX9_restoreSnapshot wsX9_throwsIf := goodIn_r _ [17, 10, 21, 22, 23, 24, 25, 26, 27, 28, 29, 30, 31, 32, 33, 34, 35, 36, 37, 38, 39, 40, 41, 42] (by decide +kernel) (by decide +kernel)
set_option maxRecDepth 20000 in
theorem gX9_restoreSnapshot_X9_throwsIf : GoodIn wsX9_restoreSnapshot (wsV RX9 153 RX9 yX9_throwsIf wsX9_throwsIf) := goodIn_app (goodIn_of _ (by decide +kernel)) ggX9_restoreSnapshot_X9_throwsIf
set_option maxRecDepth 20000 in
theorem ggX9_restoreSnapshot_X9_copies : GoodIn wsX9_restoreSnapshot wsX9_copies := goodIn_r _ [20] (by decide +kernel) (by decide +kernel)
set_option maxRecDepth 20000 in
theorem gX9_restoreSnapshot_X9_copies : GoodIn wsX9_restoreSnapshot (va_wsS RX9 259 yX9_copies wsX9_copies) := goodIn_app (goodIn_of _ (by decide +kernel)) ggX9_restoreSnapshot_X9_copies
theorem dX9_restoreSnapshot_0 : decode cX9_restoreSnapshot 0 = .ok (.aload_n 0, 1) := by decide +kernel
theorem dX9_restoreSnapshot_1 : decode cX9_restoreSnapshot 1 = .ok (.iload_n 1, 1) := by decide +kernel
theorem dX9_restoreSnapshot_2 : decode cX9_restoreSnapshot 2 = .ok (.invokevirtual 272, 3) := by decide +kernel
theorem dX9_restoreSnapshot_5 : decode cX9_restoreSnapshot 5 = .ok (.ifCond .ne 25, 3) := by decide +kernel
theorem dX9_restoreSnapshot_8 : decode cX9_restoreSnapshot 8 = .ok (.aload_n 0, 1) := by decide +kernel
theorem dX9_restoreSnapshot_9 : decode cX9_restoreSnapshot 9 = .ok (.aload_n 0, 1) := by decide +kernel
theorem dX9_restoreSnapshot_10 : decode cX9_restoreSnapshot 10 = .ok (.getfield 42, 3) := by decide +kernel
theorem dX9_restoreSnapshot_13 : decode cX9_restoreSnapshot 13 = .ok (.iload_n 1, 1) := by decide +kernel
theorem dX9_restoreSnapshot_14 : decode cX9_restoreSnapshot 14 = .ok (.baload, 1) := by decide +kernel
theorem dX9_restoreSnapshot_15 : decode cX9_restoreSnapshot 15 = .ok (.ifCond .ne 7, 3) := by decide +kernel
theorem dX9_restoreSnapshot_18 : decode cX9_restoreSnapshot 18 = .ok (.iconst 1, 1) := by decide +kernel
theorem dX9_restoreSnapshot_19 : decode cX9_restoreSnapshot 19 = .ok (.goto 4, 3) := by decide +kernel
theorem dX9_restoreSnapshot_22 : decode cX9_restoreSnapshot 22 = .ok (.iconst 0, 1) := by decide +kernel
theorem dX9_restoreSnapshot_23 : decode cX9_restoreSnapshot 23 = .ok (.iconst 2, 1) := by decide +kernel
theorem dX9_restoreSnapshot_24 : decode cX9_restoreSnapshot 24 = .ok (.invokevirtual 153, 3) := by decide +kernel
theorem dX9_restoreSnapshot_27 : decode cX9_restoreSnapshot 27 = .ok (.ifCond .eq 5, 3) := by decide +kernel
theorem dX9_restoreSnapshot_30 : decode cX9_restoreSnapshot 30 = .ok (.iconst 0, 1) := by decide +kernel
theorem dX9_restoreSnapshot_31 : decode cX9_restoreSnapshot 31 = .ok (.ireturn, 1) := by decide +kernel
theorem dX9_restoreSnapshot_32 : decode cX9_restoreSnapshot 32 = .ok (.aload_n 0, 1) := by decide +kernel
theorem dX9_restoreSnapshot_33 : decode cX9_restoreSnapshot 33 = .ok (.getfield 39, 3) := by decide +kernel
theorem dX9_restoreSnapshot_36 : decode cX9_restoreSnapshot 36 = .ok (.sipush 214, 3) := by decide +kernel
theorem dX9_restoreSnapshot_39 : decode cX9_restoreSnapshot 39 = .ok (.iload_n 1, 1) := by decide +kernel
theorem dX9_restoreSnapshot_40 : decode cX9_restoreSnapshot 40 = .ok (.imul, 1) := by decide +kernel
theorem dX9_restoreSnapshot_41 : decode cX9_restoreSnapshot 41 = .ok (.aload_n 0, 1) := by decide +kernel
theorem dX9_restoreSnapshot_42 : decode cX9_restoreSnapshot 42 = .ok (.getfield 7, 3) := by decide +kernel
theorem dX9_restoreSnapshot_45 : decode cX9_restoreSnapshot 45 = .ok (.iconst 0, 1) := by decide +kernel
theorem dX9_restoreSnapshot_46 : decode cX9_restoreSnapshot 46 = .ok (.sipush 214, 3) := by decide +kernel
theorem dX9_restoreSnapshot_49 : decode cX9_restoreSnapshot 49 = .ok (.invokestatic 259, 3) := by decide +kernel
theorem dX9_restoreSnapshot_52 : decode cX9_restoreSnapshot 52 = .ok (.aload_n 0, 1) := by decide +kernel
theorem dX9_restoreSnapshot_53 : decode cX9_restoreSnapshot 53 = .ok (.iconst 0, 1) := by decide +kernel
theorem dX9_restoreSnapshot_54 : decode cX9_restoreSnapshot 54 = .ok (.putfield 163, 3) := by decide +kernel
theorem dX9_restoreSnapshot_57 : decode cX9_restoreSnapshot 57 = .ok (.aload_n 0, 1) := by decide +kernel
theorem dX9_restoreSnapshot_58 : decode cX9_restoreSnapshot 58 = .ok (.getfield 7, 3) := by decide +kernel
theorem dX9_restoreSnapshot_61 : decode cX9_restoreSnapshot 61 = .ok (.iconst 0, 1) := by decide +kernel
theorem dX9_restoreSnapshot_62 : decode cX9_restoreSnapshot 62 = .ok (.iaload, 1) := by decide +kernel
theorem dX9_restoreSnapshot_63 : decode cX9_restoreSnapshot 63 = .ok (.ireturn, 1) := by decide +kernel
theorem dJ13_bitCount_95d88_0 : decode cJ13_bitCount_95d88 0 = .ok (.lload_n 0, 1) := by decide +kernel
theorem dJ13_bitCount_95d88_1 : decode cJ13_bitCount_95d88 1 = .ok (.lload_n 0, 1) := by decide +kernel
theorem dJ13_bitCount_95d88_2 : decode cJ13_bitCount_95d88 2 = .ok (.iconst 1, 1) := by decide +kernel
theorem dJ13_bitCount_95d88_3 : decode cJ13_bitCount_95d88 3 = .ok (.lushr, 1) := by decide +kernel
theorem dJ13_bitCount_95d88_4 : decode cJ13_bitCount_95d88 4 = .ok (.ldc2_w 314, 3) := by decide +kernel
theorem dJ13_bitCount_95d88_7 : decode cJ13_bitCount_95d88 7 = .ok (.land, 1) := by decide +kernel
theorem dJ13_bitCount_95d88_8 : decode cJ13_bitCount_95d88 8 = .ok (.lsub, 1) := by decide +kernel
theorem dJ13_bitCount_95d88_9 : decode cJ13_bitCount_95d88 9 = .ok (.lstore_n 0, 1) := by decide +kernel
theorem dJ13_bitCount_95d88_10 : decode cJ13_bitCount_95d88 10 = .ok (.lload_n 0, 1) := by decide +kernel
theorem dJ13_bitCount_95d88_11 : decode cJ13_bitCount_95d88 11 = .ok (.ldc2_w 316, 3) := by decide +kernel
theorem dJ13_bitCount_95d88_14 : decode cJ13_bitCount_95d88 14 = .ok (.land, 1) := by decide +kernel
theorem dJ13_bitCount_95d88_15 : decode cJ13_bitCount_95d88 15 = .ok (.lload_n 0, 1) := by decide +kernel
theorem dJ13_bitCount_95d88_16 : decode cJ13_bitCount_95d88 16 = .ok (.iconst 2, 1) := by decide +kernel
theorem dJ13_bitCount_95d88_17 : decode cJ13_bitCount_95d88 17 = .ok (.lushr, 1) := by decide +kernel
theorem dJ13_bitCount_95d88_18 : decode cJ13_bitCount_95d88 18 = .ok (.ldc2_w 316, 3) := by decide +kernel
theorem dJ13_bitCount_95d88_21 : decode cJ13_bitCount_95d88 21 = .ok (.land, 1) := by decide +kernel
theorem dJ13_bitCount_95d88_22 : decode cJ13_bitCount_95d88 22 = .ok (.ladd, 1) := by decide +kernel
theorem dJ13_bitCount_95d88_23 : decode cJ13_bitCount_95d88 23 = .ok (.lstore_n 0, 1) := by decide +kernel
theorem dJ13_bitCount_95d88_24 : decode cJ13_bitCount_95d88 24 = .ok (.lload_n 0, 1) := by decide +kernel
theorem dJ13_bitCount_95d88_25 : decode cJ13_bitCount_95d88 25 = .ok (.lload_n 0, 1) := by decide +kernel
theorem dJ13_bitCount_95d88_26 : decode cJ13_bitCount_95d88 26 = .ok (.iconst 4, 1) := by decide +kernel
theorem dJ13_bitCount_95d88_27 : decode cJ13_bitCount_95d88 27 = .ok (.lushr, 1) := by decide +kernel
theorem dJ13_bitCount_95d88_28 : decode cJ13_bitCount_95d88 28 = .ok (.ladd, 1) := by decide +kernel
theorem dJ13_bitCount_95d88_29 : decode cJ13_bitCount_95d88 29 = .ok (.ldc2_w 318, 3) := by decide +kernel
theorem dJ13_bitCount_95d88_32 : decode cJ13_bitCount_95d88 32 = .ok (.land, 1) := by decide +kernel
theorem dJ13_bitCount_95d88_33 : decode cJ13_bitCount_95d88 33 = .ok (.lstore_n 0, 1) := by decide +kernel
theorem dJ13_bitCount_95d88_34 : decode cJ13_bitCount_95d88 34 = .ok (.lload_n 0, 1) := by decide +kernel
theorem dJ13_bitCount_95d88_35 : decode cJ13_bitCount_95d88 35 = .ok (.lload_n 0, 1) := by decide +kernel
theorem dJ13_bitCount_95d88_36 : decode cJ13_bitCount_95d88 36 = .ok (.bipush 8, 2) := by decide +kernel
theorem dJ13_bitCount_95d88_38 : decode cJ13_bitCount_95d88 38 = .ok (.lushr, 1) := by decide +kernel
theorem dJ13_bitCount_95d88_39 : decode cJ13_bitCount_95d88 39 = .ok (.ladd, 1) := by decide +kernel
theorem dJ13_bitCount_95d88_40 : decode cJ13_bitCount_95d88 40 = .ok (.lstore_n 0, 1) := by decide +kernel
theorem dJ13_bitCount_95d88_41 : decode cJ13_bitCount_95d88 41 = .ok (.lload_n 0, 1) := by decide +kernel
theorem dJ13_bitCount_95d88_42 : decode cJ13_bitCount_95d88 42 = .ok (.lload_n 0, 1) := by decide +kernel
theorem dJ13_bitCount_95d88_43 : decode cJ13_bitCount_95d88 43 = .ok (.bipush 16, 2) := by decide +kernel
theorem dJ13_bitCount_95d88_45 : decode cJ13_bitCount_95d88 45 = .ok (.lushr, 1) := by decide +kernel
theorem dJ13_bitCount_95d88_46 : decode cJ13_bitCount_95d88 46 = .ok (.ladd, 1) := by decide +kernel
theorem dJ13_bitCount_95d88_47 : decode cJ13_bitCount_95d88 47 = .ok (.lstore_n 0, 1) := by decide +kernel
theorem dJ13_bitCount_95d88_48 : decode cJ13_bitCount_95d88 48 = .ok (.lload_n 0, 1) := by decide +kernel
theorem dJ13_bitCount_95d88_49 : decode cJ13_bitCount_95d88 49 = .ok (.lload_n 0, 1) := by decide +kernel
theorem dJ13_bitCount_95d88_50 : decode cJ13_bitCount_95d88 50 = .ok (.bipush 32, 2) := by decide +kernel
theorem dJ13_bitCount_95d88_52 : decode cJ13_bitCount_95d88 52 = .ok (.lushr, 1) := by decide +kernel
theorem dJ13_bitCount_95d88_53 : decode cJ13_bitCount_95d88 53 = .ok (.ladd, 1) := by decide +kernel
theorem dJ13_bitCount_95d88_54 : decode cJ13_bitCount_95d88 54 = .ok (.lstore_n 0, 1) := by decide +kernel
theorem dJ13_bitCount_95d88_55 : decode cJ13_bitCount_95d88 55 = .ok (.lload_n 0, 1) := by decide +kernel
theorem dJ13_bitCount_95d88_56 : decode cJ13_bitCount_95d88 56 = .ok (.l2i, 1) := by decide +kernel
theorem dJ13_bitCount_95d88_57 : decode cJ13_bitCount_95d88 57 = .ok (.bipush 127, 2) := by decide +kernel
theorem dJ13_bitCount_95d88_59 : decode cJ13_bitCount_95d88 59 = .ok (.iand, 1) := by decide +kernel
theorem dJ13_bitCount_95d88_60 : decode cJ13_bitCount_95d88 60 = .ok (.ireturn, 1) := by decide +kernel
theorem dJ9_floorDiv_7cf53_0 : decode cJ9_floorDiv_7cf53 0 = .ok (.iload_n 0, 1) := by decide +kernel
theorem dJ9_floorDiv_7cf53_1 : decode cJ9_floorDiv_7cf53 1 = .ok (.iload_n 1, 1) := by decide +kernel
theorem dJ9_floorDiv_7cf53_2 : decode cJ9_floorDiv_7cf53 2 = .ok (.idiv, 1) := by decide +kernel
theorem dJ9_floorDiv_7cf53_3 : decode cJ9_floorDiv_7cf53 3 = .ok (.istore_n 2, 1) := by decide +kernel
theorem dJ9_floorDiv_7cf53_4 : decode cJ9_floorDiv_7cf53 4 = .ok (.iload_n 0, 1) := by decide +kernel
theorem dJ9_floorDiv_7cf53_5 : decode cJ9_floorDiv_7cf53 5 = .ok (.iload_n 1, 1) := by decide +kernel
theorem dJ9_floorDiv_7cf53_6 : decode cJ9_floorDiv_7cf53 6 = .ok (.ixor, 1) := by decide +kernel
theorem dJ9_floorDiv_7cf53_7 : decode cJ9_floorDiv_7cf53 7 = .ok (.ifCond .ge 14, 3) := by decide +kernel
theorem dJ9_floorDiv_7cf53_10 : decode cJ9_floorDiv_7cf53 10 = .ok (.iload_n 2, 1) := by decide +kernel
theorem dJ9_floorDiv_7cf53_11 : decode cJ9_floorDiv_7cf53 11 = .ok (.iload_n 1, 1) := by decide +kernel
theorem dJ9_floorDiv_7cf53_12 : decode cJ9_floorDiv_7cf53 12 = .ok (.imul, 1) := by decide +kernel
theorem dJ9_floorDiv_7cf53_13 : decode cJ9_floorDiv_7cf53 13 = .ok (.iload_n 0, 1) := by decide +kernel
theorem dJ9_floorDiv_7cf53_14 : decode cJ9_floorDiv_7cf53 14 = .ok (.if_icmp .eq 7, 3) := by decide +kernel
theorem dJ9_floorDiv_7cf53_17 : decode cJ9_floorDiv_7cf53 17 = .ok (.iload_n 2, 1) := by decide +kernel
theorem dJ9_floorDiv_7cf53_18 : decode cJ9_floorDiv_7cf53 18 = .ok (.iconst 1, 1) := by decide +kernel
theorem dJ9_floorDiv_7cf53_19 : decode cJ9_floorDiv_7cf53 19 = .ok (.isub, 1) := by decide +kernel
theorem dJ9_floorDiv_7cf53_20 : decode cJ9_floorDiv_7cf53 20 = .ok (.ireturn, 1) := by decide +kernel
theorem dJ9_floorDiv_7cf53_21 : decode cJ9_floorDiv_7cf53 21 = .ok (.iload_n 2, 1) := by decide +kernel
theorem dJ9_floorDiv_7cf53_22 : decode cJ9_floorDiv_7cf53 22 = .ok (.ireturn, 1) := by decide +kernel
theorem dJ9_abs_0f7a4_0 : decode cJ9_abs_0f7a4 0 = .ok (.iload_n 0, 1) := by decide +kernel
theorem dJ9_abs_0f7a4_1 : decode cJ9_abs_0f7a4 1 = .ok (.ifCond .ge 8, 3) := by decide +kernel
theorem dJ9_abs_0f7a4_4 : decode cJ9_abs_0f7a4 4 = .ok (.iload_n 0, 1) := by decide +kernel
theorem dJ9_abs_0f7a4_5 : decode cJ9_abs_0f7a4 5 = .ok (.ineg, 1) := by decide +kernel
theorem dJ9_abs_0f7a4_6 : decode cJ9_abs_0f7a4 6 = .ok (.goto 4, 3) := by decide +kernel
theorem dJ9_abs_0f7a4_9 : decode cJ9_abs_0f7a4 9 = .ok (.iload_n 0, 1) := by decide +kernel
theorem dJ9_abs_0f7a4_10 : decode cJ9_abs_0f7a4 10 = .ok (.ireturn, 1) := by decide +kernel
theorem dJ9_max_7cf53_0 : decode cJ9_max_7cf53 0 = .ok (.iload_n 0, 1) := by decide +kernel
theorem dJ9_max_7cf53_1 : decode cJ9_max_7cf53 1 = .ok (.iload_n 1, 1) := by decide +kernel
theorem dJ9_max_7cf53_2 : decode cJ9_max_7cf53 2 = .ok (.if_icmp .lt 7, 3) := by decide +kernel
theorem dJ9_max_7cf53_5 : decode cJ9_max_7cf53 5 = .ok (.iload_n 0, 1) := by decide +kernel
theorem dJ9_max_7cf53_6 : decode cJ9_max_7cf53 6 = .ok (.goto 4, 3) := by decide +kernel
theorem dJ9_max_7cf53_9 : decode cJ9_max_7cf53 9 = .ok (.iload_n 1, 1) := by decide +kernel
theorem dJ9_max_7cf53_10 : decode cJ9_max_7cf53 10 = .ok (.ireturn, 1) := by decide +kernel
theorem dJ9_min_7cf53_0 : decode cJ9_min_7cf53 0 = .ok (.iload_n 0, 1) := by decide +kernel
theorem dJ9_min_7cf53_1 : decode cJ9_min_7cf53 1 = .ok (.iload_n 1, 1) := by decide +kernel
theorem dJ9_min_7cf53_2 : decode cJ9_min_7cf53 2 = .ok (.if_icmp .gt 7, 3) := by decide +kernel
theorem dJ9_min_7cf53_5 : decode cJ9_min_7cf53 5 = .ok (.iload_n 0, 1) := by decide +kernel
theorem dJ9_min_7cf53_6 : decode cJ9_min_7cf53 6 = .ok (.goto 4, 3) := by decide +kernel
theorem dJ9_min_7cf53_9 : decode cJ9_min_7cf53 9 = .ok (.iload_n 1, 1) := by decide +kernel
theorem dJ9_min_7cf53_10 : decode cJ9_min_7cf53 10 = .ok (.ireturn, 1) := by decide +kernel
set_option maxRecDepth 20000 in
theorem ggJ0_length_8abf5_J0_coder_7d493 : GoodIn wsJ0_length_8abf5 wsJ0_coder_7d493 := goodIn_r _ [6, 7, 8] (by decide +kernel) (by decide +kernel)
set_option maxRecDepth 20000 in
theorem gJ0_length_8abf5_J0_coder_7d493 : GoodIn wsJ0_length_8abf5 (wsV RJ0 335 RJ0 yJ0_coder_7d493 wsJ0_coder_7d493) := goodIn_app (goodIn_of _ (by decide +kernel)) ggJ0_length_8abf5_J0_coder_7d493
theorem dJ0_length_8abf5_0 : decode cJ0_length_8abf5 0 = .ok (.aload_n 0, 1) := by decide +kernel
theorem dJ0_length_8abf5_1 : decode cJ0_length_8abf5 1 = .ok (.getfield 9, 3) := by decide +kernel
theorem dJ0_length_8abf5_4 : decode cJ0_length_8abf5 4 = .ok (.arraylength, 1) := by decide +kernel
theorem dJ0_length_8abf5_5 : decode cJ0_length_8abf5 5 = .ok (.aload_n 0, 1) := by decide +kernel
theorem dJ0_length_8abf5_6 : decode cJ0_length_8abf5 6 = .ok (.invokevirtual 335, 3) := by decide +kernel
theorem dJ0_length_8abf5_9 : decode cJ0_length_8abf5 9 = .ok (.ishr, 1) := by decide +kernel
theorem dJ0_length_8abf5_10 : decode cJ0_length_8abf5 10 = .ok (.ireturn, 1) := by decide +kernel
set_option maxRecDepth 20000 in
theorem ggJ0_charAt_5068e_J0_isLatin1_aae02 : GoodIn wsJ0_charAt_5068e wsJ0_isLatin1_aae02 := goodIn_r _ [6, 7, 8] (by decide +kernel) (by decide +kernel)
set_option maxRecDepth 20000 in
theorem gJ0_charAt_5068e_J0_isLatin1_aae02 : GoodIn wsJ0_charAt_5068e (wsV RJ0 492 RJ0 yJ0_isLatin1_aae02 wsJ0_isLatin1_aae02) := goodIn_app (goodIn_of _ (by decide +kernel)) ggJ0_charAt_5068e_J0_isLatin1_aae02
set_option maxRecDepth 20000 in
theorem ggJ0_charAt_5068e_J1_charAt_3b067 : GoodIn wsJ0_charAt_5068e wsJ1_charAt_3b067 := goodIn_r _ [12, 13, 14, 5, 15, 16, 17, 18, 19, 20] (by decide +kernel) (by decide +kernel)
set_option maxRecDepth 20000 in
theorem gJ0_charAt_5068e_J1_charAt_3b067 : GoodIn wsJ0_charAt_5068e (va_wsS RJ0 495 yJ1_charAt_3b067 wsJ1_charAt_3b067) := goodIn_app (goodIn_of _ (by decide +kernel)) ggJ0_charAt_5068e_J1_charAt_3b067
set_option maxRecDepth 20000 in
theorem ggJ0_charAt_5068e_J2_charAt_3b067 : GoodIn wsJ0_charAt_5068e wsJ2_charAt_3b067 := goodIn_r _ [24, 25, 26, 23, 27, 28, 29, 30, 31, 14, 5, 15, 16, 17, 18, 19, 20, 32, 33, 34, 35, 36, 37] (by decide +kernel) (by decide +kernel)
set_option maxRecDepth 20000 in
theorem gJ0_charAt_5068e_J2_charAt_3b067 : GoodIn wsJ0_charAt_5068e (va_wsS RJ0 498 yJ2_charAt_3b067 wsJ2_charAt_3b067) := goodIn_app (goodIn_of _ (by decide +kernel)) ggJ0_charAt_5068e_J2_charAt_3b067
theorem dJ0_charAt_5068e_0 : decode cJ0_charAt_5068e 0 = .ok (.aload_n 0, 1) := by decide +kernel
theorem dJ0_charAt_5068e_1 : decode cJ0_charAt_5068e 1 = .ok (.invokevirtual 492, 3) := by decide +kernel
theorem dJ0_charAt_5068e_4 : decode cJ0_charAt_5068e 4 = .ok (.ifCond .eq 12, 3) := by decide +kernel
theorem dJ0_charAt_5068e_7 : decode cJ0_charAt_5068e 7 = .ok (.aload_n 0, 1) := by decide +kernel
theorem dJ0_charAt_5068e_8 : decode cJ0_charAt_5068e 8 = .ok (.getfield 9, 3) := by decide +kernel
theorem dJ0_charAt_5068e_11 : decode cJ0_charAt_5068e 11 = .ok (.iload_n 1, 1) := by decide +kernel
theorem dJ0_charAt_5068e_12 : decode cJ0_charAt_5068e 12 = .ok (.invokestatic 495, 3) := by decide +kernel
theorem dJ0_charAt_5068e_15 : decode cJ0_charAt_5068e 15 = .ok (.ireturn, 1) := by decide +kernel
theorem dJ0_charAt_5068e_16 : decode cJ0_charAt_5068e 16 = .ok (.aload_n 0, 1) := by decide +kernel
theorem dJ0_charAt_5068e_17 : decode cJ0_charAt_5068e 17 = .ok (.getfield 9, 3) := by decide +kernel
theorem dJ0_charAt_5068e_20 : decode cJ0_charAt_5068e 20 = .ok (.iload_n 1, 1) := by decide +kernel
theorem dJ0_charAt_5068e_21 : decode cJ0_charAt_5068e 21 = .ok (.invokestatic 498, 3) := by decide +kernel
theorem dJ0_charAt_5068e_24 : decode cJ0_charAt_5068e 24 = .ok (.ireturn, 1) := by decide +kernel
theorem dJ0_coder_7d493_0 : decode cJ0_coder_7d493 0 = .ok (.getstatic 38, 3) := by decide +kernel
theorem dJ0_coder_7d493_3 : decode cJ0_coder_7d493 3 = .ok (.ifCond .eq 10, 3) := by decide +kernel
theorem dJ0_coder_7d493_6 : decode cJ0_coder_7d493 6 = .ok (.aload_n 0, 1) := by decide +kernel
theorem dJ0_coder_7d493_7 : decode cJ0_coder_7d493 7 = .ok (.getfield 15, 3) := by decide +kernel
theorem dJ0_coder_7d493_10 : decode cJ0_coder_7d493 10 = .ok (.goto 4, 3) := by decide +kernel
theorem dJ0_coder_7d493_13 : decode cJ0_coder_7d493 13 = .ok (.iconst 1, 1) := by decide +kernel
theorem dJ0_coder_7d493_14 : decode cJ0_coder_7d493 14 = .ok (.ireturn, 1) := by decide +kernel
theorem dJ0_isLatin1_aae02_0 : decode cJ0_isLatin1_aae02 0 = .ok (.getstatic 38, 3) := by decide +kernel
theorem dJ0_isLatin1_aae02_3 : decode cJ0_isLatin1_aae02 3 = .ok (.ifCond .eq 14, 3) := by decide +kernel
theorem dJ0_isLatin1_aae02_6 : decode cJ0_isLatin1_aae02 6 = .ok (.aload_n 0, 1) := by decide +kernel
theorem dJ0_isLatin1_aae02_7 : decode cJ0_isLatin1_aae02 7 = .ok (.getfield 15, 3) := by decide +kernel
theorem dJ0_isLatin1_aae02_10 : decode cJ0_isLatin1_aae02 10 = .ok (.ifCond .ne 7, 3) := by decide +kernel
theorem dJ0_isLatin1_aae02_13 : decode cJ0_isLatin1_aae02 13 = .ok (.iconst 1, 1) := by decide +kernel
theorem dJ0_isLatin1_aae02_14 : decode cJ0_isLatin1_aae02 14 = .ok (.goto 4, 3) := by decide +kernel
theorem dJ0_isLatin1_aae02_17 : decode cJ0_isLatin1_aae02 17 = .ok (.iconst 0, 1) := by decide +kernel
theorem dJ0_isLatin1_aae02_18 : decode cJ0_isLatin1_aae02 18 = .ok (.ireturn, 1) := by decide +kernel
set_option maxRecDepth 20000 in
theorem ggJ0_checkIndex_df160_J3_checkIndex_8e157 : GoodIn wsJ0_checkIndex_df160 wsJ3_checkIndex_8e157 := goodIn_r _ [5] (by decide +kernel) (by decide +kernel)
set_option maxRecDepth 20000 in
theorem gJ0_checkIndex_df160_J3_checkIndex_8e157 : GoodIn wsJ0_checkIndex_df160 (va_wsS RJ0 1059 yJ3_checkIndex_8e157 wsJ3_checkIndex_8e157) := goodIn_app (goodIn_of _ (by decide +kernel)) ggJ0_checkIndex_df160_J3_checkIndex_8e157
theorem dJ0_checkIndex_df160_0 : decode cJ0_checkIndex_df160 0 = .ok (.iload_n 0, 1) := by decide +kernel
theorem dJ0_checkIndex_df160_1 : decode cJ0_checkIndex_df160 1 = .ok (.iload_n 1, 1) := by decide +kernel
theorem dJ0_checkIndex_df160_2 : decode cJ0_checkIndex_df160 2 = .ok (.getstatic 1053, 3) := by decide +kernel
theorem dJ0_checkIndex_df160_5 : decode cJ0_checkIndex_df160 5 = .ok (.invokestatic 1059, 3) := by decide +kernel
theorem dJ0_checkIndex_df160_8 : decode cJ0_checkIndex_df160 8 = .ok (.pop, 1) := by decide +kernel
theorem dJ0_checkIndex_df160_9 : decode cJ0_checkIndex_df160 9 = .ok (.return_, 1) := by decide +kernel
set_option maxRecDepth 20000 in
theorem ggJ1_charAt_3b067_J0_checkIndex_df160 : GoodIn wsJ1_charAt_3b067 wsJ0_checkIndex_df160 := goodIn_r _ [4, 5, 6, 7, 8, 9] (by decide +kernel) (by decide +kernel)
set_option maxRecDepth 20000 in
theorem gJ1_charAt_3b067_J0_checkIndex_df160 : GoodIn wsJ1_charAt_3b067 (va_wsS RJ1 9 yJ0_checkIndex_df160 wsJ0_checkIndex_df160) := goodIn_app (goodIn_of _ (by decide +kernel)) ggJ1_charAt_3b067_J0_checkIndex_df160
theorem dJ1_charAt_3b067_0 : decode cJ1_charAt_3b067 0 = .ok (.iload_n 1, 1) := by decide +kernel
theorem dJ1_charAt_3b067_1 : decode cJ1_charAt_3b067 1 = .ok (.aload_n 0, 1) := by decide +kernel
theorem dJ1_charAt_3b067_2 : decode cJ1_charAt_3b067 2 = .ok (.arraylength, 1) := by decide +kernel
theorem dJ1_charAt_3b067_3 : decode cJ1_charAt_3b067 3 = .ok (.invokestatic 9, 3) := by decide +kernel
theorem dJ1_charAt_3b067_6 : decode cJ1_charAt_3b067 6 = .ok (.aload_n 0, 1) := by decide +kernel
theorem dJ1_charAt_3b067_7 : decode cJ1_charAt_3b067 7 = .ok (.iload_n 1, 1) := by decide +kernel
theorem dJ1_charAt_3b067_8 : decode cJ1_charAt_3b067 8 = .ok (.baload, 1) := by decide +kernel
theorem dJ1_charAt_3b067_9 : decode cJ1_charAt_3b067 9 = .ok (.sipush 255, 3) := by decide +kernel
theorem dJ1_charAt_3b067_12 : decode cJ1_charAt_3b067 12 = .ok (.iand, 1) := by decide +kernel
theorem dJ1_charAt_3b067_13 : decode cJ1_charAt_3b067 13 = .ok (.i2c, 1) := by decide +kernel
theorem dJ1_charAt_3b067_14 : decode cJ1_charAt_3b067 14 = .ok (.ireturn, 1) := by decide +kernel
set_option maxRecDepth 20000 in
theorem ggJ2_getChar_3b067_J2_length_9d52b : GoodIn wsJ2_getChar_3b067 wsJ2_length_9d52b := goodIn_r _ [7] (by decide +kernel) (by decide +kernel)
set_option maxRecDepth 20000 in
theorem gJ2_getChar_3b067_J2_length_9d52b : GoodIn wsJ2_getChar_3b067 (va_wsS RJ2 48 yJ2_length_9d52b wsJ2_length_9d52b) := goodIn_app (goodIn_of _ (by decide +kernel)) ggJ2_getChar_3b067_J2_length_9d52b
theorem dJ2_getChar_3b067_0 : decode cJ2_getChar_3b067 0 = .ok (.getstatic 44, 3) := by decide +kernel
theorem dJ2_getChar_3b067_3 : decode cJ2_getChar_3b067 3 = .ok (.ifCond .ne 25, 3) := by decide +kernel
theorem dJ2_getChar_3b067_6 : decode cJ2_getChar_3b067 6 = .ok (.iload_n 1, 1) := by decide +kernel
theorem dJ2_getChar_3b067_7 : decode cJ2_getChar_3b067 7 = .ok (.ifCond .lt 11, 3) := by decide +kernel
theorem dJ2_getChar_3b067_10 : decode cJ2_getChar_3b067 10 = .ok (.iload_n 1, 1) := by decide +kernel
theorem dJ2_getChar_3b067_11 : decode cJ2_getChar_3b067 11 = .ok (.aload_n 0, 1) := by decide +kernel
theorem dJ2_getChar_3b067_12 : decode cJ2_getChar_3b067 12 = .ok (.invokestatic 48, 3) := by decide +kernel
theorem dJ2_getChar_3b067_15 : decode cJ2_getChar_3b067 15 = .ok (.if_icmp .lt 13, 3) := by decide +kernel
theorem dJ2_getChar_3b067_18 : decode cJ2_getChar_3b067 18 = .ok (.new 52, 3) := by decide +kernel
theorem dJ2_getChar_3b067_21 : decode cJ2_getChar_3b067 21 = .ok (.dup, 1) := by decide +kernel
theorem dJ2_getChar_3b067_22 : decode cJ2_getChar_3b067 22 = .ok (.ldc 54, 2) := by decide +kernel
theorem dJ2_getChar_3b067_24 : decode cJ2_getChar_3b067 24 = .ok (.invokespecial 56, 3) := by decide +kernel
theorem dJ2_getChar_3b067_27 : decode cJ2_getChar_3b067 27 = .ok (.athrow, 1) := by decide +kernel
theorem dJ2_getChar_3b067_28 : decode cJ2_getChar_3b067 28 = .ok (.iload_n 1, 1) := by decide +kernel
theorem dJ2_getChar_3b067_29 : decode cJ2_getChar_3b067 29 = .ok (.iconst 1, 1) := by decide +kernel
theorem dJ2_getChar_3b067_30 : decode cJ2_getChar_3b067 30 = .ok (.ishl, 1) := by decide +kernel
theorem dJ2_getChar_3b067_31 : decode cJ2_getChar_3b067 31 = .ok (.istore_n 1, 1) := by decide +kernel
theorem dJ2_getChar_3b067_32 : decode cJ2_getChar_3b067 32 = .ok (.aload_n 0, 1) := by decide +kernel
theorem dJ2_getChar_3b067_33 : decode cJ2_getChar_3b067 33 = .ok (.iload_n 1, 1) := by decide +kernel
theorem dJ2_getChar_3b067_34 : decode cJ2_getChar_3b067 34 = .ok (.iinc 1 1, 3) := by decide +kernel
theorem dJ2_getChar_3b067_37 : decode cJ2_getChar_3b067 37 = .ok (.baload, 1) := by decide +kernel
theorem dJ2_getChar_3b067_38 : decode cJ2_getChar_3b067 38 = .ok (.sipush 255, 3) := by decide +kernel
theorem dJ2_getChar_3b067_41 : decode cJ2_getChar_3b067 41 = .ok (.iand, 1) := by decide +kernel
theorem dJ2_getChar_3b067_42 : decode cJ2_getChar_3b067 42 = .ok (.getstatic 59, 3) := by decide +kernel
theorem dJ2_getChar_3b067_45 : decode cJ2_getChar_3b067 45 = .ok (.ishl, 1) := by decide +kernel
theorem dJ2_getChar_3b067_46 : decode cJ2_getChar_3b067 46 = .ok (.aload_n 0, 1) := by decide +kernel
theorem dJ2_getChar_3b067_47 : decode cJ2_getChar_3b067 47 = .ok (.iload_n 1, 1) := by decide +kernel
theorem dJ2_getChar_3b067_48 : decode cJ2_getChar_3b067 48 = .ok (.baload, 1) := by decide +kernel
theorem dJ2_getChar_3b067_49 : decode cJ2_getChar_3b067 49 = .ok (.sipush 255, 3) := by decide +kernel
theorem dJ2_getChar_3b067_52 : decode cJ2_getChar_3b067 52 = .ok (.iand, 1) := by decide +kernel
theorem dJ2_getChar_3b067_53 : decode cJ2_getChar_3b067 53 = .ok (.getstatic 63, 3) := by decide +kernel
theorem dJ2_getChar_3b067_56 : decode cJ2_getChar_3b067 56 = .ok (.ishl, 1) := by decide +kernel
theorem dJ2_getChar_3b067_57 : decode cJ2_getChar_3b067 57 = .ok (.ior, 1) := by decide +kernel
theorem dJ2_getChar_3b067_58 : decode cJ2_getChar_3b067 58 = .ok (.i2c, 1) := by decide +kernel
theorem dJ2_getChar_3b067_59 : decode cJ2_getChar_3b067 59 = .ok (.ireturn, 1) := by decide +kernel
theorem dJ2_length_9d52b_0 : decode cJ2_length_9d52b 0 = .ok (.aload_n 0, 1) := by decide +kernel
theorem dJ2_length_9d52b_1 : decode cJ2_length_9d52b 1 = .ok (.arraylength, 1) := by decide +kernel
theorem dJ2_length_9d52b_2 : decode cJ2_length_9d52b 2 = .ok (.iconst 1, 1) := by decide +kernel
theorem dJ2_length_9d52b_3 : decode cJ2_length_9d52b 3 = .ok (.ishr, 1) := by decide +kernel
theorem dJ2_length_9d52b_4 : decode cJ2_length_9d52b 4 = .ok (.ireturn, 1) := by decide +kernel
set_option maxRecDepth 20000 in
theorem ggJ2_charAt_3b067_J2_checkIndex_2214a : GoodIn wsJ2_charAt_3b067 wsJ2_checkIndex_2214a := goodIn_r _ [4, 5, 6, 3, 7, 8, 9, 10, 11, 12, 13, 14, 15, 16] (by decide +kernel) (by decide +kernel)
set_option maxRecDepth 20000 in
theorem gJ2_charAt_3b067_J2_checkIndex_2214a : GoodIn wsJ2_charAt_3b067 (va_wsS RJ2 67 yJ2_checkIndex_2214a wsJ2_checkIndex_2214a) := goodIn_app (goodIn_of _ (by decide +kernel)) ggJ2_charAt_3b067_J2_checkIndex_2214a
set_option maxRecDepth 20000 in
theorem ggJ2_charAt_3b067_J2_getChar_3b067 : GoodIn wsJ2_charAt_3b067 wsJ2_getChar_3b067 := goodIn_r _ [19, 20, 21, 22, 5, 6, 3, 7] (by decide +kernel) (by decide +kernel)
set_option maxRecDepth 20000 in
theorem gJ2_charAt_3b067_J2_getChar_3b067 : GoodIn wsJ2_charAt_3b067 (va_wsS RJ2 71 yJ2_getChar_3b067 wsJ2_getChar_3b067) := goodIn_app (goodIn_of _ (by decide +kernel)) ggJ2_charAt_3b067_J2_getChar_3b067
theorem dJ2_charAt_3b067_0 : decode cJ2_charAt_3b067 0 = .ok (.iload_n 1, 1) := by decide +kernel
theorem dJ2_charAt_3b067_1 : decode cJ2_charAt_3b067 1 = .ok (.aload_n 0, 1) := by decide +kernel
theorem dJ2_charAt_3b067_2 : decode cJ2_charAt_3b067 2 = .ok (.invokestatic 67, 3) := by decide +kernel
theorem dJ2_charAt_3b067_5 : decode cJ2_charAt_3b067 5 = .ok (.aload_n 0, 1) := by decide +kernel
theorem dJ2_charAt_3b067_6 : decode cJ2_charAt_3b067 6 = .ok (.iload_n 1, 1) := by decide +kernel
theorem dJ2_charAt_3b067_7 : decode cJ2_charAt_3b067 7 = .ok (.invokestatic 71, 3) := by decide +kernel
theorem dJ2_charAt_3b067_10 : decode cJ2_charAt_3b067 10 = .ok (.ireturn, 1) := by decide +kernel
set_option maxRecDepth 20000 in
theorem ggJ2_checkIndex_2214a_J2_length_9d52b : GoodIn wsJ2_checkIndex_2214a wsJ2_length_9d52b := goodIn_r _ [4] (by decide +kernel) (by decide +kernel)
set_option maxRecDepth 20000 in
theorem gJ2_checkIndex_2214a_J2_length_9d52b : GoodIn wsJ2_checkIndex_2214a (va_wsS RJ2 48 yJ2_length_9d52b wsJ2_length_9d52b) := goodIn_app (goodIn_of _ (by decide +kernel)) ggJ2_checkIndex_2214a_J2_length_9d52b
set_option maxRecDepth 20000 in
theorem ggJ2_checkIndex_2214a_J0_checkIndex_df160 : GoodIn wsJ2_checkIndex_2214a wsJ0_checkIndex_df160 := goodIn_r _ [8, 9, 10, 11, 12, 13] (by decide +kernel) (by decide +kernel)
set_option maxRecDepth 20000 in
theorem gJ2_checkIndex_2214a_J0_checkIndex_df160 : GoodIn wsJ2_checkIndex_2214a (va_wsS RJ2 414 yJ0_checkIndex_df160 wsJ0_checkIndex_df160) := goodIn_app (goodIn_of _ (by decide +kernel)) ggJ2_checkIndex_2214a_J0_checkIndex_df160
theorem dJ2_checkIndex_2214a_0 : decode cJ2_checkIndex_2214a 0 = .ok (.iload_n 0, 1) := by decide +kernel
theorem dJ2_checkIndex_2214a_1 : decode cJ2_checkIndex_2214a 1 = .ok (.aload_n 1, 1) := by decide +kernel
theorem dJ2_checkIndex_2214a_2 : decode cJ2_checkIndex_2214a 2 = .ok (.invokestatic 48, 3) := by decide +kernel
theorem dJ2_checkIndex_2214a_5 : decode cJ2_checkIndex_2214a 5 = .ok (.invokestatic 414, 3) := by decide +kernel
theorem dJ2_checkIndex_2214a_8 : decode cJ2_checkIndex_2214a 8 = .ok (.return_, 1) := by decide +kernel
theorem dJ3_checkIndex_8e157_0 : decode cJ3_checkIndex_8e157 0 = .ok (.iload_n 0, 1) := by decide +kernel
theorem dJ3_checkIndex_8e157_1 : decode cJ3_checkIndex_8e157 1 = .ok (.ifCond .lt 8, 3) := by decide +kernel
theorem dJ3_checkIndex_8e157_4 : decode cJ3_checkIndex_8e157 4 = .ok (.iload_n 0, 1) := by decide +kernel
theorem dJ3_checkIndex_8e157_5 : decode cJ3_checkIndex_8e157 5 = .ok (.iload_n 1, 1) := by decide +kernel
theorem dJ3_checkIndex_8e157_6 : decode cJ3_checkIndex_8e157 6 = .ok (.if_icmp .lt 10, 3) := by decide +kernel
theorem dJ3_checkIndex_8e157_9 : decode cJ3_checkIndex_8e157 9 = .ok (.aload_n 2, 1) := by decide +kernel
theorem dJ3_checkIndex_8e157_10 : decode cJ3_checkIndex_8e157 10 = .ok (.iload_n 0, 1) := by decide +kernel
theorem dJ3_checkIndex_8e157_11 : decode cJ3_checkIndex_8e157 11 = .ok (.iload_n 1, 1) := by decide +kernel
theorem dJ3_checkIndex_8e157_12 : decode cJ3_checkIndex_8e157 12 = .ok (.invokestatic 95, 3) := by decide +kernel
theorem dJ3_checkIndex_8e157_15 : decode cJ3_checkIndex_8e157 15 = .ok (.athrow, 1) := by decide +kernel
theorem dJ3_checkIndex_8e157_16 : decode cJ3_checkIndex_8e157 16 = .ok (.iload_n 0, 1) := by decide +kernel
theorem dJ3_checkIndex_8e157_17 : decode cJ3_checkIndex_8e157 17 = .ok (.ireturn, 1) := by decide +kernel
abbrev vwCl : List vw_C := [(RX0, TX0, 3), (RX1, TX1, 6), (RX2, TX2, 1), (RX3, TX3, 9), (RX4, TX4, 4), (RX5, TX5, 2), (RX6, TX6, 11), (RX7, TX7, 2), (RX8, TX8, 9), (RX9, TX9, 22)]
