theorem dX8_doTick_71 : decode cX8_doTick 71 = .ok (.putfield 203, 3) := by decide +kernel
theorem dX8_doTick_74 : decode cX8_doTick 74 = .ok (.aload_n 1, 1) := by decide +kernel
theorem dX8_doTick_75 : decode cX8_doTick 75 = .ok (.dup, 1) := by decide +kernel
theorem dX8_doTick_76 : decode cX8_doTick 76 = .ok (.getfield 275, 3) := by decide +kernel
theorem dX8_doTick_79 : decode cX8_doTick 79 = .ok (.iconst 1, 1) := by decide +kernel
theorem dX8_doTick_80 : decode cX8_doTick 80 = .ok (.iadd, 1) := by decide +kernel
theorem dX8_doTick_81 : decode cX8_doTick 81 = .ok (.putfield 275, 3) := by decide +kernel
theorem dX8_doTick_84 : decode cX8_doTick 84 = .ok (.aload_n 1, 1) := by decide +kernel
theorem dX8_doTick_85 : decode cX8_doTick 85 = .ok (.iload_n 2, 1) := by decide +kernel
theorem dX8_doTick_86 : decode cX8_doTick 86 = .ok (.putfield 127, 3) := by decide +kernel
theorem dX8_doTick_89 : decode cX8_doTick 89 = .ok (.return_, 1) := by decide +kernel
set_option maxRecDepth 20000 in
theorem ggX8_switchModeIfDue_X8_canCapture : GoodIn wsX8_switchModeIfDue wsX8_canCapture := goodIn_r _ [6, 7, 8, 9, 5, 10, 1, 11, 12, 13, 14, 15, 16, 17, 18, 19, 20, 21, 22, 23, 24, 25, 26, 27, 28, 29, 30, 31, 32, 33, 34, 35, 36, 37, 38, 39, 40, 41, 42, 43, 44, 45, 46, 47, 48, 49, 50, 51, 52, 53, 54, 55, 56, 97, 98, 99, 100, 101, 102, 103, 104, 105, 86, 87, 88, 89, 90, 91, 92, 93, 94, 95, 96, 106, 107, 108, 109, 110, 111, 112, 113, 114] (by decide +kernel) (by decide +kernel)
set_option maxRecDepth 20000 in
theorem gX8_switchModeIfDue_X8_canCapture : GoodIn wsX8_switchModeIfDue (wsV RX8 165 RX8 yX8_canCapture wsX8_canCapture) := goodIn_app (goodIn_of _ (by decide +kernel)) ggX8_switchModeIfDue_X8_canCapture
set_option maxRecDepth 20000 in
theorem ggX8_switchModeIfDue_X2_leansBeyond : GoodIn wsX8_switchModeIfDue wsX2_leansBeyond := goodIn_r _ [60, 31, 32, 33, 14, 34, 35, 23, 5, 24, 44, 45, 106, 107, 108, 109, 110, 111, 112] (by decide +kernel) (by decide +kernel)
set_option maxRecDepth 20000 in
theorem gX8_switchModeIfDue_X2_leansBeyond : GoodIn wsX8_switchModeIfDue (wsV RX8 278 RX2 yX2_leansBeyond wsX2_leansBeyond) := goodIn_app (goodIn_of _ (by decide +kernel)) ggX8_switchModeIfDue_X2_leansBeyond
set_option maxRecDepth 20000 in
theorem ggX8_switchModeIfDue_X4_markTick : GoodIn wsX8_switchModeIfDue wsX4_markTick := goodIn_r _ [65, 66, 115, 116, 117, 118] (by decide +kernel) (by decide +kernel)
set_option maxRecDepth 20000 in
theorem gX8_switchModeIfDue_X4_markTick : GoodIn wsX8_switchModeIfDue (wsV RX8 285 RX4 yX4_markTick wsX4_markTick) := goodIn_app (goodIn_of _ (by decide +kernel)) ggX8_switchModeIfDue_X4_markTick
set_option maxRecDepth 20000 in
theorem ggX8_switchModeIfDue_X2_number : GoodIn wsX8_switchModeIfDue wsX2_number := goodIn_r _ [34, 35, 112] (by decide +kernel) (by decide +kernel)
set_option maxRecDepth 20000 in
theorem gX8_switchModeIfDue_X2_number : GoodIn wsX8_switchModeIfDue (wsV RX8 155 RX2 yX2_number wsX2_number) := goodIn_app (goodIn_of _ (by decide +kernel)) ggX8_switchModeIfDue_X2_number
set_option maxRecDepth 20000 in
theorem ggX8_switchModeIfDue_X4_countIn : GoodIn wsX8_switchModeIfDue wsX4_countIn := goodIn_r _ [71, 66, 72, 73, 74, 75, 76, 64, 77, 78, 79, 80, 81, 82, 83, 84, 85, 115, 116, 117, 118] (by decide +kernel) (by decide +kernel)
set_option maxRecDepth 20000 in
theorem gX8_switchModeIfDue_X4_countIn : GoodIn wsX8_switchModeIfDue (wsV RX8 134 RX4 yX4_countIn wsX4_countIn) := goodIn_app (goodIn_of _ (by decide +kernel)) ggX8_switchModeIfDue_X4_countIn
theorem dX8_switchModeIfDue_0 : decode cX8_switchModeIfDue 0 = .ok (.aload_n 1, 1) := by decide +kernel
theorem dX8_switchModeIfDue_1 : decode cX8_switchModeIfDue 1 = .ok (.getfield 203, 3) := by decide +kernel
theorem dX8_switchModeIfDue_4 : decode cX8_switchModeIfDue 4 = .ok (.iconst 1, 1) := by decide +kernel
theorem dX8_switchModeIfDue_5 : decode cX8_switchModeIfDue 5 = .ok (.if_icmp .ne 26, 3) := by decide +kernel
theorem dX8_switchModeIfDue_8 : decode cX8_switchModeIfDue 8 = .ok (.aload_n 1, 1) := by decide +kernel
theorem dX8_switchModeIfDue_9 : decode cX8_switchModeIfDue 9 = .ok (.getfield 212, 3) := by decide +kernel
theorem dX8_switchModeIfDue_12 : decode cX8_switchModeIfDue 12 = .ok (.ifCond .ne 19, 3) := by decide +kernel
theorem dX8_switchModeIfDue_15 : decode cX8_switchModeIfDue 15 = .ok (.aload_n 0, 1) := by decide +kernel
theorem dX8_switchModeIfDue_16 : decode cX8_switchModeIfDue 16 = .ok (.aload_n 1, 1) := by decide +kernel
theorem dX8_switchModeIfDue_17 : decode cX8_switchModeIfDue 17 = .ok (.invokevirtual 165, 3) := by decide +kernel
theorem dX8_switchModeIfDue_20 : decode cX8_switchModeIfDue 20 = .ok (.ifCond .eq 11, 3) := by decide +kernel
theorem dX8_switchModeIfDue_23 : decode cX8_switchModeIfDue 23 = .ok (.aload_n 1, 1) := by decide +kernel
theorem dX8_switchModeIfDue_24 : decode cX8_switchModeIfDue 24 = .ok (.iconst 2, 1) := by decide +kernel
theorem dX8_switchModeIfDue_25 : decode cX8_switchModeIfDue 25 = .ok (.putfield 203, 3) := by decide +kernel
theorem dX8_switchModeIfDue_28 : decode cX8_switchModeIfDue 28 = .ok (.goto 36, 3) := by decide +kernel
theorem dX8_switchModeIfDue_31 : decode cX8_switchModeIfDue 31 = .ok (.aload_n 1, 1) := by decide +kernel
theorem dX8_switchModeIfDue_32 : decode cX8_switchModeIfDue 32 = .ok (.getfield 203, 3) := by decide +kernel
theorem dX8_switchModeIfDue_35 : decode cX8_switchModeIfDue 35 = .ok (.iconst 2, 1) := by decide +kernel
theorem dX8_switchModeIfDue_36 : decode cX8_switchModeIfDue 36 = .ok (.if_icmp .ne 27, 3) := by decide +kernel
theorem dX8_switchModeIfDue_39 : decode cX8_switchModeIfDue 39 = .ok (.aload_n 0, 1) := by decide +kernel
theorem dX8_switchModeIfDue_40 : decode cX8_switchModeIfDue 40 = .ok (.getfield 10, 3) := by decide +kernel
theorem dX8_switchModeIfDue_43 : decode cX8_switchModeIfDue 43 = .ok (.aload_n 1, 1) := by decide +kernel
theorem dX8_switchModeIfDue_44 : decode cX8_switchModeIfDue 44 = .ok (.getfield 109, 3) := by decide +kernel
theorem dX8_switchModeIfDue_47 : decode cX8_switchModeIfDue 47 = .ok (.bipush 19, 2) := by decide +kernel
theorem dX8_switchModeIfDue_49 : decode cX8_switchModeIfDue 49 = .ok (.invokevirtual 278, 3) := by decide +kernel
theorem dX8_switchModeIfDue_52 : decode cX8_switchModeIfDue 52 = .ok (.ifCond .eq 11, 3) := by decide +kernel
theorem dX8_switchModeIfDue_55 : decode cX8_switchModeIfDue 55 = .ok (.aload_n 1, 1) := by decide +kernel
theorem dX8_switchModeIfDue_56 : decode cX8_switchModeIfDue 56 = .ok (.iconst 1, 1) := by decide +kernel
theorem dX8_switchModeIfDue_57 : decode cX8_switchModeIfDue 57 = .ok (.putfield 203, 3) := by decide +kernel
theorem dX8_switchModeIfDue_60 : decode cX8_switchModeIfDue 60 = .ok (.goto 4, 3) := by decide +kernel
theorem dX8_switchModeIfDue_63 : decode cX8_switchModeIfDue 63 = .ok (.return_, 1) := by decide +kernel
theorem dX8_switchModeIfDue_64 : decode cX8_switchModeIfDue 64 = .ok (.aload_n 1, 1) := by decide +kernel
theorem dX8_switchModeIfDue_65 : decode cX8_switchModeIfDue 65 = .ok (.dup, 1) := by decide +kernel
theorem dX8_switchModeIfDue_66 : decode cX8_switchModeIfDue 66 = .ok (.getfield 282, 3) := by decide +kernel
theorem dX8_switchModeIfDue_69 : decode cX8_switchModeIfDue 69 = .ok (.iconst 1, 1) := by decide +kernel
theorem dX8_switchModeIfDue_70 : decode cX8_switchModeIfDue 70 = .ok (.iadd, 1) := by decide +kernel
theorem dX8_switchModeIfDue_71 : decode cX8_switchModeIfDue 71 = .ok (.putfield 282, 3) := by decide +kernel
theorem dX8_switchModeIfDue_74 : decode cX8_switchModeIfDue 74 = .ok (.aload_n 1, 1) := by decide +kernel
theorem dX8_switchModeIfDue_75 : decode cX8_switchModeIfDue 75 = .ok (.getfield 130, 3) := by decide +kernel
theorem dX8_switchModeIfDue_78 : decode cX8_switchModeIfDue 78 = .ok (.invokevirtual 285, 3) := by decide +kernel
theorem dX8_switchModeIfDue_81 : decode cX8_switchModeIfDue 81 = .ok (.aload_n 1, 1) := by decide +kernel
theorem dX8_switchModeIfDue_82 : decode cX8_switchModeIfDue 82 = .ok (.getfield 130, 3) := by decide +kernel
theorem dX8_switchModeIfDue_85 : decode cX8_switchModeIfDue 85 = .ok (.aload_n 0, 1) := by decide +kernel
theorem dX8_switchModeIfDue_86 : decode cX8_switchModeIfDue 86 = .ok (.getfield 10, 3) := by decide +kernel
theorem dX8_switchModeIfDue_89 : decode cX8_switchModeIfDue 89 = .ok (.bipush 22, 2) := by decide +kernel
theorem dX8_switchModeIfDue_91 : decode cX8_switchModeIfDue 91 = .ok (.invokevirtual 155, 3) := by decide +kernel
theorem dX8_switchModeIfDue_94 : decode cX8_switchModeIfDue 94 = .ok (.invokevirtual 134, 3) := by decide +kernel
theorem dX8_switchModeIfDue_97 : decode cX8_switchModeIfDue 97 = .ok (.aload_n 0, 1) := by decide +kernel
theorem dX8_switchModeIfDue_98 : decode cX8_switchModeIfDue 98 = .ok (.getfield 10, 3) := by decide +kernel
theorem dX8_switchModeIfDue_101 : decode cX8_switchModeIfDue 101 = .ok (.bipush 21, 2) := by decide +kernel
theorem dX8_switchModeIfDue_103 : decode cX8_switchModeIfDue 103 = .ok (.invokevirtual 155, 3) := by decide +kernel
theorem dX8_switchModeIfDue_106 : decode cX8_switchModeIfDue 106 = .ok (.if_icmp .le 21, 3) := by decide +kernel
theorem dX8_switchModeIfDue_109 : decode cX8_switchModeIfDue 109 = .ok (.aload_n 1, 1) := by decide +kernel
theorem dX8_switchModeIfDue_110 : decode cX8_switchModeIfDue 110 = .ok (.iconst 1, 1) := by decide +kernel
theorem dX8_switchModeIfDue_111 : decode cX8_switchModeIfDue 111 = .ok (.putfield 203, 3) := by decide +kernel
theorem dX8_switchModeIfDue_114 : decode cX8_switchModeIfDue 114 = .ok (.aload_n 1, 1) := by decide +kernel
theorem dX8_switchModeIfDue_115 : decode cX8_switchModeIfDue 115 = .ok (.aload_n 0, 1) := by decide +kernel
theorem dX8_switchModeIfDue_116 : decode cX8_switchModeIfDue 116 = .ok (.getfield 10, 3) := by decide +kernel
theorem dX8_switchModeIfDue_119 : decode cX8_switchModeIfDue 119 = .ok (.bipush 23, 2) := by decide +kernel
theorem dX8_switchModeIfDue_121 : decode cX8_switchModeIfDue 121 = .ok (.invokevirtual 155, 3) := by decide +kernel
theorem dX8_switchModeIfDue_124 : decode cX8_switchModeIfDue 124 = .ok (.putfield 212, 3) := by decide +kernel
theorem dX8_switchModeIfDue_127 : decode cX8_switchModeIfDue 127 = .ok (.return_, 1) := by decide +kernel
set_option maxRecDepth 20000 in
theorem ggX8_pushIn_X2_swingPush : GoodIn wsX8_pushIn wsX2_swingPush := goodIn_r _ [6, 7, 8, 9, 10, 11, 12, 13, 14, 15, 5, 16, 17, 18, 19, 20, 21, 22, 23, 24, 25, 26, 27, 28, 29, 30, 31, 32, 33, 34, 35, 36, 37, 38, 39, 40, 41, 75, 76, 77, 78, 79, 80, 81] (by decide +kernel) (by decide +kernel)
set_option maxRecDepth 20000 in
theorem gX8_pushIn_X2_swingPush : GoodIn wsX8_pushIn (wsV RX8 288 RX2 yX2_swingPush wsX2_swingPush) := goodIn_app (goodIn_of _ (by decide +kernel)) ggX8_pushIn_X2_swingPush
set_option maxRecDepth 20000 in
theorem ggX8_pushIn_X2_balancingPush : GoodIn wsX8_pushIn wsX2_balancingPush := goodIn_r _ [45, 46, 47, 48, 49, 50, 51, 52, 27, 28, 29, 5, 30, 31, 53, 8, 54, 75, 76, 77, 78, 79, 80, 81] (by decide +kernel) (by decide +kernel)
set_option maxRecDepth 20000 in
theorem gX8_pushIn_X2_balancingPush : GoodIn wsX8_pushIn (wsV RX8 291 RX2 yX2_balancingPush wsX2_balancingPush) := goodIn_app (goodIn_of _ (by decide +kernel)) ggX8_pushIn_X2_balancingPush
theorem dX8_pushIn_0 : decode cX8_pushIn 0 = .ok (.aload_n 1, 1) := by decide +kernel
theorem dX8_pushIn_1 : decode cX8_pushIn 1 = .ok (.getfield 203, 3) := by decide +kernel
theorem dX8_pushIn_4 : decode cX8_pushIn 4 = .ok (.iconst 1, 1) := by decide +kernel
theorem dX8_pushIn_5 : decode cX8_pushIn 5 = .ok (.if_icmp .ne 19, 3) := by decide +kernel
theorem dX8_pushIn_8 : decode cX8_pushIn 8 = .ok (.aload_n 0, 1) := by decide +kernel
theorem dX8_pushIn_9 : decode cX8_pushIn 9 = .ok (.getfield 10, 3) := by decide +kernel
theorem dX8_pushIn_12 : decode cX8_pushIn 12 = .ok (.aload_n 1, 1) := by decide +kernel
theorem dX8_pushIn_13 : decode cX8_pushIn 13 = .ok (.getfield 109, 3) := by decide +kernel
theorem dX8_pushIn_16 : decode cX8_pushIn 16 = .ok (.aload_n 1, 1) := by decide +kernel
theorem dX8_pushIn_17 : decode cX8_pushIn 17 = .ok (.getfield 226, 3) := by decide +kernel
theorem dX8_pushIn_20 : decode cX8_pushIn 20 = .ok (.invokevirtual 288, 3) := by decide +kernel
theorem dX8_pushIn_23 : decode cX8_pushIn 23 = .ok (.ireturn, 1) := by decide +kernel
theorem dX8_pushIn_24 : decode cX8_pushIn 24 = .ok (.aload_n 1, 1) := by decide +kernel
theorem dX8_pushIn_25 : decode cX8_pushIn 25 = .ok (.getfield 203, 3) := by decide +kernel
theorem dX8_pushIn_28 : decode cX8_pushIn 28 = .ok (.iconst 2, 1) := by decide +kernel
theorem dX8_pushIn_29 : decode cX8_pushIn 29 = .ok (.if_icmp .ne 21, 3) := by decide +kernel
theorem dX8_pushIn_32 : decode cX8_pushIn 32 = .ok (.aload_n 0, 1) := by decide +kernel
theorem dX8_pushIn_33 : decode cX8_pushIn 33 = .ok (.getfield 10, 3) := by decide +kernel
theorem dX8_pushIn_36 : decode cX8_pushIn 36 = .ok (.aload_n 1, 1) := by decide +kernel
theorem dX8_pushIn_37 : decode cX8_pushIn 37 = .ok (.getfield 109, 3) := by decide +kernel
theorem dX8_pushIn_40 : decode cX8_pushIn 40 = .ok (.aload_n 1, 1) := by decide +kernel
theorem dX8_pushIn_41 : decode cX8_pushIn 41 = .ok (.getfield 226, 3) := by decide +kernel
theorem dX8_pushIn_44 : decode cX8_pushIn 44 = .ok (.invokevirtual 291, 3) := by decide +kernel
theorem dX8_pushIn_47 : decode cX8_pushIn 47 = .ok (.goto 4, 3) := by decide +kernel
theorem dX8_pushIn_50 : decode cX8_pushIn 50 = .ok (.iconst 0, 1) := by decide +kernel
theorem dX8_pushIn_51 : decode cX8_pushIn 51 = .ok (.ireturn, 1) := by decide +kernel
set_option maxRecDepth 20000 in
theorem ggX8_canCapture_X8_isVerifiedFor : GoodIn wsX8_canCapture wsX8_isVerifiedFor := goodIn_r _ [5, 6, 7, 8, 9, 10, 11, 12, 13, 14, 15, 16, 17, 18, 19, 4, 20, 21, 22, 23, 24, 25, 26, 27, 28, 29, 30, 31, 32, 33, 34, 35, 36, 37, 38, 39, 40, 41, 42, 43, 44, 45, 46, 47, 48, 49, 50, 51, 52, 53, 54, 55, 56, 57, 58, 59, 60, 61, 62, 63, 64, 65, 66, 67, 68, 69, 70, 71, 72, 73, 74, 75, 76, 77, 78, 79, 80, 81] (by decide +kernel) (by decide +kernel)
set_option maxRecDepth 20000 in
theorem gX8_canCapture_X8_isVerifiedFor : GoodIn wsX8_canCapture (wsV RX8 294 RX8 yX8_isVerifiedFor wsX8_isVerifiedFor) := goodIn_app (goodIn_of _ (by decide +kernel)) ggX8_canCapture_X8_isVerifiedFor
theorem dX8_canCapture_0 : decode cX8_canCapture 0 = .ok (.aload_n 0, 1) := by decide +kernel
theorem dX8_canCapture_1 : decode cX8_canCapture 1 = .ok (.aload_n 1, 1) := by decide +kernel
theorem dX8_canCapture_2 : decode cX8_canCapture 2 = .ok (.iconst 1, 1) := by decide +kernel
theorem dX8_canCapture_3 : decode cX8_canCapture 3 = .ok (.invokevirtual 294, 3) := by decide +kernel
theorem dX8_canCapture_6 : decode cX8_canCapture 6 = .ok (.ifCond .eq 16, 3) := by decide +kernel
theorem dX8_canCapture_9 : decode cX8_canCapture 9 = .ok (.aload_n 0, 1) := by decide +kernel
theorem dX8_canCapture_10 : decode cX8_canCapture 10 = .ok (.aload_n 1, 1) := by decide +kernel
theorem dX8_canCapture_11 : decode cX8_canCapture 11 = .ok (.iconst 2, 1) := by decide +kernel
theorem dX8_canCapture_12 : decode cX8_canCapture 12 = .ok (.invokevirtual 294, 3) := by decide +kernel
theorem dX8_canCapture_15 : decode cX8_canCapture 15 = .ok (.ifCond .eq 7, 3) := by decide +kernel
theorem dX8_canCapture_18 : decode cX8_canCapture 18 = .ok (.iconst 1, 1) := by decide +kernel
theorem dX8_canCapture_19 : decode cX8_canCapture 19 = .ok (.goto 4, 3) := by decide +kernel
theorem dX8_canCapture_22 : decode cX8_canCapture 22 = .ok (.iconst 0, 1) := by decide +kernel
theorem dX8_canCapture_23 : decode cX8_canCapture 23 = .ok (.ireturn, 1) := by decide +kernel
set_option maxRecDepth 20000 in
theorem ggX8_isVerifiedFor_X2_cellPart : GoodIn wsX8_isVerifiedFor wsX2_cellPart := goodIn_r _ [6, 7, 8, 9, 10, 11, 12, 13, 14, 15, 16, 17, 18, 19, 20, 21, 22, 23, 24, 25, 5, 26, 27, 28, 29, 30, 31, 69, 70, 71, 72, 73, 74, 75] (by decide +kernel) (by decide +kernel)
set_option maxRecDepth 20000 in
theorem gX8_isVerifiedFor_X2_cellPart : GoodIn wsX8_isVerifiedFor (wsV RX8 161 RX2 yX2_cellPart wsX2_cellPart) := goodIn_app (goodIn_of _ (by decide +kernel)) ggX8_isVerifiedFor_X2_cellPart
set_option maxRecDepth 20000 in
theorem ggX8_isVerifiedFor_X2_hasCell : GoodIn wsX8_isVerifiedFor wsX2_hasCell := goodIn_r _ [35, 23, 24, 25, 5, 26, 27, 36, 15, 37, 75] (by decide +kernel) (by decide +kernel)
set_option maxRecDepth 20000 in
theorem gX8_isVerifiedFor_X2_hasCell : GoodIn wsX8_isVerifiedFor (wsV RX8 298 RX2 yX2_hasCell wsX2_hasCell) := goodIn_app (goodIn_of _ (by decide +kernel)) ggX8_isVerifiedFor_X2_hasCell
set_option maxRecDepth 20000 in
theorem ggX8_isVerifiedFor_X5_reasonAt : GoodIn wsX8_isVerifiedFor wsX5_reasonAt := goodIn_r _ [42, 43, 44, 45, 41, 46, 47, 15, 48, 76, 77] (by decide +kernel) (by decide +kernel)
set_option maxRecDepth 20000 in
theorem gX8_isVerifiedFor_X5_reasonAt : GoodIn wsX8_isVerifiedFor (wsV RX8 147 RX5 yX5_reasonAt wsX5_reasonAt) := goodIn_app (goodIn_of _ (by decide +kernel)) ggX8_isVerifiedFor_X5_reasonAt
theorem dX8_isVerifiedFor_0 : decode cX8_isVerifiedFor 0 = .ok (.aload_n 0, 1) := by decide +kernel
theorem dX8_isVerifiedFor_1 : decode cX8_isVerifiedFor 1 = .ok (.getfield 10, 3) := by decide +kernel
theorem dX8_isVerifiedFor_4 : decode cX8_isVerifiedFor 4 = .ok (.aload_n 1, 1) := by decide +kernel
theorem dX8_isVerifiedFor_5 : decode cX8_isVerifiedFor 5 = .ok (.getfield 109, 3) := by decide +kernel
theorem dX8_isVerifiedFor_8 : decode cX8_isVerifiedFor 8 = .ok (.iload_n 2, 1) := by decide +kernel
theorem dX8_isVerifiedFor_9 : decode cX8_isVerifiedFor 9 = .ok (.iconst 0, 1) := by decide +kernel
theorem dX8_isVerifiedFor_10 : decode cX8_isVerifiedFor 10 = .ok (.invokevirtual 161, 3) := by decide +kernel
theorem dX8_isVerifiedFor_13 : decode cX8_isVerifiedFor 13 = .ok (.istore_n 3, 1) := by decide +kernel
theorem dX8_isVerifiedFor_14 : decode cX8_isVerifiedFor 14 = .ok (.aload_n 0, 1) := by decide +kernel
theorem dX8_isVerifiedFor_15 : decode cX8_isVerifiedFor 15 = .ok (.getfield 10, 3) := by decide +kernel
theorem dX8_isVerifiedFor_18 : decode cX8_isVerifiedFor 18 = .ok (.aload_n 1, 1) := by decide +kernel
theorem dX8_isVerifiedFor_19 : decode cX8_isVerifiedFor 19 = .ok (.getfield 109, 3) := by decide +kernel
theorem dX8_isVerifiedFor_22 : decode cX8_isVerifiedFor 22 = .ok (.iload_n 2, 1) := by decide +kernel
theorem dX8_isVerifiedFor_23 : decode cX8_isVerifiedFor 23 = .ok (.iconst 1, 1) := by decide +kernel
theorem dX8_isVerifiedFor_24 : decode cX8_isVerifiedFor 24 = .ok (.invokevirtual 161, 3) := by decide +kernel
theorem dX8_isVerifiedFor_27 : decode cX8_isVerifiedFor 27 = .ok (.istore 4, 2) := by decide +kernel
theorem dX8_isVerifiedFor_29 : decode cX8_isVerifiedFor 29 = .ok (.aload_n 0, 1) := by decide +kernel
theorem dX8_isVerifiedFor_30 : decode cX8_isVerifiedFor 30 = .ok (.getfield 10, 3) := by decide +kernel
theorem dX8_isVerifiedFor_33 : decode cX8_isVerifiedFor 33 = .ok (.iload_n 3, 1) := by decide +kernel
theorem dX8_isVerifiedFor_34 : decode cX8_isVerifiedFor 34 = .ok (.iload 4, 2) := by decide +kernel
theorem dX8_isVerifiedFor_36 : decode cX8_isVerifiedFor 36 = .ok (.invokevirtual 298, 3) := by decide +kernel
theorem dX8_isVerifiedFor_39 : decode cX8_isVerifiedFor 39 = .ok (.ifCond .eq 20, 3) := by decide +kernel
theorem dX8_isVerifiedFor_42 : decode cX8_isVerifiedFor 42 = .ok (.aload_n 1, 1) := by decide +kernel
theorem dX8_isVerifiedFor_43 : decode cX8_isVerifiedFor 43 = .ok (.getfield 143, 3) := by decide +kernel
theorem dX8_isVerifiedFor_46 : decode cX8_isVerifiedFor 46 = .ok (.iload_n 3, 1) := by decide +kernel
theorem dX8_isVerifiedFor_47 : decode cX8_isVerifiedFor 47 = .ok (.iload 4, 2) := by decide +kernel
theorem dX8_isVerifiedFor_49 : decode cX8_isVerifiedFor 49 = .ok (.invokevirtual 147, 3) := by decide +kernel
theorem dX8_isVerifiedFor_52 : decode cX8_isVerifiedFor 52 = .ok (.ifCond .ne 7, 3) := by decide +kernel
theorem dX8_isVerifiedFor_55 : decode cX8_isVerifiedFor 55 = .ok (.iconst 1, 1) := by decide +kernel
theorem dX8_isVerifiedFor_56 : decode cX8_isVerifiedFor 56 = .ok (.goto 4, 3) := by decide +kernel
theorem dX8_isVerifiedFor_59 : decode cX8_isVerifiedFor 59 = .ok (.iconst 0, 1) := by decide +kernel
theorem dX8_isVerifiedFor_60 : decode cX8_isVerifiedFor 60 = .ok (.ireturn, 1) := by decide +kernel
set_option maxRecDepth 20000 in
theorem ggX8_requireCell_X2_hasCell : GoodIn wsX8_requireCell wsX2_hasCell := goodIn_r _ [8, 9, 10, 11, 7, 12, 13, 14, 15, 16, 26] (by decide +kernel) (by decide +kernel)
set_option maxRecDepth 20000 in
theorem gX8_requireCell_X2_hasCell : GoodIn wsX8_requireCell (wsV RX8 298 RX2 yX2_hasCell wsX2_hasCell) := goodIn_app (goodIn_of _ (by decide +kernel)) ggX8_requireCell_X2_hasCell
theorem dX8_requireCell_0 : decode cX8_requireCell 0 = .ok (.aload_n 0, 1) := by decide +kernel
theorem dX8_requireCell_1 : decode cX8_requireCell 1 = .ok (.getfield 10, 3) := by decide +kernel
theorem dX8_requireCell_4 : decode cX8_requireCell 4 = .ok (.iload_n 1, 1) := by decide +kernel
theorem dX8_requireCell_5 : decode cX8_requireCell 5 = .ok (.iload_n 2, 1) := by decide +kernel
theorem dX8_requireCell_6 : decode cX8_requireCell 6 = .ok (.invokevirtual 298, 3) := by decide +kernel
theorem dX8_requireCell_9 : decode cX8_requireCell 9 = .ok (.ifCond .ne 14, 3) := by decide +kernel
theorem dX8_requireCell_12 : decode cX8_requireCell 12 = .ok (.new 302, 3) := by decide +kernel
theorem dX8_requireCell_15 : decode cX8_requireCell 15 = .ok (.dup, 1) := by decide +kernel
theorem dX8_requireCell_16 : decode cX8_requireCell 16 = .ok (.ldc_w 304, 3) := by decide +kernel
theorem dX8_requireCell_19 : decode cX8_requireCell 19 = .ok (.invokespecial 306, 3) := by decide +kernel
theorem dX8_requireCell_22 : decode cX8_requireCell 22 = .ok (.athrow, 1) := by decide +kernel
theorem dX8_requireCell_23 : decode cX8_requireCell 23 = .ok (.return_, 1) := by decide +kernel
theorem dX8_requireNotStopped_0 : decode cX8_requireNotStopped 0 = .ok (.aload_n 0, 1) := by decide +kernel
theorem dX8_requireNotStopped_1 : decode cX8_requireNotStopped 1 = .ok (.getfield 26, 3) := by decide +kernel
theorem dX8_requireNotStopped_4 : decode cX8_requireNotStopped 4 = .ok (.getfield 203, 3) := by decide +kernel
theorem dX8_requireNotStopped_7 : decode cX8_requireNotStopped 7 = .ok (.iconst 3, 1) := by decide +kernel
theorem dX8_requireNotStopped_8 : decode cX8_requireNotStopped 8 = .ok (.if_icmp .ne 14, 3) := by decide +kernel
theorem dX8_requireNotStopped_11 : decode cX8_requireNotStopped 11 = .ok (.new 193, 3) := by decide +kernel
theorem dX8_requireNotStopped_14 : decode cX8_requireNotStopped 14 = .ok (.dup, 1) := by decide +kernel
theorem dX8_requireNotStopped_15 : decode cX8_requireNotStopped 15 = .ok (.ldc_w 307, 3) := by decide +kernel
theorem dX8_requireNotStopped_18 : decode cX8_requireNotStopped 18 = .ok (.invokespecial 197, 3) := by decide +kernel
theorem dX8_requireNotStopped_21 : decode cX8_requireNotStopped 21 = .ok (.athrow, 1) := by decide +kernel
theorem dX8_requireNotStopped_22 : decode cX8_requireNotStopped 22 = .ok (.return_, 1) := by decide +kernel
theorem dX8_requireLink_0 : decode cX8_requireLink 0 = .ok (.iload_n 0, 1) := by decide +kernel
theorem dX8_requireLink_1 : decode cX8_requireLink 1 = .ok (.iconst 1, 1) := by decide +kernel
theorem dX8_requireLink_2 : decode cX8_requireLink 2 = .ok (.if_icmp .lt 8, 3) := by decide +kernel
theorem dX8_requireLink_5 : decode cX8_requireLink 5 = .ok (.iload_n 0, 1) := by decide +kernel
theorem dX8_requireLink_6 : decode cX8_requireLink 6 = .ok (.iconst 2, 1) := by decide +kernel
theorem dX8_requireLink_7 : decode cX8_requireLink 7 = .ok (.if_icmp .le 14, 3) := by decide +kernel
theorem dX8_requireLink_10 : decode cX8_requireLink 10 = .ok (.new 302, 3) := by decide +kernel
theorem dX8_requireLink_13 : decode cX8_requireLink 13 = .ok (.dup, 1) := by decide +kernel
theorem dX8_requireLink_14 : decode cX8_requireLink 14 = .ok (.ldc_w 309, 3) := by decide +kernel
theorem dX8_requireLink_17 : decode cX8_requireLink 17 = .ok (.invokespecial 306, 3) := by decide +kernel
theorem dX8_requireLink_20 : decode cX8_requireLink 20 = .ok (.athrow, 1) := by decide +kernel
theorem dX8_requireLink_21 : decode cX8_requireLink 21 = .ok (.return_, 1) := by decide +kernel
theorem dX8_requireSlot_0 : decode cX8_requireSlot 0 = .ok (.iload_n 0, 1) := by decide +kernel
theorem dX8_requireSlot_1 : decode cX8_requireSlot 1 = .ok (.ifCond .lt 8, 3) := by decide +kernel
theorem dX8_requireSlot_4 : decode cX8_requireSlot 4 = .ok (.iload_n 0, 1) := by decide +kernel
theorem dX8_requireSlot_5 : decode cX8_requireSlot 5 = .ok (.iconst 1, 1) := by decide +kernel
theorem dX8_requireSlot_6 : decode cX8_requireSlot 6 = .ok (.if_icmp .le 14, 3) := by decide +kernel
theorem dX8_requireSlot_9 : decode cX8_requireSlot 9 = .ok (.new 302, 3) := by decide +kernel
theorem dX8_requireSlot_12 : decode cX8_requireSlot 12 = .ok (.dup, 1) := by decide +kernel
theorem dX8_requireSlot_13 : decode cX8_requireSlot 13 = .ok (.ldc_w 311, 3) := by decide +kernel
theorem dX8_requireSlot_16 : decode cX8_requireSlot 16 = .ok (.invokespecial 306, 3) := by decide +kernel
theorem dX8_requireSlot_19 : decode cX8_requireSlot 19 = .ok (.athrow, 1) := by decide +kernel
theorem dX8_requireSlot_20 : decode cX8_requireSlot 20 = .ok (.return_, 1) := by decide +kernel
theorem dX8_requireRange_0 : decode cX8_requireRange 0 = .ok (.iload_n 0, 1) := by decide +kernel
theorem dX8_requireRange_1 : decode cX8_requireRange 1 = .ok (.iload_n 1, 1) := by decide +kernel
theorem dX8_requireRange_2 : decode cX8_requireRange 2 = .ok (.if_icmp .lt 8, 3) := by decide +kernel
theorem dX8_requireRange_5 : decode cX8_requireRange 5 = .ok (.iload_n 0, 1) := by decide +kernel
theorem dX8_requireRange_6 : decode cX8_requireRange 6 = .ok (.iload_n 2, 1) := by decide +kernel
theorem dX8_requireRange_7 : decode cX8_requireRange 7 = .ok (.if_icmp .le 14, 3) := by decide +kernel
theorem dX8_requireRange_10 : decode cX8_requireRange 10 = .ok (.new 313, 3) := by decide +kernel
theorem dX8_requireRange_13 : decode cX8_requireRange 13 = .ok (.dup, 1) := by decide +kernel
theorem dX8_requireRange_14 : decode cX8_requireRange 14 = .ok (.ldc_w 315, 3) := by decide +kernel
theorem dX8_requireRange_17 : decode cX8_requireRange 17 = .ok (.invokespecial 317, 3) := by decide +kernel
theorem dX8_requireRange_20 : decode cX8_requireRange 20 = .ok (.athrow, 1) := by decide +kernel
theorem dX8_requireRange_21 : decode cX8_requireRange 21 = .ok (.return_, 1) := by decide +kernel
theorem dX8_sineOf_0 : decode cX8_sineOf 0 = .ok (.iload_n 0, 1) := by decide +kernel
theorem dX8_sineOf_1 : decode cX8_sineOf 1 = .ok (.sipush 2047, 3) := by decide +kernel
theorem dX8_sineOf_4 : decode cX8_sineOf 4 = .ok (.iand, 1) := by decide +kernel
theorem dX8_sineOf_5 : decode cX8_sineOf 5 = .ok (.istore_n 1, 1) := by decide +kernel
theorem dX8_sineOf_6 : decode cX8_sineOf 6 = .ok (.iload_n 1, 1) := by decide +kernel
theorem dX8_sineOf_7 : decode cX8_sineOf 7 = .ok (.i2l, 1) := by decide +kernel
theorem dX8_sineOf_8 : decode cX8_sineOf 8 = .ok (.sipush 2048, 3) := by decide +kernel
theorem dX8_sineOf_11 : decode cX8_sineOf 11 = .ok (.iload_n 1, 1) := by decide +kernel
theorem dX8_sineOf_12 : decode cX8_sineOf 12 = .ok (.isub, 1) := by decide +kernel
theorem dX8_sineOf_13 : decode cX8_sineOf 13 = .ok (.i2l, 1) := by decide +kernel
theorem dX8_sineOf_14 : decode cX8_sineOf 14 = .ok (.lmul, 1) := by decide +kernel
theorem dX8_sineOf_15 : decode cX8_sineOf 15 = .ok (.lstore_n 2, 1) := by decide +kernel
theorem dX8_sineOf_16 : decode cX8_sineOf 16 = .ok (.ldc2_w 318, 3) := by decide +kernel
theorem dX8_sineOf_19 : decode cX8_sineOf 19 = .ok (.ldc2_w 320, 3) := by decide +kernel
theorem dX8_sineOf_22 : decode cX8_sineOf 22 = .ok (.lload_n 2, 1) := by decide +kernel
theorem dX8_sineOf_23 : decode cX8_sineOf 23 = .ok (.lmul, 1) := by decide +kernel
theorem dX8_sineOf_24 : decode cX8_sineOf 24 = .ok (.lsub, 1) := by decide +kernel
theorem dX8_sineOf_25 : decode cX8_sineOf 25 = .ok (.lstore 4, 2) := by decide +kernel
theorem dX8_sineOf_27 : decode cX8_sineOf 27 = .ok (.lload 4, 2) := by decide +kernel
theorem dX8_sineOf_29 : decode cX8_sineOf 29 = .ok (.lconst 0, 1) := by decide +kernel
theorem dX8_sineOf_30 : decode cX8_sineOf 30 = .ok (.lcmp, 1) := by decide +kernel
theorem dX8_sineOf_31 : decode cX8_sineOf 31 = .ok (.ifCond .gt 5, 3) := by decide +kernel
theorem dX8_sineOf_34 : decode cX8_sineOf 34 = .ok (.iconst 0, 1) := by decide +kernel
theorem dX8_sineOf_35 : decode cX8_sineOf 35 = .ok (.ireturn, 1) := by decide +kernel
theorem dX8_sineOf_36 : decode cX8_sineOf 36 = .ok (.ldc2_w 322, 3) := by decide +kernel
theorem dX8_sineOf_39 : decode cX8_sineOf 39 = .ok (.lload_n 2, 1) := by decide +kernel
theorem dX8_sineOf_40 : decode cX8_sineOf 40 = .ok (.lmul, 1) := by decide +kernel
theorem dX8_sineOf_41 : decode cX8_sineOf 41 = .ok (.lload 4, 2) := by decide +kernel
theorem dX8_sineOf_43 : decode cX8_sineOf 43 = .ok (.ldiv, 1) := by decide +kernel
theorem dX8_sineOf_44 : decode cX8_sineOf 44 = .ok (.l2i, 1) := by decide +kernel
theorem dX8_sineOf_45 : decode cX8_sineOf 45 = .ok (.istore 6, 2) := by decide +kernel
theorem dX8_sineOf_47 : decode cX8_sineOf 47 = .ok (.iload_n 0, 1) := by decide +kernel
theorem dX8_sineOf_48 : decode cX8_sineOf 48 = .ok (.sipush 2048, 3) := by decide +kernel
theorem dX8_sineOf_51 : decode cX8_sineOf 51 = .ok (.iand, 1) := by decide +kernel
theorem dX8_sineOf_52 : decode cX8_sineOf 52 = .ok (.ifCond .ne 8, 3) := by decide +kernel
theorem dX8_sineOf_55 : decode cX8_sineOf 55 = .ok (.iload 6, 2) := by decide +kernel
theorem dX8_sineOf_57 : decode cX8_sineOf 57 = .ok (.goto 6, 3) := by decide +kernel
theorem dX8_sineOf_60 : decode cX8_sineOf 60 = .ok (.iload 6, 2) := by decide +kernel
theorem dX8_sineOf_62 : decode cX8_sineOf 62 = .ok (.ineg, 1) := by decide +kernel
theorem dX8_sineOf_63 : decode cX8_sineOf 63 = .ok (.ireturn, 1) := by decide +kernel
theorem dX8_leanOf_0 : decode cX8_leanOf 0 = .ok (.iload_n 0, 1) := by decide +kernel
theorem dX8_leanOf_1 : decode cX8_leanOf 1 = .ok (.sipush 2048, 3) := by decide +kernel
theorem dX8_leanOf_4 : decode cX8_leanOf 4 = .ok (.if_icmp .ge 7, 3) := by decide +kernel
theorem dX8_leanOf_7 : decode cX8_leanOf 7 = .ok (.iload_n 0, 1) := by decide +kernel
theorem dX8_leanOf_8 : decode cX8_leanOf 8 = .ok (.goto 8, 3) := by decide +kernel
theorem dX8_leanOf_11 : decode cX8_leanOf 11 = .ok (.iload_n 0, 1) := by decide +kernel
theorem dX8_leanOf_12 : decode cX8_leanOf 12 = .ok (.sipush 4096, 3) := by decide +kernel
theorem dX8_leanOf_15 : decode cX8_leanOf 15 = .ok (.isub, 1) := by decide +kernel
theorem dX8_leanOf_16 : decode cX8_leanOf 16 = .ok (.ireturn, 1) := by decide +kernel
theorem dX8_wrapped_0 : decode cX8_wrapped 0 = .ok (.iload_n 0, 1) := by decide +kernel
theorem dX8_wrapped_1 : decode cX8_wrapped 1 = .ok (.sipush 4095, 3) := by decide +kernel
theorem dX8_wrapped_4 : decode cX8_wrapped 4 = .ok (.iand, 1) := by decide +kernel
theorem dX8_wrapped_5 : decode cX8_wrapped 5 = .ok (.ireturn, 1) := by decide +kernel
theorem dX8_isBeyond_0 : decode cX8_isBeyond 0 = .ok (.iload_n 0, 1) := by decide +kernel
theorem dX8_isBeyond_1 : decode cX8_isBeyond 1 = .ok (.iload_n 1, 1) := by decide +kernel
theorem dX8_isBeyond_2 : decode cX8_isBeyond 2 = .ok (.if_icmp .gt 9, 3) := by decide +kernel
theorem dX8_isBeyond_5 : decode cX8_isBeyond 5 = .ok (.iload_n 0, 1) := by decide +kernel
theorem dX8_isBeyond_6 : decode cX8_isBeyond 6 = .ok (.iload_n 1, 1) := by decide +kernel
theorem dX8_isBeyond_7 : decode cX8_isBeyond 7 = .ok (.ineg, 1) := by decide +kernel
theorem dX8_isBeyond_8 : decode cX8_isBeyond 8 = .ok (.if_icmp .ge 7, 3) := by decide +kernel
theorem dX8_isBeyond_11 : decode cX8_isBeyond 11 = .ok (.iconst 1, 1) := by decide +kernel
theorem dX8_isBeyond_12 : decode cX8_isBeyond 12 = .ok (.goto 4, 3) := by decide +kernel
theorem dX8_isBeyond_15 : decode cX8_isBeyond 15 = .ok (.iconst 0, 1) := by decide +kernel
theorem dX8_isBeyond_16 : decode cX8_isBeyond 16 = .ok (.ireturn, 1) := by decide +kernel
theorem dX8_valueAt_0 : decode cX8_valueAt 0 = .ok (.iload_n 1, 1) := by decide +kernel
theorem dX8_valueAt_1 : decode cX8_valueAt 1 = .ok (.ifCond .lt 15, 3) := by decide +kernel
theorem dX8_valueAt_4 : decode cX8_valueAt 4 = .ok (.iload_n 1, 1) := by decide +kernel
theorem dX8_valueAt_5 : decode cX8_valueAt 5 = .ok (.aload_n 0, 1) := by decide +kernel
theorem dX8_valueAt_6 : decode cX8_valueAt 6 = .ok (.arraylength, 1) := by decide +kernel
theorem dX8_valueAt_7 : decode cX8_valueAt 7 = .ok (.if_icmp .ge 9, 3) := by decide +kernel
theorem dX8_valueAt_10 : decode cX8_valueAt 10 = .ok (.aload_n 0, 1) := by decide +kernel
theorem dX8_valueAt_11 : decode cX8_valueAt 11 = .ok (.iload_n 1, 1) := by decide +kernel
theorem dX8_valueAt_12 : decode cX8_valueAt 12 = .ok (.iaload, 1) := by decide +kernel
theorem dX8_valueAt_13 : decode cX8_valueAt 13 = .ok (.goto 4, 3) := by decide +kernel
theorem dX8_valueAt_16 : decode cX8_valueAt 16 = .ok (.iconst 0, 1) := by decide +kernel
theorem dX8_valueAt_17 : decode cX8_valueAt 17 = .ok (.ireturn, 1) := by decide +kernel
theorem dX8_putAt_0 : decode cX8_putAt 0 = .ok (.iload_n 1, 1) := by decide +kernel
theorem dX8_putAt_1 : decode cX8_putAt 1 = .ok (.ifCond .lt 13, 3) := by decide +kernel
theorem dX8_putAt_4 : decode cX8_putAt 4 = .ok (.iload_n 1, 1) := by decide +kernel
theorem dX8_putAt_5 : decode cX8_putAt 5 = .ok (.aload_n 0, 1) := by decide +kernel
theorem dX8_putAt_6 : decode cX8_putAt 6 = .ok (.arraylength, 1) := by decide +kernel
theorem dX8_putAt_7 : decode cX8_putAt 7 = .ok (.if_icmp .ge 7, 3) := by decide +kernel
theorem dX8_putAt_10 : decode cX8_putAt 10 = .ok (.aload_n 0, 1) := by decide +kernel
theorem dX8_putAt_11 : decode cX8_putAt 11 = .ok (.iload_n 1, 1) := by decide +kernel
theorem dX8_putAt_12 : decode cX8_putAt 12 = .ok (.iload_n 2, 1) := by decide +kernel
theorem dX8_putAt_13 : decode cX8_putAt 13 = .ok (.iastore, 1) := by decide +kernel
theorem dX8_putAt_14 : decode cX8_putAt 14 = .ok (.return_, 1) := by decide +kernel
theorem dX8_copyRow_0 : decode cX8_copyRow 0 = .ok (.aload_n 0, 1) := by decide +kernel
theorem dX8_copyRow_1 : decode cX8_copyRow 1 = .ok (.iconst 0, 1) := by decide +kernel
theorem dX8_copyRow_2 : decode cX8_copyRow 2 = .ok (.aload_n 1, 1) := by decide +kernel
theorem dX8_copyRow_3 : decode cX8_copyRow 3 = .ok (.iconst 0, 1) := by decide +kernel
theorem dX8_copyRow_4 : decode cX8_copyRow 4 = .ok (.aload_n 0, 1) := by decide +kernel
theorem dX8_copyRow_5 : decode cX8_copyRow 5 = .ok (.arraylength, 1) := by decide +kernel
theorem dX8_copyRow_6 : decode cX8_copyRow 6 = .ok (.aload_n 1, 1) := by decide +kernel
theorem dX8_copyRow_7 : decode cX8_copyRow 7 = .ok (.arraylength, 1) := by decide +kernel
theorem dX8_copyRow_8 : decode cX8_copyRow 8 = .ok (.invokestatic 324, 3) := by decide +kernel
theorem dX8_copyRow_11 : decode cX8_copyRow 11 = .ok (.invokestatic 327, 3) := by decide +kernel
theorem dX8_copyRow_14 : decode cX8_copyRow 14 = .ok (.return_, 1) := by decide +kernel
theorem dX8_wordOf_0 : decode cX8_wordOf 0 = .ok (.iload_n 0, 1) := by decide +kernel
theorem dX8_wordOf_1 : decode cX8_wordOf 1 = .ok (.tableswitch 87 0 8 #[51, 55, 59, 63, 67, 71, 75, 79, 83], 51) := by decide +kernel
theorem dX8_wordOf_52 : decode cX8_wordOf 52 = .ok (.ldc_w 333, 3) := by decide +kernel
theorem dX8_wordOf_55 : decode cX8_wordOf 55 = .ok (.areturn, 1) := by decide +kernel
theorem dX8_wordOf_56 : decode cX8_wordOf 56 = .ok (.ldc_w 335, 3) := by decide +kernel
theorem dX8_wordOf_59 : decode cX8_wordOf 59 = .ok (.areturn, 1) := by decide +kernel
theorem dX8_wordOf_60 : decode cX8_wordOf 60 = .ok (.ldc_w 337, 3) := by decide +kernel
theorem dX8_wordOf_63 : decode cX8_wordOf 63 = .ok (.areturn, 1) := by decide +kernel
theorem dX8_wordOf_64 : decode cX8_wordOf 64 = .ok (.ldc_w 339, 3) := by decide +kernel
theorem dX8_wordOf_67 : decode cX8_wordOf 67 = .ok (.areturn, 1) := by decide +kernel
theorem dX8_wordOf_68 : decode cX8_wordOf 68 = .ok (.ldc_w 341, 3) := by decide +kernel
theorem dX8_wordOf_71 : decode cX8_wordOf 71 = .ok (.areturn, 1) := by decide +kernel
theorem dX8_wordOf_72 : decode cX8_wordOf 72 = .ok (.ldc_w 343, 3) := by decide +kernel
theorem dX8_wordOf_75 : decode cX8_wordOf 75 = .ok (.areturn, 1) := by decide +kernel
theorem dX8_wordOf_76 : decode cX8_wordOf 76 = .ok (.ldc_w 345, 3) := by decide +kernel
theorem dX8_wordOf_79 : decode cX8_wordOf 79 = .ok (.areturn, 1) := by decide +kernel
theorem dX8_wordOf_80 : decode cX8_wordOf 80 = .ok (.ldc_w 346, 3) := by decide +kernel
theorem dX8_wordOf_83 : decode cX8_wordOf 83 = .ok (.areturn, 1) := by decide +kernel
theorem dX8_wordOf_84 : decode cX8_wordOf 84 = .ok (.ldc_w 348, 3) := by decide +kernel
theorem dX8_wordOf_87 : decode cX8_wordOf 87 = .ok (.areturn, 1) := by decide +kernel
theorem dX8_wordOf_88 : decode cX8_wordOf 88 = .ok (.ldc_w 350, 3) := by decide +kernel
theorem dX8_wordOf_91 : decode cX8_wordOf 91 = .ok (.areturn, 1) := by decide +kernel
set_option maxRecDepth 20000 in
theorem ggX9_init_X9_clearDraft : GoodIn wsX9_init wsX9_clearDraft := goodIn_r _ [22, 23, 24, 25, 21, 26, 6, 37, 38, 39, 40, 41, 42, 43, 44, 45, 46, 47, 48, 49, 50, 51, 52, 53, 54, 55, 56, 57, 58] (by decide +kernel) (by decide +kernel)
set_option maxRecDepth 20000 in
theorem gX9_init_X9_clearDraft : GoodIn wsX9_init (wsV RX9 46 RX9 yX9_clearDraft wsX9_clearDraft) := goodIn_app (goodIn_of _ (by decide +kernel)) ggX9_init_X9_clearDraft
set_option maxRecDepth 20000 in
theorem ggX9_init_X9_lifts : GoodIn wsX9_init wsX9_lifts := goodIn_r _ [30, 6, 37, 38, 39, 40, 41, 42, 43, 44, 45, 46, 47, 48, 49, 50, 51, 52, 53, 54, 55, 56, 57, 58] (by decide +kernel) (by decide +kernel)
set_option maxRecDepth 20000 in
theorem gX9_init_X9_lifts : GoodIn wsX9_init (wsV RX9 49 RX9 yX9_lifts wsX9_lifts) := goodIn_app (goodIn_of _ (by decide +kernel)) ggX9_init_X9_lifts
set_option maxRecDepth 20000 in
theorem ggX9_init_X9_begins : GoodIn wsX9_init wsX9_begins := goodIn_r _ [34, 5, 6, 35, 17, 36, 37, 38, 39, 40, 41, 42, 43, 44, 45, 46, 47, 48, 49, 50, 51, 52, 53, 54, 55, 56, 57, 58] (by decide +kernel) (by decide +kernel)
set_option maxRecDepth 20000 in
theorem gX9_init_X9_begins : GoodIn wsX9_init (wsV RX9 52 RX9 yX9_begins wsX9_begins) := goodIn_app (goodIn_of _ (by decide +kernel)) ggX9_init_X9_begins
theorem dX9_init_0 : decode cX9_init 0 = .ok (.aload_n 0, 1) := by decide +kernel
theorem dX9_init_1 : decode cX9_init 1 = .ok (.invokespecial 1, 3) := by decide +kernel
theorem dX9_init_4 : decode cX9_init 4 = .ok (.aload_n 0, 1) := by decide +kernel
theorem dX9_init_5 : decode cX9_init 5 = .ok (.sipush 214, 3) := by decide +kernel
theorem dX9_init_8 : decode cX9_init 8 = .ok (.newarray .int, 2) := by decide +kernel
theorem dX9_init_10 : decode cX9_init 10 = .ok (.putfield 7, 3) := by decide +kernel
theorem dX9_init_13 : decode cX9_init 13 = .ok (.aload_n 0, 1) := by decide +kernel
theorem dX9_init_14 : decode cX9_init 14 = .ok (.bipush 48, 2) := by decide +kernel
theorem dX9_init_16 : decode cX9_init 16 = .ok (.newarray .int, 2) := by decide +kernel
theorem dX9_init_18 : decode cX9_init 18 = .ok (.putfield 13, 3) := by decide +kernel
theorem dX9_init_21 : decode cX9_init 21 = .ok (.aload_n 0, 1) := by decide +kernel
theorem dX9_init_22 : decode cX9_init 22 = .ok (.sipush 500, 3) := by decide +kernel
theorem dX9_init_25 : decode cX9_init 25 = .ok (.newarray .byte, 2) := by decide +kernel
theorem dX9_init_27 : decode cX9_init 27 = .ok (.putfield 16, 3) := by decide +kernel
theorem dX9_init_30 : decode cX9_init 30 = .ok (.aload_n 0, 1) := by decide +kernel
theorem dX9_init_31 : decode cX9_init 31 = .ok (.iconst (-1), 1) := by decide +kernel
theorem dX9_init_32 : decode cX9_init 32 = .ok (.putfield 20, 3) := by decide +kernel
theorem dX9_init_35 : decode cX9_init 35 = .ok (.aload_n 0, 1) := by decide +kernel
theorem dX9_init_36 : decode cX9_init 36 = .ok (.bipush 49, 2) := by decide +kernel
theorem dX9_init_38 : decode cX9_init 38 = .ok (.newarray .int, 2) := by decide +kernel
theorem dX9_init_40 : decode cX9_init 40 = .ok (.putfield 24, 3) := by decide +kernel
theorem dX9_init_43 : decode cX9_init 43 = .ok (.aload_n 0, 1) := by decide +kernel
theorem dX9_init_44 : decode cX9_init 44 = .ok (.bipush 49, 2) := by decide +kernel
theorem dX9_init_46 : decode cX9_init 46 = .ok (.newarray .int, 2) := by decide +kernel
theorem dX9_init_48 : decode cX9_init 48 = .ok (.putfield 27, 3) := by decide +kernel
theorem dX9_init_51 : decode cX9_init 51 = .ok (.aload_n 0, 1) := by decide +kernel
theorem dX9_init_52 : decode cX9_init 52 = .ok (.bipush 14, 2) := by decide +kernel
theorem dX9_init_54 : decode cX9_init 54 = .ok (.newarray .int, 2) := by decide +kernel
theorem dX9_init_56 : decode cX9_init 56 = .ok (.putfield 30, 3) := by decide +kernel
theorem dX9_init_59 : decode cX9_init 59 = .ok (.aload_n 0, 1) := by decide +kernel
theorem dX9_init_60 : decode cX9_init 60 = .ok (.sipush 214, 3) := by decide +kernel
theorem dX9_init_63 : decode cX9_init 63 = .ok (.newarray .int, 2) := by decide +kernel
theorem dX9_init_65 : decode cX9_init 65 = .ok (.putfield 33, 3) := by decide +kernel
theorem dX9_init_68 : decode cX9_init 68 = .ok (.aload_n 0, 1) := by decide +kernel
theorem dX9_init_69 : decode cX9_init 69 = .ok (.sipush 2140, 3) := by decide +kernel
theorem dX9_init_72 : decode cX9_init 72 = .ok (.newarray .int, 2) := by decide +kernel
theorem dX9_init_74 : decode cX9_init 74 = .ok (.putfield 36, 3) := by decide +kernel
theorem dX9_init_77 : decode cX9_init 77 = .ok (.aload_n 0, 1) := by decide +kernel
theorem dX9_init_78 : decode cX9_init 78 = .ok (.sipush 428, 3) := by decide +kernel
theorem dX9_init_81 : decode cX9_init 81 = .ok (.newarray .int, 2) := by decide +kernel
theorem dX9_init_83 : decode cX9_init 83 = .ok (.putfield 39, 3) := by decide +kernel
theorem dX9_init_86 : decode cX9_init 86 = .ok (.aload_n 0, 1) := by decide +kernel
theorem dX9_init_87 : decode cX9_init 87 = .ok (.iconst 2, 1) := by decide +kernel
theorem dX9_init_88 : decode cX9_init 88 = .ok (.newarray .boolean, 2) := by decide +kernel
theorem dX9_init_90 : decode cX9_init 90 = .ok (.putfield 42, 3) := by decide +kernel
theorem dX9_init_93 : decode cX9_init 93 = .ok (.aload_n 0, 1) := by decide +kernel
theorem dX9_init_94 : decode cX9_init 94 = .ok (.invokevirtual 46, 3) := by decide +kernel
theorem dX9_init_97 : decode cX9_init 97 = .ok (.aload_n 0, 1) := by decide +kernel
theorem dX9_init_98 : decode cX9_init 98 = .ok (.invokevirtual 49, 3) := by decide +kernel
theorem dX9_init_101 : decode cX9_init 101 = .ok (.aload_n 0, 1) := by decide +kernel
theorem dX9_init_102 : decode cX9_init 102 = .ok (.invokevirtual 52, 3) := by decide +kernel
theorem dX9_init_105 : decode cX9_init 105 = .ok (.return_, 1) := by decide +kernel
theorem dX9_thrown_0 : decode cX9_thrown 0 = .ok (.aload_n 0, 1) := by decide +kernel
theorem dX9_thrown_1 : decode cX9_thrown 1 = .ok (.getfield 55, 3) := by decide +kernel
theorem dX9_thrown_4 : decode cX9_thrown 4 = .ok (.ireturn, 1) := by decide +kernel
theorem dX9_within_0 : decode cX9_within 0 = .ok (.iload_n 0, 1) := by decide +kernel
theorem dX9_within_1 : decode cX9_within 1 = .ok (.iload_n 1, 1) := by decide +kernel
theorem dX9_within_2 : decode cX9_within 2 = .ok (.if_icmp .lt 12, 3) := by decide +kernel
theorem dX9_within_5 : decode cX9_within 5 = .ok (.iload_n 0, 1) := by decide +kernel
theorem dX9_within_6 : decode cX9_within 6 = .ok (.iload_n 2, 1) := by decide +kernel
theorem dX9_within_7 : decode cX9_within 7 = .ok (.if_icmp .gt 7, 3) := by decide +kernel
theorem dX9_within_10 : decode cX9_within 10 = .ok (.iconst 1, 1) := by decide +kernel
theorem dX9_within_11 : decode cX9_within 11 = .ok (.goto 4, 3) := by decide +kernel
theorem dX9_within_14 : decode cX9_within 14 = .ok (.iconst 0, 1) := by decide +kernel
theorem dX9_within_15 : decode cX9_within 15 = .ok (.ireturn, 1) := by decide +kernel
theorem dX9_throwsIf_0 : decode cX9_throwsIf 0 = .ok (.aload_n 0, 1) := by decide +kernel
theorem dX9_throwsIf_1 : decode cX9_throwsIf 1 = .ok (.getfield 55, 3) := by decide +kernel
theorem dX9_throwsIf_4 : decode cX9_throwsIf 4 = .ok (.ifCond .ne 12, 3) := by decide +kernel
theorem dX9_throwsIf_7 : decode cX9_throwsIf 7 = .ok (.iload_n 1, 1) := by decide +kernel
theorem dX9_throwsIf_8 : decode cX9_throwsIf 8 = .ok (.ifCond .eq 8, 3) := by decide +kernel
theorem dX9_throwsIf_11 : decode cX9_throwsIf 11 = .ok (.aload_n 0, 1) := by decide +kernel
theorem dX9_throwsIf_12 : decode cX9_throwsIf 12 = .ok (.iload_n 2, 1) := by decide +kernel
theorem dX9_throwsIf_13 : decode cX9_throwsIf 13 = .ok (.putfield 55, 3) := by decide +kernel
theorem dX9_throwsIf_16 : decode cX9_throwsIf 16 = .ok (.aload_n 0, 1) := by decide +kernel
theorem dX9_throwsIf_17 : decode cX9_throwsIf 17 = .ok (.getfield 55, 3) := by decide +kernel
theorem dX9_throwsIf_20 : decode cX9_throwsIf 20 = .ok (.ifCond .le 7, 3) := by decide +kernel
theorem dX9_throwsIf_23 : decode cX9_throwsIf 23 = .ok (.iconst 1, 1) := by decide +kernel
theorem dX9_throwsIf_24 : decode cX9_throwsIf 24 = .ok (.goto 4, 3) := by decide +kernel
theorem dX9_throwsIf_27 : decode cX9_throwsIf 27 = .ok (.iconst 0, 1) := by decide +kernel
theorem dX9_throwsIf_28 : decode cX9_throwsIf 28 = .ok (.ireturn, 1) := by decide +kernel
theorem dX9_lifts_0 : decode cX9_lifts 0 = .ok (.iconst 0, 1) := by decide +kernel
theorem dX9_lifts_1 : decode cX9_lifts 1 = .ok (.istore_n 1, 1) := by decide +kernel
theorem dX9_lifts_2 : decode cX9_lifts 2 = .ok (.iload_n 1, 1) := by decide +kernel
theorem dX9_lifts_3 : decode cX9_lifts 3 = .ok (.bipush 24, 2) := by decide +kernel
theorem dX9_lifts_5 : decode cX9_lifts 5 = .ok (.if_icmp .ge 24, 3) := by decide +kernel
theorem dX9_lifts_8 : decode cX9_lifts 8 = .ok (.aload_n 0, 1) := by decide +kernel
theorem dX9_lifts_9 : decode cX9_lifts 9 = .ok (.getfield 13, 3) := by decide +kernel
theorem dX9_lifts_12 : decode cX9_lifts 12 = .ok (.iload_n 1, 1) := by decide +kernel
theorem dX9_lifts_13 : decode cX9_lifts 13 = .ok (.aload_n 0, 1) := by decide +kernel
theorem dX9_lifts_14 : decode cX9_lifts 14 = .ok (.getfield 13, 3) := by decide +kernel
theorem dX9_lifts_17 : decode cX9_lifts 17 = .ok (.bipush 24, 2) := by decide +kernel
theorem dX9_lifts_19 : decode cX9_lifts 19 = .ok (.iload_n 1, 1) := by decide +kernel
theorem dX9_lifts_20 : decode cX9_lifts 20 = .ok (.iadd, 1) := by decide +kernel
theorem dX9_lifts_21 : decode cX9_lifts 21 = .ok (.iaload, 1) := by decide +kernel
theorem dX9_lifts_22 : decode cX9_lifts 22 = .ok (.iastore, 1) := by decide +kernel
theorem dX9_lifts_23 : decode cX9_lifts 23 = .ok (.iinc 1 1, 3) := by decide +kernel
theorem dX9_lifts_26 : decode cX9_lifts 26 = .ok (.goto (-24), 3) := by decide +kernel
theorem dX9_lifts_29 : decode cX9_lifts 29 = .ok (.return_, 1) := by decide +kernel
theorem dX9_draft_0 : decode cX9_draft 0 = .ok (.aload_n 0, 1) := by decide +kernel
theorem dX9_draft_1 : decode cX9_draft 1 = .ok (.getfield 13, 3) := by decide +kernel
theorem dX9_draft_4 : decode cX9_draft 4 = .ok (.bipush 24, 2) := by decide +kernel
theorem dX9_draft_6 : decode cX9_draft 6 = .ok (.iload_n 1, 1) := by decide +kernel
theorem dX9_draft_7 : decode cX9_draft 7 = .ok (.iadd, 1) := by decide +kernel
theorem dX9_draft_8 : decode cX9_draft 8 = .ok (.iload_n 2, 1) := by decide +kernel
theorem dX9_draft_9 : decode cX9_draft 9 = .ok (.iastore, 1) := by decide +kernel
theorem dX9_draft_10 : decode cX9_draft 10 = .ok (.return_, 1) := by decide +kernel
set_option maxRecDepth 20000 in
theorem ggX9_clearDraft_X9_draft : GoodIn wsX9_clearDraft wsX9_draft := goodIn_r _ [5, 6, 7, 8, 9, 10, 11, 12, 13, 14, 15, 16, 17, 18, 19, 20, 21, 22, 23, 24, 25, 26, 27, 28] (by decide +kernel) (by decide +kernel)
set_option maxRecDepth 20000 in
theorem gX9_clearDraft_X9_draft : GoodIn wsX9_clearDraft (wsV RX9 58 RX9 yX9_draft wsX9_draft) := goodIn_app (goodIn_of _ (by decide +kernel)) ggX9_clearDraft_X9_draft
theorem dX9_clearDraft_0 : decode cX9_clearDraft 0 = .ok (.iconst 0, 1) := by decide +kernel
theorem dX9_clearDraft_1 : decode cX9_clearDraft 1 = .ok (.istore_n 1, 1) := by decide +kernel
theorem dX9_clearDraft_2 : decode cX9_clearDraft 2 = .ok (.iload_n 1, 1) := by decide +kernel
theorem dX9_clearDraft_3 : decode cX9_clearDraft 3 = .ok (.bipush 24, 2) := by decide +kernel
theorem dX9_clearDraft_5 : decode cX9_clearDraft 5 = .ok (.if_icmp .ge 15, 3) := by decide +kernel
theorem dX9_clearDraft_8 : decode cX9_clearDraft 8 = .ok (.aload_n 0, 1) := by decide +kernel
theorem dX9_clearDraft_9 : decode cX9_clearDraft 9 = .ok (.iload_n 1, 1) := by decide +kernel
theorem dX9_clearDraft_10 : decode cX9_clearDraft 10 = .ok (.iconst 0, 1) := by decide +kernel
theorem dX9_clearDraft_11 : decode cX9_clearDraft 11 = .ok (.invokevirtual 58, 3) := by decide +kernel
theorem dX9_clearDraft_14 : decode cX9_clearDraft 14 = .ok (.iinc 1 1, 3) := by decide +kernel
theorem dX9_clearDraft_17 : decode cX9_clearDraft 17 = .ok (.goto (-15), 3) := by decide +kernel
theorem dX9_clearDraft_20 : decode cX9_clearDraft 20 = .ok (.aload_n 0, 1) := by decide +kernel
theorem dX9_clearDraft_21 : decode cX9_clearDraft 21 = .ok (.iconst 0, 1) := by decide +kernel
theorem dX9_clearDraft_22 : decode cX9_clearDraft 22 = .ok (.sipush 4000, 3) := by decide +kernel
theorem dX9_clearDraft_25 : decode cX9_clearDraft 25 = .ok (.invokevirtual 58, 3) := by decide +kernel
theorem dX9_clearDraft_28 : decode cX9_clearDraft 28 = .ok (.aload_n 0, 1) := by decide +kernel
theorem dX9_clearDraft_29 : decode cX9_clearDraft 29 = .ok (.iconst 1, 1) := by decide +kernel
theorem dX9_clearDraft_30 : decode cX9_clearDraft 30 = .ok (.bipush 40, 2) := by decide +kernel
theorem dX9_clearDraft_32 : decode cX9_clearDraft 32 = .ok (.invokevirtual 58, 3) := by decide +kernel
theorem dX9_clearDraft_35 : decode cX9_clearDraft 35 = .ok (.aload_n 0, 1) := by decide +kernel
theorem dX9_clearDraft_36 : decode cX9_clearDraft 36 = .ok (.iconst 2, 1) := by decide +kernel
theorem dX9_clearDraft_37 : decode cX9_clearDraft 37 = .ok (.bipush 60, 2) := by decide +kernel
theorem dX9_clearDraft_39 : decode cX9_clearDraft 39 = .ok (.invokevirtual 58, 3) := by decide +kernel
theorem dX9_clearDraft_42 : decode cX9_clearDraft 42 = .ok (.aload_n 0, 1) := by decide +kernel
theorem dX9_clearDraft_43 : decode cX9_clearDraft 43 = .ok (.iconst 3, 1) := by decide +kernel
theorem dX9_clearDraft_44 : decode cX9_clearDraft 44 = .ok (.bipush 8, 2) := by decide +kernel
theorem dX9_clearDraft_46 : decode cX9_clearDraft 46 = .ok (.invokevirtual 58, 3) := by decide +kernel
theorem dX9_clearDraft_49 : decode cX9_clearDraft 49 = .ok (.aload_n 0, 1) := by decide +kernel
theorem dX9_clearDraft_50 : decode cX9_clearDraft 50 = .ok (.iconst 4, 1) := by decide +kernel
theorem dX9_clearDraft_51 : decode cX9_clearDraft 51 = .ok (.bipush 8, 2) := by decide +kernel
theorem dX9_clearDraft_53 : decode cX9_clearDraft 53 = .ok (.invokevirtual 58, 3) := by decide +kernel
theorem dX9_clearDraft_56 : decode cX9_clearDraft 56 = .ok (.aload_n 0, 1) := by decide +kernel
theorem dX9_clearDraft_57 : decode cX9_clearDraft 57 = .ok (.iconst 5, 1) := by decide +kernel
theorem dX9_clearDraft_58 : decode cX9_clearDraft 58 = .ok (.iconst 1, 1) := by decide +kernel
theorem dX9_clearDraft_59 : decode cX9_clearDraft 59 = .ok (.invokevirtual 58, 3) := by decide +kernel
theorem dX9_clearDraft_62 : decode cX9_clearDraft 62 = .ok (.aload_n 0, 1) := by decide +kernel
theorem dX9_clearDraft_63 : decode cX9_clearDraft 63 = .ok (.bipush 6, 2) := by decide +kernel
theorem dX9_clearDraft_65 : decode cX9_clearDraft 65 = .ok (.iconst 1, 1) := by decide +kernel
theorem dX9_clearDraft_66 : decode cX9_clearDraft 66 = .ok (.invokevirtual 58, 3) := by decide +kernel
theorem dX9_clearDraft_69 : decode cX9_clearDraft 69 = .ok (.aload_n 0, 1) := by decide +kernel
theorem dX9_clearDraft_70 : decode cX9_clearDraft 70 = .ok (.bipush 7, 2) := by decide +kernel
theorem dX9_clearDraft_72 : decode cX9_clearDraft 72 = .ok (.bipush 60, 2) := by decide +kernel
theorem dX9_clearDraft_74 : decode cX9_clearDraft 74 = .ok (.invokevirtual 58, 3) := by decide +kernel
theorem dX9_clearDraft_77 : decode cX9_clearDraft 77 = .ok (.aload_n 0, 1) := by decide +kernel
theorem dX9_clearDraft_78 : decode cX9_clearDraft 78 = .ok (.bipush 8, 2) := by decide +kernel
theorem dX9_clearDraft_80 : decode cX9_clearDraft 80 = .ok (.bipush 10, 2) := by decide +kernel
theorem dX9_clearDraft_82 : decode cX9_clearDraft 82 = .ok (.invokevirtual 58, 3) := by decide +kernel
theorem dX9_clearDraft_85 : decode cX9_clearDraft 85 = .ok (.aload_n 0, 1) := by decide +kernel
theorem dX9_clearDraft_86 : decode cX9_clearDraft 86 = .ok (.bipush 9, 2) := by decide +kernel
theorem dX9_clearDraft_88 : decode cX9_clearDraft 88 = .ok (.iconst 4, 1) := by decide +kernel
theorem dX9_clearDraft_89 : decode cX9_clearDraft 89 = .ok (.invokevirtual 58, 3) := by decide +kernel
theorem dX9_clearDraft_92 : decode cX9_clearDraft 92 = .ok (.aload_n 0, 1) := by decide +kernel
theorem dX9_clearDraft_93 : decode cX9_clearDraft 93 = .ok (.bipush 10, 2) := by decide +kernel
theorem dX9_clearDraft_95 : decode cX9_clearDraft 95 = .ok (.bipush 8, 2) := by decide +kernel
theorem dX9_clearDraft_97 : decode cX9_clearDraft 97 = .ok (.invokevirtual 58, 3) := by decide +kernel
theorem dX9_clearDraft_100 : decode cX9_clearDraft 100 = .ok (.aload_n 0, 1) := by decide +kernel
theorem dX9_clearDraft_101 : decode cX9_clearDraft 101 = .ok (.bipush 11, 2) := by decide +kernel
theorem dX9_clearDraft_103 : decode cX9_clearDraft 103 = .ok (.iconst 4, 1) := by decide +kernel
theorem dX9_clearDraft_104 : decode cX9_clearDraft 104 = .ok (.invokevirtual 58, 3) := by decide +kernel
theorem dX9_clearDraft_107 : decode cX9_clearDraft 107 = .ok (.aload_n 0, 1) := by decide +kernel
theorem dX9_clearDraft_108 : decode cX9_clearDraft 108 = .ok (.bipush 12, 2) := by decide +kernel
theorem dX9_clearDraft_110 : decode cX9_clearDraft 110 = .ok (.bipush 8, 2) := by decide +kernel
theorem dX9_clearDraft_112 : decode cX9_clearDraft 112 = .ok (.invokevirtual 58, 3) := by decide +kernel
theorem dX9_clearDraft_115 : decode cX9_clearDraft 115 = .ok (.aload_n 0, 1) := by decide +kernel
theorem dX9_clearDraft_116 : decode cX9_clearDraft 116 = .ok (.bipush 15, 2) := by decide +kernel
theorem dX9_clearDraft_118 : decode cX9_clearDraft 118 = .ok (.bipush 64, 2) := by decide +kernel
theorem dX9_clearDraft_120 : decode cX9_clearDraft 120 = .ok (.invokevirtual 58, 3) := by decide +kernel
theorem dX9_clearDraft_123 : decode cX9_clearDraft 123 = .ok (.aload_n 0, 1) := by decide +kernel
theorem dX9_clearDraft_124 : decode cX9_clearDraft 124 = .ok (.bipush 16, 2) := by decide +kernel
theorem dX9_clearDraft_126 : decode cX9_clearDraft 126 = .ok (.bipush 32, 2) := by decide +kernel
theorem dX9_clearDraft_128 : decode cX9_clearDraft 128 = .ok (.invokevirtual 58, 3) := by decide +kernel
theorem dX9_clearDraft_131 : decode cX9_clearDraft 131 = .ok (.aload_n 0, 1) := by decide +kernel
theorem dX9_clearDraft_132 : decode cX9_clearDraft 132 = .ok (.bipush 17, 2) := by decide +kernel
theorem dX9_clearDraft_134 : decode cX9_clearDraft 134 = .ok (.iconst 2, 1) := by decide +kernel
theorem dX9_clearDraft_135 : decode cX9_clearDraft 135 = .ok (.invokevirtual 58, 3) := by decide +kernel
theorem dX9_clearDraft_138 : decode cX9_clearDraft 138 = .ok (.aload_n 0, 1) := by decide +kernel
theorem dX9_clearDraft_139 : decode cX9_clearDraft 139 = .ok (.bipush 18, 2) := by decide +kernel
theorem dX9_clearDraft_141 : decode cX9_clearDraft 141 = .ok (.bipush 60, 2) := by decide +kernel
theorem dX9_clearDraft_143 : decode cX9_clearDraft 143 = .ok (.invokevirtual 58, 3) := by decide +kernel
theorem dX9_clearDraft_146 : decode cX9_clearDraft 146 = .ok (.aload_n 0, 1) := by decide +kernel
theorem dX9_clearDraft_147 : decode cX9_clearDraft 147 = .ok (.bipush 19, 2) := by decide +kernel
theorem dX9_clearDraft_149 : decode cX9_clearDraft 149 = .ok (.sipush 512, 3) := by decide +kernel
theorem dX9_clearDraft_152 : decode cX9_clearDraft 152 = .ok (.invokevirtual 58, 3) := by decide +kernel
theorem dX9_clearDraft_155 : decode cX9_clearDraft 155 = .ok (.aload_n 0, 1) := by decide +kernel
theorem dX9_clearDraft_156 : decode cX9_clearDraft 156 = .ok (.bipush 20, 2) := by decide +kernel
theorem dX9_clearDraft_158 : decode cX9_clearDraft 158 = .ok (.sipush 1500, 3) := by decide +kernel
theorem dX9_clearDraft_161 : decode cX9_clearDraft 161 = .ok (.invokevirtual 58, 3) := by decide +kernel
theorem dX9_clearDraft_164 : decode cX9_clearDraft 164 = .ok (.aload_n 0, 1) := by decide +kernel
theorem dX9_clearDraft_165 : decode cX9_clearDraft 165 = .ok (.bipush 21, 2) := by decide +kernel
theorem dX9_clearDraft_167 : decode cX9_clearDraft 167 = .ok (.iconst 4, 1) := by decide +kernel
theorem dX9_clearDraft_168 : decode cX9_clearDraft 168 = .ok (.invokevirtual 58, 3) := by decide +kernel
theorem dX9_clearDraft_171 : decode cX9_clearDraft 171 = .ok (.aload_n 0, 1) := by decide +kernel
theorem dX9_clearDraft_172 : decode cX9_clearDraft 172 = .ok (.bipush 22, 2) := by decide +kernel
theorem dX9_clearDraft_174 : decode cX9_clearDraft 174 = .ok (.bipush 50, 2) := by decide +kernel
theorem dX9_clearDraft_176 : decode cX9_clearDraft 176 = .ok (.invokevirtual 58, 3) := by decide +kernel
theorem dX9_clearDraft_179 : decode cX9_clearDraft 179 = .ok (.aload_n 0, 1) := by decide +kernel
theorem dX9_clearDraft_180 : decode cX9_clearDraft 180 = .ok (.bipush 23, 2) := by decide +kernel
theorem dX9_clearDraft_182 : decode cX9_clearDraft 182 = .ok (.bipush 100, 2) := by decide +kernel
theorem dX9_clearDraft_184 : decode cX9_clearDraft 184 = .ok (.invokevirtual 58, 3) := by decide +kernel
theorem dX9_clearDraft_187 : decode cX9_clearDraft 187 = .ok (.return_, 1) := by decide +kernel
set_option maxRecDepth 20000 in
theorem ggX9_append_X9_bytesOf : GoodIn wsX9_append wsX9_bytesOf := goodIn_r _ [7, 8, 2, 9, 10, 11, 12, 13, 14, 15, 16, 17, 18, 19, 20, 21, 22, 23, 24, 25, 26, 27, 28, 29, 30] (by decide +kernel) (by decide +kernel)
set_option maxRecDepth 20000 in
theorem gX9_append_X9_bytesOf : GoodIn wsX9_append (wsV RX9 65 RX9 yX9_bytesOf wsX9_bytesOf) := goodIn_app (goodIn_of _ (by decide +kernel)) ggX9_append_X9_bytesOf
theorem dX9_append_0 : decode cX9_append 0 = .ok (.aload_n 0, 1) := by decide +kernel
theorem dX9_append_1 : decode cX9_append 1 = .ok (.iconst 0, 1) := by decide +kernel
theorem dX9_append_2 : decode cX9_append 2 = .ok (.putfield 55, 3) := by decide +kernel
theorem dX9_append_5 : decode cX9_append 5 = .ok (.aload_n 0, 1) := by decide +kernel
theorem dX9_append_6 : decode cX9_append 6 = .ok (.getfield 62, 3) := by decide +kernel
theorem dX9_append_9 : decode cX9_append 9 = .ok (.bipush 20, 2) := by decide +kernel
theorem dX9_append_11 : decode cX9_append 11 = .ok (.iadd, 1) := by decide +kernel
theorem dX9_append_12 : decode cX9_append 12 = .ok (.sipush 500, 3) := by decide +kernel
theorem dX9_append_15 : decode cX9_append 15 = .ok (.if_icmp .le 5, 3) := by decide +kernel
theorem dX9_append_18 : decode cX9_append 18 = .ok (.iconst (-1), 1) := by decide +kernel
theorem dX9_append_19 : decode cX9_append 19 = .ok (.ireturn, 1) := by decide +kernel
theorem dX9_append_20 : decode cX9_append 20 = .ok (.aload_n 0, 1) := by decide +kernel
theorem dX9_append_21 : decode cX9_append 21 = .ok (.iload_n 1, 1) := by decide +kernel
theorem dX9_append_22 : decode cX9_append 22 = .ok (.invokevirtual 65, 3) := by decide +kernel
theorem dX9_append_25 : decode cX9_append 25 = .ok (.aload_n 0, 1) := by decide +kernel
theorem dX9_append_26 : decode cX9_append 26 = .ok (.iload_n 2, 1) := by decide +kernel
theorem dX9_append_27 : decode cX9_append 27 = .ok (.invokevirtual 65, 3) := by decide +kernel
theorem dX9_append_30 : decode cX9_append 30 = .ok (.aload_n 0, 1) := by decide +kernel
theorem dX9_append_31 : decode cX9_append 31 = .ok (.iload_n 3, 1) := by decide +kernel
theorem dX9_append_32 : decode cX9_append 32 = .ok (.invokevirtual 65, 3) := by decide +kernel
theorem dX9_append_35 : decode cX9_append 35 = .ok (.aload_n 0, 1) := by decide +kernel
theorem dX9_append_36 : decode cX9_append 36 = .ok (.iload 4, 2) := by decide +kernel
theorem dX9_append_38 : decode cX9_append 38 = .ok (.invokevirtual 65, 3) := by decide +kernel
theorem dX9_append_41 : decode cX9_append 41 = .ok (.aload_n 0, 1) := by decide +kernel
theorem dX9_append_42 : decode cX9_append 42 = .ok (.iload 5, 2) := by decide +kernel
theorem dX9_append_44 : decode cX9_append 44 = .ok (.invokevirtual 65, 3) := by decide +kernel
theorem dX9_append_47 : decode cX9_append 47 = .ok (.aload_n 0, 1) := by decide +kernel
theorem dX9_append_48 : decode cX9_append 48 = .ok (.getfield 62, 3) := by decide +kernel
theorem dX9_append_51 : decode cX9_append 51 = .ok (.ireturn, 1) := by decide +kernel
theorem dX9_bytesOf_0 : decode cX9_bytesOf 0 = .ok (.bipush 24, 2) := by decide +kernel
theorem dX9_bytesOf_2 : decode cX9_bytesOf 2 = .ok (.istore_n 2, 1) := by decide +kernel
theorem dX9_bytesOf_3 : decode cX9_bytesOf 3 = .ok (.iload_n 2, 1) := by decide +kernel
theorem dX9_bytesOf_4 : decode cX9_bytesOf 4 = .ok (.ifCond .lt 32, 3) := by decide +kernel
theorem dX9_bytesOf_7 : decode cX9_bytesOf 7 = .ok (.aload_n 0, 1) := by decide +kernel
theorem dX9_bytesOf_8 : decode cX9_bytesOf 8 = .ok (.getfield 16, 3) := by decide +kernel
theorem dX9_bytesOf_11 : decode cX9_bytesOf 11 = .ok (.aload_n 0, 1) := by decide +kernel
theorem dX9_bytesOf_12 : decode cX9_bytesOf 12 = .ok (.getfield 62, 3) := by decide +kernel
theorem dX9_bytesOf_15 : decode cX9_bytesOf 15 = .ok (.iload_n 1, 1) := by decide +kernel
theorem dX9_bytesOf_16 : decode cX9_bytesOf 16 = .ok (.iload_n 2, 1) := by decide +kernel
theorem dX9_bytesOf_17 : decode cX9_bytesOf 17 = .ok (.ishr, 1) := by decide +kernel
theorem dX9_bytesOf_18 : decode cX9_bytesOf 18 = .ok (.i2b, 1) := by decide +kernel
theorem dX9_bytesOf_19 : decode cX9_bytesOf 19 = .ok (.bastore, 1) := by decide +kernel
theorem dX9_bytesOf_20 : decode cX9_bytesOf 20 = .ok (.aload_n 0, 1) := by decide +kernel
theorem dX9_bytesOf_21 : decode cX9_bytesOf 21 = .ok (.dup, 1) := by decide +kernel
theorem dX9_bytesOf_22 : decode cX9_bytesOf 22 = .ok (.getfield 62, 3) := by decide +kernel
theorem dX9_bytesOf_25 : decode cX9_bytesOf 25 = .ok (.iconst 1, 1) := by decide +kernel
theorem dX9_bytesOf_26 : decode cX9_bytesOf 26 = .ok (.iadd, 1) := by decide +kernel
theorem dX9_bytesOf_27 : decode cX9_bytesOf 27 = .ok (.putfield 62, 3) := by decide +kernel
theorem dX9_bytesOf_30 : decode cX9_bytesOf 30 = .ok (.iinc 2 (-8), 3) := by decide +kernel
theorem dX9_bytesOf_33 : decode cX9_bytesOf 33 = .ok (.goto (-30), 3) := by decide +kernel
theorem dX9_bytesOf_36 : decode cX9_bytesOf 36 = .ok (.return_, 1) := by decide +kernel
theorem dX9_byteAt_0 : decode cX9_byteAt 0 = .ok (.iload_n 1, 1) := by decide +kernel
theorem dX9_byteAt_1 : decode cX9_byteAt 1 = .ok (.aload_n 0, 1) := by decide +kernel
theorem dX9_byteAt_2 : decode cX9_byteAt 2 = .ok (.getfield 69, 3) := by decide +kernel
theorem dX9_byteAt_5 : decode cX9_byteAt 5 = .ok (.if_icmp .ge 16, 3) := by decide +kernel
theorem dX9_byteAt_8 : decode cX9_byteAt 8 = .ok (.aload_n 0, 1) := by decide +kernel
theorem dX9_byteAt_9 : decode cX9_byteAt 9 = .ok (.getfield 16, 3) := by decide +kernel
theorem dX9_byteAt_12 : decode cX9_byteAt 12 = .ok (.iload_n 1, 1) := by decide +kernel
theorem dX9_byteAt_13 : decode cX9_byteAt 13 = .ok (.baload, 1) := by decide +kernel
theorem dX9_byteAt_14 : decode cX9_byteAt 14 = .ok (.sipush 255, 3) := by decide +kernel
theorem dX9_byteAt_17 : decode cX9_byteAt 17 = .ok (.iand, 1) := by decide +kernel
theorem dX9_byteAt_18 : decode cX9_byteAt 18 = .ok (.goto 4, 3) := by decide +kernel
theorem dX9_byteAt_21 : decode cX9_byteAt 21 = .ok (.iconst (-1), 1) := by decide +kernel
theorem dX9_byteAt_22 : decode cX9_byteAt 22 = .ok (.ireturn, 1) := by decide +kernel
set_option maxRecDepth 20000 in
theorem ggX9_advance_X9_byteAt : GoodIn wsX9_advance wsX9_byteAt := goodIn_r _ [9, 10, 11, 15, 16, 17, 18, 19, 20, 21, 22, 23, 24, 25, 26, 27, 28, 29, 30, 31, 32, 33, 34, 35, 36] (by decide +kernel) (by decide +kernel)
set_option maxRecDepth 20000 in
theorem gX9_advance_X9_byteAt : GoodIn wsX9_advance (wsV RX9 75 RX9 yX9_byteAt wsX9_byteAt) := goodIn_app (goodIn_of _ (by decide +kernel)) ggX9_advance_X9_byteAt
set_option maxRecDepth 20000 in
theorem ggX9_advance_X9_within : GoodIn wsX9_advance wsX9_within := goodIn_r _ [14] (by decide +kernel) (by decide +kernel)
set_option maxRecDepth 20000 in
theorem gX9_advance_X9_within : GoodIn wsX9_advance (va_wsS RX9 88 yX9_within wsX9_within) := goodIn_app (goodIn_of _ (by decide +kernel)) ggX9_advance_X9_within
theorem dX9_advance_0 : decode cX9_advance 0 = .ok (.aload_n 0, 1) := by decide +kernel
theorem dX9_advance_1 : decode cX9_advance 1 = .ok (.aload_n 0, 1) := by decide +kernel
theorem dX9_advance_2 : decode cX9_advance 2 = .ok (.getfield 72, 3) := by decide +kernel
theorem dX9_advance_5 : decode cX9_advance 5 = .ok (.invokevirtual 75, 3) := by decide +kernel
theorem dX9_advance_8 : decode cX9_advance 8 = .ok (.bipush 32, 2) := by decide +kernel
theorem dX9_advance_10 : decode cX9_advance 10 = .ok (.if_icmp .eq 16, 3) := by decide +kernel
theorem dX9_advance_13 : decode cX9_advance 13 = .ok (.aload_n 0, 1) := by decide +kernel
theorem dX9_advance_14 : decode cX9_advance 14 = .ok (.aload_n 0, 1) := by decide +kernel
theorem dX9_advance_15 : decode cX9_advance 15 = .ok (.getfield 72, 3) := by decide +kernel
theorem dX9_advance_18 : decode cX9_advance 18 = .ok (.invokevirtual 75, 3) := by decide +kernel
theorem dX9_advance_21 : decode cX9_advance 21 = .ok (.bipush 10, 2) := by decide +kernel
theorem dX9_advance_23 : decode cX9_advance 23 = .ok (.if_icmp .ne 16, 3) := by decide +kernel
theorem dX9_advance_26 : decode cX9_advance 26 = .ok (.aload_n 0, 1) := by decide +kernel
theorem dX9_advance_27 : decode cX9_advance 27 = .ok (.dup, 1) := by decide +kernel
theorem dX9_advance_28 : decode cX9_advance 28 = .ok (.getfield 72, 3) := by decide +kernel
theorem dX9_advance_31 : decode cX9_advance 31 = .ok (.iconst 1, 1) := by decide +kernel
theorem dX9_advance_32 : decode cX9_advance 32 = .ok (.iadd, 1) := by decide +kernel
theorem dX9_advance_33 : decode cX9_advance 33 = .ok (.putfield 72, 3) := by decide +kernel
theorem dX9_advance_36 : decode cX9_advance 36 = .ok (.goto (-36), 3) := by decide +kernel
theorem dX9_advance_39 : decode cX9_advance 39 = .ok (.aload_n 0, 1) := by decide +kernel
theorem dX9_advance_40 : decode cX9_advance 40 = .ok (.aload_n 0, 1) := by decide +kernel
theorem dX9_advance_41 : decode cX9_advance 41 = .ok (.getfield 72, 3) := by decide +kernel
theorem dX9_advance_44 : decode cX9_advance 44 = .ok (.putfield 79, 3) := by decide +kernel
theorem dX9_advance_47 : decode cX9_advance 47 = .ok (.aload_n 0, 1) := by decide +kernel
theorem dX9_advance_48 : decode cX9_advance 48 = .ok (.iconst 0, 1) := by decide +kernel
theorem dX9_advance_49 : decode cX9_advance 49 = .ok (.putfield 82, 3) := by decide +kernel
theorem dX9_advance_52 : decode cX9_advance 52 = .ok (.aload_n 0, 1) := by decide +kernel
theorem dX9_advance_53 : decode cX9_advance 53 = .ok (.aload_n 0, 1) := by decide +kernel
theorem dX9_advance_54 : decode cX9_advance 54 = .ok (.getfield 72, 3) := by decide +kernel
theorem dX9_advance_57 : decode cX9_advance 57 = .ok (.invokevirtual 75, 3) := by decide +kernel
theorem dX9_advance_60 : decode cX9_advance 60 = .ok (.istore_n 1, 1) := by decide +kernel
theorem dX9_advance_61 : decode cX9_advance 61 = .ok (.iload_n 1, 1) := by decide +kernel
theorem dX9_advance_62 : decode cX9_advance 62 = .ok (.iconst (-1), 1) := by decide +kernel
theorem dX9_advance_63 : decode cX9_advance 63 = .ok (.if_icmp .ne 11, 3) := by decide +kernel
theorem dX9_advance_66 : decode cX9_advance 66 = .ok (.aload_n 0, 1) := by decide +kernel
theorem dX9_advance_67 : decode cX9_advance 67 = .ok (.iconst 0, 1) := by decide +kernel
theorem dX9_advance_68 : decode cX9_advance 68 = .ok (.putfield 85, 3) := by decide +kernel
theorem dX9_advance_71 : decode cX9_advance 71 = .ok (.goto 206, 3) := by decide +kernel
theorem dX9_advance_74 : decode cX9_advance 74 = .ok (.iload_n 1, 1) := by decide +kernel
theorem dX9_advance_75 : decode cX9_advance 75 = .ok (.bipush 97, 2) := by decide +kernel
theorem dX9_advance_77 : decode cX9_advance 77 = .ok (.bipush 122, 2) := by decide +kernel
theorem dX9_advance_79 : decode cX9_advance 79 = .ok (.invokestatic 88, 3) := by decide +kernel
theorem dX9_advance_82 : decode cX9_advance 82 = .ok (.ifCond .eq 60, 3) := by decide +kernel
theorem dX9_advance_85 : decode cX9_advance 85 = .ok (.aload_n 0, 1) := by decide +kernel
theorem dX9_advance_86 : decode cX9_advance 86 = .ok (.aload_n 0, 1) := by decide +kernel
theorem dX9_advance_87 : decode cX9_advance 87 = .ok (.getfield 72, 3) := by decide +kernel
theorem dX9_advance_90 : decode cX9_advance 90 = .ok (.invokevirtual 75, 3) := by decide +kernel
theorem dX9_advance_93 : decode cX9_advance 93 = .ok (.bipush 97, 2) := by decide +kernel
theorem dX9_advance_95 : decode cX9_advance 95 = .ok (.bipush 122, 2) := by decide +kernel
theorem dX9_advance_97 : decode cX9_advance 97 = .ok (.invokestatic 88, 3) := by decide +kernel
theorem dX9_advance_100 : decode cX9_advance 100 = .ok (.ifCond .eq 16, 3) := by decide +kernel
theorem dX9_advance_103 : decode cX9_advance 103 = .ok (.aload_n 0, 1) := by decide +kernel
theorem dX9_advance_104 : decode cX9_advance 104 = .ok (.dup, 1) := by decide +kernel
theorem dX9_advance_105 : decode cX9_advance 105 = .ok (.getfield 72, 3) := by decide +kernel
theorem dX9_advance_108 : decode cX9_advance 108 = .ok (.iconst 1, 1) := by decide +kernel
theorem dX9_advance_109 : decode cX9_advance 109 = .ok (.iadd, 1) := by decide +kernel
theorem dX9_advance_110 : decode cX9_advance 110 = .ok (.putfield 72, 3) := by decide +kernel
theorem dX9_advance_113 : decode cX9_advance 113 = .ok (.goto (-28), 3) := by decide +kernel
theorem dX9_advance_116 : decode cX9_advance 116 = .ok (.aload_n 0, 1) := by decide +kernel
theorem dX9_advance_117 : decode cX9_advance 117 = .ok (.aload_n 0, 1) := by decide +kernel
theorem dX9_advance_118 : decode cX9_advance 118 = .ok (.getfield 72, 3) := by decide +kernel
theorem dX9_advance_121 : decode cX9_advance 121 = .ok (.aload_n 0, 1) := by decide +kernel
theorem dX9_advance_122 : decode cX9_advance 122 = .ok (.getfield 79, 3) := by decide +kernel
theorem dX9_advance_125 : decode cX9_advance 125 = .ok (.isub, 1) := by decide +kernel
theorem dX9_advance_126 : decode cX9_advance 126 = .ok (.bipush 8, 2) := by decide +kernel
theorem dX9_advance_128 : decode cX9_advance 128 = .ok (.if_icmp .le 7, 3) := by decide +kernel
theorem dX9_advance_131 : decode cX9_advance 131 = .ok (.iconst 4, 1) := by decide +kernel
theorem dX9_advance_132 : decode cX9_advance 132 = .ok (.goto 4, 3) := by decide +kernel
theorem dX9_advance_135 : decode cX9_advance 135 = .ok (.iconst 1, 1) := by decide +kernel
theorem dX9_advance_136 : decode cX9_advance 136 = .ok (.putfield 85, 3) := by decide +kernel
theorem dX9_advance_139 : decode cX9_advance 139 = .ok (.goto 138, 3) := by decide +kernel
theorem dX9_advance_142 : decode cX9_advance 142 = .ok (.iload_n 1, 1) := by decide +kernel
theorem dX9_advance_143 : decode cX9_advance 143 = .ok (.bipush 48, 2) := by decide +kernel
theorem dX9_advance_145 : decode cX9_advance 145 = .ok (.bipush 57, 2) := by decide +kernel
theorem dX9_advance_147 : decode cX9_advance 147 = .ok (.invokestatic 88, 3) := by decide +kernel
theorem dX9_advance_150 : decode cX9_advance 150 = .ok (.ifCond .eq 102, 3) := by decide +kernel
theorem dX9_advance_153 : decode cX9_advance 153 = .ok (.aload_n 0, 1) := by decide +kernel
theorem dX9_advance_154 : decode cX9_advance 154 = .ok (.aload_n 0, 1) := by decide +kernel
theorem dX9_advance_155 : decode cX9_advance 155 = .ok (.getfield 72, 3) := by decide +kernel
theorem dX9_advance_158 : decode cX9_advance 158 = .ok (.invokevirtual 75, 3) := by decide +kernel
theorem dX9_advance_161 : decode cX9_advance 161 = .ok (.bipush 48, 2) := by decide +kernel
theorem dX9_advance_163 : decode cX9_advance 163 = .ok (.bipush 57, 2) := by decide +kernel
theorem dX9_advance_165 : decode cX9_advance 165 = .ok (.invokestatic 88, 3) := by decide +kernel
theorem dX9_advance_168 : decode cX9_advance 168 = .ok (.ifCond .eq 59, 3) := by decide +kernel
theorem dX9_advance_171 : decode cX9_advance 171 = .ok (.aload_n 0, 1) := by decide +kernel
theorem dX9_advance_172 : decode cX9_advance 172 = .ok (.aload_n 0, 1) := by decide +kernel
theorem dX9_advance_173 : decode cX9_advance 173 = .ok (.getfield 72, 3) := by decide +kernel
theorem dX9_advance_176 : decode cX9_advance 176 = .ok (.aload_n 0, 1) := by decide +kernel
theorem dX9_advance_177 : decode cX9_advance 177 = .ok (.getfield 79, 3) := by decide +kernel
theorem dX9_advance_180 : decode cX9_advance 180 = .ok (.isub, 1) := by decide +kernel
theorem dX9_advance_181 : decode cX9_advance 181 = .ok (.iconst 4, 1) := by decide +kernel
theorem dX9_advance_182 : decode cX9_advance 182 = .ok (.if_icmp .ge 25, 3) := by decide +kernel
theorem dX9_advance_185 : decode cX9_advance 185 = .ok (.bipush 10, 2) := by decide +kernel
theorem dX9_advance_187 : decode cX9_advance 187 = .ok (.aload_n 0, 1) := by decide +kernel
theorem dX9_advance_188 : decode cX9_advance 188 = .ok (.getfield 82, 3) := by decide +kernel
theorem dX9_advance_191 : decode cX9_advance 191 = .ok (.imul, 1) := by decide +kernel
theorem dX9_advance_192 : decode cX9_advance 192 = .ok (.aload_n 0, 1) := by decide +kernel
theorem dX9_advance_193 : decode cX9_advance 193 = .ok (.aload_n 0, 1) := by decide +kernel
theorem dX9_advance_194 : decode cX9_advance 194 = .ok (.getfield 72, 3) := by decide +kernel
theorem dX9_advance_197 : decode cX9_advance 197 = .ok (.invokevirtual 75, 3) := by decide +kernel
theorem dX9_advance_200 : decode cX9_advance 200 = .ok (.iadd, 1) := by decide +kernel
theorem dX9_advance_201 : decode cX9_advance 201 = .ok (.bipush 48, 2) := by decide +kernel
theorem dX9_advance_203 : decode cX9_advance 203 = .ok (.isub, 1) := by decide +kernel
theorem dX9_advance_204 : decode cX9_advance 204 = .ok (.goto 7, 3) := by decide +kernel
theorem dX9_advance_207 : decode cX9_advance 207 = .ok (.aload_n 0, 1) := by decide +kernel
theorem dX9_advance_208 : decode cX9_advance 208 = .ok (.getfield 82, 3) := by decide +kernel
theorem dX9_advance_211 : decode cX9_advance 211 = .ok (.putfield 82, 3) := by decide +kernel
theorem dX9_advance_214 : decode cX9_advance 214 = .ok (.aload_n 0, 1) := by decide +kernel
theorem dX9_advance_215 : decode cX9_advance 215 = .ok (.dup, 1) := by decide +kernel
theorem dX9_advance_216 : decode cX9_advance 216 = .ok (.getfield 72, 3) := by decide +kernel
theorem dX9_advance_219 : decode cX9_advance 219 = .ok (.iconst 1, 1) := by decide +kernel
theorem dX9_advance_220 : decode cX9_advance 220 = .ok (.iadd, 1) := by decide +kernel
theorem dX9_advance_221 : decode cX9_advance 221 = .ok (.putfield 72, 3) := by decide +kernel
theorem dX9_advance_224 : decode cX9_advance 224 = .ok (.goto (-71), 3) := by decide +kernel
theorem dX9_advance_227 : decode cX9_advance 227 = .ok (.aload_n 0, 1) := by decide +kernel
theorem dX9_advance_228 : decode cX9_advance 228 = .ok (.aload_n 0, 1) := by decide +kernel
theorem dX9_advance_229 : decode cX9_advance 229 = .ok (.getfield 72, 3) := by decide +kernel
theorem dX9_advance_232 : decode cX9_advance 232 = .ok (.aload_n 0, 1) := by decide +kernel
theorem dX9_advance_233 : decode cX9_advance 233 = .ok (.getfield 79, 3) := by decide +kernel
theorem dX9_advance_236 : decode cX9_advance 236 = .ok (.isub, 1) := by decide +kernel
theorem dX9_advance_237 : decode cX9_advance 237 = .ok (.iconst 4, 1) := by decide +kernel
theorem dX9_advance_238 : decode cX9_advance 238 = .ok (.if_icmp .le 7, 3) := by decide +kernel
theorem dX9_advance_241 : decode cX9_advance 241 = .ok (.iconst 4, 1) := by decide +kernel
theorem dX9_advance_242 : decode cX9_advance 242 = .ok (.goto 4, 3) := by decide +kernel
theorem dX9_advance_245 : decode cX9_advance 245 = .ok (.iconst 2, 1) := by decide +kernel
theorem dX9_advance_246 : decode cX9_advance 246 = .ok (.putfield 85, 3) := by decide +kernel
theorem dX9_advance_249 : decode cX9_advance 249 = .ok (.goto 28, 3) := by decide +kernel
theorem dX9_advance_252 : decode cX9_advance 252 = .ok (.aload_n 0, 1) := by decide +kernel
theorem dX9_advance_253 : decode cX9_advance 253 = .ok (.dup, 1) := by decide +kernel
theorem dX9_advance_254 : decode cX9_advance 254 = .ok (.getfield 72, 3) := by decide +kernel
theorem dX9_advance_257 : decode cX9_advance 257 = .ok (.iconst 1, 1) := by decide +kernel
theorem dX9_advance_258 : decode cX9_advance 258 = .ok (.iadd, 1) := by decide +kernel
theorem dX9_advance_259 : decode cX9_advance 259 = .ok (.putfield 72, 3) := by decide +kernel
theorem dX9_advance_262 : decode cX9_advance 262 = .ok (.aload_n 0, 1) := by decide +kernel
theorem dX9_advance_263 : decode cX9_advance 263 = .ok (.iload_n 1, 1) := by decide +kernel
theorem dX9_advance_264 : decode cX9_advance 264 = .ok (.bipush 59, 2) := by decide +kernel
theorem dX9_advance_266 : decode cX9_advance 266 = .ok (.if_icmp .ne 7, 3) := by decide +kernel
theorem dX9_advance_269 : decode cX9_advance 269 = .ok (.iconst 3, 1) := by decide +kernel
theorem dX9_advance_270 : decode cX9_advance 270 = .ok (.goto 4, 3) := by decide +kernel
theorem dX9_advance_273 : decode cX9_advance 273 = .ok (.iconst 4, 1) := by decide +kernel
theorem dX9_advance_274 : decode cX9_advance 274 = .ok (.putfield 85, 3) := by decide +kernel
theorem dX9_advance_277 : decode cX9_advance 277 = .ok (.return_, 1) := by decide +kernel
set_option maxRecDepth 20000 in
theorem ggX9_isWord_J0_length_8abf5 : GoodIn wsX9_isWord wsJ0_length_8abf5 := goodIn_r _ [9, 10, 11, 12, 13, 8, 14, 15, 16] (by decide +kernel) (by decide +kernel)
set_option maxRecDepth 20000 in
theorem gX9_isWord_J0_length_8abf5 : GoodIn wsX9_isWord (wsV RX9 92 RJ0 yJ0_length_8abf5 wsJ0_length_8abf5) := goodIn_app (goodIn_of _ (by decide +kernel)) ggX9_isWord_J0_length_8abf5
set_option maxRecDepth 20000 in
theorem ggX9_isWord_J0_charAt_5068e : GoodIn wsX9_isWord wsJ0_charAt_5068e := goodIn_r _ [20, 10, 21, 22, 23, 8, 24, 15, 16, 25, 26, 27, 28, 29, 30, 31, 32, 33, 34, 35, 36, 37, 38, 39, 40, 41, 42, 43, 44, 45, 46, 47, 48, 49, 50, 51, 52, 53] (by decide +kernel) (by decide +kernel)
set_option maxRecDepth 20000 in
theorem gX9_isWord_J0_charAt_5068e : GoodIn wsX9_isWord (wsV RX9 97 RJ0 yJ0_charAt_5068e wsJ0_charAt_5068e) := goodIn_app (goodIn_of _ (by decide +kernel)) ggX9_isWord_J0_charAt_5068e
theorem dX9_isWord_0 : decode cX9_isWord 0 = .ok (.aload_n 0, 1) := by decide +kernel
theorem dX9_isWord_1 : decode cX9_isWord 1 = .ok (.getfield 85, 3) := by decide +kernel
theorem dX9_isWord_4 : decode cX9_isWord 4 = .ok (.iconst 1, 1) := by decide +kernel
theorem dX9_isWord_5 : decode cX9_isWord 5 = .ok (.if_icmp .ne 23, 3) := by decide +kernel
theorem dX9_isWord_8 : decode cX9_isWord 8 = .ok (.aload_n 0, 1) := by decide +kernel
theorem dX9_isWord_9 : decode cX9_isWord 9 = .ok (.getfield 72, 3) := by decide +kernel
theorem dX9_isWord_12 : decode cX9_isWord 12 = .ok (.aload_n 0, 1) := by decide +kernel
theorem dX9_isWord_13 : decode cX9_isWord 13 = .ok (.getfield 79, 3) := by decide +kernel
theorem dX9_isWord_16 : decode cX9_isWord 16 = .ok (.isub, 1) := by decide +kernel
theorem dX9_isWord_17 : decode cX9_isWord 17 = .ok (.aload_n 1, 1) := by decide +kernel
theorem dX9_isWord_18 : decode cX9_isWord 18 = .ok (.invokevirtual 92, 3) := by decide +kernel
theorem dX9_isWord_21 : decode cX9_isWord 21 = .ok (.if_icmp .ne 7, 3) := by decide +kernel
theorem dX9_isWord_24 : decode cX9_isWord 24 = .ok (.iconst 1, 1) := by decide +kernel
theorem dX9_isWord_25 : decode cX9_isWord 25 = .ok (.goto 4, 3) := by decide +kernel
theorem dX9_isWord_28 : decode cX9_isWord 28 = .ok (.iconst 0, 1) := by decide +kernel
theorem dX9_isWord_29 : decode cX9_isWord 29 = .ok (.istore_n 2, 1) := by decide +kernel
theorem dX9_isWord_30 : decode cX9_isWord 30 = .ok (.iconst 0, 1) := by decide +kernel
theorem dX9_isWord_31 : decode cX9_isWord 31 = .ok (.istore_n 3, 1) := by decide +kernel
theorem dX9_isWord_32 : decode cX9_isWord 32 = .ok (.iload_n 3, 1) := by decide +kernel
theorem dX9_isWord_33 : decode cX9_isWord 33 = .ok (.aload_n 1, 1) := by decide +kernel
theorem dX9_isWord_34 : decode cX9_isWord 34 = .ok (.invokevirtual 92, 3) := by decide +kernel
theorem dX9_isWord_37 : decode cX9_isWord 37 = .ok (.if_icmp .ge 38, 3) := by decide +kernel
theorem dX9_isWord_40 : decode cX9_isWord 40 = .ok (.iload_n 2, 1) := by decide +kernel
theorem dX9_isWord_41 : decode cX9_isWord 41 = .ok (.ifCond .eq 34, 3) := by decide +kernel
theorem dX9_isWord_44 : decode cX9_isWord 44 = .ok (.aload_n 0, 1) := by decide +kernel
theorem dX9_isWord_45 : decode cX9_isWord 45 = .ok (.getfield 16, 3) := by decide +kernel
theorem dX9_isWord_48 : decode cX9_isWord 48 = .ok (.aload_n 0, 1) := by decide +kernel
theorem dX9_isWord_49 : decode cX9_isWord 49 = .ok (.getfield 79, 3) := by decide +kernel
theorem dX9_isWord_52 : decode cX9_isWord 52 = .ok (.iload_n 3, 1) := by decide +kernel
theorem dX9_isWord_53 : decode cX9_isWord 53 = .ok (.iadd, 1) := by decide +kernel
theorem dX9_isWord_54 : decode cX9_isWord 54 = .ok (.baload, 1) := by decide +kernel
theorem dX9_isWord_55 : decode cX9_isWord 55 = .ok (.aload_n 1, 1) := by decide +kernel
theorem dX9_isWord_56 : decode cX9_isWord 56 = .ok (.iload_n 3, 1) := by decide +kernel
theorem dX9_isWord_57 : decode cX9_isWord 57 = .ok (.invokevirtual 97, 3) := by decide +kernel
theorem dX9_isWord_60 : decode cX9_isWord 60 = .ok (.if_icmp .ne 7, 3) := by decide +kernel
theorem dX9_isWord_63 : decode cX9_isWord 63 = .ok (.iconst 1, 1) := by decide +kernel
theorem dX9_isWord_64 : decode cX9_isWord 64 = .ok (.goto 4, 3) := by decide +kernel
theorem dX9_isWord_67 : decode cX9_isWord 67 = .ok (.iconst 0, 1) := by decide +kernel
theorem dX9_isWord_68 : decode cX9_isWord 68 = .ok (.istore_n 2, 1) := by decide +kernel
theorem dX9_isWord_69 : decode cX9_isWord 69 = .ok (.iinc 3 1, 3) := by decide +kernel
theorem dX9_isWord_72 : decode cX9_isWord 72 = .ok (.goto (-40), 3) := by decide +kernel
theorem dX9_isWord_75 : decode cX9_isWord 75 = .ok (.iload_n 2, 1) := by decide +kernel
theorem dX9_isWord_76 : decode cX9_isWord 76 = .ok (.ireturn, 1) := by decide +kernel
theorem dX9_fails_0 : decode cX9_fails 0 = .ok (.aload_n 0, 1) := by decide +kernel
theorem dX9_fails_1 : decode cX9_fails 1 = .ok (.getfield 101, 3) := by decide +kernel
theorem dX9_fails_4 : decode cX9_fails 4 = .ok (.ifCond .ne 16, 3) := by decide +kernel
theorem dX9_fails_7 : decode cX9_fails 7 = .ok (.aload_n 0, 1) := by decide +kernel
theorem dX9_fails_8 : decode cX9_fails 8 = .ok (.iload_n 1, 1) := by decide +kernel
theorem dX9_fails_9 : decode cX9_fails 9 = .ok (.putfield 101, 3) := by decide +kernel
theorem dX9_fails_12 : decode cX9_fails 12 = .ok (.aload_n 0, 1) := by decide +kernel
theorem dX9_fails_13 : decode cX9_fails 13 = .ok (.aload_n 0, 1) := by decide +kernel
theorem dX9_fails_14 : decode cX9_fails 14 = .ok (.getfield 79, 3) := by decide +kernel
theorem dX9_fails_17 : decode cX9_fails 17 = .ok (.putfield 20, 3) := by decide +kernel
theorem dX9_fails_20 : decode cX9_fails 20 = .ok (.iconst 0, 1) := by decide +kernel
theorem dX9_fails_21 : decode cX9_fails 21 = .ok (.ireturn, 1) := by decide +kernel
set_option maxRecDepth 20000 in
theorem ggX9_starts_X9_fails : GoodIn wsX9_starts wsX9_fails := goodIn_r _ [5, 6, 7, 8, 25, 26, 27, 28, 29, 30, 31, 32, 33, 34, 35, 36, 37, 38, 39, 40, 41, 42, 43, 44, 45, 46] (by decide +kernel) (by decide +kernel)
set_option maxRecDepth 20000 in
theorem gX9_starts_X9_fails : GoodIn wsX9_starts (wsV RX9 104 RX9 yX9_fails wsX9_fails) := goodIn_app (goodIn_of _ (by decide +kernel)) ggX9_starts_X9_fails
set_option maxRecDepth 20000 in
theorem ggX9_starts_X9_advance : GoodIn wsX9_starts wsX9_advance := goodIn_r _ [12, 13, 7, 14, 15, 16, 17, 18, 4, 19, 20, 21, 22, 23, 24, 25, 26, 27, 28, 29, 30, 31, 32, 33, 34, 35, 36, 37, 38, 39, 40, 41, 42, 43, 44, 45, 46] (by decide +kernel) (by decide +kernel)
set_option maxRecDepth 20000 in
theorem gX9_starts_X9_advance : GoodIn wsX9_starts (wsV RX9 108 RX9 yX9_advance wsX9_advance) := goodIn_app (goodIn_of _ (by decide +kernel)) ggX9_starts_X9_advance
theorem dX9_starts_0 : decode cX9_starts 0 = .ok (.iload_n 2, 1) := by decide +kernel
theorem dX9_starts_1 : decode cX9_starts 1 = .ok (.ifCond .ne 9, 3) := by decide +kernel
theorem dX9_starts_4 : decode cX9_starts 4 = .ok (.aload_n 0, 1) := by decide +kernel
theorem dX9_starts_5 : decode cX9_starts 5 = .ok (.iload_n 1, 1) := by decide +kernel
theorem dX9_starts_6 : decode cX9_starts 6 = .ok (.invokevirtual 104, 3) := by decide +kernel
theorem dX9_starts_9 : decode cX9_starts 9 = .ok (.ireturn, 1) := by decide +kernel
theorem dX9_starts_10 : decode cX9_starts 10 = .ok (.aload_n 0, 1) := by decide +kernel
theorem dX9_starts_11 : decode cX9_starts 11 = .ok (.invokevirtual 108, 3) := by decide +kernel
theorem dX9_starts_14 : decode cX9_starts 14 = .ok (.iconst 1, 1) := by decide +kernel
theorem dX9_starts_15 : decode cX9_starts 15 = .ok (.ireturn, 1) := by decide +kernel
set_option maxRecDepth 20000 in
theorem ggX9_once_X9_starts : GoodIn wsX9_once wsX9_starts := goodIn_r _ [6, 7, 8, 9, 5, 10, 11, 12, 13, 14, 15, 16, 17, 18, 19, 20, 21, 22, 23, 24, 25, 26, 27, 28, 29, 30, 31, 32, 33, 34, 35, 36, 37, 38, 39, 40, 41, 42, 43, 44, 45, 46, 47, 48, 49, 50, 51] (by decide +kernel) (by decide +kernel)
set_option maxRecDepth 20000 in
theorem gX9_once_X9_starts : GoodIn wsX9_once (wsV RX9 114 RX9 yX9_starts wsX9_starts) := goodIn_app (goodIn_of _ (by decide +kernel)) ggX9_once_X9_starts
theorem dX9_once_0 : decode cX9_once 0 = .ok (.aload_n 0, 1) := by decide +kernel
theorem dX9_once_1 : decode cX9_once 1 = .ok (.iconst 2, 1) := by decide +kernel
theorem dX9_once_2 : decode cX9_once 2 = .ok (.aload_n 0, 1) := by decide +kernel
theorem dX9_once_3 : decode cX9_once 3 = .ok (.getfield 111, 3) := by decide +kernel
theorem dX9_once_6 : decode cX9_once 6 = .ok (.iload_n 1, 1) := by decide +kernel
theorem dX9_once_7 : decode cX9_once 7 = .ok (.ishr, 1) := by decide +kernel
theorem dX9_once_8 : decode cX9_once 8 = .ok (.iconst 1, 1) := by decide +kernel
theorem dX9_once_9 : decode cX9_once 9 = .ok (.iand, 1) := by decide +kernel
theorem dX9_once_10 : decode cX9_once 10 = .ok (.ifCond .ne 7, 3) := by decide +kernel
theorem dX9_once_13 : decode cX9_once 13 = .ok (.iconst 1, 1) := by decide +kernel
theorem dX9_once_14 : decode cX9_once 14 = .ok (.goto 4, 3) := by decide +kernel
theorem dX9_once_17 : decode cX9_once 17 = .ok (.iconst 0, 1) := by decide +kernel
theorem dX9_once_18 : decode cX9_once 18 = .ok (.invokevirtual 114, 3) := by decide +kernel
theorem dX9_once_21 : decode cX9_once 21 = .ok (.ifCond .ne 5, 3) := by decide +kernel
theorem dX9_once_24 : decode cX9_once 24 = .ok (.iconst 0, 1) := by decide +kernel
theorem dX9_once_25 : decode cX9_once 25 = .ok (.ireturn, 1) := by decide +kernel
theorem dX9_once_26 : decode cX9_once 26 = .ok (.aload_n 0, 1) := by decide +kernel
theorem dX9_once_27 : decode cX9_once 27 = .ok (.dup, 1) := by decide +kernel
theorem dX9_once_28 : decode cX9_once 28 = .ok (.getfield 111, 3) := by decide +kernel
theorem dX9_once_31 : decode cX9_once 31 = .ok (.iconst 1, 1) := by decide +kernel
theorem dX9_once_32 : decode cX9_once 32 = .ok (.iload_n 1, 1) := by decide +kernel
theorem dX9_once_33 : decode cX9_once 33 = .ok (.ishl, 1) := by decide +kernel
theorem dX9_once_34 : decode cX9_once 34 = .ok (.ior, 1) := by decide +kernel
theorem dX9_once_35 : decode cX9_once 35 = .ok (.putfield 111, 3) := by decide +kernel
theorem dX9_once_38 : decode cX9_once 38 = .ok (.iconst 1, 1) := by decide +kernel
theorem dX9_once_39 : decode cX9_once 39 = .ok (.ireturn, 1) := by decide +kernel
set_option maxRecDepth 20000 in
theorem ggX9_sets_X9_fails : GoodIn wsX9_sets wsX9_fails := goodIn_r _ [7, 8, 9, 10, 30, 31, 32, 33, 34, 35, 36, 37, 38, 39, 40, 41, 42, 43, 44, 45, 46, 47, 48, 49, 50, 51] (by decide +kernel) (by decide +kernel)
set_option maxRecDepth 20000 in
theorem gX9_sets_X9_fails : GoodIn wsX9_sets (wsV RX9 104 RX9 yX9_fails wsX9_fails) := goodIn_app (goodIn_of _ (by decide +kernel)) ggX9_sets_X9_fails
set_option maxRecDepth 20000 in
theorem ggX9_sets_X9_within : GoodIn wsX9_sets wsX9_within := goodIn_r _ [13] (by decide +kernel) (by decide +kernel)
set_option maxRecDepth 20000 in
theorem gX9_sets_X9_within : GoodIn wsX9_sets (va_wsS RX9 88 yX9_within wsX9_within) := goodIn_app (goodIn_of _ (by decide +kernel)) ggX9_sets_X9_within
set_option maxRecDepth 20000 in
theorem ggX9_sets_X9_draft : GoodIn wsX9_sets wsX9_draft := goodIn_r _ [17, 18, 30, 31, 32, 33, 34, 35, 36, 37, 38, 39, 40, 41, 42, 43, 44, 45, 46, 47, 48, 49, 50, 51] (by decide +kernel) (by decide +kernel)
set_option maxRecDepth 20000 in
theorem gX9_sets_X9_draft : GoodIn wsX9_sets (wsV RX9 58 RX9 yX9_draft wsX9_draft) := goodIn_app (goodIn_of _ (by decide +kernel)) ggX9_sets_X9_draft
set_option maxRecDepth 20000 in
theorem ggX9_sets_X9_advance : GoodIn wsX9_sets wsX9_advance := goodIn_r _ [22, 23, 9, 2, 1, 24, 25, 26, 6, 27, 28, 29, 11, 12, 13, 30, 31, 32, 33, 34, 35, 36, 37, 38, 39, 40, 41, 42, 43, 44, 45, 46, 47, 48, 49, 50, 51] (by decide +kernel) (by decide +kernel)
set_option maxRecDepth 20000 in
theorem gX9_sets_X9_advance : GoodIn wsX9_sets (wsV RX9 108 RX9 yX9_advance wsX9_advance) := goodIn_app (goodIn_of _ (by decide +kernel)) ggX9_sets_X9_advance
theorem dX9_sets_0 : decode cX9_sets 0 = .ok (.aload_n 0, 1) := by decide +kernel
theorem dX9_sets_1 : decode cX9_sets 1 = .ok (.getfield 85, 3) := by decide +kernel
theorem dX9_sets_4 : decode cX9_sets 4 = .ok (.iconst 2, 1) := by decide +kernel
theorem dX9_sets_5 : decode cX9_sets 5 = .ok (.if_icmp .eq 9, 3) := by decide +kernel
theorem dX9_sets_8 : decode cX9_sets 8 = .ok (.aload_n 0, 1) := by decide +kernel
theorem dX9_sets_9 : decode cX9_sets 9 = .ok (.iconst 1, 1) := by decide +kernel
theorem dX9_sets_10 : decode cX9_sets 10 = .ok (.invokevirtual 104, 3) := by decide +kernel
theorem dX9_sets_13 : decode cX9_sets 13 = .ok (.ireturn, 1) := by decide +kernel
theorem dX9_sets_14 : decode cX9_sets 14 = .ok (.aload_n 0, 1) := by decide +kernel
theorem dX9_sets_15 : decode cX9_sets 15 = .ok (.getfield 82, 3) := by decide +kernel
theorem dX9_sets_18 : decode cX9_sets 18 = .ok (.iload_n 2, 1) := by decide +kernel
theorem dX9_sets_19 : decode cX9_sets 19 = .ok (.iload_n 3, 1) := by decide +kernel
theorem dX9_sets_20 : decode cX9_sets 20 = .ok (.invokestatic 88, 3) := by decide +kernel
theorem dX9_sets_23 : decode cX9_sets 23 = .ok (.ifCond .ne 9, 3) := by decide +kernel
theorem dX9_sets_26 : decode cX9_sets 26 = .ok (.aload_n 0, 1) := by decide +kernel
theorem dX9_sets_27 : decode cX9_sets 27 = .ok (.iconst 3, 1) := by decide +kernel
theorem dX9_sets_28 : decode cX9_sets 28 = .ok (.invokevirtual 104, 3) := by decide +kernel
theorem dX9_sets_31 : decode cX9_sets 31 = .ok (.ireturn, 1) := by decide +kernel
theorem dX9_sets_32 : decode cX9_sets 32 = .ok (.aload_n 0, 1) := by decide +kernel
theorem dX9_sets_33 : decode cX9_sets 33 = .ok (.iload_n 1, 1) := by decide +kernel
theorem dX9_sets_34 : decode cX9_sets 34 = .ok (.aload_n 0, 1) := by decide +kernel
theorem dX9_sets_35 : decode cX9_sets 35 = .ok (.getfield 82, 3) := by decide +kernel
theorem dX9_sets_38 : decode cX9_sets 38 = .ok (.invokevirtual 58, 3) := by decide +kernel
theorem dX9_sets_41 : decode cX9_sets 41 = .ok (.aload_n 0, 1) := by decide +kernel
theorem dX9_sets_42 : decode cX9_sets 42 = .ok (.invokevirtual 108, 3) := by decide +kernel
theorem dX9_sets_45 : decode cX9_sets 45 = .ok (.iconst 1, 1) := by decide +kernel
theorem dX9_sets_46 : decode cX9_sets 46 = .ok (.ireturn, 1) := by decide +kernel
set_option maxRecDepth 20000 in
theorem ggX9_two_X9_sets : GoodIn wsX9_two wsX9_sets := goodIn_r _ [5, 6, 7, 8, 9, 10, 4, 11, 12, 13, 14, 15, 16, 17, 18, 19, 20, 21, 22, 23, 24, 25, 26, 27, 28, 29, 30, 31, 32, 33, 34, 35, 36, 37, 38, 39, 40, 41, 42, 43, 44, 45, 46, 47, 48, 49, 50, 51, 52, 53, 54, 55] (by decide +kernel) (by decide +kernel)
set_option maxRecDepth 20000 in
theorem gX9_two_X9_sets : GoodIn wsX9_two (wsV RX9 118 RX9 yX9_sets wsX9_sets) := goodIn_app (goodIn_of _ (by decide +kernel)) ggX9_two_X9_sets
theorem dX9_two_0 : decode cX9_two 0 = .ok (.aload_n 0, 1) := by decide +kernel
theorem dX9_two_1 : decode cX9_two 1 = .ok (.iload_n 1, 1) := by decide +kernel
theorem dX9_two_2 : decode cX9_two 2 = .ok (.iconst 0, 1) := by decide +kernel
theorem dX9_two_3 : decode cX9_two 3 = .ok (.iload_n 2, 1) := by decide +kernel
theorem dX9_two_4 : decode cX9_two 4 = .ok (.invokevirtual 118, 3) := by decide +kernel
theorem dX9_two_7 : decode cX9_two 7 = .ok (.ifCond .eq 19, 3) := by decide +kernel
theorem dX9_two_10 : decode cX9_two 10 = .ok (.aload_n 0, 1) := by decide +kernel
theorem dX9_two_11 : decode cX9_two 11 = .ok (.iload_n 1, 1) := by decide +kernel
theorem dX9_two_12 : decode cX9_two 12 = .ok (.iconst 1, 1) := by decide +kernel
theorem dX9_two_13 : decode cX9_two 13 = .ok (.iadd, 1) := by decide +kernel
theorem dX9_two_14 : decode cX9_two 14 = .ok (.iconst 0, 1) := by decide +kernel
theorem dX9_two_15 : decode cX9_two 15 = .ok (.iload_n 2, 1) := by decide +kernel
theorem dX9_two_16 : decode cX9_two 16 = .ok (.invokevirtual 118, 3) := by decide +kernel
theorem dX9_two_19 : decode cX9_two 19 = .ok (.ifCond .eq 7, 3) := by decide +kernel
theorem dX9_two_22 : decode cX9_two 22 = .ok (.iconst 1, 1) := by decide +kernel
theorem dX9_two_23 : decode cX9_two 23 = .ok (.goto 4, 3) := by decide +kernel
theorem dX9_two_26 : decode cX9_two 26 = .ok (.iconst 0, 1) := by decide +kernel
theorem dX9_two_27 : decode cX9_two 27 = .ok (.ireturn, 1) := by decide +kernel
set_option maxRecDepth 20000 in
theorem ggX9_gains_X9_sets : GoodIn wsX9_gains wsX9_sets := goodIn_r _ [5, 6, 7, 8, 9, 10, 4, 11, 12, 13, 14, 15, 16, 17, 18, 19, 20, 21, 22, 23, 24, 25, 26, 27, 28, 29, 30, 31, 32, 33, 34, 35, 36, 37, 38, 39, 40, 41, 42, 43, 44, 45, 46, 47, 48, 49, 50, 51, 52, 53, 54, 55] (by decide +kernel) (by decide +kernel)
set_option maxRecDepth 20000 in
theorem gX9_gains_X9_sets : GoodIn wsX9_gains (wsV RX9 118 RX9 yX9_sets wsX9_sets) := goodIn_app (goodIn_of _ (by decide +kernel)) ggX9_gains_X9_sets
theorem dX9_gains_0 : decode cX9_gains 0 = .ok (.iconst 1, 1) := by decide +kernel
theorem dX9_gains_1 : decode cX9_gains 1 = .ok (.istore_n 1, 1) := by decide +kernel
theorem dX9_gains_2 : decode cX9_gains 2 = .ok (.iconst 0, 1) := by decide +kernel
theorem dX9_gains_3 : decode cX9_gains 3 = .ok (.istore_n 2, 1) := by decide +kernel
theorem dX9_gains_4 : decode cX9_gains 4 = .ok (.iload_n 2, 1) := by decide +kernel
theorem dX9_gains_5 : decode cX9_gains 5 = .ok (.bipush 6, 2) := by decide +kernel
theorem dX9_gains_7 : decode cX9_gains 7 = .ok (.if_icmp .ge 25, 3) := by decide +kernel
theorem dX9_gains_10 : decode cX9_gains 10 = .ok (.iload_n 1, 1) := by decide +kernel
theorem dX9_gains_11 : decode cX9_gains 11 = .ok (.ifCond .eq 21, 3) := by decide +kernel
theorem dX9_gains_14 : decode cX9_gains 14 = .ok (.aload_n 0, 1) := by decide +kernel
theorem dX9_gains_15 : decode cX9_gains 15 = .ok (.bipush 9, 2) := by decide +kernel
theorem dX9_gains_17 : decode cX9_gains 17 = .ok (.iload_n 2, 1) := by decide +kernel
theorem dX9_gains_18 : decode cX9_gains 18 = .ok (.iadd, 1) := by decide +kernel
theorem dX9_gains_19 : decode cX9_gains 19 = .ok (.iconst 0, 1) := by decide +kernel
theorem dX9_gains_20 : decode cX9_gains 20 = .ok (.bipush 99, 2) := by decide +kernel
theorem dX9_gains_22 : decode cX9_gains 22 = .ok (.invokevirtual 118, 3) := by decide +kernel
theorem dX9_gains_25 : decode cX9_gains 25 = .ok (.istore_n 1, 1) := by decide +kernel
theorem dX9_gains_26 : decode cX9_gains 26 = .ok (.iinc 2 1, 3) := by decide +kernel
theorem dX9_gains_29 : decode cX9_gains 29 = .ok (.goto (-25), 3) := by decide +kernel
theorem dX9_gains_32 : decode cX9_gains 32 = .ok (.iload_n 1, 1) := by decide +kernel
theorem dX9_gains_33 : decode cX9_gains 33 = .ok (.ireturn, 1) := by decide +kernel
set_option maxRecDepth 20000 in
theorem ggX9_statement_X9_isWord : GoodIn wsX9_statement wsX9_isWord := goodIn_r _ [5, 6, 7, 8, 9, 10, 11, 12, 13, 14, 15, 16, 17, 18, 19, 20, 21, 22, 23, 24, 25, 26, 27, 28, 29, 30, 31, 32, 33, 34, 35, 36, 37, 38, 39, 40, 41, 42, 43, 44, 45, 46, 47, 48, 49, 50, 51, 52, 53, 54, 55, 56, 57, 58, 104, 105, 106, 107, 108, 109, 110, 111, 112, 113, 114, 115, 116, 117, 118, 119, 120, 121, 122, 123, 124, 125] (by decide +kernel) (by decide +kernel)
set_option maxRecDepth 20000 in
theorem gX9_statement_X9_isWord : GoodIn wsX9_statement (wsV RX9 123 RX9 yX9_isWord wsX9_isWord) := goodIn_app (goodIn_of _ (by decide +kernel)) ggX9_statement_X9_isWord
set_option maxRecDepth 20000 in
theorem ggX9_statement_X9_once : GoodIn wsX9_statement wsX9_once := goodIn_r _ [62, 63, 64, 65, 66, 4, 67, 68, 69, 70, 71, 72, 8, 73, 74, 75, 76, 77, 7, 78, 6, 79, 80, 81, 82, 83, 9, 84, 85, 86, 104, 105, 106, 107, 108, 109, 110, 111, 112, 113, 114, 115, 116, 117, 118, 119, 120, 121, 122, 123, 124, 125] (by decide +kernel) (by decide +kernel)
set_option maxRecDepth 20000 in
theorem gX9_statement_X9_once : GoodIn wsX9_statement (wsV RX9 127 RX9 yX9_once wsX9_once) := goodIn_app (goodIn_of _ (by decide +kernel)) ggX9_statement_X9_once
set_option maxRecDepth 20000 in
theorem ggX9_statement_X9_sets : GoodIn wsX9_statement wsX9_sets := goodIn_r _ [90, 6, 78, 68, 69, 70, 4, 71, 72, 8, 73, 84, 85, 86, 91, 92, 93, 94, 95, 74, 75, 76, 77, 7, 79, 80, 81, 82, 83, 9, 104, 105, 106, 107, 108, 109, 110, 111, 112, 113, 114, 115, 116, 117, 118, 119, 120, 121, 122, 123, 124, 125] (by decide +kernel) (by decide +kernel)
set_option maxRecDepth 20000 in
theorem gX9_statement_X9_sets : GoodIn wsX9_statement (wsV RX9 118 RX9 yX9_sets wsX9_sets) := goodIn_app (goodIn_of _ (by decide +kernel)) ggX9_statement_X9_sets
set_option maxRecDepth 20000 in
theorem ggX9_statement_X9_two : GoodIn wsX9_statement wsX9_two := goodIn_r _ [99, 87, 88, 89, 4, 90, 6, 78, 68, 69, 70, 71, 72, 8, 73, 84, 85, 86, 91, 92, 93, 94, 95, 74, 75, 76, 77, 7, 79, 80, 81, 82, 83, 9, 104, 105, 106, 107, 108, 109, 110, 111, 112, 113, 114, 115, 116, 117, 118, 119, 120, 121, 122, 123, 124, 125] (by decide +kernel) (by decide +kernel)
set_option maxRecDepth 20000 in
theorem gX9_statement_X9_two : GoodIn wsX9_statement (wsV RX9 132 RX9 yX9_two wsX9_two) := goodIn_app (goodIn_of _ (by decide +kernel)) ggX9_statement_X9_two
set_option maxRecDepth 20000 in
theorem ggX9_statement_X9_gains : GoodIn wsX9_statement wsX9_gains := goodIn_r _ [103, 87, 88, 89, 4, 90, 6, 78, 68, 69, 70, 71, 72, 8, 73, 84, 85, 86, 91, 92, 93, 94, 95, 74, 75, 76, 77, 7, 79, 80, 81, 82, 83, 9, 104, 105, 106, 107, 108, 109, 110, 111, 112, 113, 114, 115, 116, 117, 118, 119, 120, 121, 122, 123, 124, 125] (by decide +kernel) (by decide +kernel)
set_option maxRecDepth 20000 in
theorem gX9_statement_X9_gains : GoodIn wsX9_statement (wsV RX9 144 RX9 yX9_gains wsX9_gains) := goodIn_app (goodIn_of _ (by decide +kernel)) ggX9_statement_X9_gains
set_option maxRecDepth 20000 in
theorem ggX9_statement_X9_fails : GoodIn wsX9_statement wsX9_fails := goodIn_r _ [71, 72, 8, 73, 104, 105, 106, 107, 108, 109, 110, 111, 112, 113, 114, 115, 116, 117, 118, 119, 120, 121, 122, 123, 124, 125] (by decide +kernel) (by decide +kernel)
set_option maxRecDepth 20000 in
theorem gX9_statement_X9_fails : GoodIn wsX9_statement (wsV RX9 104 RX9 yX9_fails wsX9_fails) := goodIn_app (goodIn_of _ (by decide +kernel)) ggX9_statement_X9_fails
theorem dX9_statement_0 : decode cX9_statement 0 = .ok (.aload_n 0, 1) := by decide +kernel
theorem dX9_statement_1 : decode cX9_statement 1 = .ok (.ldc 121, 2) := by decide +kernel
theorem dX9_statement_3 : decode cX9_statement 3 = .ok (.invokevirtual 123, 3) := by decide +kernel
theorem dX9_statement_6 : decode cX9_statement 6 = .ok (.ifCond .eq 29, 3) := by decide +kernel
theorem dX9_statement_9 : decode cX9_statement 9 = .ok (.aload_n 0, 1) := by decide +kernel
theorem dX9_statement_10 : decode cX9_statement 10 = .ok (.iconst 0, 1) := by decide +kernel
theorem dX9_statement_11 : decode cX9_statement 11 = .ok (.invokevirtual 127, 3) := by decide +kernel
theorem dX9_statement_14 : decode cX9_statement 14 = .ok (.ifCond .eq 19, 3) := by decide +kernel
theorem dX9_statement_17 : decode cX9_statement 17 = .ok (.aload_n 0, 1) := by decide +kernel
theorem dX9_statement_18 : decode cX9_statement 18 = .ok (.iconst 0, 1) := by decide +kernel
theorem dX9_statement_19 : decode cX9_statement 19 = .ok (.iconst 1, 1) := by decide +kernel
theorem dX9_statement_20 : decode cX9_statement 20 = .ok (.sipush 9999, 3) := by decide +kernel
theorem dX9_statement_23 : decode cX9_statement 23 = .ok (.invokevirtual 118, 3) := by decide +kernel
theorem dX9_statement_26 : decode cX9_statement 26 = .ok (.ifCond .eq 7, 3) := by decide +kernel
theorem dX9_statement_29 : decode cX9_statement 29 = .ok (.iconst 1, 1) := by decide +kernel
theorem dX9_statement_30 : decode cX9_statement 30 = .ok (.goto 4, 3) := by decide +kernel
theorem dX9_statement_33 : decode cX9_statement 33 = .ok (.iconst 0, 1) := by decide +kernel
theorem dX9_statement_34 : decode cX9_statement 34 = .ok (.ireturn, 1) := by decide +kernel
theorem dX9_statement_35 : decode cX9_statement 35 = .ok (.aload_n 0, 1) := by decide +kernel
theorem dX9_statement_36 : decode cX9_statement 36 = .ok (.ldc 130, 2) := by decide +kernel
theorem dX9_statement_38 : decode cX9_statement 38 = .ok (.invokevirtual 123, 3) := by decide +kernel
theorem dX9_statement_41 : decode cX9_statement 41 = .ok (.ifCond .eq 28, 3) := by decide +kernel
theorem dX9_statement_44 : decode cX9_statement 44 = .ok (.aload_n 0, 1) := by decide +kernel
theorem dX9_statement_45 : decode cX9_statement 45 = .ok (.iconst 1, 1) := by decide +kernel
theorem dX9_statement_46 : decode cX9_statement 46 = .ok (.invokevirtual 127, 3) := by decide +kernel
theorem dX9_statement_49 : decode cX9_statement 49 = .ok (.ifCond .eq 18, 3) := by decide +kernel
theorem dX9_statement_52 : decode cX9_statement 52 = .ok (.aload_n 0, 1) := by decide +kernel
theorem dX9_statement_53 : decode cX9_statement 53 = .ok (.iconst 1, 1) := by decide +kernel
theorem dX9_statement_54 : decode cX9_statement 54 = .ok (.sipush 200, 3) := by decide +kernel
theorem dX9_statement_57 : decode cX9_statement 57 = .ok (.invokevirtual 132, 3) := by decide +kernel
theorem dX9_statement_60 : decode cX9_statement 60 = .ok (.ifCond .eq 7, 3) := by decide +kernel
theorem dX9_statement_63 : decode cX9_statement 63 = .ok (.iconst 1, 1) := by decide +kernel
theorem dX9_statement_64 : decode cX9_statement 64 = .ok (.goto 4, 3) := by decide +kernel
theorem dX9_statement_67 : decode cX9_statement 67 = .ok (.iconst 0, 1) := by decide +kernel
theorem dX9_statement_68 : decode cX9_statement 68 = .ok (.ireturn, 1) := by decide +kernel
theorem dX9_statement_69 : decode cX9_statement 69 = .ok (.aload_n 0, 1) := by decide +kernel
theorem dX9_statement_70 : decode cX9_statement 70 = .ok (.ldc 136, 2) := by decide +kernel
theorem dX9_statement_72 : decode cX9_statement 72 = .ok (.invokevirtual 123, 3) := by decide +kernel
theorem dX9_statement_75 : decode cX9_statement 75 = .ok (.ifCond .eq 28, 3) := by decide +kernel
theorem dX9_statement_78 : decode cX9_statement 78 = .ok (.aload_n 0, 1) := by decide +kernel
theorem dX9_statement_79 : decode cX9_statement 79 = .ok (.iconst 2, 1) := by decide +kernel
theorem dX9_statement_80 : decode cX9_statement 80 = .ok (.invokevirtual 127, 3) := by decide +kernel
theorem dX9_statement_83 : decode cX9_statement 83 = .ok (.ifCond .eq 18, 3) := by decide +kernel
theorem dX9_statement_86 : decode cX9_statement 86 = .ok (.aload_n 0, 1) := by decide +kernel
theorem dX9_statement_87 : decode cX9_statement 87 = .ok (.iconst 3, 1) := by decide +kernel
theorem dX9_statement_88 : decode cX9_statement 88 = .ok (.sipush 400, 3) := by decide +kernel
theorem dX9_statement_91 : decode cX9_statement 91 = .ok (.invokevirtual 132, 3) := by decide +kernel
theorem dX9_statement_94 : decode cX9_statement 94 = .ok (.ifCond .eq 7, 3) := by decide +kernel
theorem dX9_statement_97 : decode cX9_statement 97 = .ok (.iconst 1, 1) := by decide +kernel
theorem dX9_statement_98 : decode cX9_statement 98 = .ok (.goto 4, 3) := by decide +kernel
theorem dX9_statement_101 : decode cX9_statement 101 = .ok (.iconst 0, 1) := by decide +kernel
theorem dX9_statement_102 : decode cX9_statement 102 = .ok (.ireturn, 1) := by decide +kernel
theorem dX9_statement_103 : decode cX9_statement 103 = .ok (.aload_n 0, 1) := by decide +kernel
theorem dX9_statement_104 : decode cX9_statement 104 = .ok (.ldc 138, 2) := by decide +kernel
theorem dX9_statement_106 : decode cX9_statement 106 = .ok (.invokevirtual 123, 3) := by decide +kernel
theorem dX9_statement_109 : decode cX9_statement 109 = .ok (.ifCond .eq 40, 3) := by decide +kernel
theorem dX9_statement_112 : decode cX9_statement 112 = .ok (.aload_n 0, 1) := by decide +kernel
theorem dX9_statement_113 : decode cX9_statement 113 = .ok (.iconst 3, 1) := by decide +kernel
theorem dX9_statement_114 : decode cX9_statement 114 = .ok (.invokevirtual 127, 3) := by decide +kernel
theorem dX9_statement_117 : decode cX9_statement 117 = .ok (.ifCond .eq 30, 3) := by decide +kernel
theorem dX9_statement_120 : decode cX9_statement 120 = .ok (.aload_n 0, 1) := by decide +kernel
theorem dX9_statement_121 : decode cX9_statement 121 = .ok (.iconst 5, 1) := by decide +kernel
theorem dX9_statement_122 : decode cX9_statement 122 = .ok (.bipush 9, 2) := by decide +kernel
theorem dX9_statement_124 : decode cX9_statement 124 = .ok (.invokevirtual 132, 3) := by decide +kernel
theorem dX9_statement_127 : decode cX9_statement 127 = .ok (.ifCond .eq 20, 3) := by decide +kernel
theorem dX9_statement_130 : decode cX9_statement 130 = .ok (.aload_n 0, 1) := by decide +kernel
theorem dX9_statement_131 : decode cX9_statement 131 = .ok (.bipush 7, 2) := by decide +kernel
theorem dX9_statement_133 : decode cX9_statement 133 = .ok (.iconst 1, 1) := by decide +kernel
theorem dX9_statement_134 : decode cX9_statement 134 = .ok (.sipush 500, 3) := by decide +kernel
theorem dX9_statement_137 : decode cX9_statement 137 = .ok (.invokevirtual 118, 3) := by decide +kernel
theorem dX9_statement_140 : decode cX9_statement 140 = .ok (.ifCond .eq 7, 3) := by decide +kernel
theorem dX9_statement_143 : decode cX9_statement 143 = .ok (.iconst 1, 1) := by decide +kernel
theorem dX9_statement_144 : decode cX9_statement 144 = .ok (.goto 4, 3) := by decide +kernel
theorem dX9_statement_147 : decode cX9_statement 147 = .ok (.iconst 0, 1) := by decide +kernel
theorem dX9_statement_148 : decode cX9_statement 148 = .ok (.ireturn, 1) := by decide +kernel
theorem dX9_statement_149 : decode cX9_statement 149 = .ok (.aload_n 0, 1) := by decide +kernel
theorem dX9_statement_150 : decode cX9_statement 150 = .ok (.ldc 140, 2) := by decide +kernel
theorem dX9_statement_152 : decode cX9_statement 152 = .ok (.invokevirtual 123, 3) := by decide +kernel
theorem dX9_statement_155 : decode cX9_statement 155 = .ok (.ifCond .eq 30, 3) := by decide +kernel
theorem dX9_statement_158 : decode cX9_statement 158 = .ok (.aload_n 0, 1) := by decide +kernel
theorem dX9_statement_159 : decode cX9_statement 159 = .ok (.iconst 4, 1) := by decide +kernel
theorem dX9_statement_160 : decode cX9_statement 160 = .ok (.invokevirtual 127, 3) := by decide +kernel
theorem dX9_statement_163 : decode cX9_statement 163 = .ok (.ifCond .eq 20, 3) := by decide +kernel
theorem dX9_statement_166 : decode cX9_statement 166 = .ok (.aload_n 0, 1) := by decide +kernel
theorem dX9_statement_167 : decode cX9_statement 167 = .ok (.bipush 8, 2) := by decide +kernel
theorem dX9_statement_169 : decode cX9_statement 169 = .ok (.iconst 0, 1) := by decide +kernel
theorem dX9_statement_170 : decode cX9_statement 170 = .ok (.sipush 200, 3) := by decide +kernel
theorem dX9_statement_173 : decode cX9_statement 173 = .ok (.invokevirtual 118, 3) := by decide +kernel
theorem dX9_statement_176 : decode cX9_statement 176 = .ok (.ifCond .eq 7, 3) := by decide +kernel
theorem dX9_statement_179 : decode cX9_statement 179 = .ok (.iconst 1, 1) := by decide +kernel
theorem dX9_statement_180 : decode cX9_statement 180 = .ok (.goto 4, 3) := by decide +kernel
theorem dX9_statement_183 : decode cX9_statement 183 = .ok (.iconst 0, 1) := by decide +kernel
theorem dX9_statement_184 : decode cX9_statement 184 = .ok (.ireturn, 1) := by decide +kernel
theorem dX9_statement_185 : decode cX9_statement 185 = .ok (.aload_n 0, 1) := by decide +kernel
theorem dX9_statement_186 : decode cX9_statement 186 = .ok (.ldc 142, 2) := by decide +kernel
theorem dX9_statement_188 : decode cX9_statement 188 = .ok (.invokevirtual 123, 3) := by decide +kernel
theorem dX9_statement_191 : decode cX9_statement 191 = .ok (.ifCond .eq 24, 3) := by decide +kernel
theorem dX9_statement_194 : decode cX9_statement 194 = .ok (.aload_n 0, 1) := by decide +kernel
theorem dX9_statement_195 : decode cX9_statement 195 = .ok (.iconst 5, 1) := by decide +kernel
theorem dX9_statement_196 : decode cX9_statement 196 = .ok (.invokevirtual 127, 3) := by decide +kernel
theorem dX9_statement_199 : decode cX9_statement 199 = .ok (.ifCond .eq 14, 3) := by decide +kernel
theorem dX9_statement_202 : decode cX9_statement 202 = .ok (.aload_n 0, 1) := by decide +kernel
theorem dX9_statement_203 : decode cX9_statement 203 = .ok (.invokevirtual 144, 3) := by decide +kernel
theorem dX9_statement_206 : decode cX9_statement 206 = .ok (.ifCond .eq 7, 3) := by decide +kernel
theorem dX9_statement_209 : decode cX9_statement 209 = .ok (.iconst 1, 1) := by decide +kernel
theorem dX9_statement_210 : decode cX9_statement 210 = .ok (.goto 4, 3) := by decide +kernel
theorem dX9_statement_213 : decode cX9_statement 213 = .ok (.iconst 0, 1) := by decide +kernel
theorem dX9_statement_214 : decode cX9_statement 214 = .ok (.ireturn, 1) := by decide +kernel
theorem dX9_statement_215 : decode cX9_statement 215 = .ok (.aload_n 0, 1) := by decide +kernel
theorem dX9_statement_216 : decode cX9_statement 216 = .ok (.ldc 147, 2) := by decide +kernel
theorem dX9_statement_218 : decode cX9_statement 218 = .ok (.invokevirtual 123, 3) := by decide +kernel
theorem dX9_statement_221 : decode cX9_statement 221 = .ok (.ifCond .eq 68, 3) := by decide +kernel
theorem dX9_statement_224 : decode cX9_statement 224 = .ok (.aload_n 0, 1) := by decide +kernel
theorem dX9_statement_225 : decode cX9_statement 225 = .ok (.bipush 6, 2) := by decide +kernel
theorem dX9_statement_227 : decode cX9_statement 227 = .ok (.invokevirtual 127, 3) := by decide +kernel
theorem dX9_statement_230 : decode cX9_statement 230 = .ok (.ifCond .eq 57, 3) := by decide +kernel
theorem dX9_statement_233 : decode cX9_statement 233 = .ok (.aload_n 0, 1) := by decide +kernel
theorem dX9_statement_234 : decode cX9_statement 234 = .ok (.bipush 15, 2) := by decide +kernel
theorem dX9_statement_236 : decode cX9_statement 236 = .ok (.iconst 1, 1) := by decide +kernel
theorem dX9_statement_237 : decode cX9_statement 237 = .ok (.sipush 500, 3) := by decide +kernel
theorem dX9_statement_240 : decode cX9_statement 240 = .ok (.invokevirtual 118, 3) := by decide +kernel
theorem dX9_statement_243 : decode cX9_statement 243 = .ok (.ifCond .eq 44, 3) := by decide +kernel
theorem dX9_statement_246 : decode cX9_statement 246 = .ok (.aload_n 0, 1) := by decide +kernel
theorem dX9_statement_247 : decode cX9_statement 247 = .ok (.bipush 16, 2) := by decide +kernel
theorem dX9_statement_249 : decode cX9_statement 249 = .ok (.iconst 1, 1) := by decide +kernel
theorem dX9_statement_250 : decode cX9_statement 250 = .ok (.sipush 500, 3) := by decide +kernel
theorem dX9_statement_253 : decode cX9_statement 253 = .ok (.invokevirtual 118, 3) := by decide +kernel
theorem dX9_statement_256 : decode cX9_statement 256 = .ok (.ifCond .eq 31, 3) := by decide +kernel
theorem dX9_statement_259 : decode cX9_statement 259 = .ok (.aload_n 0, 1) := by decide +kernel
theorem dX9_statement_260 : decode cX9_statement 260 = .ok (.bipush 17, 2) := by decide +kernel
theorem dX9_statement_262 : decode cX9_statement 262 = .ok (.iconst 0, 1) := by decide +kernel
theorem dX9_statement_263 : decode cX9_statement 263 = .ok (.iconst 3, 1) := by decide +kernel
theorem dX9_statement_264 : decode cX9_statement 264 = .ok (.invokevirtual 118, 3) := by decide +kernel
theorem dX9_statement_267 : decode cX9_statement 267 = .ok (.ifCond .eq 20, 3) := by decide +kernel
theorem dX9_statement_270 : decode cX9_statement 270 = .ok (.aload_n 0, 1) := by decide +kernel
theorem dX9_statement_271 : decode cX9_statement 271 = .ok (.bipush 18, 2) := by decide +kernel
theorem dX9_statement_273 : decode cX9_statement 273 = .ok (.iconst 1, 1) := by decide +kernel
theorem dX9_statement_274 : decode cX9_statement 274 = .ok (.sipush 200, 3) := by decide +kernel
theorem dX9_statement_277 : decode cX9_statement 277 = .ok (.invokevirtual 118, 3) := by decide +kernel
theorem dX9_statement_280 : decode cX9_statement 280 = .ok (.ifCond .eq 7, 3) := by decide +kernel
theorem dX9_statement_283 : decode cX9_statement 283 = .ok (.iconst 1, 1) := by decide +kernel
theorem dX9_statement_284 : decode cX9_statement 284 = .ok (.goto 4, 3) := by decide +kernel
theorem dX9_statement_287 : decode cX9_statement 287 = .ok (.iconst 0, 1) := by decide +kernel
theorem dX9_statement_288 : decode cX9_statement 288 = .ok (.ireturn, 1) := by decide +kernel
theorem dX9_statement_289 : decode cX9_statement 289 = .ok (.aload_n 0, 1) := by decide +kernel
theorem dX9_statement_290 : decode cX9_statement 290 = .ok (.ldc 149, 2) := by decide +kernel
theorem dX9_statement_292 : decode cX9_statement 292 = .ok (.invokevirtual 123, 3) := by decide +kernel
theorem dX9_statement_295 : decode cX9_statement 295 = .ok (.ifCond .eq 44, 3) := by decide +kernel
theorem dX9_statement_298 : decode cX9_statement 298 = .ok (.aload_n 0, 1) := by decide +kernel
theorem dX9_statement_299 : decode cX9_statement 299 = .ok (.bipush 7, 2) := by decide +kernel
theorem dX9_statement_301 : decode cX9_statement 301 = .ok (.invokevirtual 127, 3) := by decide +kernel
theorem dX9_statement_304 : decode cX9_statement 304 = .ok (.ifCond .eq 33, 3) := by decide +kernel
theorem dX9_statement_307 : decode cX9_statement 307 = .ok (.aload_n 0, 1) := by decide +kernel
theorem dX9_statement_308 : decode cX9_statement 308 = .ok (.bipush 19, 2) := by decide +kernel
theorem dX9_statement_310 : decode cX9_statement 310 = .ok (.iconst 1, 1) := by decide +kernel
theorem dX9_statement_311 : decode cX9_statement 311 = .ok (.sipush 2000, 3) := by decide +kernel
theorem dX9_statement_314 : decode cX9_statement 314 = .ok (.invokevirtual 118, 3) := by decide +kernel
theorem dX9_statement_317 : decode cX9_statement 317 = .ok (.ifCond .eq 20, 3) := by decide +kernel
theorem dX9_statement_320 : decode cX9_statement 320 = .ok (.aload_n 0, 1) := by decide +kernel
theorem dX9_statement_321 : decode cX9_statement 321 = .ok (.bipush 20, 2) := by decide +kernel
theorem dX9_statement_323 : decode cX9_statement 323 = .ok (.iconst 1, 1) := by decide +kernel
theorem dX9_statement_324 : decode cX9_statement 324 = .ok (.sipush 9999, 3) := by decide +kernel
theorem dX9_statement_327 : decode cX9_statement 327 = .ok (.invokevirtual 118, 3) := by decide +kernel
theorem dX9_statement_330 : decode cX9_statement 330 = .ok (.ifCond .eq 7, 3) := by decide +kernel
theorem dX9_statement_333 : decode cX9_statement 333 = .ok (.iconst 1, 1) := by decide +kernel
theorem dX9_statement_334 : decode cX9_statement 334 = .ok (.goto 4, 3) := by decide +kernel
theorem dX9_statement_337 : decode cX9_statement 337 = .ok (.iconst 0, 1) := by decide +kernel
theorem dX9_statement_338 : decode cX9_statement 338 = .ok (.ireturn, 1) := by decide +kernel
theorem dX9_statement_339 : decode cX9_statement 339 = .ok (.aload_n 0, 1) := by decide +kernel
theorem dX9_statement_340 : decode cX9_statement 340 = .ok (.ldc 151, 2) := by decide +kernel
theorem dX9_statement_342 : decode cX9_statement 342 = .ok (.invokevirtual 123, 3) := by decide +kernel
theorem dX9_statement_345 : decode cX9_statement 345 = .ok (.ifCond .eq 58, 3) := by decide +kernel
theorem dX9_statement_348 : decode cX9_statement 348 = .ok (.aload_n 0, 1) := by decide +kernel
theorem dX9_statement_349 : decode cX9_statement 349 = .ok (.bipush 8, 2) := by decide +kernel
theorem dX9_statement_351 : decode cX9_statement 351 = .ok (.invokevirtual 127, 3) := by decide +kernel
theorem dX9_statement_354 : decode cX9_statement 354 = .ok (.ifCond .eq 45, 3) := by decide +kernel
theorem dX9_statement_357 : decode cX9_statement 357 = .ok (.aload_n 0, 1) := by decide +kernel
theorem dX9_statement_358 : decode cX9_statement 358 = .ok (.bipush 21, 2) := by decide +kernel
theorem dX9_statement_360 : decode cX9_statement 360 = .ok (.iconst 1, 1) := by decide +kernel
theorem dX9_statement_361 : decode cX9_statement 361 = .ok (.bipush 20, 2) := by decide +kernel
theorem dX9_statement_363 : decode cX9_statement 363 = .ok (.invokevirtual 118, 3) := by decide +kernel
theorem dX9_statement_366 : decode cX9_statement 366 = .ok (.ifCond .eq 33, 3) := by decide +kernel
theorem dX9_statement_369 : decode cX9_statement 369 = .ok (.aload_n 0, 1) := by decide +kernel
theorem dX9_statement_370 : decode cX9_statement 370 = .ok (.bipush 22, 2) := by decide +kernel
theorem dX9_statement_372 : decode cX9_statement 372 = .ok (.iconst 1, 1) := by decide +kernel
theorem dX9_statement_373 : decode cX9_statement 373 = .ok (.sipush 200, 3) := by decide +kernel
theorem dX9_statement_376 : decode cX9_statement 376 = .ok (.invokevirtual 118, 3) := by decide +kernel
theorem dX9_statement_379 : decode cX9_statement 379 = .ok (.ifCond .eq 20, 3) := by decide +kernel
theorem dX9_statement_382 : decode cX9_statement 382 = .ok (.aload_n 0, 1) := by decide +kernel
theorem dX9_statement_383 : decode cX9_statement 383 = .ok (.bipush 23, 2) := by decide +kernel
theorem dX9_statement_385 : decode cX9_statement 385 = .ok (.iconst 0, 1) := by decide +kernel
theorem dX9_statement_386 : decode cX9_statement 386 = .ok (.sipush 999, 3) := by decide +kernel
theorem dX9_statement_389 : decode cX9_statement 389 = .ok (.invokevirtual 118, 3) := by decide +kernel
theorem dX9_statement_392 : decode cX9_statement 392 = .ok (.ifCond .eq 7, 3) := by decide +kernel
theorem dX9_statement_395 : decode cX9_statement 395 = .ok (.iconst 1, 1) := by decide +kernel
theorem dX9_statement_396 : decode cX9_statement 396 = .ok (.goto 12, 3) := by decide +kernel
theorem dX9_statement_399 : decode cX9_statement 399 = .ok (.iconst 0, 1) := by decide +kernel
theorem dX9_statement_400 : decode cX9_statement 400 = .ok (.goto 8, 3) := by decide +kernel
theorem dX9_statement_403 : decode cX9_statement 403 = .ok (.aload_n 0, 1) := by decide +kernel
theorem dX9_statement_404 : decode cX9_statement 404 = .ok (.iconst 1, 1) := by decide +kernel
theorem dX9_statement_405 : decode cX9_statement 405 = .ok (.invokevirtual 104, 3) := by decide +kernel
theorem dX9_statement_408 : decode cX9_statement 408 = .ok (.ireturn, 1) := by decide +kernel
set_option maxRecDepth 20000 in
theorem ggX9_closes_X9_fails : GoodIn wsX9_closes wsX9_fails := goodIn_r _ [6, 7, 8, 9, 25, 26, 27, 28, 29, 30, 31, 32, 33, 34, 35, 36, 37, 38, 39, 40, 41, 42, 43, 44, 45, 46] (by decide +kernel) (by decide +kernel)
set_option maxRecDepth 20000 in
theorem gX9_closes_X9_fails : GoodIn wsX9_closes (wsV RX9 104 RX9 yX9_fails wsX9_fails) := goodIn_app (goodIn_of _ (by decide +kernel)) ggX9_closes_X9_fails
set_option maxRecDepth 20000 in
theorem ggX9_closes_X9_advance : GoodIn wsX9_closes wsX9_advance := goodIn_r _ [13, 14, 8, 15, 1, 16, 17, 18, 5, 19, 20, 21, 22, 23, 24, 25, 26, 27, 28, 29, 30, 31, 32, 33, 34, 35, 36, 37, 38, 39, 40, 41, 42, 43, 44, 45, 46] (by decide +kernel) (by decide +kernel)
set_option maxRecDepth 20000 in
theorem gX9_closes_X9_advance : GoodIn wsX9_closes (wsV RX9 108 RX9 yX9_advance wsX9_advance) := goodIn_app (goodIn_of _ (by decide +kernel)) ggX9_closes_X9_advance
theorem dX9_closes_0 : decode cX9_closes 0 = .ok (.aload_n 0, 1) := by decide +kernel
theorem dX9_closes_1 : decode cX9_closes 1 = .ok (.getfield 85, 3) := by decide +kernel
theorem dX9_closes_4 : decode cX9_closes 4 = .ok (.iconst 3, 1) := by decide +kernel
theorem dX9_closes_5 : decode cX9_closes 5 = .ok (.if_icmp .eq 9, 3) := by decide +kernel
theorem dX9_closes_8 : decode cX9_closes 8 = .ok (.aload_n 0, 1) := by decide +kernel
theorem dX9_closes_9 : decode cX9_closes 9 = .ok (.iconst 1, 1) := by decide +kernel
theorem dX9_closes_10 : decode cX9_closes 10 = .ok (.invokevirtual 104, 3) := by decide +kernel
theorem dX9_closes_13 : decode cX9_closes 13 = .ok (.ireturn, 1) := by decide +kernel
theorem dX9_closes_14 : decode cX9_closes 14 = .ok (.aload_n 0, 1) := by decide +kernel
theorem dX9_closes_15 : decode cX9_closes 15 = .ok (.invokevirtual 108, 3) := by decide +kernel
theorem dX9_closes_18 : decode cX9_closes 18 = .ok (.iconst 1, 1) := by decide +kernel
theorem dX9_closes_19 : decode cX9_closes 19 = .ok (.ireturn, 1) := by decide +kernel
set_option maxRecDepth 20000 in
theorem ggX9_parse_X9_within : GoodIn wsX9_parse wsX9_within := goodIn_r _ [12] (by decide +kernel) (by decide +kernel)
set_option maxRecDepth 20000 in
theorem gX9_parse_X9_within : GoodIn wsX9_parse (va_wsS RX9 88 yX9_within wsX9_within) := goodIn_app (goodIn_of _ (by decide +kernel)) ggX9_parse_X9_within
set_option maxRecDepth 20000 in
theorem ggX9_parse_X9_throwsIf : GoodIn wsX9_parse wsX9_throwsIf := goodIn_r _ [16, 1, 134, 135, 136, 137, 138, 139, 140, 141, 142, 143, 144, 145, 146, 147, 148, 149, 150, 151, 152, 153, 154, 155] (by decide +kernel) (by decide +kernel)
set_option maxRecDepth 20000 in
theorem gX9_parse_X9_throwsIf : GoodIn wsX9_parse (wsV RX9 153 RX9 yX9_throwsIf wsX9_throwsIf) := goodIn_app (goodIn_of _ (by decide +kernel)) ggX9_parse_X9_throwsIf
set_option maxRecDepth 20000 in
theorem ggX9_parse_X9_clearDraft : GoodIn wsX9_parse wsX9_clearDraft := goodIn_r _ [20, 21, 22, 23, 11, 24, 25, 134, 135, 136, 137, 138, 139, 140, 141, 142, 143, 144, 145, 146, 147, 148, 149, 150, 151, 152, 153, 154, 155] (by decide +kernel) (by decide +kernel)
set_option maxRecDepth 20000 in
theorem gX9_parse_X9_clearDraft : GoodIn wsX9_parse (wsV RX9 46 RX9 yX9_clearDraft wsX9_clearDraft) := goodIn_app (goodIn_of _ (by decide +kernel)) ggX9_parse_X9_clearDraft
set_option maxRecDepth 20000 in
theorem ggX9_parse_X9_advance : GoodIn wsX9_parse wsX9_advance := goodIn_r _ [29, 4, 30, 31, 8, 32, 33, 34, 11, 35, 3, 36, 9, 10, 12, 134, 135, 136, 137, 138, 139, 140, 141, 142, 143, 144, 145, 146, 147, 148, 149, 150, 151, 152, 153, 154, 155] (by decide +kernel) (by decide +kernel)
set_option maxRecDepth 20000 in
theorem gX9_parse_X9_advance : GoodIn wsX9_parse (wsV RX9 108 RX9 yX9_advance wsX9_advance) := goodIn_app (goodIn_of _ (by decide +kernel)) ggX9_parse_X9_advance
set_option maxRecDepth 20000 in
theorem ggX9_parse_X9_statement : GoodIn wsX9_parse wsX9_statement := goodIn_r _ [40, 41, 42, 43, 11, 44, 8, 4, 30, 36, 45, 46, 47, 48, 49, 50, 51, 52, 53, 54, 55, 56, 57, 58, 59, 60, 61, 62, 63, 64, 65, 66, 67, 68, 69, 70, 71, 72, 73, 74, 75, 76, 77, 78, 79, 80, 81, 82, 83, 84, 85, 86, 87, 88, 89, 90, 91, 92, 93, 94, 95, 96, 97, 7, 98, 99, 100, 101, 102, 103, 104, 105, 5, 6, 26, 27, 28, 29, 31, 32, 33, 34, 35, 3, 9, 10, 12, 106, 107, 108, 109, 21, 22, 23, 24, 25, 110, 111, 112, 113, 114, 115, 116, 117, 134, 135, 136, 137, 138, 139, 140, 141, 142, 143, 144, 145, 146, 147, 148, 149, 150, 151, 152, 153, 154, 155] (by decide +kernel) (by decide +kernel)
set_option maxRecDepth 20000 in
theorem gX9_parse_X9_statement : GoodIn wsX9_parse (wsV RX9 157 RX9 yX9_statement wsX9_statement) := goodIn_app (goodIn_of _ (by decide +kernel)) ggX9_parse_X9_statement
set_option maxRecDepth 20000 in
theorem ggX9_parse_X9_closes : GoodIn wsX9_parse wsX9_closes := goodIn_r _ [121, 8, 102, 103, 104, 11, 105, 5, 30, 6, 26, 27, 28, 29, 4, 31, 32, 33, 34, 35, 3, 36, 9, 10, 12, 134, 135, 136, 137, 138, 139, 140, 141, 142, 143, 144, 145, 146, 147, 148, 149, 150, 151, 152, 153, 154, 155] (by decide +kernel) (by decide +kernel)
set_option maxRecDepth 20000 in
theorem gX9_parse_X9_closes : GoodIn wsX9_parse (wsV RX9 160 RX9 yX9_closes wsX9_closes) := goodIn_app (goodIn_of _ (by decide +kernel)) ggX9_parse_X9_closes
set_option maxRecDepth 20000 in
theorem ggX9_parse_X9_lifts : GoodIn wsX9_parse wsX9_lifts := goodIn_r _ [125, 25, 134, 135, 136, 137, 138, 139, 140, 141, 142, 143, 144, 145, 146, 147, 148, 149, 150, 151, 152, 153, 154, 155] (by decide +kernel) (by decide +kernel)
set_option maxRecDepth 20000 in
theorem gX9_parse_X9_lifts : GoodIn wsX9_parse (wsV RX9 49 RX9 yX9_lifts wsX9_lifts) := goodIn_app (goodIn_of _ (by decide +kernel)) ggX9_parse_X9_lifts
set_option maxRecDepth 20000 in
theorem ggX9_parse_X9_begins : GoodIn wsX9_parse wsX9_begins := goodIn_r _ [129, 130, 25, 131, 132, 133, 134, 135, 136, 137, 138, 139, 140, 141, 142, 143, 144, 145, 146, 147, 148, 149, 150, 151, 152, 153, 154, 155] (by decide +kernel) (by decide +kernel)
set_option maxRecDepth 20000 in
theorem gX9_parse_X9_begins : GoodIn wsX9_parse (wsV RX9 52 RX9 yX9_begins wsX9_begins) := goodIn_app (goodIn_of _ (by decide +kernel)) ggX9_parse_X9_begins
theorem dX9_parse_0 : decode cX9_parse 0 = .ok (.aload_n 0, 1) := by decide +kernel
theorem dX9_parse_1 : decode cX9_parse 1 = .ok (.iconst 0, 1) := by decide +kernel
theorem dX9_parse_2 : decode cX9_parse 2 = .ok (.putfield 55, 3) := by decide +kernel
theorem dX9_parse_5 : decode cX9_parse 5 = .ok (.aload_n 0, 1) := by decide +kernel
theorem dX9_parse_6 : decode cX9_parse 6 = .ok (.iload_n 1, 1) := by decide +kernel
theorem dX9_parse_7 : decode cX9_parse 7 = .ok (.iconst 0, 1) := by decide +kernel
theorem dX9_parse_8 : decode cX9_parse 8 = .ok (.aload_n 0, 1) := by decide +kernel
theorem dX9_parse_9 : decode cX9_parse 9 = .ok (.getfield 62, 3) := by decide +kernel
theorem dX9_parse_12 : decode cX9_parse 12 = .ok (.invokestatic 88, 3) := by decide +kernel
theorem dX9_parse_15 : decode cX9_parse 15 = .ok (.ifCond .ne 7, 3) := by decide +kernel
theorem dX9_parse_18 : decode cX9_parse 18 = .ok (.iconst 1, 1) := by decide +kernel
theorem dX9_parse_19 : decode cX9_parse 19 = .ok (.goto 4, 3) := by decide +kernel
theorem dX9_parse_22 : decode cX9_parse 22 = .ok (.iconst 0, 1) := by decide +kernel
theorem dX9_parse_23 : decode cX9_parse 23 = .ok (.iconst 1, 1) := by decide +kernel
theorem dX9_parse_24 : decode cX9_parse 24 = .ok (.invokevirtual 153, 3) := by decide +kernel
theorem dX9_parse_27 : decode cX9_parse 27 = .ok (.ifCond .eq 5, 3) := by decide +kernel
theorem dX9_parse_30 : decode cX9_parse 30 = .ok (.iconst 0, 1) := by decide +kernel
theorem dX9_parse_31 : decode cX9_parse 31 = .ok (.ireturn, 1) := by decide +kernel
theorem dX9_parse_32 : decode cX9_parse 32 = .ok (.aload_n 0, 1) := by decide +kernel
theorem dX9_parse_33 : decode cX9_parse 33 = .ok (.iload_n 1, 1) := by decide +kernel
theorem dX9_parse_34 : decode cX9_parse 34 = .ok (.putfield 69, 3) := by decide +kernel
theorem dX9_parse_37 : decode cX9_parse 37 = .ok (.aload_n 0, 1) := by decide +kernel
theorem dX9_parse_38 : decode cX9_parse 38 = .ok (.iconst 0, 1) := by decide +kernel
theorem dX9_parse_39 : decode cX9_parse 39 = .ok (.putfield 62, 3) := by decide +kernel
theorem dX9_parse_42 : decode cX9_parse 42 = .ok (.aload_n 0, 1) := by decide +kernel
theorem dX9_parse_43 : decode cX9_parse 43 = .ok (.iconst 0, 1) := by decide +kernel
theorem dX9_parse_44 : decode cX9_parse 44 = .ok (.putfield 72, 3) := by decide +kernel
theorem dX9_parse_47 : decode cX9_parse 47 = .ok (.aload_n 0, 1) := by decide +kernel
theorem dX9_parse_48 : decode cX9_parse 48 = .ok (.iconst 0, 1) := by decide +kernel
theorem dX9_parse_49 : decode cX9_parse 49 = .ok (.putfield 101, 3) := by decide +kernel
theorem dX9_parse_52 : decode cX9_parse 52 = .ok (.aload_n 0, 1) := by decide +kernel
theorem dX9_parse_53 : decode cX9_parse 53 = .ok (.iconst (-1), 1) := by decide +kernel
theorem dX9_parse_54 : decode cX9_parse 54 = .ok (.putfield 20, 3) := by decide +kernel
theorem dX9_parse_57 : decode cX9_parse 57 = .ok (.aload_n 0, 1) := by decide +kernel
theorem dX9_parse_58 : decode cX9_parse 58 = .ok (.iconst 0, 1) := by decide +kernel
theorem dX9_parse_59 : decode cX9_parse 59 = .ok (.putfield 111, 3) := by decide +kernel
theorem dX9_parse_62 : decode cX9_parse 62 = .ok (.aload_n 0, 1) := by decide +kernel
theorem dX9_parse_63 : decode cX9_parse 63 = .ok (.invokevirtual 46, 3) := by decide +kernel
theorem dX9_parse_66 : decode cX9_parse 66 = .ok (.aload_n 0, 1) := by decide +kernel
theorem dX9_parse_67 : decode cX9_parse 67 = .ok (.invokevirtual 108, 3) := by decide +kernel
theorem dX9_parse_70 : decode cX9_parse 70 = .ok (.iconst 1, 1) := by decide +kernel
theorem dX9_parse_71 : decode cX9_parse 71 = .ok (.istore_n 2, 1) := by decide +kernel
theorem dX9_parse_72 : decode cX9_parse 72 = .ok (.iload_n 2, 1) := by decide +kernel
theorem dX9_parse_73 : decode cX9_parse 73 = .ok (.ifCond .eq 33, 3) := by decide +kernel
theorem dX9_parse_76 : decode cX9_parse 76 = .ok (.aload_n 0, 1) := by decide +kernel
theorem dX9_parse_77 : decode cX9_parse 77 = .ok (.getfield 85, 3) := by decide +kernel
theorem dX9_parse_80 : decode cX9_parse 80 = .ok (.ifCond .eq 26, 3) := by decide +kernel
theorem dX9_parse_83 : decode cX9_parse 83 = .ok (.aload_n 0, 1) := by decide +kernel
theorem dX9_parse_84 : decode cX9_parse 84 = .ok (.invokevirtual 157, 3) := by decide +kernel
theorem dX9_parse_87 : decode cX9_parse 87 = .ok (.ifCond .eq 14, 3) := by decide +kernel
theorem dX9_parse_90 : decode cX9_parse 90 = .ok (.aload_n 0, 1) := by decide +kernel
theorem dX9_parse_91 : decode cX9_parse 91 = .ok (.invokevirtual 160, 3) := by decide +kernel
theorem dX9_parse_94 : decode cX9_parse 94 = .ok (.ifCond .eq 7, 3) := by decide +kernel
theorem dX9_parse_97 : decode cX9_parse 97 = .ok (.iconst 1, 1) := by decide +kernel
theorem dX9_parse_98 : decode cX9_parse 98 = .ok (.goto 4, 3) := by decide +kernel
theorem dX9_parse_101 : decode cX9_parse 101 = .ok (.iconst 0, 1) := by decide +kernel
theorem dX9_parse_102 : decode cX9_parse 102 = .ok (.istore_n 2, 1) := by decide +kernel
theorem dX9_parse_103 : decode cX9_parse 103 = .ok (.goto (-31), 3) := by decide +kernel
theorem dX9_parse_106 : decode cX9_parse 106 = .ok (.iload_n 2, 1) := by decide +kernel
theorem dX9_parse_107 : decode cX9_parse 107 = .ok (.ifCond .ne 8, 3) := by decide +kernel
theorem dX9_parse_110 : decode cX9_parse 110 = .ok (.aload_n 0, 1) := by decide +kernel
theorem dX9_parse_111 : decode cX9_parse 111 = .ok (.getfield 101, 3) := by decide +kernel
theorem dX9_parse_114 : decode cX9_parse 114 = .ok (.ireturn, 1) := by decide +kernel
theorem dX9_parse_115 : decode cX9_parse 115 = .ok (.aload_n 0, 1) := by decide +kernel
theorem dX9_parse_116 : decode cX9_parse 116 = .ok (.invokevirtual 49, 3) := by decide +kernel
theorem dX9_parse_119 : decode cX9_parse 119 = .ok (.aload_n 0, 1) := by decide +kernel
theorem dX9_parse_120 : decode cX9_parse 120 = .ok (.invokevirtual 52, 3) := by decide +kernel
theorem dX9_parse_123 : decode cX9_parse 123 = .ok (.iconst 0, 1) := by decide +kernel
theorem dX9_parse_124 : decode cX9_parse 124 = .ok (.ireturn, 1) := by decide +kernel
theorem dX9_errorPosition_0 : decode cX9_errorPosition 0 = .ok (.aload_n 0, 1) := by decide +kernel
theorem dX9_errorPosition_1 : decode cX9_errorPosition 1 = .ok (.iconst 0, 1) := by decide +kernel
theorem dX9_errorPosition_2 : decode cX9_errorPosition 2 = .ok (.putfield 55, 3) := by decide +kernel
theorem dX9_errorPosition_5 : decode cX9_errorPosition 5 = .ok (.aload_n 0, 1) := by decide +kernel
theorem dX9_errorPosition_6 : decode cX9_errorPosition 6 = .ok (.getfield 20, 3) := by decide +kernel
theorem dX9_errorPosition_9 : decode cX9_errorPosition 9 = .ok (.ireturn, 1) := by decide +kernel
theorem dX9_begins_0 : decode cX9_begins 0 = .ok (.iconst 0, 1) := by decide +kernel
theorem dX9_begins_1 : decode cX9_begins 1 = .ok (.istore_n 1, 1) := by decide +kernel
theorem dX9_begins_2 : decode cX9_begins 2 = .ok (.iload_n 1, 1) := by decide +kernel
theorem dX9_begins_3 : decode cX9_begins 3 = .ok (.sipush 214, 3) := by decide +kernel
theorem dX9_begins_6 : decode cX9_begins 6 = .ok (.if_icmp .ge 16, 3) := by decide +kernel
theorem dX9_begins_9 : decode cX9_begins 9 = .ok (.aload_n 0, 1) := by decide +kernel
theorem dX9_begins_10 : decode cX9_begins 10 = .ok (.getfield 7, 3) := by decide +kernel
theorem dX9_begins_13 : decode cX9_begins 13 = .ok (.iload_n 1, 1) := by decide +kernel
theorem dX9_begins_14 : decode cX9_begins 14 = .ok (.iconst 0, 1) := by decide +kernel
theorem dX9_begins_15 : decode cX9_begins 15 = .ok (.iastore, 1) := by decide +kernel
theorem dX9_begins_16 : decode cX9_begins 16 = .ok (.iinc 1 1, 3) := by decide +kernel
theorem dX9_begins_19 : decode cX9_begins 19 = .ok (.goto (-17), 3) := by decide +kernel
theorem dX9_begins_22 : decode cX9_begins 22 = .ok (.aload_n 0, 1) := by decide +kernel
theorem dX9_begins_23 : decode cX9_begins 23 = .ok (.getfield 7, 3) := by decide +kernel
theorem dX9_begins_26 : decode cX9_begins 26 = .ok (.iconst 5, 1) := by decide +kernel
theorem dX9_begins_27 : decode cX9_begins 27 = .ok (.aload_n 0, 1) := by decide +kernel
theorem dX9_begins_28 : decode cX9_begins 28 = .ok (.getfield 13, 3) := by decide +kernel
theorem dX9_begins_31 : decode cX9_begins 31 = .ok (.bipush 7, 2) := by decide +kernel
theorem dX9_begins_33 : decode cX9_begins 33 = .ok (.iaload, 1) := by decide +kernel
theorem dX9_begins_34 : decode cX9_begins 34 = .ok (.iastore, 1) := by decide +kernel
theorem dX9_begins_35 : decode cX9_begins 35 = .ok (.aload_n 0, 1) := by decide +kernel
theorem dX9_begins_36 : decode cX9_begins 36 = .ok (.getfield 7, 3) := by decide +kernel
theorem dX9_begins_39 : decode cX9_begins 39 = .ok (.bipush 10, 2) := by decide +kernel
theorem dX9_begins_41 : decode cX9_begins 41 = .ok (.sipush 2048, 3) := by decide +kernel
theorem dX9_begins_44 : decode cX9_begins 44 = .ok (.iastore, 1) := by decide +kernel
theorem dX9_begins_45 : decode cX9_begins 45 = .ok (.aload_n 0, 1) := by decide +kernel
theorem dX9_begins_46 : decode cX9_begins 46 = .ok (.getfield 7, 3) := by decide +kernel
theorem dX9_begins_49 : decode cX9_begins 49 = .ok (.bipush 11, 2) := by decide +kernel
theorem dX9_begins_51 : decode cX9_begins 51 = .ok (.sipush 2048, 3) := by decide +kernel
theorem dX9_begins_54 : decode cX9_begins 54 = .ok (.iastore, 1) := by decide +kernel
theorem dX9_begins_55 : decode cX9_begins 55 = .ok (.aload_n 0, 1) := by decide +kernel
theorem dX9_begins_56 : decode cX9_begins 56 = .ok (.iconst 0, 1) := by decide +kernel
theorem dX9_begins_57 : decode cX9_begins 57 = .ok (.putfield 163, 3) := by decide +kernel
theorem dX9_begins_60 : decode cX9_begins 60 = .ok (.aload_n 0, 1) := by decide +kernel
theorem dX9_begins_61 : decode cX9_begins 61 = .ok (.getfield 42, 3) := by decide +kernel
theorem dX9_begins_64 : decode cX9_begins 64 = .ok (.iconst 0, 1) := by decide +kernel
theorem dX9_begins_65 : decode cX9_begins 65 = .ok (.iconst 0, 1) := by decide +kernel
theorem dX9_begins_66 : decode cX9_begins 66 = .ok (.bastore, 1) := by decide +kernel
theorem dX9_begins_67 : decode cX9_begins 67 = .ok (.aload_n 0, 1) := by decide +kernel
theorem dX9_begins_68 : decode cX9_begins 68 = .ok (.getfield 42, 3) := by decide +kernel
theorem dX9_begins_71 : decode cX9_begins 71 = .ok (.iconst 1, 1) := by decide +kernel
theorem dX9_begins_72 : decode cX9_begins 72 = .ok (.iconst 0, 1) := by decide +kernel
theorem dX9_begins_73 : decode cX9_begins 73 = .ok (.bastore, 1) := by decide +kernel
theorem dX9_begins_74 : decode cX9_begins 74 = .ok (.aload_n 0, 1) := by decide +kernel
theorem dX9_begins_75 : decode cX9_begins 75 = .ok (.iconst 0, 1) := by decide +kernel
theorem dX9_begins_76 : decode cX9_begins 76 = .ok (.putfield 166, 3) := by decide +kernel
theorem dX9_begins_79 : decode cX9_begins 79 = .ok (.return_, 1) := by decide +kernel
theorem dX9_mod_0 : decode cX9_mod 0 = .ok (.iload_n 0, 1) := by decide +kernel
theorem dX9_mod_1 : decode cX9_mod 1 = .ok (.sipush 4096, 3) := by decide +kernel
theorem dX9_mod_4 : decode cX9_mod 4 = .ok (.irem, 1) := by decide +kernel
theorem dX9_mod_5 : decode cX9_mod 5 = .ok (.istore_n 1, 1) := by decide +kernel
theorem dX9_mod_6 : decode cX9_mod 6 = .ok (.iload_n 1, 1) := by decide +kernel
theorem dX9_mod_7 : decode cX9_mod 7 = .ok (.ifCond .ge 11, 3) := by decide +kernel
theorem dX9_mod_10 : decode cX9_mod 10 = .ok (.iload_n 1, 1) := by decide +kernel
theorem dX9_mod_11 : decode cX9_mod 11 = .ok (.sipush 4096, 3) := by decide +kernel
theorem dX9_mod_14 : decode cX9_mod 14 = .ok (.iadd, 1) := by decide +kernel
theorem dX9_mod_15 : decode cX9_mod 15 = .ok (.goto 4, 3) := by decide +kernel
theorem dX9_mod_18 : decode cX9_mod 18 = .ok (.iload_n 1, 1) := by decide +kernel
theorem dX9_mod_19 : decode cX9_mod 19 = .ok (.ireturn, 1) := by decide +kernel
theorem dX9_sineOf_0 : decode cX9_sineOf 0 = .ok (.iload_n 0, 1) := by decide +kernel
theorem dX9_sineOf_1 : decode cX9_sineOf 1 = .ok (.sipush 2048, 3) := by decide +kernel
theorem dX9_sineOf_4 : decode cX9_sineOf 4 = .ok (.if_icmp .ge 7, 3) := by decide +kernel
theorem dX9_sineOf_7 : decode cX9_sineOf 7 = .ok (.iload_n 0, 1) := by decide +kernel
theorem dX9_sineOf_8 : decode cX9_sineOf 8 = .ok (.goto 8, 3) := by decide +kernel
theorem dX9_sineOf_11 : decode cX9_sineOf 11 = .ok (.iload_n 0, 1) := by decide +kernel
theorem dX9_sineOf_12 : decode cX9_sineOf 12 = .ok (.sipush 2048, 3) := by decide +kernel
theorem dX9_sineOf_15 : decode cX9_sineOf 15 = .ok (.isub, 1) := by decide +kernel
theorem dX9_sineOf_16 : decode cX9_sineOf 16 = .ok (.istore_n 1, 1) := by decide +kernel
theorem dX9_sineOf_17 : decode cX9_sineOf 17 = .ok (.iload_n 1, 1) := by decide +kernel
theorem dX9_sineOf_18 : decode cX9_sineOf 18 = .ok (.i2l, 1) := by decide +kernel
theorem dX9_sineOf_19 : decode cX9_sineOf 19 = .ok (.sipush 2048, 3) := by decide +kernel
theorem dX9_sineOf_22 : decode cX9_sineOf 22 = .ok (.iload_n 1, 1) := by decide +kernel
theorem dX9_sineOf_23 : decode cX9_sineOf 23 = .ok (.isub, 1) := by decide +kernel
theorem dX9_sineOf_24 : decode cX9_sineOf 24 = .ok (.i2l, 1) := by decide +kernel
theorem dX9_sineOf_25 : decode cX9_sineOf 25 = .ok (.lmul, 1) := by decide +kernel
theorem dX9_sineOf_26 : decode cX9_sineOf 26 = .ok (.lstore_n 2, 1) := by decide +kernel
theorem dX9_sineOf_27 : decode cX9_sineOf 27 = .ok (.ldc2_w 169, 3) := by decide +kernel
theorem dX9_sineOf_30 : decode cX9_sineOf 30 = .ok (.lload_n 2, 1) := by decide +kernel
theorem dX9_sineOf_31 : decode cX9_sineOf 31 = .ok (.lmul, 1) := by decide +kernel
theorem dX9_sineOf_32 : decode cX9_sineOf 32 = .ok (.ldc2_w 171, 3) := by decide +kernel
theorem dX9_sineOf_35 : decode cX9_sineOf 35 = .ok (.ldc2_w 173, 3) := by decide +kernel
theorem dX9_sineOf_38 : decode cX9_sineOf 38 = .ok (.lload_n 2, 1) := by decide +kernel
theorem dX9_sineOf_39 : decode cX9_sineOf 39 = .ok (.lmul, 1) := by decide +kernel
theorem dX9_sineOf_40 : decode cX9_sineOf 40 = .ok (.lsub, 1) := by decide +kernel
theorem dX9_sineOf_41 : decode cX9_sineOf 41 = .ok (.ldiv, 1) := by decide +kernel
theorem dX9_sineOf_42 : decode cX9_sineOf 42 = .ok (.l2i, 1) := by decide +kernel
theorem dX9_sineOf_43 : decode cX9_sineOf 43 = .ok (.istore 4, 2) := by decide +kernel
theorem dX9_sineOf_45 : decode cX9_sineOf 45 = .ok (.iload_n 0, 1) := by decide +kernel
theorem dX9_sineOf_46 : decode cX9_sineOf 46 = .ok (.sipush 2048, 3) := by decide +kernel
theorem dX9_sineOf_49 : decode cX9_sineOf 49 = .ok (.if_icmp .ge 8, 3) := by decide +kernel
theorem dX9_sineOf_52 : decode cX9_sineOf 52 = .ok (.iload 4, 2) := by decide +kernel
theorem dX9_sineOf_54 : decode cX9_sineOf 54 = .ok (.goto 6, 3) := by decide +kernel
theorem dX9_sineOf_57 : decode cX9_sineOf 57 = .ok (.iload 4, 2) := by decide +kernel
theorem dX9_sineOf_59 : decode cX9_sineOf 59 = .ok (.ineg, 1) := by decide +kernel
theorem dX9_sineOf_60 : decode cX9_sineOf 60 = .ok (.ireturn, 1) := by decide +kernel
set_option maxRecDepth 20000 in
theorem ggX9_cosineOf_X9_mod : GoodIn wsX9_cosineOf wsX9_mod := goodIn_r _ [4] (by decide +kernel) (by decide +kernel)
set_option maxRecDepth 20000 in
theorem gX9_cosineOf_X9_mod : GoodIn wsX9_cosineOf (va_wsS RX9 175 yX9_mod wsX9_mod) := goodIn_app (goodIn_of _ (by decide +kernel)) ggX9_cosineOf_X9_mod
set_option maxRecDepth 20000 in
theorem ggX9_cosineOf_X9_sineOf : GoodIn wsX9_cosineOf wsX9_sineOf := goodIn_r _ [7, 8, 9, 10] (by decide +kernel) (by decide +kernel)
set_option maxRecDepth 20000 in
theorem gX9_cosineOf_X9_sineOf : GoodIn wsX9_cosineOf (va_wsS RX9 178 yX9_sineOf wsX9_sineOf) := goodIn_app (goodIn_of _ (by decide +kernel)) ggX9_cosineOf_X9_sineOf
theorem dX9_cosineOf_0 : decode cX9_cosineOf 0 = .ok (.iload_n 0, 1) := by decide +kernel
theorem dX9_cosineOf_1 : decode cX9_cosineOf 1 = .ok (.sipush 1024, 3) := by decide +kernel
theorem dX9_cosineOf_4 : decode cX9_cosineOf 4 = .ok (.iadd, 1) := by decide +kernel
theorem dX9_cosineOf_5 : decode cX9_cosineOf 5 = .ok (.invokestatic 175, 3) := by decide +kernel
theorem dX9_cosineOf_8 : decode cX9_cosineOf 8 = .ok (.invokestatic 178, 3) := by decide +kernel
theorem dX9_cosineOf_11 : decode cX9_cosineOf 11 = .ok (.ireturn, 1) := by decide +kernel
theorem dX9_leanOf_0 : decode cX9_leanOf 0 = .ok (.iload_n 0, 1) := by decide +kernel
theorem dX9_leanOf_1 : decode cX9_leanOf 1 = .ok (.sipush 2048, 3) := by decide +kernel
theorem dX9_leanOf_4 : decode cX9_leanOf 4 = .ok (.if_icmp .ge 7, 3) := by decide +kernel
theorem dX9_leanOf_7 : decode cX9_leanOf 7 = .ok (.iload_n 0, 1) := by decide +kernel
theorem dX9_leanOf_8 : decode cX9_leanOf 8 = .ok (.goto 8, 3) := by decide +kernel
theorem dX9_leanOf_11 : decode cX9_leanOf 11 = .ok (.iload_n 0, 1) := by decide +kernel
theorem dX9_leanOf_12 : decode cX9_leanOf 12 = .ok (.sipush 4096, 3) := by decide +kernel
theorem dX9_leanOf_15 : decode cX9_leanOf 15 = .ok (.isub, 1) := by decide +kernel
theorem dX9_leanOf_16 : decode cX9_leanOf 16 = .ok (.ireturn, 1) := by decide +kernel
theorem dX9_isBeyond_0 : decode cX9_isBeyond 0 = .ok (.iload_n 0, 1) := by decide +kernel
theorem dX9_isBeyond_1 : decode cX9_isBeyond 1 = .ok (.iload_n 1, 1) := by decide +kernel
theorem dX9_isBeyond_2 : decode cX9_isBeyond 2 = .ok (.if_icmp .gt 9, 3) := by decide +kernel
theorem dX9_isBeyond_5 : decode cX9_isBeyond 5 = .ok (.iload_n 0, 1) := by decide +kernel
theorem dX9_isBeyond_6 : decode cX9_isBeyond 6 = .ok (.iload_n 1, 1) := by decide +kernel
theorem dX9_isBeyond_7 : decode cX9_isBeyond 7 = .ok (.ineg, 1) := by decide +kernel
theorem dX9_isBeyond_8 : decode cX9_isBeyond 8 = .ok (.if_icmp .ge 7, 3) := by decide +kernel
theorem dX9_isBeyond_11 : decode cX9_isBeyond 11 = .ok (.iconst 1, 1) := by decide +kernel
theorem dX9_isBeyond_12 : decode cX9_isBeyond 12 = .ok (.goto 4, 3) := by decide +kernel
theorem dX9_isBeyond_15 : decode cX9_isBeyond 15 = .ok (.iconst 0, 1) := by decide +kernel
theorem dX9_isBeyond_16 : decode cX9_isBeyond 16 = .ok (.ireturn, 1) := by decide +kernel
set_option maxRecDepth 20000 in
theorem ggX9_sine_X9_within : GoodIn wsX9_sine wsX9_within := goodIn_r _ [5] (by decide +kernel) (by decide +kernel)
set_option maxRecDepth 20000 in
theorem gX9_sine_X9_within : GoodIn wsX9_sine (va_wsS RX9 88 yX9_within wsX9_within) := goodIn_app (goodIn_of _ (by decide +kernel)) ggX9_sine_X9_within
set_option maxRecDepth 20000 in
theorem ggX9_sine_X9_throwsIf : GoodIn wsX9_sine wsX9_throwsIf := goodIn_r _ [9, 1, 16, 17, 18, 19, 20, 21, 22, 23, 24, 25, 26, 27, 28, 29, 30, 31, 32, 33, 34, 35, 36, 37] (by decide +kernel) (by decide +kernel)
set_option maxRecDepth 20000 in
theorem gX9_sine_X9_throwsIf : GoodIn wsX9_sine (wsV RX9 153 RX9 yX9_throwsIf wsX9_throwsIf) := goodIn_app (goodIn_of _ (by decide +kernel)) ggX9_sine_X9_throwsIf
set_option maxRecDepth 20000 in
theorem ggX9_sine_X9_sineOf : GoodIn wsX9_sine wsX9_sineOf := goodIn_r _ [12, 13, 14, 15] (by decide +kernel) (by decide +kernel)
set_option maxRecDepth 20000 in
theorem gX9_sine_X9_sineOf : GoodIn wsX9_sine (va_wsS RX9 178 yX9_sineOf wsX9_sineOf) := goodIn_app (goodIn_of _ (by decide +kernel)) ggX9_sine_X9_sineOf
theorem dX9_sine_0 : decode cX9_sine 0 = .ok (.aload_n 0, 1) := by decide +kernel
theorem dX9_sine_1 : decode cX9_sine 1 = .ok (.iconst 0, 1) := by decide +kernel
theorem dX9_sine_2 : decode cX9_sine 2 = .ok (.putfield 55, 3) := by decide +kernel
theorem dX9_sine_5 : decode cX9_sine 5 = .ok (.aload_n 0, 1) := by decide +kernel
theorem dX9_sine_6 : decode cX9_sine 6 = .ok (.iload_n 1, 1) := by decide +kernel
theorem dX9_sine_7 : decode cX9_sine 7 = .ok (.iconst 0, 1) := by decide +kernel
theorem dX9_sine_8 : decode cX9_sine 8 = .ok (.sipush 4095, 3) := by decide +kernel
theorem dX9_sine_11 : decode cX9_sine 11 = .ok (.invokestatic 88, 3) := by decide +kernel
theorem dX9_sine_14 : decode cX9_sine 14 = .ok (.ifCond .ne 7, 3) := by decide +kernel
theorem dX9_sine_17 : decode cX9_sine 17 = .ok (.iconst 1, 1) := by decide +kernel
theorem dX9_sine_18 : decode cX9_sine 18 = .ok (.goto 4, 3) := by decide +kernel
theorem dX9_sine_21 : decode cX9_sine 21 = .ok (.iconst 0, 1) := by decide +kernel
theorem dX9_sine_22 : decode cX9_sine 22 = .ok (.iconst 1, 1) := by decide +kernel
theorem dX9_sine_23 : decode cX9_sine 23 = .ok (.invokevirtual 153, 3) := by decide +kernel
theorem dX9_sine_26 : decode cX9_sine 26 = .ok (.ifCond .eq 7, 3) := by decide +kernel
theorem dX9_sine_29 : decode cX9_sine 29 = .ok (.iconst 0, 1) := by decide +kernel
theorem dX9_sine_30 : decode cX9_sine 30 = .ok (.goto 7, 3) := by decide +kernel
theorem dX9_sine_33 : decode cX9_sine 33 = .ok (.iload_n 1, 1) := by decide +kernel
theorem dX9_sine_34 : decode cX9_sine 34 = .ok (.invokestatic 178, 3) := by decide +kernel
theorem dX9_sine_37 : decode cX9_sine 37 = .ok (.ireturn, 1) := by decide +kernel
set_option maxRecDepth 20000 in
theorem ggX9_lean_X9_within : GoodIn wsX9_lean wsX9_within := goodIn_r _ [5] (by decide +kernel) (by decide +kernel)
set_option maxRecDepth 20000 in
theorem gX9_lean_X9_within : GoodIn wsX9_lean (va_wsS RX9 88 yX9_within wsX9_within) := goodIn_app (goodIn_of _ (by decide +kernel)) ggX9_lean_X9_within
set_option maxRecDepth 20000 in
theorem ggX9_lean_X9_throwsIf : GoodIn wsX9_lean wsX9_throwsIf := goodIn_r _ [9, 1, 13, 14, 15, 16, 17, 18, 19, 20, 21, 22, 23, 24, 25, 26, 27, 28, 29, 30, 31, 32, 33, 34] (by decide +kernel) (by decide +kernel)
set_option maxRecDepth 20000 in
theorem gX9_lean_X9_throwsIf : GoodIn wsX9_lean (wsV RX9 153 RX9 yX9_throwsIf wsX9_throwsIf) := goodIn_app (goodIn_of _ (by decide +kernel)) ggX9_lean_X9_throwsIf
set_option maxRecDepth 20000 in
theorem ggX9_lean_X9_leanOf : GoodIn wsX9_lean wsX9_leanOf := goodIn_r _ [12] (by decide +kernel) (by decide +kernel)
set_option maxRecDepth 20000 in
theorem gX9_lean_X9_leanOf : GoodIn wsX9_lean (va_wsS RX9 181 yX9_leanOf wsX9_leanOf) := goodIn_app (goodIn_of _ (by decide +kernel)) ggX9_lean_X9_leanOf
theorem dX9_lean_0 : decode cX9_lean 0 = .ok (.aload_n 0, 1) := by decide +kernel
theorem dX9_lean_1 : decode cX9_lean 1 = .ok (.iconst 0, 1) := by decide +kernel
theorem dX9_lean_2 : decode cX9_lean 2 = .ok (.putfield 55, 3) := by decide +kernel
theorem dX9_lean_5 : decode cX9_lean 5 = .ok (.aload_n 0, 1) := by decide +kernel
theorem dX9_lean_6 : decode cX9_lean 6 = .ok (.iload_n 1, 1) := by decide +kernel
theorem dX9_lean_7 : decode cX9_lean 7 = .ok (.iconst 0, 1) := by decide +kernel
theorem dX9_lean_8 : decode cX9_lean 8 = .ok (.sipush 4095, 3) := by decide +kernel
theorem dX9_lean_11 : decode cX9_lean 11 = .ok (.invokestatic 88, 3) := by decide +kernel
theorem dX9_lean_14 : decode cX9_lean 14 = .ok (.ifCond .ne 7, 3) := by decide +kernel
theorem dX9_lean_17 : decode cX9_lean 17 = .ok (.iconst 1, 1) := by decide +kernel
theorem dX9_lean_18 : decode cX9_lean 18 = .ok (.goto 4, 3) := by decide +kernel
theorem dX9_lean_21 : decode cX9_lean 21 = .ok (.iconst 0, 1) := by decide +kernel
theorem dX9_lean_22 : decode cX9_lean 22 = .ok (.iconst 1, 1) := by decide +kernel
theorem dX9_lean_23 : decode cX9_lean 23 = .ok (.invokevirtual 153, 3) := by decide +kernel
theorem dX9_lean_26 : decode cX9_lean 26 = .ok (.ifCond .eq 7, 3) := by decide +kernel
theorem dX9_lean_29 : decode cX9_lean 29 = .ok (.iconst 0, 1) := by decide +kernel
theorem dX9_lean_30 : decode cX9_lean 30 = .ok (.goto 7, 3) := by decide +kernel
theorem dX9_lean_33 : decode cX9_lean 33 = .ok (.iload_n 1, 1) := by decide +kernel
theorem dX9_lean_34 : decode cX9_lean 34 = .ok (.invokestatic 181, 3) := by decide +kernel
theorem dX9_lean_37 : decode cX9_lean 37 = .ok (.ireturn, 1) := by decide +kernel
set_option maxRecDepth 20000 in
theorem ggX9_turn_X9_sineOf : GoodIn wsX9_turn wsX9_sineOf := goodIn_r _ [5, 6, 7, 8] (by decide +kernel) (by decide +kernel)
set_option maxRecDepth 20000 in
theorem gX9_turn_X9_sineOf : GoodIn wsX9_turn (va_wsS RX9 178 yX9_sineOf wsX9_sineOf) := goodIn_app (goodIn_of _ (by decide +kernel)) ggX9_turn_X9_sineOf
set_option maxRecDepth 20000 in
theorem ggX9_turn_X9_cosineOf : GoodIn wsX9_turn wsX9_cosineOf := goodIn_r _ [11, 12, 13, 4, 14, 2, 3, 5, 6, 7, 8] (by decide +kernel) (by decide +kernel)
set_option maxRecDepth 20000 in
theorem gX9_turn_X9_cosineOf : GoodIn wsX9_turn (va_wsS RX9 184 yX9_cosineOf wsX9_cosineOf) := goodIn_app (goodIn_of _ (by decide +kernel)) ggX9_turn_X9_cosineOf
theorem dX9_turn_0 : decode cX9_turn 0 = .ok (.aload_n 1, 1) := by decide +kernel
theorem dX9_turn_1 : decode cX9_turn 1 = .ok (.bipush 10, 2) := by decide +kernel
theorem dX9_turn_3 : decode cX9_turn 3 = .ok (.iload_n 2, 1) := by decide +kernel
theorem dX9_turn_4 : decode cX9_turn 4 = .ok (.iadd, 1) := by decide +kernel
theorem dX9_turn_5 : decode cX9_turn 5 = .ok (.iaload, 1) := by decide +kernel
theorem dX9_turn_6 : decode cX9_turn 6 = .ok (.istore 4, 2) := by decide +kernel
theorem dX9_turn_8 : decode cX9_turn 8 = .ok (.aload_n 0, 1) := by decide +kernel
theorem dX9_turn_9 : decode cX9_turn 9 = .ok (.getfield 13, 3) := by decide +kernel
theorem dX9_turn_12 : decode cX9_turn 12 = .ok (.iconst 1, 1) := by decide +kernel
theorem dX9_turn_13 : decode cX9_turn 13 = .ok (.iload_n 2, 1) := by decide +kernel
theorem dX9_turn_14 : decode cX9_turn 14 = .ok (.iadd, 1) := by decide +kernel
theorem dX9_turn_15 : decode cX9_turn 15 = .ok (.iaload, 1) := by decide +kernel
theorem dX9_turn_16 : decode cX9_turn 16 = .ok (.iload 4, 2) := by decide +kernel
theorem dX9_turn_18 : decode cX9_turn 18 = .ok (.invokestatic 178, 3) := by decide +kernel
theorem dX9_turn_21 : decode cX9_turn 21 = .ok (.imul, 1) := by decide +kernel
theorem dX9_turn_22 : decode cX9_turn 22 = .ok (.aload_n 0, 1) := by decide +kernel
theorem dX9_turn_23 : decode cX9_turn 23 = .ok (.getfield 13, 3) := by decide +kernel
theorem dX9_turn_26 : decode cX9_turn 26 = .ok (.iconst 5, 1) := by decide +kernel
theorem dX9_turn_27 : decode cX9_turn 27 = .ok (.iload_n 2, 1) := by decide +kernel
theorem dX9_turn_28 : decode cX9_turn 28 = .ok (.iadd, 1) := by decide +kernel
theorem dX9_turn_29 : decode cX9_turn 29 = .ok (.iaload, 1) := by decide +kernel
theorem dX9_turn_30 : decode cX9_turn 30 = .ok (.iload_n 3, 1) := by decide +kernel
theorem dX9_turn_31 : decode cX9_turn 31 = .ok (.imul, 1) := by decide +kernel
theorem dX9_turn_32 : decode cX9_turn 32 = .ok (.iload 4, 2) := by decide +kernel
theorem dX9_turn_34 : decode cX9_turn 34 = .ok (.invokestatic 184, 3) := by decide +kernel
theorem dX9_turn_37 : decode cX9_turn 37 = .ok (.imul, 1) := by decide +kernel
theorem dX9_turn_38 : decode cX9_turn 38 = .ok (.isub, 1) := by decide +kernel
theorem dX9_turn_39 : decode cX9_turn 39 = .ok (.istore 5, 2) := by decide +kernel
theorem dX9_turn_41 : decode cX9_turn 41 = .ok (.iload 5, 2) := by decide +kernel
theorem dX9_turn_43 : decode cX9_turn 43 = .ok (.sipush 4096, 3) := by decide +kernel
theorem dX9_turn_46 : decode cX9_turn 46 = .ok (.idiv, 1) := by decide +kernel
theorem dX9_turn_47 : decode cX9_turn 47 = .ok (.aload_n 0, 1) := by decide +kernel
theorem dX9_turn_48 : decode cX9_turn 48 = .ok (.getfield 13, 3) := by decide +kernel
theorem dX9_turn_51 : decode cX9_turn 51 = .ok (.iconst 3, 1) := by decide +kernel
theorem dX9_turn_52 : decode cX9_turn 52 = .ok (.iload_n 2, 1) := by decide +kernel
theorem dX9_turn_53 : decode cX9_turn 53 = .ok (.iadd, 1) := by decide +kernel
theorem dX9_turn_54 : decode cX9_turn 54 = .ok (.iaload, 1) := by decide +kernel
theorem dX9_turn_55 : decode cX9_turn 55 = .ok (.aload_n 1, 1) := by decide +kernel
theorem dX9_turn_56 : decode cX9_turn 56 = .ok (.bipush 12, 2) := by decide +kernel
theorem dX9_turn_58 : decode cX9_turn 58 = .ok (.iload_n 2, 1) := by decide +kernel
theorem dX9_turn_59 : decode cX9_turn 59 = .ok (.iadd, 1) := by decide +kernel
theorem dX9_turn_60 : decode cX9_turn 60 = .ok (.iaload, 1) := by decide +kernel
theorem dX9_turn_61 : decode cX9_turn 61 = .ok (.imul, 1) := by decide +kernel
theorem dX9_turn_62 : decode cX9_turn 62 = .ok (.sipush 4096, 3) := by decide +kernel
theorem dX9_turn_65 : decode cX9_turn 65 = .ok (.idiv, 1) := by decide +kernel
theorem dX9_turn_66 : decode cX9_turn 66 = .ok (.isub, 1) := by decide +kernel
theorem dX9_turn_67 : decode cX9_turn 67 = .ok (.ireturn, 1) := by decide +kernel
set_option maxRecDepth 20000 in
theorem ggX9_step_X9_mod : GoodIn wsX9_step wsX9_mod := goodIn_r _ [5] (by decide +kernel) (by decide +kernel)
set_option maxRecDepth 20000 in
theorem gX9_step_X9_mod : GoodIn wsX9_step (va_wsS RX9 175 yX9_mod wsX9_mod) := goodIn_app (goodIn_of _ (by decide +kernel)) ggX9_step_X9_mod
set_option maxRecDepth 20000 in
theorem ggX9_step_X9_sineOf : GoodIn wsX9_step wsX9_sineOf := goodIn_r _ [8, 9, 10, 11] (by decide +kernel) (by decide +kernel)
set_option maxRecDepth 20000 in
theorem gX9_step_X9_sineOf : GoodIn wsX9_step (va_wsS RX9 178 yX9_sineOf wsX9_sineOf) := goodIn_app (goodIn_of _ (by decide +kernel)) ggX9_step_X9_sineOf
set_option maxRecDepth 20000 in
theorem ggX9_step_X9_turn : GoodIn wsX9_step wsX9_turn := goodIn_r _ [15, 1, 6, 7, 4, 8, 9, 10, 11, 16, 17, 18, 2, 3, 5, 22, 23, 24, 25, 26, 27, 28, 29, 30, 31, 32, 33, 34, 35, 36, 37, 38, 39, 40, 41, 42, 43] (by decide +kernel) (by decide +kernel)
set_option maxRecDepth 20000 in
theorem gX9_step_X9_turn : GoodIn wsX9_step (wsV RX9 187 RX9 yX9_turn wsX9_turn) := goodIn_app (goodIn_of _ (by decide +kernel)) ggX9_step_X9_turn
set_option maxRecDepth 20000 in
theorem ggX9_step_X9_isBeyond : GoodIn wsX9_step wsX9_isBeyond := goodIn_r _ [21] (by decide +kernel) (by decide +kernel)
set_option maxRecDepth 20000 in
theorem gX9_step_X9_isBeyond : GoodIn wsX9_step (va_wsS RX9 191 yX9_isBeyond wsX9_isBeyond) := goodIn_app (goodIn_of _ (by decide +kernel)) ggX9_step_X9_isBeyond
theorem dX9_step_0 : decode cX9_step 0 = .ok (.aload_n 0, 1) := by decide +kernel
theorem dX9_step_1 : decode cX9_step 1 = .ok (.getfield 13, 3) := by decide +kernel
theorem dX9_step_4 : decode cX9_step 4 = .ok (.bipush 8, 2) := by decide +kernel
theorem dX9_step_6 : decode cX9_step 6 = .ok (.iaload, 1) := by decide +kernel
theorem dX9_step_7 : decode cX9_step 7 = .ok (.aload_n 1, 1) := by decide +kernel
theorem dX9_step_8 : decode cX9_step 8 = .ok (.bipush 10, 2) := by decide +kernel
theorem dX9_step_10 : decode cX9_step 10 = .ok (.iaload, 1) := by decide +kernel
theorem dX9_step_11 : decode cX9_step 11 = .ok (.aload_n 1, 1) := by decide +kernel
theorem dX9_step_12 : decode cX9_step 12 = .ok (.bipush 11, 2) := by decide +kernel
theorem dX9_step_14 : decode cX9_step 14 = .ok (.iaload, 1) := by decide +kernel
theorem dX9_step_15 : decode cX9_step 15 = .ok (.isub, 1) := by decide +kernel
theorem dX9_step_16 : decode cX9_step 16 = .ok (.invokestatic 175, 3) := by decide +kernel
theorem dX9_step_19 : decode cX9_step 19 = .ok (.invokestatic 178, 3) := by decide +kernel
theorem dX9_step_22 : decode cX9_step 22 = .ok (.imul, 1) := by decide +kernel
theorem dX9_step_23 : decode cX9_step 23 = .ok (.sipush 4096, 3) := by decide +kernel
theorem dX9_step_26 : decode cX9_step 26 = .ok (.idiv, 1) := by decide +kernel
theorem dX9_step_27 : decode cX9_step 27 = .ok (.istore_n 3, 1) := by decide +kernel
theorem dX9_step_28 : decode cX9_step 28 = .ok (.aload_n 0, 1) := by decide +kernel
theorem dX9_step_29 : decode cX9_step 29 = .ok (.aload_n 1, 1) := by decide +kernel
theorem dX9_step_30 : decode cX9_step 30 = .ok (.iconst 0, 1) := by decide +kernel
theorem dX9_step_31 : decode cX9_step 31 = .ok (.iload_n 2, 1) := by decide +kernel
theorem dX9_step_32 : decode cX9_step 32 = .ok (.invokevirtual 187, 3) := by decide +kernel
theorem dX9_step_35 : decode cX9_step 35 = .ok (.iload_n 3, 1) := by decide +kernel
theorem dX9_step_36 : decode cX9_step 36 = .ok (.isub, 1) := by decide +kernel
theorem dX9_step_37 : decode cX9_step 37 = .ok (.istore 4, 2) := by decide +kernel
theorem dX9_step_39 : decode cX9_step 39 = .ok (.aload_n 0, 1) := by decide +kernel
theorem dX9_step_40 : decode cX9_step 40 = .ok (.aload_n 1, 1) := by decide +kernel
theorem dX9_step_41 : decode cX9_step 41 = .ok (.iconst 1, 1) := by decide +kernel
theorem dX9_step_42 : decode cX9_step 42 = .ok (.iload_n 2, 1) := by decide +kernel
theorem dX9_step_43 : decode cX9_step 43 = .ok (.invokevirtual 187, 3) := by decide +kernel
theorem dX9_step_46 : decode cX9_step 46 = .ok (.iload_n 3, 1) := by decide +kernel
theorem dX9_step_47 : decode cX9_step 47 = .ok (.iadd, 1) := by decide +kernel
theorem dX9_step_48 : decode cX9_step 48 = .ok (.istore 5, 2) := by decide +kernel
theorem dX9_step_50 : decode cX9_step 50 = .ok (.aload_n 1, 1) := by decide +kernel
theorem dX9_step_51 : decode cX9_step 51 = .ok (.iconst 3, 1) := by decide +kernel
theorem dX9_step_52 : decode cX9_step 52 = .ok (.dup2, 1) := by decide +kernel
theorem dX9_step_53 : decode cX9_step 53 = .ok (.iaload, 1) := by decide +kernel
theorem dX9_step_54 : decode cX9_step 54 = .ok (.iload_n 2, 1) := by decide +kernel
theorem dX9_step_55 : decode cX9_step 55 = .ok (.iadd, 1) := by decide +kernel
theorem dX9_step_56 : decode cX9_step 56 = .ok (.iastore, 1) := by decide +kernel
theorem dX9_step_57 : decode cX9_step 57 = .ok (.aload_n 1, 1) := by decide +kernel
theorem dX9_step_58 : decode cX9_step 58 = .ok (.bipush 12, 2) := by decide +kernel
theorem dX9_step_60 : decode cX9_step 60 = .ok (.dup2, 1) := by decide +kernel
theorem dX9_step_61 : decode cX9_step 61 = .ok (.iaload, 1) := by decide +kernel
theorem dX9_step_62 : decode cX9_step 62 = .ok (.iload 4, 2) := by decide +kernel
theorem dX9_step_64 : decode cX9_step 64 = .ok (.iadd, 1) := by decide +kernel
theorem dX9_step_65 : decode cX9_step 65 = .ok (.iastore, 1) := by decide +kernel
theorem dX9_step_66 : decode cX9_step 66 = .ok (.aload_n 1, 1) := by decide +kernel
theorem dX9_step_67 : decode cX9_step 67 = .ok (.bipush 13, 2) := by decide +kernel
theorem dX9_step_69 : decode cX9_step 69 = .ok (.dup2, 1) := by decide +kernel
theorem dX9_step_70 : decode cX9_step 70 = .ok (.iaload, 1) := by decide +kernel
theorem dX9_step_71 : decode cX9_step 71 = .ok (.iload 5, 2) := by decide +kernel
theorem dX9_step_73 : decode cX9_step 73 = .ok (.iadd, 1) := by decide +kernel
theorem dX9_step_74 : decode cX9_step 74 = .ok (.iastore, 1) := by decide +kernel
theorem dX9_step_75 : decode cX9_step 75 = .ok (.aload_n 1, 1) := by decide +kernel
theorem dX9_step_76 : decode cX9_step 76 = .ok (.iconst 2, 1) := by decide +kernel
theorem dX9_step_77 : decode cX9_step 77 = .ok (.dup2, 1) := by decide +kernel
theorem dX9_step_78 : decode cX9_step 78 = .ok (.iaload, 1) := by decide +kernel
theorem dX9_step_79 : decode cX9_step 79 = .ok (.aload_n 1, 1) := by decide +kernel
theorem dX9_step_80 : decode cX9_step 80 = .ok (.iconst 3, 1) := by decide +kernel
theorem dX9_step_81 : decode cX9_step 81 = .ok (.iaload, 1) := by decide +kernel
theorem dX9_step_82 : decode cX9_step 82 = .ok (.bipush 8, 2) := by decide +kernel
theorem dX9_step_84 : decode cX9_step 84 = .ok (.idiv, 1) := by decide +kernel
theorem dX9_step_85 : decode cX9_step 85 = .ok (.iadd, 1) := by decide +kernel
theorem dX9_step_86 : decode cX9_step 86 = .ok (.iastore, 1) := by decide +kernel
theorem dX9_step_87 : decode cX9_step 87 = .ok (.aload_n 1, 1) := by decide +kernel
theorem dX9_step_88 : decode cX9_step 88 = .ok (.bipush 10, 2) := by decide +kernel
theorem dX9_step_90 : decode cX9_step 90 = .ok (.aload_n 1, 1) := by decide +kernel
theorem dX9_step_91 : decode cX9_step 91 = .ok (.bipush 10, 2) := by decide +kernel
theorem dX9_step_93 : decode cX9_step 93 = .ok (.iaload, 1) := by decide +kernel
theorem dX9_step_94 : decode cX9_step 94 = .ok (.aload_n 1, 1) := by decide +kernel
theorem dX9_step_95 : decode cX9_step 95 = .ok (.bipush 12, 2) := by decide +kernel
theorem dX9_step_97 : decode cX9_step 97 = .ok (.iaload, 1) := by decide +kernel
theorem dX9_step_98 : decode cX9_step 98 = .ok (.bipush 16, 2) := by decide +kernel
theorem dX9_step_100 : decode cX9_step 100 = .ok (.idiv, 1) := by decide +kernel
theorem dX9_step_101 : decode cX9_step 101 = .ok (.iadd, 1) := by decide +kernel
theorem dX9_step_102 : decode cX9_step 102 = .ok (.invokestatic 175, 3) := by decide +kernel
theorem dX9_step_105 : decode cX9_step 105 = .ok (.iastore, 1) := by decide +kernel
theorem dX9_step_106 : decode cX9_step 106 = .ok (.aload_n 1, 1) := by decide +kernel
theorem dX9_step_107 : decode cX9_step 107 = .ok (.bipush 11, 2) := by decide +kernel
theorem dX9_step_109 : decode cX9_step 109 = .ok (.aload_n 1, 1) := by decide +kernel
theorem dX9_step_110 : decode cX9_step 110 = .ok (.bipush 11, 2) := by decide +kernel
theorem dX9_step_112 : decode cX9_step 112 = .ok (.iaload, 1) := by decide +kernel
theorem dX9_step_113 : decode cX9_step 113 = .ok (.aload_n 1, 1) := by decide +kernel
theorem dX9_step_114 : decode cX9_step 114 = .ok (.bipush 13, 2) := by decide +kernel
theorem dX9_step_116 : decode cX9_step 116 = .ok (.iaload, 1) := by decide +kernel
theorem dX9_step_117 : decode cX9_step 117 = .ok (.bipush 16, 2) := by decide +kernel
theorem dX9_step_119 : decode cX9_step 119 = .ok (.idiv, 1) := by decide +kernel
theorem dX9_step_120 : decode cX9_step 120 = .ok (.iadd, 1) := by decide +kernel
theorem dX9_step_121 : decode cX9_step 121 = .ok (.invokestatic 175, 3) := by decide +kernel
theorem dX9_step_124 : decode cX9_step 124 = .ok (.iastore, 1) := by decide +kernel
theorem dX9_step_125 : decode cX9_step 125 = .ok (.aload_n 1, 1) := by decide +kernel
theorem dX9_step_126 : decode cX9_step 126 = .ok (.iconst 2, 1) := by decide +kernel
theorem dX9_step_127 : decode cX9_step 127 = .ok (.iaload, 1) := by decide +kernel
theorem dX9_step_128 : decode cX9_step 128 = .ok (.aload_n 0, 1) := by decide +kernel
theorem dX9_step_129 : decode cX9_step 129 = .ok (.getfield 13, 3) := by decide +kernel
theorem dX9_step_132 : decode cX9_step 132 = .ok (.iconst 0, 1) := by decide +kernel
theorem dX9_step_133 : decode cX9_step 133 = .ok (.iaload, 1) := by decide +kernel
theorem dX9_step_134 : decode cX9_step 134 = .ok (.invokestatic 191, 3) := by decide +kernel
theorem dX9_step_137 : decode cX9_step 137 = .ok (.ifCond .eq 34, 3) := by decide +kernel
theorem dX9_step_140 : decode cX9_step 140 = .ok (.aload_n 1, 1) := by decide +kernel
theorem dX9_step_141 : decode cX9_step 141 = .ok (.iconst 2, 1) := by decide +kernel
theorem dX9_step_142 : decode cX9_step 142 = .ok (.aload_n 1, 1) := by decide +kernel
theorem dX9_step_143 : decode cX9_step 143 = .ok (.iconst 2, 1) := by decide +kernel
theorem dX9_step_144 : decode cX9_step 144 = .ok (.iaload, 1) := by decide +kernel
theorem dX9_step_145 : decode cX9_step 145 = .ok (.ifCond .le 12, 3) := by decide +kernel
theorem dX9_step_148 : decode cX9_step 148 = .ok (.aload_n 0, 1) := by decide +kernel
theorem dX9_step_149 : decode cX9_step 149 = .ok (.getfield 13, 3) := by decide +kernel
theorem dX9_step_152 : decode cX9_step 152 = .ok (.iconst 0, 1) := by decide +kernel
theorem dX9_step_153 : decode cX9_step 153 = .ok (.iaload, 1) := by decide +kernel
theorem dX9_step_154 : decode cX9_step 154 = .ok (.goto 10, 3) := by decide +kernel
theorem dX9_step_157 : decode cX9_step 157 = .ok (.aload_n 0, 1) := by decide +kernel
theorem dX9_step_158 : decode cX9_step 158 = .ok (.getfield 13, 3) := by decide +kernel
theorem dX9_step_161 : decode cX9_step 161 = .ok (.iconst 0, 1) := by decide +kernel
theorem dX9_step_162 : decode cX9_step 162 = .ok (.iaload, 1) := by decide +kernel
theorem dX9_step_163 : decode cX9_step 163 = .ok (.ineg, 1) := by decide +kernel
theorem dX9_step_164 : decode cX9_step 164 = .ok (.iastore, 1) := by decide +kernel
theorem dX9_step_165 : decode cX9_step 165 = .ok (.aload_n 1, 1) := by decide +kernel
theorem dX9_step_166 : decode cX9_step 166 = .ok (.iconst 3, 1) := by decide +kernel
theorem dX9_step_167 : decode cX9_step 167 = .ok (.iconst 0, 1) := by decide +kernel
theorem dX9_step_168 : decode cX9_step 168 = .ok (.iastore, 1) := by decide +kernel
theorem dX9_step_169 : decode cX9_step 169 = .ok (.iconst 1, 1) := by decide +kernel
theorem dX9_step_170 : decode cX9_step 170 = .ok (.ireturn, 1) := by decide +kernel
theorem dX9_step_171 : decode cX9_step 171 = .ok (.aload_n 1, 1) := by decide +kernel
theorem dX9_step_172 : decode cX9_step 172 = .ok (.bipush 12, 2) := by decide +kernel
theorem dX9_step_174 : decode cX9_step 174 = .ok (.iaload, 1) := by decide +kernel
theorem dX9_step_175 : decode cX9_step 175 = .ok (.aload_n 0, 1) := by decide +kernel
theorem dX9_step_176 : decode cX9_step 176 = .ok (.getfield 13, 3) := by decide +kernel
theorem dX9_step_179 : decode cX9_step 179 = .ok (.bipush 20, 2) := by decide +kernel
theorem dX9_step_181 : decode cX9_step 181 = .ok (.iaload, 1) := by decide +kernel
theorem dX9_step_182 : decode cX9_step 182 = .ok (.invokestatic 191, 3) := by decide +kernel
theorem dX9_step_185 : decode cX9_step 185 = .ok (.ifCond .ne 20, 3) := by decide +kernel
theorem dX9_step_188 : decode cX9_step 188 = .ok (.aload_n 1, 1) := by decide +kernel
theorem dX9_step_189 : decode cX9_step 189 = .ok (.bipush 13, 2) := by decide +kernel
theorem dX9_step_191 : decode cX9_step 191 = .ok (.iaload, 1) := by decide +kernel
theorem dX9_step_192 : decode cX9_step 192 = .ok (.aload_n 0, 1) := by decide +kernel
theorem dX9_step_193 : decode cX9_step 193 = .ok (.getfield 13, 3) := by decide +kernel
theorem dX9_step_196 : decode cX9_step 196 = .ok (.bipush 20, 2) := by decide +kernel
theorem dX9_step_198 : decode cX9_step 198 = .ok (.iaload, 1) := by decide +kernel
theorem dX9_step_199 : decode cX9_step 199 = .ok (.invokestatic 191, 3) := by decide +kernel
theorem dX9_step_202 : decode cX9_step 202 = .ok (.ifCond .eq 7, 3) := by decide +kernel
theorem dX9_step_205 : decode cX9_step 205 = .ok (.iconst 2, 1) := by decide +kernel
theorem dX9_step_206 : decode cX9_step 206 = .ok (.goto 4, 3) := by decide +kernel
theorem dX9_step_209 : decode cX9_step 209 = .ok (.iconst 0, 1) := by decide +kernel
theorem dX9_step_210 : decode cX9_step 210 = .ok (.ireturn, 1) := by decide +kernel
set_option maxRecDepth 20000 in
theorem ggX9_balancing_X9_leanOf : GoodIn wsX9_balancing wsX9_leanOf := goodIn_r _ [6] (by decide +kernel) (by decide +kernel)
set_option maxRecDepth 20000 in
theorem gX9_balancing_X9_leanOf : GoodIn wsX9_balancing (va_wsS RX9 181 yX9_leanOf wsX9_leanOf) := goodIn_app (goodIn_of _ (by decide +kernel)) ggX9_balancing_X9_leanOf
theorem dX9_balancing_0 : decode cX9_balancing 0 = .ok (.aload_n 0, 1) := by decide +kernel
theorem dX9_balancing_1 : decode cX9_balancing 1 = .ok (.getfield 13, 3) := by decide +kernel
theorem dX9_balancing_4 : decode cX9_balancing 4 = .ok (.bipush 9, 2) := by decide +kernel
theorem dX9_balancing_6 : decode cX9_balancing 6 = .ok (.iaload, 1) := by decide +kernel
theorem dX9_balancing_7 : decode cX9_balancing 7 = .ok (.aload_n 1, 1) := by decide +kernel
theorem dX9_balancing_8 : decode cX9_balancing 8 = .ok (.bipush 10, 2) := by decide +kernel
theorem dX9_balancing_10 : decode cX9_balancing 10 = .ok (.iaload, 1) := by decide +kernel
theorem dX9_balancing_11 : decode cX9_balancing 11 = .ok (.invokestatic 181, 3) := by decide +kernel
theorem dX9_balancing_14 : decode cX9_balancing 14 = .ok (.imul, 1) := by decide +kernel
theorem dX9_balancing_15 : decode cX9_balancing 15 = .ok (.aload_n 0, 1) := by decide +kernel
theorem dX9_balancing_16 : decode cX9_balancing 16 = .ok (.getfield 13, 3) := by decide +kernel
theorem dX9_balancing_19 : decode cX9_balancing 19 = .ok (.bipush 10, 2) := by decide +kernel
theorem dX9_balancing_21 : decode cX9_balancing 21 = .ok (.iaload, 1) := by decide +kernel
theorem dX9_balancing_22 : decode cX9_balancing 22 = .ok (.aload_n 1, 1) := by decide +kernel
theorem dX9_balancing_23 : decode cX9_balancing 23 = .ok (.bipush 12, 2) := by decide +kernel
theorem dX9_balancing_25 : decode cX9_balancing 25 = .ok (.iaload, 1) := by decide +kernel
theorem dX9_balancing_26 : decode cX9_balancing 26 = .ok (.imul, 1) := by decide +kernel
theorem dX9_balancing_27 : decode cX9_balancing 27 = .ok (.iadd, 1) := by decide +kernel
theorem dX9_balancing_28 : decode cX9_balancing 28 = .ok (.aload_n 0, 1) := by decide +kernel
theorem dX9_balancing_29 : decode cX9_balancing 29 = .ok (.getfield 13, 3) := by decide +kernel
theorem dX9_balancing_32 : decode cX9_balancing 32 = .ok (.bipush 11, 2) := by decide +kernel
theorem dX9_balancing_34 : decode cX9_balancing 34 = .ok (.iaload, 1) := by decide +kernel
theorem dX9_balancing_35 : decode cX9_balancing 35 = .ok (.aload_n 1, 1) := by decide +kernel
theorem dX9_balancing_36 : decode cX9_balancing 36 = .ok (.bipush 11, 2) := by decide +kernel
theorem dX9_balancing_38 : decode cX9_balancing 38 = .ok (.iaload, 1) := by decide +kernel
theorem dX9_balancing_39 : decode cX9_balancing 39 = .ok (.invokestatic 181, 3) := by decide +kernel
theorem dX9_balancing_42 : decode cX9_balancing 42 = .ok (.imul, 1) := by decide +kernel
theorem dX9_balancing_43 : decode cX9_balancing 43 = .ok (.iadd, 1) := by decide +kernel
theorem dX9_balancing_44 : decode cX9_balancing 44 = .ok (.aload_n 0, 1) := by decide +kernel
theorem dX9_balancing_45 : decode cX9_balancing 45 = .ok (.getfield 13, 3) := by decide +kernel
theorem dX9_balancing_48 : decode cX9_balancing 48 = .ok (.bipush 12, 2) := by decide +kernel
theorem dX9_balancing_50 : decode cX9_balancing 50 = .ok (.iaload, 1) := by decide +kernel
theorem dX9_balancing_51 : decode cX9_balancing 51 = .ok (.aload_n 1, 1) := by decide +kernel
theorem dX9_balancing_52 : decode cX9_balancing 52 = .ok (.bipush 13, 2) := by decide +kernel
theorem dX9_balancing_54 : decode cX9_balancing 54 = .ok (.iaload, 1) := by decide +kernel
theorem dX9_balancing_55 : decode cX9_balancing 55 = .ok (.imul, 1) := by decide +kernel
theorem dX9_balancing_56 : decode cX9_balancing 56 = .ok (.iadd, 1) := by decide +kernel
theorem dX9_balancing_57 : decode cX9_balancing 57 = .ok (.aload_n 0, 1) := by decide +kernel
theorem dX9_balancing_58 : decode cX9_balancing 58 = .ok (.getfield 13, 3) := by decide +kernel
theorem dX9_balancing_61 : decode cX9_balancing 61 = .ok (.bipush 13, 2) := by decide +kernel
theorem dX9_balancing_63 : decode cX9_balancing 63 = .ok (.iaload, 1) := by decide +kernel
theorem dX9_balancing_64 : decode cX9_balancing 64 = .ok (.aload_n 1, 1) := by decide +kernel
theorem dX9_balancing_65 : decode cX9_balancing 65 = .ok (.iconst 2, 1) := by decide +kernel
theorem dX9_balancing_66 : decode cX9_balancing 66 = .ok (.iaload, 1) := by decide +kernel
theorem dX9_balancing_67 : decode cX9_balancing 67 = .ok (.imul, 1) := by decide +kernel
theorem dX9_balancing_68 : decode cX9_balancing 68 = .ok (.iadd, 1) := by decide +kernel
theorem dX9_balancing_69 : decode cX9_balancing 69 = .ok (.aload_n 0, 1) := by decide +kernel
theorem dX9_balancing_70 : decode cX9_balancing 70 = .ok (.getfield 13, 3) := by decide +kernel
theorem dX9_balancing_73 : decode cX9_balancing 73 = .ok (.bipush 14, 2) := by decide +kernel
theorem dX9_balancing_75 : decode cX9_balancing 75 = .ok (.iaload, 1) := by decide +kernel
theorem dX9_balancing_76 : decode cX9_balancing 76 = .ok (.aload_n 1, 1) := by decide +kernel
theorem dX9_balancing_77 : decode cX9_balancing 77 = .ok (.iconst 3, 1) := by decide +kernel
theorem dX9_balancing_78 : decode cX9_balancing 78 = .ok (.iaload, 1) := by decide +kernel
theorem dX9_balancing_79 : decode cX9_balancing 79 = .ok (.imul, 1) := by decide +kernel
theorem dX9_balancing_80 : decode cX9_balancing 80 = .ok (.iadd, 1) := by decide +kernel
theorem dX9_balancing_81 : decode cX9_balancing 81 = .ok (.istore_n 2, 1) := by decide +kernel
theorem dX9_balancing_82 : decode cX9_balancing 82 = .ok (.iload_n 2, 1) := by decide +kernel
theorem dX9_balancing_83 : decode cX9_balancing 83 = .ok (.bipush 64, 2) := by decide +kernel
theorem dX9_balancing_85 : decode cX9_balancing 85 = .ok (.idiv, 1) := by decide +kernel
theorem dX9_balancing_86 : decode cX9_balancing 86 = .ok (.istore_n 3, 1) := by decide +kernel
theorem dX9_balancing_87 : decode cX9_balancing 87 = .ok (.aload_n 0, 1) := by decide +kernel
theorem dX9_balancing_88 : decode cX9_balancing 88 = .ok (.getfield 7, 3) := by decide +kernel
theorem dX9_balancing_91 : decode cX9_balancing 91 = .ok (.iconst 5, 1) := by decide +kernel
theorem dX9_balancing_92 : decode cX9_balancing 92 = .ok (.iaload, 1) := by decide +kernel
theorem dX9_balancing_93 : decode cX9_balancing 93 = .ok (.istore 4, 2) := by decide +kernel
theorem dX9_balancing_95 : decode cX9_balancing 95 = .ok (.iload_n 3, 1) := by decide +kernel
theorem dX9_balancing_96 : decode cX9_balancing 96 = .ok (.iload 4, 2) := by decide +kernel
theorem dX9_balancing_98 : decode cX9_balancing 98 = .ok (.if_icmp .le 8, 3) := by decide +kernel
theorem dX9_balancing_101 : decode cX9_balancing 101 = .ok (.iload 4, 2) := by decide +kernel
theorem dX9_balancing_103 : decode cX9_balancing 103 = .ok (.goto 17, 3) := by decide +kernel
theorem dX9_balancing_106 : decode cX9_balancing 106 = .ok (.iload_n 3, 1) := by decide +kernel
theorem dX9_balancing_107 : decode cX9_balancing 107 = .ok (.iload 4, 2) := by decide +kernel
theorem dX9_balancing_109 : decode cX9_balancing 109 = .ok (.ineg, 1) := by decide +kernel
theorem dX9_balancing_110 : decode cX9_balancing 110 = .ok (.if_icmp .ge 9, 3) := by decide +kernel
theorem dX9_balancing_113 : decode cX9_balancing 113 = .ok (.iload 4, 2) := by decide +kernel
theorem dX9_balancing_115 : decode cX9_balancing 115 = .ok (.ineg, 1) := by decide +kernel
theorem dX9_balancing_116 : decode cX9_balancing 116 = .ok (.goto 4, 3) := by decide +kernel
theorem dX9_balancing_119 : decode cX9_balancing 119 = .ok (.iload_n 3, 1) := by decide +kernel
theorem dX9_balancing_120 : decode cX9_balancing 120 = .ok (.ireturn, 1) := by decide +kernel
set_option maxRecDepth 20000 in
theorem ggX9_leansBeyond_X9_leanOf : GoodIn wsX9_leansBeyond wsX9_leanOf := goodIn_r _ [4] (by decide +kernel) (by decide +kernel)
set_option maxRecDepth 20000 in
theorem gX9_leansBeyond_X9_leanOf : GoodIn wsX9_leansBeyond (va_wsS RX9 181 yX9_leanOf wsX9_leanOf) := goodIn_app (goodIn_of _ (by decide +kernel)) ggX9_leansBeyond_X9_leanOf
set_option maxRecDepth 20000 in
theorem ggX9_leansBeyond_X9_isBeyond : GoodIn wsX9_leansBeyond wsX9_isBeyond := goodIn_r _ [7] (by decide +kernel) (by decide +kernel)
set_option maxRecDepth 20000 in
theorem gX9_leansBeyond_X9_isBeyond : GoodIn wsX9_leansBeyond (va_wsS RX9 191 yX9_isBeyond wsX9_isBeyond) := goodIn_app (goodIn_of _ (by decide +kernel)) ggX9_leansBeyond_X9_isBeyond
theorem dX9_leansBeyond_0 : decode cX9_leansBeyond 0 = .ok (.aload_n 0, 1) := by decide +kernel
theorem dX9_leansBeyond_1 : decode cX9_leansBeyond 1 = .ok (.bipush 10, 2) := by decide +kernel
theorem dX9_leansBeyond_3 : decode cX9_leansBeyond 3 = .ok (.iaload, 1) := by decide +kernel
theorem dX9_leansBeyond_4 : decode cX9_leansBeyond 4 = .ok (.invokestatic 181, 3) := by decide +kernel
theorem dX9_leansBeyond_7 : decode cX9_leansBeyond 7 = .ok (.iload_n 1, 1) := by decide +kernel
theorem dX9_leansBeyond_8 : decode cX9_leansBeyond 8 = .ok (.invokestatic 191, 3) := by decide +kernel
theorem dX9_leansBeyond_11 : decode cX9_leansBeyond 11 = .ok (.ifCond .ne 17, 3) := by decide +kernel
theorem dX9_leansBeyond_14 : decode cX9_leansBeyond 14 = .ok (.aload_n 0, 1) := by decide +kernel
theorem dX9_leansBeyond_15 : decode cX9_leansBeyond 15 = .ok (.bipush 11, 2) := by decide +kernel
theorem dX9_leansBeyond_17 : decode cX9_leansBeyond 17 = .ok (.iaload, 1) := by decide +kernel
theorem dX9_leansBeyond_18 : decode cX9_leansBeyond 18 = .ok (.invokestatic 181, 3) := by decide +kernel
theorem dX9_leansBeyond_21 : decode cX9_leansBeyond 21 = .ok (.iload_n 1, 1) := by decide +kernel
theorem dX9_leansBeyond_22 : decode cX9_leansBeyond 22 = .ok (.invokestatic 191, 3) := by decide +kernel
theorem dX9_leansBeyond_25 : decode cX9_leansBeyond 25 = .ok (.ifCond .eq 7, 3) := by decide +kernel
theorem dX9_leansBeyond_28 : decode cX9_leansBeyond 28 = .ok (.iconst 1, 1) := by decide +kernel
theorem dX9_leansBeyond_29 : decode cX9_leansBeyond 29 = .ok (.goto 4, 3) := by decide +kernel
theorem dX9_leansBeyond_32 : decode cX9_leansBeyond 32 = .ok (.iconst 0, 1) := by decide +kernel
theorem dX9_leansBeyond_33 : decode cX9_leansBeyond 33 = .ok (.ireturn, 1) := by decide +kernel
theorem dX9_cell_0 : decode cX9_cell 0 = .ok (.bipush 7, 2) := by decide +kernel
theorem dX9_cell_2 : decode cX9_cell 2 = .ok (.iload_n 0, 1) := by decide +kernel
theorem dX9_cell_3 : decode cX9_cell 3 = .ok (.iconst 3, 1) := by decide +kernel
theorem dX9_cell_4 : decode cX9_cell 4 = .ok (.iadd, 1) := by decide +kernel
theorem dX9_cell_5 : decode cX9_cell 5 = .ok (.imul, 1) := by decide +kernel
theorem dX9_cell_6 : decode cX9_cell 6 = .ok (.iload_n 1, 1) := by decide +kernel
theorem dX9_cell_7 : decode cX9_cell 7 = .ok (.iadd, 1) := by decide +kernel
theorem dX9_cell_8 : decode cX9_cell 8 = .ok (.iconst 3, 1) := by decide +kernel
theorem dX9_cell_9 : decode cX9_cell 9 = .ok (.iadd, 1) := by decide +kernel
theorem dX9_cell_10 : decode cX9_cell 10 = .ok (.ireturn, 1) := by decide +kernel
set_option maxRecDepth 20000 in
theorem ggX9_tries_X9_mod : GoodIn wsX9_tries wsX9_mod := goodIn_r _ [8] (by decide +kernel) (by decide +kernel)
set_option maxRecDepth 20000 in
theorem gX9_tries_X9_mod : GoodIn wsX9_tries (va_wsS RX9 175 yX9_mod wsX9_mod) := goodIn_app (goodIn_of _ (by decide +kernel)) ggX9_tries_X9_mod
set_option maxRecDepth 20000 in
theorem ggX9_tries_X9_balancing : GoodIn wsX9_tries wsX9_balancing := goodIn_r _ [12, 2, 13, 14, 15, 7, 16, 43, 44, 45, 46, 47, 48, 49, 50, 51, 52, 53, 54, 55, 56, 57, 58, 59, 60, 61, 62, 63, 64] (by decide +kernel) (by decide +kernel)
set_option maxRecDepth 20000 in
theorem gX9_tries_X9_balancing : GoodIn wsX9_tries (wsV RX9 194 RX9 yX9_balancing wsX9_balancing) := goodIn_app (goodIn_of _ (by decide +kernel)) ggX9_tries_X9_balancing
set_option maxRecDepth 20000 in
theorem ggX9_tries_X9_step : GoodIn wsX9_tries wsX9_step := goodIn_r _ [20, 2, 5, 6, 7, 8, 21, 22, 23, 24, 25, 26, 27, 28, 29, 30, 31, 32, 33, 34, 35, 36, 43, 44, 45, 46, 47, 48, 49, 50, 51, 52, 53, 54, 55, 56, 57, 58, 59, 60, 61, 62, 63, 64] (by decide +kernel) (by decide +kernel)
set_option maxRecDepth 20000 in
theorem gX9_tries_X9_step : GoodIn wsX9_tries (wsV RX9 198 RX9 yX9_step wsX9_step) := goodIn_app (goodIn_of _ (by decide +kernel)) ggX9_tries_X9_step
set_option maxRecDepth 20000 in
theorem ggX9_tries_X9_leansBeyond : GoodIn wsX9_tries wsX9_leansBeyond := goodIn_r _ [39, 14, 15, 7, 16, 34, 35, 36] (by decide +kernel) (by decide +kernel)
set_option maxRecDepth 20000 in
theorem gX9_tries_X9_leansBeyond : GoodIn wsX9_tries (va_wsS RX9 202 yX9_leansBeyond wsX9_leansBeyond) := goodIn_app (goodIn_of _ (by decide +kernel)) ggX9_tries_X9_leansBeyond
set_option maxRecDepth 20000 in
theorem ggX9_tries_X9_cell : GoodIn wsX9_tries wsX9_cell := goodIn_r _ [42] (by decide +kernel) (by decide +kernel)
set_option maxRecDepth 20000 in
theorem gX9_tries_X9_cell : GoodIn wsX9_tries (va_wsS RX9 206 yX9_cell wsX9_cell) := goodIn_app (goodIn_of _ (by decide +kernel)) ggX9_tries_X9_cell
theorem dX9_tries_0 : decode cX9_tries 0 = .ok (.aload_n 0, 1) := by decide +kernel
theorem dX9_tries_1 : decode cX9_tries 1 = .ok (.getfield 30, 3) := by decide +kernel
theorem dX9_tries_4 : decode cX9_tries 4 = .ok (.iconst 2, 1) := by decide +kernel
theorem dX9_tries_5 : decode cX9_tries 5 = .ok (.iconst 0, 1) := by decide +kernel
theorem dX9_tries_6 : decode cX9_tries 6 = .ok (.iastore, 1) := by decide +kernel
theorem dX9_tries_7 : decode cX9_tries 7 = .ok (.aload_n 0, 1) := by decide +kernel
theorem dX9_tries_8 : decode cX9_tries 8 = .ok (.getfield 30, 3) := by decide +kernel
theorem dX9_tries_11 : decode cX9_tries 11 = .ok (.iconst 3, 1) := by decide +kernel
theorem dX9_tries_12 : decode cX9_tries 12 = .ok (.iconst 0, 1) := by decide +kernel
theorem dX9_tries_13 : decode cX9_tries 13 = .ok (.iastore, 1) := by decide +kernel
theorem dX9_tries_14 : decode cX9_tries 14 = .ok (.iconst 0, 1) := by decide +kernel
theorem dX9_tries_15 : decode cX9_tries 15 = .ok (.istore_n 3, 1) := by decide +kernel
theorem dX9_tries_16 : decode cX9_tries 16 = .ok (.iload_n 3, 1) := by decide +kernel
theorem dX9_tries_17 : decode cX9_tries 17 = .ok (.iconst 2, 1) := by decide +kernel
theorem dX9_tries_18 : decode cX9_tries 18 = .ok (.if_icmp .ge 48, 3) := by decide +kernel
theorem dX9_tries_21 : decode cX9_tries 21 = .ok (.aload_n 0, 1) := by decide +kernel
theorem dX9_tries_22 : decode cX9_tries 22 = .ok (.getfield 30, 3) := by decide +kernel
theorem dX9_tries_25 : decode cX9_tries 25 = .ok (.bipush 10, 2) := by decide +kernel
theorem dX9_tries_27 : decode cX9_tries 27 = .ok (.iload_n 3, 1) := by decide +kernel
theorem dX9_tries_28 : decode cX9_tries 28 = .ok (.iadd, 1) := by decide +kernel
theorem dX9_tries_29 : decode cX9_tries 29 = .ok (.iload_n 1, 1) := by decide +kernel
theorem dX9_tries_30 : decode cX9_tries 30 = .ok (.aload_n 0, 1) := by decide +kernel
theorem dX9_tries_31 : decode cX9_tries 31 = .ok (.getfield 13, 3) := by decide +kernel
theorem dX9_tries_34 : decode cX9_tries 34 = .ok (.bipush 15, 2) := by decide +kernel
theorem dX9_tries_36 : decode cX9_tries 36 = .ok (.iaload, 1) := by decide +kernel
theorem dX9_tries_37 : decode cX9_tries 37 = .ok (.imul, 1) := by decide +kernel
theorem dX9_tries_38 : decode cX9_tries 38 = .ok (.invokestatic 175, 3) := by decide +kernel
theorem dX9_tries_41 : decode cX9_tries 41 = .ok (.iastore, 1) := by decide +kernel
theorem dX9_tries_42 : decode cX9_tries 42 = .ok (.aload_n 0, 1) := by decide +kernel
theorem dX9_tries_43 : decode cX9_tries 43 = .ok (.getfield 30, 3) := by decide +kernel
theorem dX9_tries_46 : decode cX9_tries 46 = .ok (.bipush 12, 2) := by decide +kernel
theorem dX9_tries_48 : decode cX9_tries 48 = .ok (.iload_n 3, 1) := by decide +kernel
theorem dX9_tries_49 : decode cX9_tries 49 = .ok (.iadd, 1) := by decide +kernel
theorem dX9_tries_50 : decode cX9_tries 50 = .ok (.iload_n 2, 1) := by decide +kernel
theorem dX9_tries_51 : decode cX9_tries 51 = .ok (.aload_n 0, 1) := by decide +kernel
theorem dX9_tries_52 : decode cX9_tries 52 = .ok (.getfield 13, 3) := by decide +kernel
theorem dX9_tries_55 : decode cX9_tries 55 = .ok (.bipush 16, 2) := by decide +kernel
theorem dX9_tries_57 : decode cX9_tries 57 = .ok (.iaload, 1) := by decide +kernel
theorem dX9_tries_58 : decode cX9_tries 58 = .ok (.imul, 1) := by decide +kernel
theorem dX9_tries_59 : decode cX9_tries 59 = .ok (.iastore, 1) := by decide +kernel
theorem dX9_tries_60 : decode cX9_tries 60 = .ok (.iinc 3 1, 3) := by decide +kernel
theorem dX9_tries_63 : decode cX9_tries 63 = .ok (.goto (-47), 3) := by decide +kernel
theorem dX9_tries_66 : decode cX9_tries 66 = .ok (.iconst 0, 1) := by decide +kernel
theorem dX9_tries_67 : decode cX9_tries 67 = .ok (.istore_n 3, 1) := by decide +kernel
theorem dX9_tries_68 : decode cX9_tries 68 = .ok (.iconst 0, 1) := by decide +kernel
theorem dX9_tries_69 : decode cX9_tries 69 = .ok (.istore 4, 2) := by decide +kernel
theorem dX9_tries_71 : decode cX9_tries 71 = .ok (.iload 4, 2) := by decide +kernel
theorem dX9_tries_73 : decode cX9_tries 73 = .ok (.aload_n 0, 1) := by decide +kernel
theorem dX9_tries_74 : decode cX9_tries 74 = .ok (.getfield 13, 3) := by decide +kernel
theorem dX9_tries_77 : decode cX9_tries 77 = .ok (.bipush 18, 2) := by decide +kernel
theorem dX9_tries_79 : decode cX9_tries 79 = .ok (.iaload, 1) := by decide +kernel
theorem dX9_tries_80 : decode cX9_tries 80 = .ok (.if_icmp .ge 57, 3) := by decide +kernel
theorem dX9_tries_83 : decode cX9_tries 83 = .ok (.iload_n 3, 1) := by decide +kernel
theorem dX9_tries_84 : decode cX9_tries 84 = .ok (.ifCond .ne 53, 3) := by decide +kernel
theorem dX9_tries_87 : decode cX9_tries 87 = .ok (.iinc 4 1, 3) := by decide +kernel
theorem dX9_tries_90 : decode cX9_tries 90 = .ok (.aload_n 0, 1) := by decide +kernel
theorem dX9_tries_91 : decode cX9_tries 91 = .ok (.aload_n 0, 1) := by decide +kernel
theorem dX9_tries_92 : decode cX9_tries 92 = .ok (.getfield 30, 3) := by decide +kernel
theorem dX9_tries_95 : decode cX9_tries 95 = .ok (.aload_n 0, 1) := by decide +kernel
theorem dX9_tries_96 : decode cX9_tries 96 = .ok (.aload_n 0, 1) := by decide +kernel
theorem dX9_tries_97 : decode cX9_tries 97 = .ok (.getfield 30, 3) := by decide +kernel
theorem dX9_tries_100 : decode cX9_tries 100 = .ok (.invokevirtual 194, 3) := by decide +kernel
theorem dX9_tries_103 : decode cX9_tries 103 = .ok (.invokevirtual 198, 3) := by decide +kernel
theorem dX9_tries_106 : decode cX9_tries 106 = .ok (.istore_n 3, 1) := by decide +kernel
theorem dX9_tries_107 : decode cX9_tries 107 = .ok (.iload_n 3, 1) := by decide +kernel
theorem dX9_tries_108 : decode cX9_tries 108 = .ok (.ifCond .ne 24, 3) := by decide +kernel
theorem dX9_tries_111 : decode cX9_tries 111 = .ok (.aload_n 0, 1) := by decide +kernel
theorem dX9_tries_112 : decode cX9_tries 112 = .ok (.getfield 30, 3) := by decide +kernel
theorem dX9_tries_115 : decode cX9_tries 115 = .ok (.aload_n 0, 1) := by decide +kernel
theorem dX9_tries_116 : decode cX9_tries 116 = .ok (.getfield 13, 3) := by decide +kernel
theorem dX9_tries_119 : decode cX9_tries 119 = .ok (.bipush 19, 2) := by decide +kernel
theorem dX9_tries_121 : decode cX9_tries 121 = .ok (.iaload, 1) := by decide +kernel
theorem dX9_tries_122 : decode cX9_tries 122 = .ok (.invokestatic 202, 3) := by decide +kernel
theorem dX9_tries_125 : decode cX9_tries 125 = .ok (.ifCond .eq 7, 3) := by decide +kernel
theorem dX9_tries_128 : decode cX9_tries 128 = .ok (.iconst 3, 1) := by decide +kernel
theorem dX9_tries_129 : decode cX9_tries 129 = .ok (.goto 4, 3) := by decide +kernel
theorem dX9_tries_132 : decode cX9_tries 132 = .ok (.iload_n 3, 1) := by decide +kernel
theorem dX9_tries_133 : decode cX9_tries 133 = .ok (.istore_n 3, 1) := by decide +kernel
theorem dX9_tries_134 : decode cX9_tries 134 = .ok (.goto (-63), 3) := by decide +kernel
theorem dX9_tries_137 : decode cX9_tries 137 = .ok (.aload_n 0, 1) := by decide +kernel
theorem dX9_tries_138 : decode cX9_tries 138 = .ok (.getfield 27, 3) := by decide +kernel
theorem dX9_tries_141 : decode cX9_tries 141 = .ok (.iload_n 1, 1) := by decide +kernel
theorem dX9_tries_142 : decode cX9_tries 142 = .ok (.iload_n 2, 1) := by decide +kernel
theorem dX9_tries_143 : decode cX9_tries 143 = .ok (.invokestatic 206, 3) := by decide +kernel
theorem dX9_tries_146 : decode cX9_tries 146 = .ok (.iload_n 3, 1) := by decide +kernel
theorem dX9_tries_147 : decode cX9_tries 147 = .ok (.ifCond .ne 7, 3) := by decide +kernel
theorem dX9_tries_150 : decode cX9_tries 150 = .ok (.iconst (-1), 1) := by decide +kernel
theorem dX9_tries_151 : decode cX9_tries 151 = .ok (.goto 5, 3) := by decide +kernel
theorem dX9_tries_154 : decode cX9_tries 154 = .ok (.iload 4, 2) := by decide +kernel
theorem dX9_tries_156 : decode cX9_tries 156 = .ok (.iastore, 1) := by decide +kernel
theorem dX9_tries_157 : decode cX9_tries 157 = .ok (.aload_n 0, 1) := by decide +kernel
theorem dX9_tries_158 : decode cX9_tries 158 = .ok (.getfield 24, 3) := by decide +kernel
theorem dX9_tries_161 : decode cX9_tries 161 = .ok (.iload_n 1, 1) := by decide +kernel
theorem dX9_tries_162 : decode cX9_tries 162 = .ok (.iload_n 2, 1) := by decide +kernel
theorem dX9_tries_163 : decode cX9_tries 163 = .ok (.invokestatic 206, 3) := by decide +kernel
theorem dX9_tries_166 : decode cX9_tries 166 = .ok (.iload_n 3, 1) := by decide +kernel
theorem dX9_tries_167 : decode cX9_tries 167 = .ok (.ifCond .ne 24, 3) := by decide +kernel
theorem dX9_tries_170 : decode cX9_tries 170 = .ok (.aload_n 0, 1) := by decide +kernel
theorem dX9_tries_171 : decode cX9_tries 171 = .ok (.getfield 30, 3) := by decide +kernel
theorem dX9_tries_174 : decode cX9_tries 174 = .ok (.aload_n 0, 1) := by decide +kernel
theorem dX9_tries_175 : decode cX9_tries 175 = .ok (.getfield 13, 3) := by decide +kernel
theorem dX9_tries_178 : decode cX9_tries 178 = .ok (.bipush 15, 2) := by decide +kernel
theorem dX9_tries_180 : decode cX9_tries 180 = .ok (.iaload, 1) := by decide +kernel
theorem dX9_tries_181 : decode cX9_tries 181 = .ok (.invokestatic 202, 3) := by decide +kernel
theorem dX9_tries_184 : decode cX9_tries 184 = .ok (.ifCond .eq 7, 3) := by decide +kernel
theorem dX9_tries_187 : decode cX9_tries 187 = .ok (.iconst 4, 1) := by decide +kernel
theorem dX9_tries_188 : decode cX9_tries 188 = .ok (.goto 4, 3) := by decide +kernel
theorem dX9_tries_191 : decode cX9_tries 191 = .ok (.iload_n 3, 1) := by decide +kernel
theorem dX9_tries_192 : decode cX9_tries 192 = .ok (.iastore, 1) := by decide +kernel
theorem dX9_tries_193 : decode cX9_tries 193 = .ok (.return_, 1) := by decide +kernel
set_option maxRecDepth 20000 in
theorem ggX9_lays_X9_tries : GoodIn wsX9_lays wsX9_tries := goodIn_r _ [8, 9, 3, 10, 11, 12, 13, 7, 14, 15, 16, 17, 18, 2, 19, 20, 21, 22, 23, 24, 25, 26, 27, 28, 29, 30, 31, 32, 33, 34, 35, 36, 37, 38, 39, 40, 41, 42, 43, 44, 45, 46, 47, 48, 49, 50, 51, 52, 53, 54, 55, 56, 57, 58, 59, 60, 61, 62, 63, 64, 65, 66, 67, 68, 69] (by decide +kernel) (by decide +kernel)
set_option maxRecDepth 20000 in
theorem gX9_lays_X9_tries : GoodIn wsX9_lays (wsV RX9 210 RX9 yX9_tries wsX9_tries) := goodIn_app (goodIn_of _ (by decide +kernel)) ggX9_lays_X9_tries
theorem dX9_lays_0 : decode cX9_lays 0 = .ok (.aload_n 0, 1) := by decide +kernel
theorem dX9_lays_1 : decode cX9_lays 1 = .ok (.getfield 166, 3) := by decide +kernel
theorem dX9_lays_4 : decode cX9_lays 4 = .ok (.aload_n 0, 1) := by decide +kernel
theorem dX9_lays_5 : decode cX9_lays 5 = .ok (.getfield 7, 3) := by decide +kernel
theorem dX9_lays_8 : decode cX9_lays 8 = .ok (.iconst 5, 1) := by decide +kernel
theorem dX9_lays_9 : decode cX9_lays 9 = .ok (.iaload, 1) := by decide +kernel
theorem dX9_lays_10 : decode cX9_lays 10 = .ok (.if_icmp .ne 4, 3) := by decide +kernel
theorem dX9_lays_13 : decode cX9_lays 13 = .ok (.return_, 1) := by decide +kernel
theorem dX9_lays_14 : decode cX9_lays 14 = .ok (.aload_n 0, 1) := by decide +kernel
theorem dX9_lays_15 : decode cX9_lays 15 = .ok (.aload_n 0, 1) := by decide +kernel
theorem dX9_lays_16 : decode cX9_lays 16 = .ok (.getfield 7, 3) := by decide +kernel
theorem dX9_lays_19 : decode cX9_lays 19 = .ok (.iconst 5, 1) := by decide +kernel
theorem dX9_lays_20 : decode cX9_lays 20 = .ok (.iaload, 1) := by decide +kernel
theorem dX9_lays_21 : decode cX9_lays 21 = .ok (.putfield 166, 3) := by decide +kernel
theorem dX9_lays_24 : decode cX9_lays 24 = .ok (.aload_n 0, 1) := by decide +kernel
theorem dX9_lays_25 : decode cX9_lays 25 = .ok (.getfield 13, 3) := by decide +kernel
theorem dX9_lays_28 : decode cX9_lays 28 = .ok (.bipush 17, 2) := by decide +kernel
theorem dX9_lays_30 : decode cX9_lays 30 = .ok (.iaload, 1) := by decide +kernel
theorem dX9_lays_31 : decode cX9_lays 31 = .ok (.ineg, 1) := by decide +kernel
theorem dX9_lays_32 : decode cX9_lays 32 = .ok (.istore_n 1, 1) := by decide +kernel
theorem dX9_lays_33 : decode cX9_lays 33 = .ok (.iload_n 1, 1) := by decide +kernel
theorem dX9_lays_34 : decode cX9_lays 34 = .ok (.aload_n 0, 1) := by decide +kernel
theorem dX9_lays_35 : decode cX9_lays 35 = .ok (.getfield 13, 3) := by decide +kernel
theorem dX9_lays_38 : decode cX9_lays 38 = .ok (.bipush 17, 2) := by decide +kernel
theorem dX9_lays_40 : decode cX9_lays 40 = .ok (.iaload, 1) := by decide +kernel
theorem dX9_lays_41 : decode cX9_lays 41 = .ok (.if_icmp .gt 41, 3) := by decide +kernel
theorem dX9_lays_44 : decode cX9_lays 44 = .ok (.aload_n 0, 1) := by decide +kernel
theorem dX9_lays_45 : decode cX9_lays 45 = .ok (.getfield 13, 3) := by decide +kernel
theorem dX9_lays_48 : decode cX9_lays 48 = .ok (.bipush 17, 2) := by decide +kernel
theorem dX9_lays_50 : decode cX9_lays 50 = .ok (.iaload, 1) := by decide +kernel
theorem dX9_lays_51 : decode cX9_lays 51 = .ok (.ineg, 1) := by decide +kernel
theorem dX9_lays_52 : decode cX9_lays 52 = .ok (.istore_n 2, 1) := by decide +kernel
theorem dX9_lays_53 : decode cX9_lays 53 = .ok (.iload_n 2, 1) := by decide +kernel
theorem dX9_lays_54 : decode cX9_lays 54 = .ok (.aload_n 0, 1) := by decide +kernel
theorem dX9_lays_55 : decode cX9_lays 55 = .ok (.getfield 13, 3) := by decide +kernel
theorem dX9_lays_58 : decode cX9_lays 58 = .ok (.bipush 17, 2) := by decide +kernel
theorem dX9_lays_60 : decode cX9_lays 60 = .ok (.iaload, 1) := by decide +kernel
theorem dX9_lays_61 : decode cX9_lays 61 = .ok (.if_icmp .gt 15, 3) := by decide +kernel
theorem dX9_lays_64 : decode cX9_lays 64 = .ok (.aload_n 0, 1) := by decide +kernel
theorem dX9_lays_65 : decode cX9_lays 65 = .ok (.iload_n 1, 1) := by decide +kernel
theorem dX9_lays_66 : decode cX9_lays 66 = .ok (.iload_n 2, 1) := by decide +kernel
theorem dX9_lays_67 : decode cX9_lays 67 = .ok (.invokevirtual 210, 3) := by decide +kernel
theorem dX9_lays_70 : decode cX9_lays 70 = .ok (.iinc 2 1, 3) := by decide +kernel
theorem dX9_lays_73 : decode cX9_lays 73 = .ok (.goto (-20), 3) := by decide +kernel
theorem dX9_lays_76 : decode cX9_lays 76 = .ok (.iinc 1 1, 3) := by decide +kernel
theorem dX9_lays_79 : decode cX9_lays 79 = .ok (.goto (-46), 3) := by decide +kernel
theorem dX9_lays_82 : decode cX9_lays 82 = .ok (.return_, 1) := by decide +kernel
set_option maxRecDepth 20000 in
theorem ggX9_isCell_X9_within : GoodIn wsX9_isCell wsX9_within := goodIn_r _ [5] (by decide +kernel) (by decide +kernel)
set_option maxRecDepth 20000 in
theorem gX9_isCell_X9_within : GoodIn wsX9_isCell (va_wsS RX9 88 yX9_within wsX9_within) := goodIn_app (goodIn_of _ (by decide +kernel)) ggX9_isCell_X9_within
theorem dX9_isCell_0 : decode cX9_isCell 0 = .ok (.iload_n 1, 1) := by decide +kernel
theorem dX9_isCell_1 : decode cX9_isCell 1 = .ok (.aload_n 0, 1) := by decide +kernel
theorem dX9_isCell_2 : decode cX9_isCell 2 = .ok (.getfield 13, 3) := by decide +kernel
theorem dX9_isCell_5 : decode cX9_isCell 5 = .ok (.bipush 17, 2) := by decide +kernel
theorem dX9_isCell_7 : decode cX9_isCell 7 = .ok (.iaload, 1) := by decide +kernel
theorem dX9_isCell_8 : decode cX9_isCell 8 = .ok (.ineg, 1) := by decide +kernel
theorem dX9_isCell_9 : decode cX9_isCell 9 = .ok (.aload_n 0, 1) := by decide +kernel
theorem dX9_isCell_10 : decode cX9_isCell 10 = .ok (.getfield 13, 3) := by decide +kernel
theorem dX9_isCell_13 : decode cX9_isCell 13 = .ok (.bipush 17, 2) := by decide +kernel
theorem dX9_isCell_15 : decode cX9_isCell 15 = .ok (.iaload, 1) := by decide +kernel
theorem dX9_isCell_16 : decode cX9_isCell 16 = .ok (.invokestatic 88, 3) := by decide +kernel
theorem dX9_isCell_19 : decode cX9_isCell 19 = .ok (.ifCond .eq 29, 3) := by decide +kernel
theorem dX9_isCell_22 : decode cX9_isCell 22 = .ok (.iload_n 2, 1) := by decide +kernel
theorem dX9_isCell_23 : decode cX9_isCell 23 = .ok (.aload_n 0, 1) := by decide +kernel
theorem dX9_isCell_24 : decode cX9_isCell 24 = .ok (.getfield 13, 3) := by decide +kernel
theorem dX9_isCell_27 : decode cX9_isCell 27 = .ok (.bipush 17, 2) := by decide +kernel
theorem dX9_isCell_29 : decode cX9_isCell 29 = .ok (.iaload, 1) := by decide +kernel
theorem dX9_isCell_30 : decode cX9_isCell 30 = .ok (.ineg, 1) := by decide +kernel
theorem dX9_isCell_31 : decode cX9_isCell 31 = .ok (.aload_n 0, 1) := by decide +kernel
theorem dX9_isCell_32 : decode cX9_isCell 32 = .ok (.getfield 13, 3) := by decide +kernel
theorem dX9_isCell_35 : decode cX9_isCell 35 = .ok (.bipush 17, 2) := by decide +kernel
theorem dX9_isCell_37 : decode cX9_isCell 37 = .ok (.iaload, 1) := by decide +kernel
theorem dX9_isCell_38 : decode cX9_isCell 38 = .ok (.invokestatic 88, 3) := by decide +kernel
theorem dX9_isCell_41 : decode cX9_isCell 41 = .ok (.ifCond .eq 7, 3) := by decide +kernel
theorem dX9_isCell_44 : decode cX9_isCell 44 = .ok (.iconst 1, 1) := by decide +kernel
theorem dX9_isCell_45 : decode cX9_isCell 45 = .ok (.goto 4, 3) := by decide +kernel
theorem dX9_isCell_48 : decode cX9_isCell 48 = .ok (.iconst 0, 1) := by decide +kernel
theorem dX9_isCell_49 : decode cX9_isCell 49 = .ok (.ireturn, 1) := by decide +kernel
set_option maxRecDepth 20000 in
theorem ggX9_reason_X9_isCell : GoodIn wsX9_reason wsX9_isCell := goodIn_r _ [7, 8, 9, 10, 6, 11, 64, 65, 66, 67, 68, 69, 70, 71, 72, 73, 74, 75, 76, 77, 78, 79, 80, 81, 82, 83, 84, 85] (by decide +kernel) (by decide +kernel)
set_option maxRecDepth 20000 in
theorem gX9_reason_X9_isCell : GoodIn wsX9_reason (wsV RX9 213 RX9 yX9_isCell wsX9_isCell) := goodIn_app (goodIn_of _ (by decide +kernel)) ggX9_reason_X9_isCell
set_option maxRecDepth 20000 in
theorem ggX9_reason_X9_throwsIf : GoodIn wsX9_reason wsX9_throwsIf := goodIn_r _ [15, 1, 64, 65, 66, 67, 68, 69, 70, 71, 72, 73, 74, 75, 76, 77, 78, 79, 80, 81, 82, 83, 84, 85] (by decide +kernel) (by decide +kernel)
set_option maxRecDepth 20000 in
theorem gX9_reason_X9_throwsIf : GoodIn wsX9_reason (wsV RX9 153 RX9 yX9_throwsIf wsX9_throwsIf) := goodIn_app (goodIn_of _ (by decide +kernel)) ggX9_reason_X9_throwsIf
set_option maxRecDepth 20000 in
theorem ggX9_reason_X9_lays : GoodIn wsX9_reason wsX9_lays := goodIn_r _ [19, 20, 21, 8, 22, 23, 24, 6, 25, 26, 27, 2, 28, 29, 30, 31, 32, 33, 34, 35, 36, 37, 38, 39, 40, 41, 42, 43, 44, 45, 46, 47, 48, 49, 50, 51, 52, 53, 54, 55, 56, 57, 58, 59, 60, 61, 62, 63, 64, 65, 66, 67, 68, 69, 70, 71, 72, 73, 74, 75, 76, 77, 78, 79, 80, 81, 82, 83, 84, 85] (by decide +kernel) (by decide +kernel)
set_option maxRecDepth 20000 in
theorem gX9_reason_X9_lays : GoodIn wsX9_reason (wsV RX9 216 RX9 yX9_lays wsX9_lays) := goodIn_app (goodIn_of _ (by decide +kernel)) ggX9_reason_X9_lays
set_option maxRecDepth 20000 in
theorem ggX9_reason_X9_cell : GoodIn wsX9_reason wsX9_cell := goodIn_r _ [63] (by decide +kernel) (by decide +kernel)
set_option maxRecDepth 20000 in
theorem gX9_reason_X9_cell : GoodIn wsX9_reason (va_wsS RX9 206 yX9_cell wsX9_cell) := goodIn_app (goodIn_of _ (by decide +kernel)) ggX9_reason_X9_cell
theorem dX9_reason_0 : decode cX9_reason 0 = .ok (.aload_n 0, 1) := by decide +kernel
theorem dX9_reason_1 : decode cX9_reason 1 = .ok (.iconst 0, 1) := by decide +kernel
theorem dX9_reason_2 : decode cX9_reason 2 = .ok (.putfield 55, 3) := by decide +kernel
theorem dX9_reason_5 : decode cX9_reason 5 = .ok (.aload_n 0, 1) := by decide +kernel
theorem dX9_reason_6 : decode cX9_reason 6 = .ok (.aload_n 0, 1) := by decide +kernel
theorem dX9_reason_7 : decode cX9_reason 7 = .ok (.iload_n 1, 1) := by decide +kernel
theorem dX9_reason_8 : decode cX9_reason 8 = .ok (.iload_n 2, 1) := by decide +kernel
theorem dX9_reason_9 : decode cX9_reason 9 = .ok (.invokevirtual 213, 3) := by decide +kernel
theorem dX9_reason_12 : decode cX9_reason 12 = .ok (.ifCond .ne 7, 3) := by decide +kernel
theorem dX9_reason_15 : decode cX9_reason 15 = .ok (.iconst 1, 1) := by decide +kernel
theorem dX9_reason_16 : decode cX9_reason 16 = .ok (.goto 4, 3) := by decide +kernel
theorem dX9_reason_19 : decode cX9_reason 19 = .ok (.iconst 0, 1) := by decide +kernel
theorem dX9_reason_20 : decode cX9_reason 20 = .ok (.iconst 1, 1) := by decide +kernel
theorem dX9_reason_21 : decode cX9_reason 21 = .ok (.invokevirtual 153, 3) := by decide +kernel
theorem dX9_reason_24 : decode cX9_reason 24 = .ok (.ifCond .eq 5, 3) := by decide +kernel
theorem dX9_reason_27 : decode cX9_reason 27 = .ok (.iconst 0, 1) := by decide +kernel
theorem dX9_reason_28 : decode cX9_reason 28 = .ok (.ireturn, 1) := by decide +kernel
theorem dX9_reason_29 : decode cX9_reason 29 = .ok (.aload_n 0, 1) := by decide +kernel
theorem dX9_reason_30 : decode cX9_reason 30 = .ok (.invokevirtual 216, 3) := by decide +kernel
theorem dX9_reason_33 : decode cX9_reason 33 = .ok (.aload_n 0, 1) := by decide +kernel
theorem dX9_reason_34 : decode cX9_reason 34 = .ok (.getfield 24, 3) := by decide +kernel
theorem dX9_reason_37 : decode cX9_reason 37 = .ok (.iload_n 1, 1) := by decide +kernel
theorem dX9_reason_38 : decode cX9_reason 38 = .ok (.iload_n 2, 1) := by decide +kernel
theorem dX9_reason_39 : decode cX9_reason 39 = .ok (.invokestatic 206, 3) := by decide +kernel
theorem dX9_reason_42 : decode cX9_reason 42 = .ok (.iaload, 1) := by decide +kernel
theorem dX9_reason_43 : decode cX9_reason 43 = .ok (.ireturn, 1) := by decide +kernel
set_option maxRecDepth 20000 in
theorem ggX9_failedStep_X9_isCell : GoodIn wsX9_failedStep wsX9_isCell := goodIn_r _ [7, 8, 9, 10, 6, 11, 64, 65, 66, 67, 68, 69, 70, 71, 72, 73, 74, 75, 76, 77, 78, 79, 80, 81, 82, 83, 84, 85] (by decide +kernel) (by decide +kernel)
set_option maxRecDepth 20000 in
theorem gX9_failedStep_X9_isCell : GoodIn wsX9_failedStep (wsV RX9 213 RX9 yX9_isCell wsX9_isCell) := goodIn_app (goodIn_of _ (by decide +kernel)) ggX9_failedStep_X9_isCell
set_option maxRecDepth 20000 in
theorem ggX9_failedStep_X9_throwsIf : GoodIn wsX9_failedStep wsX9_throwsIf := goodIn_r _ [15, 1, 64, 65, 66, 67, 68, 69, 70, 71, 72, 73, 74, 75, 76, 77, 78, 79, 80, 81, 82, 83, 84, 85] (by decide +kernel) (by decide +kernel)
set_option maxRecDepth 20000 in
theorem gX9_failedStep_X9_throwsIf : GoodIn wsX9_failedStep (wsV RX9 153 RX9 yX9_throwsIf wsX9_throwsIf) := goodIn_app (goodIn_of _ (by decide +kernel)) ggX9_failedStep_X9_throwsIf
set_option maxRecDepth 20000 in
theorem ggX9_failedStep_X9_lays : GoodIn wsX9_failedStep wsX9_lays := goodIn_r _ [19, 20, 21, 8, 22, 23, 24, 6, 25, 26, 2, 27, 28, 29, 30, 31, 32, 33, 34, 35, 36, 37, 38, 39, 40, 41, 42, 43, 44, 45, 46, 47, 48, 49, 50, 51, 52, 53, 54, 55, 56, 57, 58, 59, 60, 61, 62, 63, 64, 65, 66, 67, 68, 69, 70, 71, 72, 73, 74, 75, 76, 77, 78, 79, 80, 81, 82, 83, 84, 85] (by decide +kernel) (by decide +kernel)
set_option maxRecDepth 20000 in
theorem gX9_failedStep_X9_lays : GoodIn wsX9_failedStep (wsV RX9 216 RX9 yX9_lays wsX9_lays) := goodIn_app (goodIn_of _ (by decide +kernel)) ggX9_failedStep_X9_lays
set_option maxRecDepth 20000 in
theorem ggX9_failedStep_X9_cell : GoodIn wsX9_failedStep wsX9_cell := goodIn_r _ [63] (by decide +kernel) (by decide +kernel)
set_option maxRecDepth 20000 in
theorem gX9_failedStep_X9_cell : GoodIn wsX9_failedStep (va_wsS RX9 206 yX9_cell wsX9_cell) := goodIn_app (goodIn_of _ (by decide +kernel)) ggX9_failedStep_X9_cell
theorem dX9_failedStep_0 : decode cX9_failedStep 0 = .ok (.aload_n 0, 1) := by decide +kernel
theorem dX9_failedStep_1 : decode cX9_failedStep 1 = .ok (.iconst 0, 1) := by decide +kernel
theorem dX9_failedStep_2 : decode cX9_failedStep 2 = .ok (.putfield 55, 3) := by decide +kernel
theorem dX9_failedStep_5 : decode cX9_failedStep 5 = .ok (.aload_n 0, 1) := by decide +kernel
theorem dX9_failedStep_6 : decode cX9_failedStep 6 = .ok (.aload_n 0, 1) := by decide +kernel
theorem dX9_failedStep_7 : decode cX9_failedStep 7 = .ok (.iload_n 1, 1) := by decide +kernel
theorem dX9_failedStep_8 : decode cX9_failedStep 8 = .ok (.iload_n 2, 1) := by decide +kernel
theorem dX9_failedStep_9 : decode cX9_failedStep 9 = .ok (.invokevirtual 213, 3) := by decide +kernel
theorem dX9_failedStep_12 : decode cX9_failedStep 12 = .ok (.ifCond .ne 7, 3) := by decide +kernel
theorem dX9_failedStep_15 : decode cX9_failedStep 15 = .ok (.iconst 1, 1) := by decide +kernel
theorem dX9_failedStep_16 : decode cX9_failedStep 16 = .ok (.goto 4, 3) := by decide +kernel
theorem dX9_failedStep_19 : decode cX9_failedStep 19 = .ok (.iconst 0, 1) := by decide +kernel
theorem dX9_failedStep_20 : decode cX9_failedStep 20 = .ok (.iconst 1, 1) := by decide +kernel
theorem dX9_failedStep_21 : decode cX9_failedStep 21 = .ok (.invokevirtual 153, 3) := by decide +kernel
theorem dX9_failedStep_24 : decode cX9_failedStep 24 = .ok (.ifCond .eq 5, 3) := by decide +kernel
theorem dX9_failedStep_27 : decode cX9_failedStep 27 = .ok (.iconst 0, 1) := by decide +kernel
theorem dX9_failedStep_28 : decode cX9_failedStep 28 = .ok (.ireturn, 1) := by decide +kernel
theorem dX9_failedStep_29 : decode cX9_failedStep 29 = .ok (.aload_n 0, 1) := by decide +kernel
theorem dX9_failedStep_30 : decode cX9_failedStep 30 = .ok (.invokevirtual 216, 3) := by decide +kernel
theorem dX9_failedStep_33 : decode cX9_failedStep 33 = .ok (.aload_n 0, 1) := by decide +kernel
theorem dX9_failedStep_34 : decode cX9_failedStep 34 = .ok (.getfield 27, 3) := by decide +kernel
theorem dX9_failedStep_37 : decode cX9_failedStep 37 = .ok (.iload_n 1, 1) := by decide +kernel
theorem dX9_failedStep_38 : decode cX9_failedStep 38 = .ok (.iload_n 2, 1) := by decide +kernel
theorem dX9_failedStep_39 : decode cX9_failedStep 39 = .ok (.invokestatic 206, 3) := by decide +kernel
theorem dX9_failedStep_42 : decode cX9_failedStep 42 = .ok (.iaload, 1) := by decide +kernel
theorem dX9_failedStep_43 : decode cX9_failedStep 43 = .ok (.ireturn, 1) := by decide +kernel
set_option maxRecDepth 20000 in
theorem ggX9_cells_X9_lays : GoodIn wsX9_cells wsX9_lays := goodIn_r _ [7, 8, 9, 1, 10, 11, 12, 6, 13, 14, 15, 2, 16, 17, 18, 19, 20, 21, 22, 23, 24, 25, 26, 27, 28, 29, 30, 31, 32, 33, 34, 35, 36, 37, 38, 39, 40, 41, 42, 43, 44, 45, 46, 47, 48, 49, 50, 51, 52, 53, 54, 55, 56, 57, 58, 59, 60, 61, 62, 63, 64, 65, 66, 67, 68, 69, 70, 71, 72, 73] (by decide +kernel) (by decide +kernel)
set_option maxRecDepth 20000 in
theorem gX9_cells_X9_lays : GoodIn wsX9_cells (wsV RX9 216 RX9 yX9_lays wsX9_lays) := goodIn_app (goodIn_of _ (by decide +kernel)) ggX9_cells_X9_lays
set_option maxRecDepth 20000 in
theorem ggX9_cells_X9_cell : GoodIn wsX9_cells wsX9_cell := goodIn_r _ [51] (by decide +kernel) (by decide +kernel)
set_option maxRecDepth 20000 in
theorem gX9_cells_X9_cell : GoodIn wsX9_cells (va_wsS RX9 206 yX9_cell wsX9_cell) := goodIn_app (goodIn_of _ (by decide +kernel)) ggX9_cells_X9_cell
theorem dX9_cells_0 : decode cX9_cells 0 = .ok (.aload_n 0, 1) := by decide +kernel
theorem dX9_cells_1 : decode cX9_cells 1 = .ok (.invokevirtual 216, 3) := by decide +kernel
theorem dX9_cells_4 : decode cX9_cells 4 = .ok (.iconst 0, 1) := by decide +kernel
theorem dX9_cells_5 : decode cX9_cells 5 = .ok (.istore_n 2, 1) := by decide +kernel
theorem dX9_cells_6 : decode cX9_cells 6 = .ok (.aload_n 0, 1) := by decide +kernel
theorem dX9_cells_7 : decode cX9_cells 7 = .ok (.getfield 13, 3) := by decide +kernel
theorem dX9_cells_10 : decode cX9_cells 10 = .ok (.bipush 17, 2) := by decide +kernel
theorem dX9_cells_12 : decode cX9_cells 12 = .ok (.iaload, 1) := by decide +kernel
theorem dX9_cells_13 : decode cX9_cells 13 = .ok (.ineg, 1) := by decide +kernel
theorem dX9_cells_14 : decode cX9_cells 14 = .ok (.istore_n 3, 1) := by decide +kernel
theorem dX9_cells_15 : decode cX9_cells 15 = .ok (.iload_n 3, 1) := by decide +kernel
theorem dX9_cells_16 : decode cX9_cells 16 = .ok (.aload_n 0, 1) := by decide +kernel
theorem dX9_cells_17 : decode cX9_cells 17 = .ok (.getfield 13, 3) := by decide +kernel
theorem dX9_cells_20 : decode cX9_cells 20 = .ok (.bipush 17, 2) := by decide +kernel
theorem dX9_cells_22 : decode cX9_cells 22 = .ok (.iaload, 1) := by decide +kernel
theorem dX9_cells_23 : decode cX9_cells 23 = .ok (.if_icmp .gt 60, 3) := by decide +kernel
theorem dX9_cells_26 : decode cX9_cells 26 = .ok (.aload_n 0, 1) := by decide +kernel
theorem dX9_cells_27 : decode cX9_cells 27 = .ok (.getfield 13, 3) := by decide +kernel
theorem dX9_cells_30 : decode cX9_cells 30 = .ok (.bipush 17, 2) := by decide +kernel
theorem dX9_cells_32 : decode cX9_cells 32 = .ok (.iaload, 1) := by decide +kernel
theorem dX9_cells_33 : decode cX9_cells 33 = .ok (.ineg, 1) := by decide +kernel
theorem dX9_cells_34 : decode cX9_cells 34 = .ok (.istore 4, 2) := by decide +kernel
theorem dX9_cells_36 : decode cX9_cells 36 = .ok (.iload 4, 2) := by decide +kernel
theorem dX9_cells_38 : decode cX9_cells 38 = .ok (.aload_n 0, 1) := by decide +kernel
theorem dX9_cells_39 : decode cX9_cells 39 = .ok (.getfield 13, 3) := by decide +kernel
theorem dX9_cells_42 : decode cX9_cells 42 = .ok (.bipush 17, 2) := by decide +kernel
theorem dX9_cells_44 : decode cX9_cells 44 = .ok (.iaload, 1) := by decide +kernel
theorem dX9_cells_45 : decode cX9_cells 45 = .ok (.if_icmp .gt 32, 3) := by decide +kernel
theorem dX9_cells_48 : decode cX9_cells 48 = .ok (.iload_n 2, 1) := by decide +kernel
theorem dX9_cells_49 : decode cX9_cells 49 = .ok (.aload_n 0, 1) := by decide +kernel
theorem dX9_cells_50 : decode cX9_cells 50 = .ok (.getfield 24, 3) := by decide +kernel
theorem dX9_cells_53 : decode cX9_cells 53 = .ok (.iload_n 3, 1) := by decide +kernel
theorem dX9_cells_54 : decode cX9_cells 54 = .ok (.iload 4, 2) := by decide +kernel
theorem dX9_cells_56 : decode cX9_cells 56 = .ok (.invokestatic 206, 3) := by decide +kernel
theorem dX9_cells_59 : decode cX9_cells 59 = .ok (.iaload, 1) := by decide +kernel
theorem dX9_cells_60 : decode cX9_cells 60 = .ok (.iload_n 1, 1) := by decide +kernel
theorem dX9_cells_61 : decode cX9_cells 61 = .ok (.if_icmp .ne 7, 3) := by decide +kernel
theorem dX9_cells_64 : decode cX9_cells 64 = .ok (.iconst 1, 1) := by decide +kernel
theorem dX9_cells_65 : decode cX9_cells 65 = .ok (.goto 4, 3) := by decide +kernel
theorem dX9_cells_68 : decode cX9_cells 68 = .ok (.iconst 0, 1) := by decide +kernel
theorem dX9_cells_69 : decode cX9_cells 69 = .ok (.iadd, 1) := by decide +kernel
theorem dX9_cells_70 : decode cX9_cells 70 = .ok (.istore_n 2, 1) := by decide +kernel
theorem dX9_cells_71 : decode cX9_cells 71 = .ok (.iinc 4 1, 3) := by decide +kernel
theorem dX9_cells_74 : decode cX9_cells 74 = .ok (.goto (-38), 3) := by decide +kernel
theorem dX9_cells_77 : decode cX9_cells 77 = .ok (.iinc 3 1, 3) := by decide +kernel
theorem dX9_cells_80 : decode cX9_cells 80 = .ok (.goto (-65), 3) := by decide +kernel
theorem dX9_cells_83 : decode cX9_cells 83 = .ok (.iload_n 2, 1) := by decide +kernel
theorem dX9_cells_84 : decode cX9_cells 84 = .ok (.ireturn, 1) := by decide +kernel
set_option maxRecDepth 20000 in
theorem ggX9_regionSize_X9_cells : GoodIn wsX9_regionSize wsX9_cells := goodIn_r _ [6, 7, 8, 9, 10, 11, 5, 12, 13, 14, 15, 16, 17, 18, 19, 20, 21, 22, 23, 24, 25, 26, 27, 28, 29, 30, 31, 32, 33, 34, 35, 36, 37, 38, 39, 40, 41, 42, 43, 44, 45, 46, 47, 48, 49, 50, 51, 52, 53, 54, 55, 56, 57, 58, 59, 60, 61, 62, 63, 64, 65, 66, 67, 68, 69, 70, 71, 72, 73, 74, 75, 76, 77, 78] (by decide +kernel) (by decide +kernel)
set_option maxRecDepth 20000 in
theorem gX9_regionSize_X9_cells : GoodIn wsX9_regionSize (wsV RX9 219 RX9 yX9_cells wsX9_cells) := goodIn_app (goodIn_of _ (by decide +kernel)) ggX9_regionSize_X9_cells
theorem dX9_regionSize_0 : decode cX9_regionSize 0 = .ok (.aload_n 0, 1) := by decide +kernel
theorem dX9_regionSize_1 : decode cX9_regionSize 1 = .ok (.iconst 0, 1) := by decide +kernel
theorem dX9_regionSize_2 : decode cX9_regionSize 2 = .ok (.putfield 55, 3) := by decide +kernel
theorem dX9_regionSize_5 : decode cX9_regionSize 5 = .ok (.aload_n 0, 1) := by decide +kernel
theorem dX9_regionSize_6 : decode cX9_regionSize 6 = .ok (.iconst 0, 1) := by decide +kernel
theorem dX9_regionSize_7 : decode cX9_regionSize 7 = .ok (.invokevirtual 219, 3) := by decide +kernel
theorem dX9_regionSize_10 : decode cX9_regionSize 10 = .ok (.ireturn, 1) := by decide +kernel
set_option maxRecDepth 20000 in
theorem ggX9_cellsWith_X9_within : GoodIn wsX9_cellsWith wsX9_within := goodIn_r _ [5] (by decide +kernel) (by decide +kernel)
set_option maxRecDepth 20000 in
theorem gX9_cellsWith_X9_within : GoodIn wsX9_cellsWith (va_wsS RX9 88 yX9_within wsX9_within) := goodIn_app (goodIn_of _ (by decide +kernel)) ggX9_cellsWith_X9_within
set_option maxRecDepth 20000 in
theorem ggX9_cellsWith_X9_cells : GoodIn wsX9_cellsWith wsX9_cells := goodIn_r _ [9, 10, 11, 12, 13, 14, 4, 15, 16, 17, 18, 19, 20, 21, 22, 23, 24, 25, 26, 27, 28, 29, 30, 31, 32, 33, 34, 35, 36, 37, 38, 39, 40, 41, 42, 43, 44, 45, 46, 47, 48, 49, 50, 51, 52, 53, 54, 55, 56, 57, 58, 59, 60, 61, 62, 63, 64, 65, 66, 67, 68, 69, 70, 71, 72, 73, 74, 75, 76, 77, 78, 79, 80, 81] (by decide +kernel) (by decide +kernel)
set_option maxRecDepth 20000 in
theorem gX9_cellsWith_X9_cells : GoodIn wsX9_cellsWith (wsV RX9 219 RX9 yX9_cells wsX9_cells) := goodIn_app (goodIn_of _ (by decide +kernel)) ggX9_cellsWith_X9_cells
theorem dX9_cellsWith_0 : decode cX9_cellsWith 0 = .ok (.aload_n 0, 1) := by decide +kernel
theorem dX9_cellsWith_1 : decode cX9_cellsWith 1 = .ok (.iconst 0, 1) := by decide +kernel
theorem dX9_cellsWith_2 : decode cX9_cellsWith 2 = .ok (.putfield 55, 3) := by decide +kernel
theorem dX9_cellsWith_5 : decode cX9_cellsWith 5 = .ok (.iload_n 1, 1) := by decide +kernel
theorem dX9_cellsWith_6 : decode cX9_cellsWith 6 = .ok (.iconst 0, 1) := by decide +kernel
theorem dX9_cellsWith_7 : decode cX9_cellsWith 7 = .ok (.iconst 4, 1) := by decide +kernel
theorem dX9_cellsWith_8 : decode cX9_cellsWith 8 = .ok (.invokestatic 88, 3) := by decide +kernel
theorem dX9_cellsWith_11 : decode cX9_cellsWith 11 = .ok (.ifCond .eq 11, 3) := by decide +kernel
theorem dX9_cellsWith_14 : decode cX9_cellsWith 14 = .ok (.aload_n 0, 1) := by decide +kernel
theorem dX9_cellsWith_15 : decode cX9_cellsWith 15 = .ok (.iload_n 1, 1) := by decide +kernel
theorem dX9_cellsWith_16 : decode cX9_cellsWith 16 = .ok (.invokevirtual 219, 3) := by decide +kernel
theorem dX9_cellsWith_19 : decode cX9_cellsWith 19 = .ok (.goto 4, 3) := by decide +kernel
theorem dX9_cellsWith_22 : decode cX9_cellsWith 22 = .ok (.iconst 0, 1) := by decide +kernel
theorem dX9_cellsWith_23 : decode cX9_cellsWith 23 = .ok (.ireturn, 1) := by decide +kernel
theorem dX9_partOf_0 : decode cX9_partOf 0 = .ok (.iconst 2, 1) := by decide +kernel
theorem dX9_partOf_1 : decode cX9_partOf 1 = .ok (.iload_n 0, 1) := by decide +kernel
theorem dX9_partOf_2 : decode cX9_partOf 2 = .ok (.imul, 1) := by decide +kernel
theorem dX9_partOf_3 : decode cX9_partOf 3 = .ok (.iload_n 1, 1) := by decide +kernel
theorem dX9_partOf_4 : decode cX9_partOf 4 = .ok (.iadd, 1) := by decide +kernel
theorem dX9_partOf_5 : decode cX9_partOf 5 = .ok (.istore_n 2, 1) := by decide +kernel
theorem dX9_partOf_6 : decode cX9_partOf 6 = .ok (.iconst 2, 1) := by decide +kernel
theorem dX9_partOf_7 : decode cX9_partOf 7 = .ok (.iload_n 1, 1) := by decide +kernel
theorem dX9_partOf_8 : decode cX9_partOf 8 = .ok (.imul, 1) := by decide +kernel
theorem dX9_partOf_9 : decode cX9_partOf 9 = .ok (.istore_n 3, 1) := by decide +kernel
theorem dX9_partOf_10 : decode cX9_partOf 10 = .ok (.iload_n 2, 1) := by decide +kernel
theorem dX9_partOf_11 : decode cX9_partOf 11 = .ok (.ifCond .lt 9, 3) := by decide +kernel
theorem dX9_partOf_14 : decode cX9_partOf 14 = .ok (.iload_n 2, 1) := by decide +kernel
theorem dX9_partOf_15 : decode cX9_partOf 15 = .ok (.iload_n 3, 1) := by decide +kernel
theorem dX9_partOf_16 : decode cX9_partOf 16 = .ok (.idiv, 1) := by decide +kernel
theorem dX9_partOf_17 : decode cX9_partOf 17 = .ok (.goto 11, 3) := by decide +kernel
theorem dX9_partOf_20 : decode cX9_partOf 20 = .ok (.iload_n 3, 1) := by decide +kernel
theorem dX9_partOf_21 : decode cX9_partOf 21 = .ok (.iconst 1, 1) := by decide +kernel
theorem dX9_partOf_22 : decode cX9_partOf 22 = .ok (.isub, 1) := by decide +kernel
theorem dX9_partOf_23 : decode cX9_partOf 23 = .ok (.iload_n 2, 1) := by decide +kernel
theorem dX9_partOf_24 : decode cX9_partOf 24 = .ok (.isub, 1) := by decide +kernel
theorem dX9_partOf_25 : decode cX9_partOf 25 = .ok (.iload_n 3, 1) := by decide +kernel
theorem dX9_partOf_26 : decode cX9_partOf 26 = .ok (.idiv, 1) := by decide +kernel
theorem dX9_partOf_27 : decode cX9_partOf 27 = .ok (.ineg, 1) := by decide +kernel
theorem dX9_partOf_28 : decode cX9_partOf 28 = .ok (.ireturn, 1) := by decide +kernel
set_option maxRecDepth 20000 in
theorem ggX9_partOfLink_X9_leanOf : GoodIn wsX9_partOfLink wsX9_leanOf := goodIn_r _ [6] (by decide +kernel) (by decide +kernel)
set_option maxRecDepth 20000 in
theorem gX9_partOfLink_X9_leanOf : GoodIn wsX9_partOfLink (va_wsS RX9 181 yX9_leanOf wsX9_leanOf) := goodIn_app (goodIn_of _ (by decide +kernel)) ggX9_partOfLink_X9_leanOf
set_option maxRecDepth 20000 in
theorem ggX9_partOfLink_X9_partOf : GoodIn wsX9_partOfLink wsX9_partOf := goodIn_r _ [9] (by decide +kernel) (by decide +kernel)
set_option maxRecDepth 20000 in
theorem gX9_partOfLink_X9_partOf : GoodIn wsX9_partOfLink (va_wsS RX9 222 yX9_partOf wsX9_partOf) := goodIn_app (goodIn_of _ (by decide +kernel)) ggX9_partOfLink_X9_partOf
theorem dX9_partOfLink_0 : decode cX9_partOfLink 0 = .ok (.iload_n 2, 1) := by decide +kernel
theorem dX9_partOfLink_1 : decode cX9_partOfLink 1 = .ok (.ifCond .ne 28, 3) := by decide +kernel
theorem dX9_partOfLink_4 : decode cX9_partOfLink 4 = .ok (.aload_n 0, 1) := by decide +kernel
theorem dX9_partOfLink_5 : decode cX9_partOfLink 5 = .ok (.getfield 7, 3) := by decide +kernel
theorem dX9_partOfLink_8 : decode cX9_partOfLink 8 = .ok (.bipush 10, 2) := by decide +kernel
theorem dX9_partOfLink_10 : decode cX9_partOfLink 10 = .ok (.iload_n 1, 1) := by decide +kernel
theorem dX9_partOfLink_11 : decode cX9_partOfLink 11 = .ok (.iadd, 1) := by decide +kernel
theorem dX9_partOfLink_12 : decode cX9_partOfLink 12 = .ok (.iaload, 1) := by decide +kernel
theorem dX9_partOfLink_13 : decode cX9_partOfLink 13 = .ok (.invokestatic 181, 3) := by decide +kernel
theorem dX9_partOfLink_16 : decode cX9_partOfLink 16 = .ok (.aload_n 0, 1) := by decide +kernel
theorem dX9_partOfLink_17 : decode cX9_partOfLink 17 = .ok (.getfield 13, 3) := by decide +kernel
theorem dX9_partOfLink_20 : decode cX9_partOfLink 20 = .ok (.bipush 15, 2) := by decide +kernel
theorem dX9_partOfLink_22 : decode cX9_partOfLink 22 = .ok (.iaload, 1) := by decide +kernel
theorem dX9_partOfLink_23 : decode cX9_partOfLink 23 = .ok (.invokestatic 222, 3) := by decide +kernel
theorem dX9_partOfLink_26 : decode cX9_partOfLink 26 = .ok (.goto 22, 3) := by decide +kernel
theorem dX9_partOfLink_29 : decode cX9_partOfLink 29 = .ok (.aload_n 0, 1) := by decide +kernel
theorem dX9_partOfLink_30 : decode cX9_partOfLink 30 = .ok (.getfield 7, 3) := by decide +kernel
theorem dX9_partOfLink_33 : decode cX9_partOfLink 33 = .ok (.bipush 12, 2) := by decide +kernel
theorem dX9_partOfLink_35 : decode cX9_partOfLink 35 = .ok (.iload_n 1, 1) := by decide +kernel
theorem dX9_partOfLink_36 : decode cX9_partOfLink 36 = .ok (.iadd, 1) := by decide +kernel
theorem dX9_partOfLink_37 : decode cX9_partOfLink 37 = .ok (.iaload, 1) := by decide +kernel
theorem dX9_partOfLink_38 : decode cX9_partOfLink 38 = .ok (.aload_n 0, 1) := by decide +kernel
theorem dX9_partOfLink_39 : decode cX9_partOfLink 39 = .ok (.getfield 13, 3) := by decide +kernel
theorem dX9_partOfLink_42 : decode cX9_partOfLink 42 = .ok (.bipush 16, 2) := by decide +kernel
theorem dX9_partOfLink_44 : decode cX9_partOfLink 44 = .ok (.iaload, 1) := by decide +kernel
theorem dX9_partOfLink_45 : decode cX9_partOfLink 45 = .ok (.invokestatic 222, 3) := by decide +kernel
theorem dX9_partOfLink_48 : decode cX9_partOfLink 48 = .ok (.ireturn, 1) := by decide +kernel
set_option maxRecDepth 20000 in
theorem ggX9_isCaught_X9_partOfLink : GoodIn wsX9_isCaught wsX9_partOfLink := goodIn_r _ [6, 7, 8, 9, 10, 5, 11, 12, 13, 14, 25, 26, 27, 28, 29, 30, 31, 32, 33, 34, 35, 36, 37, 38, 39, 40, 41, 42, 43, 44, 45, 46] (by decide +kernel) (by decide +kernel)
set_option maxRecDepth 20000 in
theorem gX9_isCaught_X9_partOfLink : GoodIn wsX9_isCaught (wsV RX9 225 RX9 yX9_partOfLink wsX9_partOfLink) := goodIn_app (goodIn_of _ (by decide +kernel)) ggX9_isCaught_X9_partOfLink
set_option maxRecDepth 20000 in
theorem ggX9_isCaught_X9_isCell : GoodIn wsX9_isCaught wsX9_isCell := goodIn_r _ [18, 8, 19, 20, 5, 21, 25, 26, 27, 28, 29, 30, 31, 32, 33, 34, 35, 36, 37, 38, 39, 40, 41, 42, 43, 44, 45, 46] (by decide +kernel) (by decide +kernel)
set_option maxRecDepth 20000 in
theorem gX9_isCaught_X9_isCell : GoodIn wsX9_isCaught (wsV RX9 213 RX9 yX9_isCell wsX9_isCell) := goodIn_app (goodIn_of _ (by decide +kernel)) ggX9_isCaught_X9_isCell
set_option maxRecDepth 20000 in
theorem ggX9_isCaught_X9_cell : GoodIn wsX9_isCaught wsX9_cell := goodIn_r _ [24] (by decide +kernel) (by decide +kernel)
set_option maxRecDepth 20000 in
theorem gX9_isCaught_X9_cell : GoodIn wsX9_isCaught (va_wsS RX9 206 yX9_cell wsX9_cell) := goodIn_app (goodIn_of _ (by decide +kernel)) ggX9_isCaught_X9_cell
theorem dX9_isCaught_0 : decode cX9_isCaught 0 = .ok (.aload_n 0, 1) := by decide +kernel
theorem dX9_isCaught_1 : decode cX9_isCaught 1 = .ok (.iload_n 1, 1) := by decide +kernel
theorem dX9_isCaught_2 : decode cX9_isCaught 2 = .ok (.iconst 0, 1) := by decide +kernel
theorem dX9_isCaught_3 : decode cX9_isCaught 3 = .ok (.invokevirtual 225, 3) := by decide +kernel
theorem dX9_isCaught_6 : decode cX9_isCaught 6 = .ok (.istore_n 2, 1) := by decide +kernel
theorem dX9_isCaught_7 : decode cX9_isCaught 7 = .ok (.aload_n 0, 1) := by decide +kernel
theorem dX9_isCaught_8 : decode cX9_isCaught 8 = .ok (.iload_n 1, 1) := by decide +kernel
theorem dX9_isCaught_9 : decode cX9_isCaught 9 = .ok (.iconst 1, 1) := by decide +kernel
theorem dX9_isCaught_10 : decode cX9_isCaught 10 = .ok (.invokevirtual 225, 3) := by decide +kernel
theorem dX9_isCaught_13 : decode cX9_isCaught 13 = .ok (.istore_n 3, 1) := by decide +kernel
theorem dX9_isCaught_14 : decode cX9_isCaught 14 = .ok (.aload_n 0, 1) := by decide +kernel
theorem dX9_isCaught_15 : decode cX9_isCaught 15 = .ok (.iload_n 2, 1) := by decide +kernel
theorem dX9_isCaught_16 : decode cX9_isCaught 16 = .ok (.iload_n 3, 1) := by decide +kernel
theorem dX9_isCaught_17 : decode cX9_isCaught 17 = .ok (.invokevirtual 213, 3) := by decide +kernel
theorem dX9_isCaught_20 : decode cX9_isCaught 20 = .ok (.ifCond .eq 20, 3) := by decide +kernel
theorem dX9_isCaught_23 : decode cX9_isCaught 23 = .ok (.aload_n 0, 1) := by decide +kernel
theorem dX9_isCaught_24 : decode cX9_isCaught 24 = .ok (.getfield 24, 3) := by decide +kernel
theorem dX9_isCaught_27 : decode cX9_isCaught 27 = .ok (.iload_n 2, 1) := by decide +kernel
theorem dX9_isCaught_28 : decode cX9_isCaught 28 = .ok (.iload_n 3, 1) := by decide +kernel
theorem dX9_isCaught_29 : decode cX9_isCaught 29 = .ok (.invokestatic 206, 3) := by decide +kernel
theorem dX9_isCaught_32 : decode cX9_isCaught 32 = .ok (.iaload, 1) := by decide +kernel
theorem dX9_isCaught_33 : decode cX9_isCaught 33 = .ok (.ifCond .ne 7, 3) := by decide +kernel
theorem dX9_isCaught_36 : decode cX9_isCaught 36 = .ok (.iconst 1, 1) := by decide +kernel
theorem dX9_isCaught_37 : decode cX9_isCaught 37 = .ok (.goto 4, 3) := by decide +kernel
theorem dX9_isCaught_40 : decode cX9_isCaught 40 = .ok (.iconst 0, 1) := by decide +kernel
theorem dX9_isCaught_41 : decode cX9_isCaught 41 = .ok (.ireturn, 1) := by decide +kernel
set_option maxRecDepth 20000 in
theorem ggX9_canCapture_X9_lays : GoodIn wsX9_canCapture wsX9_lays := goodIn_r _ [5, 6, 7, 8, 9, 10, 11, 4, 12, 13, 14, 15, 16, 17, 18, 19, 20, 21, 22, 23, 24, 25, 26, 27, 28, 29, 30, 31, 32, 33, 34, 35, 36, 37, 38, 39, 40, 41, 42, 43, 44, 45, 46, 47, 48, 49, 50, 51, 70, 71, 72, 73, 74, 75, 76, 77, 78, 79, 80, 81, 82, 83, 84, 85, 86, 87, 88, 89, 90, 91] (by decide +kernel) (by decide +kernel)
set_option maxRecDepth 20000 in
theorem gX9_canCapture_X9_lays : GoodIn wsX9_canCapture (wsV RX9 216 RX9 yX9_lays wsX9_lays) := goodIn_app (goodIn_of _ (by decide +kernel)) ggX9_canCapture_X9_lays
set_option maxRecDepth 20000 in
theorem ggX9_canCapture_X9_isCaught : GoodIn wsX9_canCapture wsX9_isCaught := goodIn_r _ [55, 15, 56, 57, 58, 4, 59, 7, 8, 23, 24, 25, 60, 61, 62, 63, 64, 65, 66, 67, 68, 69, 49, 50, 51, 70, 71, 72, 73, 74, 75, 76, 77, 78, 79, 80, 81, 82, 83, 84, 85, 86, 87, 88, 89, 90, 91] (by decide +kernel) (by decide +kernel)
set_option maxRecDepth 20000 in
theorem gX9_canCapture_X9_isCaught : GoodIn wsX9_canCapture (wsV RX9 228 RX9 yX9_isCaught wsX9_isCaught) := goodIn_app (goodIn_of _ (by decide +kernel)) ggX9_canCapture_X9_isCaught
theorem dX9_canCapture_0 : decode cX9_canCapture 0 = .ok (.aload_n 0, 1) := by decide +kernel
theorem dX9_canCapture_1 : decode cX9_canCapture 1 = .ok (.invokevirtual 216, 3) := by decide +kernel
theorem dX9_canCapture_4 : decode cX9_canCapture 4 = .ok (.aload_n 0, 1) := by decide +kernel
theorem dX9_canCapture_5 : decode cX9_canCapture 5 = .ok (.iconst 0, 1) := by decide +kernel
theorem dX9_canCapture_6 : decode cX9_canCapture 6 = .ok (.invokevirtual 228, 3) := by decide +kernel
theorem dX9_canCapture_9 : decode cX9_canCapture 9 = .ok (.ifCond .eq 15, 3) := by decide +kernel
theorem dX9_canCapture_12 : decode cX9_canCapture 12 = .ok (.aload_n 0, 1) := by decide +kernel
theorem dX9_canCapture_13 : decode cX9_canCapture 13 = .ok (.iconst 1, 1) := by decide +kernel
theorem dX9_canCapture_14 : decode cX9_canCapture 14 = .ok (.invokevirtual 228, 3) := by decide +kernel
theorem dX9_canCapture_17 : decode cX9_canCapture 17 = .ok (.ifCond .eq 7, 3) := by decide +kernel
theorem dX9_canCapture_20 : decode cX9_canCapture 20 = .ok (.iconst 1, 1) := by decide +kernel
theorem dX9_canCapture_21 : decode cX9_canCapture 21 = .ok (.goto 4, 3) := by decide +kernel
theorem dX9_canCapture_24 : decode cX9_canCapture 24 = .ok (.iconst 0, 1) := by decide +kernel
theorem dX9_canCapture_25 : decode cX9_canCapture 25 = .ok (.ireturn, 1) := by decide +kernel
set_option maxRecDepth 20000 in
theorem ggX9_noLink_X9_within : GoodIn wsX9_noLink wsX9_within := goodIn_r _ [5] (by decide +kernel) (by decide +kernel)
set_option maxRecDepth 20000 in
theorem gX9_noLink_X9_within : GoodIn wsX9_noLink (va_wsS RX9 88 yX9_within wsX9_within) := goodIn_app (goodIn_of _ (by decide +kernel)) ggX9_noLink_X9_within
set_option maxRecDepth 20000 in
theorem ggX9_noLink_X9_throwsIf : GoodIn wsX9_noLink wsX9_throwsIf := goodIn_r _ [9, 1, 10, 11, 12, 13, 14, 15, 16, 17, 18, 19, 20, 21, 22, 23, 24, 25, 26, 27, 28, 29, 30, 31] (by decide +kernel) (by decide +kernel)
set_option maxRecDepth 20000 in
theorem gX9_noLink_X9_throwsIf : GoodIn wsX9_noLink (wsV RX9 153 RX9 yX9_throwsIf wsX9_throwsIf) := goodIn_app (goodIn_of _ (by decide +kernel)) ggX9_noLink_X9_throwsIf
theorem dX9_noLink_0 : decode cX9_noLink 0 = .ok (.aload_n 0, 1) := by decide +kernel
theorem dX9_noLink_1 : decode cX9_noLink 1 = .ok (.iconst 0, 1) := by decide +kernel
theorem dX9_noLink_2 : decode cX9_noLink 2 = .ok (.putfield 55, 3) := by decide +kernel
theorem dX9_noLink_5 : decode cX9_noLink 5 = .ok (.aload_n 0, 1) := by decide +kernel
theorem dX9_noLink_6 : decode cX9_noLink 6 = .ok (.iload_n 1, 1) := by decide +kernel
theorem dX9_noLink_7 : decode cX9_noLink 7 = .ok (.iconst 1, 1) := by decide +kernel
theorem dX9_noLink_8 : decode cX9_noLink 8 = .ok (.iconst 2, 1) := by decide +kernel
theorem dX9_noLink_9 : decode cX9_noLink 9 = .ok (.invokestatic 88, 3) := by decide +kernel
theorem dX9_noLink_12 : decode cX9_noLink 12 = .ok (.ifCond .ne 7, 3) := by decide +kernel
theorem dX9_noLink_15 : decode cX9_noLink 15 = .ok (.iconst 1, 1) := by decide +kernel
theorem dX9_noLink_16 : decode cX9_noLink 16 = .ok (.goto 4, 3) := by decide +kernel
theorem dX9_noLink_19 : decode cX9_noLink 19 = .ok (.iconst 0, 1) := by decide +kernel
theorem dX9_noLink_20 : decode cX9_noLink 20 = .ok (.iconst 1, 1) := by decide +kernel
theorem dX9_noLink_21 : decode cX9_noLink 21 = .ok (.invokevirtual 153, 3) := by decide +kernel
theorem dX9_noLink_24 : decode cX9_noLink 24 = .ok (.ireturn, 1) := by decide +kernel
set_option maxRecDepth 20000 in
theorem ggX9_cellOf_X9_noLink : GoodIn wsX9_cellOf wsX9_noLink := goodIn_r _ [5, 6, 7, 8, 4, 9, 10, 11, 12, 13, 26, 27, 28, 29, 30, 31, 32, 33, 34, 35, 36, 37, 38, 39, 40, 41, 42, 43, 44, 45, 46, 47] (by decide +kernel) (by decide +kernel)
set_option maxRecDepth 20000 in
theorem gX9_cellOf_X9_noLink : GoodIn wsX9_cellOf (wsV RX9 231 RX9 yX9_noLink wsX9_noLink) := goodIn_app (goodIn_of _ (by decide +kernel)) ggX9_cellOf_X9_noLink
set_option maxRecDepth 20000 in
theorem ggX9_cellOf_X9_within : GoodIn wsX9_cellOf wsX9_within := goodIn_r _ [9] (by decide +kernel) (by decide +kernel)
set_option maxRecDepth 20000 in
theorem gX9_cellOf_X9_within : GoodIn wsX9_cellOf (va_wsS RX9 88 yX9_within wsX9_within) := goodIn_app (goodIn_of _ (by decide +kernel)) ggX9_cellOf_X9_within
set_option maxRecDepth 20000 in
theorem ggX9_cellOf_X9_throwsIf : GoodIn wsX9_cellOf wsX9_throwsIf := goodIn_r _ [13, 6, 26, 27, 28, 29, 30, 31, 32, 33, 34, 35, 36, 37, 38, 39, 40, 41, 42, 43, 44, 45, 46, 47] (by decide +kernel) (by decide +kernel)
set_option maxRecDepth 20000 in
theorem gX9_cellOf_X9_throwsIf : GoodIn wsX9_cellOf (wsV RX9 153 RX9 yX9_throwsIf wsX9_throwsIf) := goodIn_app (goodIn_of _ (by decide +kernel)) ggX9_cellOf_X9_throwsIf
set_option maxRecDepth 20000 in
theorem ggX9_cellOf_X9_partOfLink : GoodIn wsX9_cellOf wsX9_partOfLink := goodIn_r _ [17, 18, 19, 20, 21, 4, 22, 23, 24, 25, 26, 27, 28, 29, 30, 31, 32, 33, 34, 35, 36, 37, 38, 39, 40, 41, 42, 43, 44, 45, 46, 47] (by decide +kernel) (by decide +kernel)
set_option maxRecDepth 20000 in
theorem gX9_cellOf_X9_partOfLink : GoodIn wsX9_cellOf (wsV RX9 225 RX9 yX9_partOfLink wsX9_partOfLink) := goodIn_app (goodIn_of _ (by decide +kernel)) ggX9_cellOf_X9_partOfLink
theorem dX9_cellOf_0 : decode cX9_cellOf 0 = .ok (.aload_n 0, 1) := by decide +kernel
theorem dX9_cellOf_1 : decode cX9_cellOf 1 = .ok (.iload_n 1, 1) := by decide +kernel
theorem dX9_cellOf_2 : decode cX9_cellOf 2 = .ok (.invokevirtual 231, 3) := by decide +kernel
theorem dX9_cellOf_5 : decode cX9_cellOf 5 = .ok (.ifCond .ne 25, 3) := by decide +kernel
theorem dX9_cellOf_8 : decode cX9_cellOf 8 = .ok (.aload_n 0, 1) := by decide +kernel
theorem dX9_cellOf_9 : decode cX9_cellOf 9 = .ok (.iload_n 2, 1) := by decide +kernel
theorem dX9_cellOf_10 : decode cX9_cellOf 10 = .ok (.iconst 0, 1) := by decide +kernel
theorem dX9_cellOf_11 : decode cX9_cellOf 11 = .ok (.iconst 1, 1) := by decide +kernel
theorem dX9_cellOf_12 : decode cX9_cellOf 12 = .ok (.invokestatic 88, 3) := by decide +kernel
theorem dX9_cellOf_15 : decode cX9_cellOf 15 = .ok (.ifCond .ne 7, 3) := by decide +kernel
theorem dX9_cellOf_18 : decode cX9_cellOf 18 = .ok (.iconst 1, 1) := by decide +kernel
theorem dX9_cellOf_19 : decode cX9_cellOf 19 = .ok (.goto 4, 3) := by decide +kernel
theorem dX9_cellOf_22 : decode cX9_cellOf 22 = .ok (.iconst 0, 1) := by decide +kernel
theorem dX9_cellOf_23 : decode cX9_cellOf 23 = .ok (.iconst 2, 1) := by decide +kernel
theorem dX9_cellOf_24 : decode cX9_cellOf 24 = .ok (.invokevirtual 153, 3) := by decide +kernel
theorem dX9_cellOf_27 : decode cX9_cellOf 27 = .ok (.ifCond .eq 7, 3) := by decide +kernel
theorem dX9_cellOf_30 : decode cX9_cellOf 30 = .ok (.iconst 0, 1) := by decide +kernel
theorem dX9_cellOf_31 : decode cX9_cellOf 31 = .ok (.goto 11, 3) := by decide +kernel
theorem dX9_cellOf_34 : decode cX9_cellOf 34 = .ok (.aload_n 0, 1) := by decide +kernel
theorem dX9_cellOf_35 : decode cX9_cellOf 35 = .ok (.iload_n 1, 1) := by decide +kernel
theorem dX9_cellOf_36 : decode cX9_cellOf 36 = .ok (.iconst 1, 1) := by decide +kernel
theorem dX9_cellOf_37 : decode cX9_cellOf 37 = .ok (.isub, 1) := by decide +kernel
theorem dX9_cellOf_38 : decode cX9_cellOf 38 = .ok (.iload_n 2, 1) := by decide +kernel
theorem dX9_cellOf_39 : decode cX9_cellOf 39 = .ok (.invokevirtual 225, 3) := by decide +kernel
theorem dX9_cellOf_42 : decode cX9_cellOf 42 = .ok (.ireturn, 1) := by decide +kernel
set_option maxRecDepth 20000 in
theorem ggX9_isCapturable_X9_canCapture : GoodIn wsX9_isCapturable wsX9_canCapture := goodIn_r _ [6, 7, 8, 9, 5, 10, 11, 12, 13, 14, 15, 16, 17, 18, 19, 20, 21, 22, 23, 24, 25, 26, 27, 28, 29, 30, 31, 32, 33, 34, 35, 36, 37, 38, 39, 40, 41, 42, 43, 44, 45, 46, 47, 48, 49, 50, 51, 52, 53, 54, 55, 56, 57, 58, 59, 60, 61, 62, 63, 64, 65, 66, 67, 68, 69, 70, 71, 72, 73, 74, 75, 76, 77, 78, 79, 80, 81, 82, 83, 84, 85, 86, 87, 88, 89, 90, 91, 92, 93, 94, 95, 96] (by decide +kernel) (by decide +kernel)
set_option maxRecDepth 20000 in
theorem gX9_isCapturable_X9_canCapture : GoodIn wsX9_isCapturable (wsV RX9 234 RX9 yX9_canCapture wsX9_canCapture) := goodIn_app (goodIn_of _ (by decide +kernel)) ggX9_isCapturable_X9_canCapture
theorem dX9_isCapturable_0 : decode cX9_isCapturable 0 = .ok (.aload_n 0, 1) := by decide +kernel
theorem dX9_isCapturable_1 : decode cX9_isCapturable 1 = .ok (.iconst 0, 1) := by decide +kernel
theorem dX9_isCapturable_2 : decode cX9_isCapturable 2 = .ok (.putfield 55, 3) := by decide +kernel
theorem dX9_isCapturable_5 : decode cX9_isCapturable 5 = .ok (.aload_n 0, 1) := by decide +kernel
theorem dX9_isCapturable_6 : decode cX9_isCapturable 6 = .ok (.invokevirtual 234, 3) := by decide +kernel
theorem dX9_isCapturable_9 : decode cX9_isCapturable 9 = .ok (.ireturn, 1) := by decide +kernel
set_option maxRecDepth 20000 in
theorem ggX9_state_X9_within : GoodIn wsX9_state wsX9_within := goodIn_r _ [6] (by decide +kernel) (by decide +kernel)
set_option maxRecDepth 20000 in
theorem gX9_state_X9_within : GoodIn wsX9_state (va_wsS RX9 88 yX9_within wsX9_within) := goodIn_app (goodIn_of _ (by decide +kernel)) ggX9_state_X9_within
set_option maxRecDepth 20000 in
theorem ggX9_state_X9_throwsIf : GoodIn wsX9_state wsX9_throwsIf := goodIn_r _ [10, 1, 11, 12, 13, 14, 15, 16, 17, 18, 19, 20, 21, 22, 23, 24, 25, 26, 27, 28, 29, 30, 31, 32] (by decide +kernel) (by decide +kernel)
set_option maxRecDepth 20000 in
theorem gX9_state_X9_throwsIf : GoodIn wsX9_state (wsV RX9 153 RX9 yX9_throwsIf wsX9_throwsIf) := goodIn_app (goodIn_of _ (by decide +kernel)) ggX9_state_X9_throwsIf
theorem dX9_state_0 : decode cX9_state 0 = .ok (.aload_n 0, 1) := by decide +kernel
theorem dX9_state_1 : decode cX9_state 1 = .ok (.iconst 0, 1) := by decide +kernel
theorem dX9_state_2 : decode cX9_state 2 = .ok (.putfield 55, 3) := by decide +kernel
theorem dX9_state_5 : decode cX9_state 5 = .ok (.aload_n 0, 1) := by decide +kernel
theorem dX9_state_6 : decode cX9_state 6 = .ok (.iload_n 1, 1) := by decide +kernel
theorem dX9_state_7 : decode cX9_state 7 = .ok (.iconst 0, 1) := by decide +kernel
theorem dX9_state_8 : decode cX9_state 8 = .ok (.bipush 8, 2) := by decide +kernel
theorem dX9_state_10 : decode cX9_state 10 = .ok (.invokestatic 88, 3) := by decide +kernel
theorem dX9_state_13 : decode cX9_state 13 = .ok (.ifCond .ne 7, 3) := by decide +kernel
theorem dX9_state_16 : decode cX9_state 16 = .ok (.iconst 1, 1) := by decide +kernel
theorem dX9_state_17 : decode cX9_state 17 = .ok (.goto 4, 3) := by decide +kernel
theorem dX9_state_20 : decode cX9_state 20 = .ok (.iconst 0, 1) := by decide +kernel
theorem dX9_state_21 : decode cX9_state 21 = .ok (.iconst 1, 1) := by decide +kernel
theorem dX9_state_22 : decode cX9_state 22 = .ok (.invokevirtual 153, 3) := by decide +kernel
theorem dX9_state_25 : decode cX9_state 25 = .ok (.ifCond .eq 7, 3) := by decide +kernel
theorem dX9_state_28 : decode cX9_state 28 = .ok (.iconst 0, 1) := by decide +kernel
theorem dX9_state_29 : decode cX9_state 29 = .ok (.goto 9, 3) := by decide +kernel
theorem dX9_state_32 : decode cX9_state 32 = .ok (.aload_n 0, 1) := by decide +kernel
theorem dX9_state_33 : decode cX9_state 33 = .ok (.getfield 7, 3) := by decide +kernel
theorem dX9_state_36 : decode cX9_state 36 = .ok (.iload_n 1, 1) := by decide +kernel
theorem dX9_state_37 : decode cX9_state 37 = .ok (.iaload, 1) := by decide +kernel
theorem dX9_state_38 : decode cX9_state 38 = .ok (.ireturn, 1) := by decide +kernel
set_option maxRecDepth 20000 in
theorem ggX9_ofLink_X9_leanOf : GoodIn wsX9_ofLink wsX9_leanOf := goodIn_r _ [5] (by decide +kernel) (by decide +kernel)
set_option maxRecDepth 20000 in
theorem gX9_ofLink_X9_leanOf : GoodIn wsX9_ofLink (va_wsS RX9 181 yX9_leanOf wsX9_leanOf) := goodIn_app (goodIn_of _ (by decide +kernel)) ggX9_ofLink_X9_leanOf
theorem dX9_ofLink_0 : decode cX9_ofLink 0 = .ok (.iload_n 2, 1) := by decide +kernel
theorem dX9_ofLink_1 : decode cX9_ofLink 1 = .ok (.ifCond .ne 17, 3) := by decide +kernel
theorem dX9_ofLink_4 : decode cX9_ofLink 4 = .ok (.aload_n 0, 1) := by decide +kernel
theorem dX9_ofLink_5 : decode cX9_ofLink 5 = .ok (.getfield 7, 3) := by decide +kernel
theorem dX9_ofLink_8 : decode cX9_ofLink 8 = .ok (.bipush 10, 2) := by decide +kernel
theorem dX9_ofLink_10 : decode cX9_ofLink 10 = .ok (.iload_n 1, 1) := by decide +kernel
theorem dX9_ofLink_11 : decode cX9_ofLink 11 = .ok (.iadd, 1) := by decide +kernel
theorem dX9_ofLink_12 : decode cX9_ofLink 12 = .ok (.iconst 1, 1) := by decide +kernel
theorem dX9_ofLink_13 : decode cX9_ofLink 13 = .ok (.isub, 1) := by decide +kernel
theorem dX9_ofLink_14 : decode cX9_ofLink 14 = .ok (.iaload, 1) := by decide +kernel
theorem dX9_ofLink_15 : decode cX9_ofLink 15 = .ok (.goto 36, 3) := by decide +kernel
theorem dX9_ofLink_18 : decode cX9_ofLink 18 = .ok (.iload_n 2, 1) := by decide +kernel
theorem dX9_ofLink_19 : decode cX9_ofLink 19 = .ok (.iconst 1, 1) := by decide +kernel
theorem dX9_ofLink_20 : decode cX9_ofLink 20 = .ok (.if_icmp .ne 17, 3) := by decide +kernel
theorem dX9_ofLink_23 : decode cX9_ofLink 23 = .ok (.aload_n 0, 1) := by decide +kernel
theorem dX9_ofLink_24 : decode cX9_ofLink 24 = .ok (.getfield 7, 3) := by decide +kernel
theorem dX9_ofLink_27 : decode cX9_ofLink 27 = .ok (.bipush 12, 2) := by decide +kernel
theorem dX9_ofLink_29 : decode cX9_ofLink 29 = .ok (.iload_n 1, 1) := by decide +kernel
theorem dX9_ofLink_30 : decode cX9_ofLink 30 = .ok (.iadd, 1) := by decide +kernel
theorem dX9_ofLink_31 : decode cX9_ofLink 31 = .ok (.iconst 1, 1) := by decide +kernel
theorem dX9_ofLink_32 : decode cX9_ofLink 32 = .ok (.isub, 1) := by decide +kernel
theorem dX9_ofLink_33 : decode cX9_ofLink 33 = .ok (.iaload, 1) := by decide +kernel
theorem dX9_ofLink_34 : decode cX9_ofLink 34 = .ok (.goto 17, 3) := by decide +kernel
theorem dX9_ofLink_37 : decode cX9_ofLink 37 = .ok (.aload_n 0, 1) := by decide +kernel
theorem dX9_ofLink_38 : decode cX9_ofLink 38 = .ok (.getfield 7, 3) := by decide +kernel
theorem dX9_ofLink_41 : decode cX9_ofLink 41 = .ok (.bipush 10, 2) := by decide +kernel
theorem dX9_ofLink_43 : decode cX9_ofLink 43 = .ok (.iload_n 1, 1) := by decide +kernel
theorem dX9_ofLink_44 : decode cX9_ofLink 44 = .ok (.iadd, 1) := by decide +kernel
theorem dX9_ofLink_45 : decode cX9_ofLink 45 = .ok (.iconst 1, 1) := by decide +kernel
theorem dX9_ofLink_46 : decode cX9_ofLink 46 = .ok (.isub, 1) := by decide +kernel
theorem dX9_ofLink_47 : decode cX9_ofLink 47 = .ok (.iaload, 1) := by decide +kernel
theorem dX9_ofLink_48 : decode cX9_ofLink 48 = .ok (.invokestatic 181, 3) := by decide +kernel
theorem dX9_ofLink_51 : decode cX9_ofLink 51 = .ok (.ireturn, 1) := by decide +kernel
set_option maxRecDepth 20000 in
theorem ggX9_link_X9_noLink : GoodIn wsX9_link wsX9_noLink := goodIn_r _ [5, 6, 7, 8, 4, 9, 10, 11, 12, 13, 22, 23, 24, 25, 26, 27, 28, 29, 30, 31, 32, 33, 34, 35, 36, 37, 38, 39, 40, 41, 42, 43] (by decide +kernel) (by decide +kernel)
set_option maxRecDepth 20000 in
theorem gX9_link_X9_noLink : GoodIn wsX9_link (wsV RX9 231 RX9 yX9_noLink wsX9_noLink) := goodIn_app (goodIn_of _ (by decide +kernel)) ggX9_link_X9_noLink
set_option maxRecDepth 20000 in
theorem ggX9_link_X9_within : GoodIn wsX9_link wsX9_within := goodIn_r _ [9] (by decide +kernel) (by decide +kernel)
set_option maxRecDepth 20000 in
theorem gX9_link_X9_within : GoodIn wsX9_link (va_wsS RX9 88 yX9_within wsX9_within) := goodIn_app (goodIn_of _ (by decide +kernel)) ggX9_link_X9_within
set_option maxRecDepth 20000 in
theorem ggX9_link_X9_throwsIf : GoodIn wsX9_link wsX9_throwsIf := goodIn_r _ [13, 6, 22, 23, 24, 25, 26, 27, 28, 29, 30, 31, 32, 33, 34, 35, 36, 37, 38, 39, 40, 41, 42, 43] (by decide +kernel) (by decide +kernel)
set_option maxRecDepth 20000 in
theorem gX9_link_X9_throwsIf : GoodIn wsX9_link (wsV RX9 153 RX9 yX9_throwsIf wsX9_throwsIf) := goodIn_app (goodIn_of _ (by decide +kernel)) ggX9_link_X9_throwsIf
set_option maxRecDepth 20000 in
theorem ggX9_link_X9_ofLink : GoodIn wsX9_link wsX9_ofLink := goodIn_r _ [17, 18, 19, 20, 4, 21, 22, 23, 24, 25, 26, 27, 28, 29, 30, 31, 32, 33, 34, 35, 36, 37, 38, 39, 40, 41, 42, 43] (by decide +kernel) (by decide +kernel)
set_option maxRecDepth 20000 in
theorem gX9_link_X9_ofLink : GoodIn wsX9_link (wsV RX9 237 RX9 yX9_ofLink wsX9_ofLink) := goodIn_app (goodIn_of _ (by decide +kernel)) ggX9_link_X9_ofLink
theorem dX9_link_0 : decode cX9_link 0 = .ok (.aload_n 0, 1) := by decide +kernel
theorem dX9_link_1 : decode cX9_link 1 = .ok (.iload_n 1, 1) := by decide +kernel
theorem dX9_link_2 : decode cX9_link 2 = .ok (.invokevirtual 231, 3) := by decide +kernel
theorem dX9_link_5 : decode cX9_link 5 = .ok (.ifCond .ne 25, 3) := by decide +kernel
theorem dX9_link_8 : decode cX9_link 8 = .ok (.aload_n 0, 1) := by decide +kernel
theorem dX9_link_9 : decode cX9_link 9 = .ok (.iload_n 2, 1) := by decide +kernel
theorem dX9_link_10 : decode cX9_link 10 = .ok (.iconst 0, 1) := by decide +kernel
theorem dX9_link_11 : decode cX9_link 11 = .ok (.iconst 2, 1) := by decide +kernel
theorem dX9_link_12 : decode cX9_link 12 = .ok (.invokestatic 88, 3) := by decide +kernel
theorem dX9_link_15 : decode cX9_link 15 = .ok (.ifCond .ne 7, 3) := by decide +kernel
theorem dX9_link_18 : decode cX9_link 18 = .ok (.iconst 1, 1) := by decide +kernel
theorem dX9_link_19 : decode cX9_link 19 = .ok (.goto 4, 3) := by decide +kernel
theorem dX9_link_22 : decode cX9_link 22 = .ok (.iconst 0, 1) := by decide +kernel
theorem dX9_link_23 : decode cX9_link 23 = .ok (.iconst 2, 1) := by decide +kernel
theorem dX9_link_24 : decode cX9_link 24 = .ok (.invokevirtual 153, 3) := by decide +kernel
theorem dX9_link_27 : decode cX9_link 27 = .ok (.ifCond .eq 7, 3) := by decide +kernel
theorem dX9_link_30 : decode cX9_link 30 = .ok (.iconst 0, 1) := by decide +kernel
theorem dX9_link_31 : decode cX9_link 31 = .ok (.goto 9, 3) := by decide +kernel
theorem dX9_link_34 : decode cX9_link 34 = .ok (.aload_n 0, 1) := by decide +kernel
theorem dX9_link_35 : decode cX9_link 35 = .ok (.iload_n 1, 1) := by decide +kernel
theorem dX9_link_36 : decode cX9_link 36 = .ok (.iload_n 2, 1) := by decide +kernel
theorem dX9_link_37 : decode cX9_link 37 = .ok (.invokevirtual 237, 3) := by decide +kernel
theorem dX9_link_40 : decode cX9_link 40 = .ok (.ireturn, 1) := by decide +kernel
set_option maxRecDepth 20000 in
theorem ggX9_energyOf_X9_cosineOf : GoodIn wsX9_energyOf wsX9_cosineOf := goodIn_r _ [9, 10, 11, 8, 12, 13, 14, 15, 16, 17, 18] (by decide +kernel) (by decide +kernel)
set_option maxRecDepth 20000 in
theorem gX9_energyOf_X9_cosineOf : GoodIn wsX9_energyOf (va_wsS RX9 184 yX9_cosineOf wsX9_cosineOf) := goodIn_app (goodIn_of _ (by decide +kernel)) ggX9_energyOf_X9_cosineOf
theorem dX9_energyOf_0 : decode cX9_energyOf 0 = .ok (.aload_n 0, 1) := by decide +kernel
theorem dX9_energyOf_1 : decode cX9_energyOf 1 = .ok (.getfield 7, 3) := by decide +kernel
theorem dX9_energyOf_4 : decode cX9_energyOf 4 = .ok (.bipush 12, 2) := by decide +kernel
theorem dX9_energyOf_6 : decode cX9_energyOf 6 = .ok (.iload_n 1, 1) := by decide +kernel
theorem dX9_energyOf_7 : decode cX9_energyOf 7 = .ok (.iadd, 1) := by decide +kernel
theorem dX9_energyOf_8 : decode cX9_energyOf 8 = .ok (.iaload, 1) := by decide +kernel
theorem dX9_energyOf_9 : decode cX9_energyOf 9 = .ok (.i2l, 1) := by decide +kernel
theorem dX9_energyOf_10 : decode cX9_energyOf 10 = .ok (.lstore_n 2, 1) := by decide +kernel
theorem dX9_energyOf_11 : decode cX9_energyOf 11 = .ok (.lload_n 2, 1) := by decide +kernel
theorem dX9_energyOf_12 : decode cX9_energyOf 12 = .ok (.lload_n 2, 1) := by decide +kernel
theorem dX9_energyOf_13 : decode cX9_energyOf 13 = .ok (.lmul, 1) := by decide +kernel
theorem dX9_energyOf_14 : decode cX9_energyOf 14 = .ok (.ldc2_w 240, 3) := by decide +kernel
theorem dX9_energyOf_17 : decode cX9_energyOf 17 = .ok (.ldiv, 1) := by decide +kernel
theorem dX9_energyOf_18 : decode cX9_energyOf 18 = .ok (.aload_n 0, 1) := by decide +kernel
theorem dX9_energyOf_19 : decode cX9_energyOf 19 = .ok (.getfield 13, 3) := by decide +kernel
theorem dX9_energyOf_22 : decode cX9_energyOf 22 = .ok (.iconst 1, 1) := by decide +kernel
theorem dX9_energyOf_23 : decode cX9_energyOf 23 = .ok (.iload_n 1, 1) := by decide +kernel
theorem dX9_energyOf_24 : decode cX9_energyOf 24 = .ok (.iadd, 1) := by decide +kernel
theorem dX9_energyOf_25 : decode cX9_energyOf 25 = .ok (.iaload, 1) := by decide +kernel
theorem dX9_energyOf_26 : decode cX9_energyOf 26 = .ok (.i2l, 1) := by decide +kernel
theorem dX9_energyOf_27 : decode cX9_energyOf 27 = .ok (.aload_n 0, 1) := by decide +kernel
theorem dX9_energyOf_28 : decode cX9_energyOf 28 = .ok (.getfield 7, 3) := by decide +kernel
theorem dX9_energyOf_31 : decode cX9_energyOf 31 = .ok (.bipush 10, 2) := by decide +kernel
theorem dX9_energyOf_33 : decode cX9_energyOf 33 = .ok (.iload_n 1, 1) := by decide +kernel
theorem dX9_energyOf_34 : decode cX9_energyOf 34 = .ok (.iadd, 1) := by decide +kernel
theorem dX9_energyOf_35 : decode cX9_energyOf 35 = .ok (.iaload, 1) := by decide +kernel
theorem dX9_energyOf_36 : decode cX9_energyOf 36 = .ok (.invokestatic 184, 3) := by decide +kernel
theorem dX9_energyOf_39 : decode cX9_energyOf 39 = .ok (.i2l, 1) := by decide +kernel
theorem dX9_energyOf_40 : decode cX9_energyOf 40 = .ok (.lmul, 1) := by decide +kernel
theorem dX9_energyOf_41 : decode cX9_energyOf 41 = .ok (.ldc2_w 242, 3) := by decide +kernel
theorem dX9_energyOf_44 : decode cX9_energyOf 44 = .ok (.lmul, 1) := by decide +kernel
theorem dX9_energyOf_45 : decode cX9_energyOf 45 = .ok (.ldc2_w 244, 3) := by decide +kernel
theorem dX9_energyOf_48 : decode cX9_energyOf 48 = .ok (.ldiv, 1) := by decide +kernel
theorem dX9_energyOf_49 : decode cX9_energyOf 49 = .ok (.ladd, 1) := by decide +kernel
theorem dX9_energyOf_50 : decode cX9_energyOf 50 = .ok (.lreturn, 1) := by decide +kernel
set_option maxRecDepth 20000 in
theorem ggX9_energy_X9_noLink : GoodIn wsX9_energy wsX9_noLink := goodIn_r _ [5, 6, 7, 8, 4, 9, 10, 11, 12, 13, 35, 36, 37, 38, 39, 40, 41, 42, 43, 44, 45, 46, 47, 48, 49, 50, 51, 52, 53, 54, 55, 56] (by decide +kernel) (by decide +kernel)
set_option maxRecDepth 20000 in
theorem gX9_energy_X9_noLink : GoodIn wsX9_energy (wsV RX9 231 RX9 yX9_noLink wsX9_noLink) := goodIn_app (goodIn_of _ (by decide +kernel)) ggX9_energy_X9_noLink
set_option maxRecDepth 20000 in
theorem ggX9_energy_X9_energyOf : GoodIn wsX9_energy wsX9_energyOf := goodIn_r _ [17, 18, 19, 20, 21, 22, 23, 24, 4, 25, 26, 27, 28, 29, 30, 31, 32, 33, 34, 35, 36, 37, 38, 39, 40, 41, 42, 43, 44, 45, 46, 47, 48, 49, 50, 51, 52, 53, 54, 55, 56] (by decide +kernel) (by decide +kernel)
set_option maxRecDepth 20000 in
theorem gX9_energy_X9_energyOf : GoodIn wsX9_energy (wsV RX9 246 RX9 yX9_energyOf wsX9_energyOf) := goodIn_app (goodIn_of _ (by decide +kernel)) ggX9_energy_X9_energyOf
theorem dX9_energy_0 : decode cX9_energy 0 = .ok (.aload_n 0, 1) := by decide +kernel
theorem dX9_energy_1 : decode cX9_energy 1 = .ok (.iload_n 1, 1) := by decide +kernel
theorem dX9_energy_2 : decode cX9_energy 2 = .ok (.invokevirtual 231, 3) := by decide +kernel
theorem dX9_energy_5 : decode cX9_energy 5 = .ok (.ifCond .eq 7, 3) := by decide +kernel
theorem dX9_energy_8 : decode cX9_energy 8 = .ok (.lconst 0, 1) := by decide +kernel
theorem dX9_energy_9 : decode cX9_energy 9 = .ok (.goto 10, 3) := by decide +kernel
theorem dX9_energy_12 : decode cX9_energy 12 = .ok (.aload_n 0, 1) := by decide +kernel
theorem dX9_energy_13 : decode cX9_energy 13 = .ok (.iload_n 1, 1) := by decide +kernel
theorem dX9_energy_14 : decode cX9_energy 14 = .ok (.iconst 1, 1) := by decide +kernel
theorem dX9_energy_15 : decode cX9_energy 15 = .ok (.isub, 1) := by decide +kernel
theorem dX9_energy_16 : decode cX9_energy 16 = .ok (.invokevirtual 246, 3) := by decide +kernel
theorem dX9_energy_19 : decode cX9_energy 19 = .ok (.lreturn, 1) := by decide +kernel
set_option maxRecDepth 20000 in
theorem ggX9_target_X9_noLink : GoodIn wsX9_target wsX9_noLink := goodIn_r _ [6, 7, 8, 9, 5, 10, 11, 12, 13, 14, 15, 16, 17, 18, 19, 20, 21, 22, 23, 24, 25, 26, 27, 28, 29, 30, 31, 32, 33, 34, 35, 36] (by decide +kernel) (by decide +kernel)
set_option maxRecDepth 20000 in
theorem gX9_target_X9_noLink : GoodIn wsX9_target (wsV RX9 231 RX9 yX9_noLink wsX9_noLink) := goodIn_app (goodIn_of _ (by decide +kernel)) ggX9_target_X9_noLink
theorem dX9_target_0 : decode cX9_target 0 = .ok (.aload_n 0, 1) := by decide +kernel
theorem dX9_target_1 : decode cX9_target 1 = .ok (.iload_n 1, 1) := by decide +kernel
theorem dX9_target_2 : decode cX9_target 2 = .ok (.invokevirtual 231, 3) := by decide +kernel
theorem dX9_target_5 : decode cX9_target 5 = .ok (.ifCond .eq 7, 3) := by decide +kernel
theorem dX9_target_8 : decode cX9_target 8 = .ok (.iconst 0, 1) := by decide +kernel
theorem dX9_target_9 : decode cX9_target 9 = .ok (.goto 17, 3) := by decide +kernel
theorem dX9_target_12 : decode cX9_target 12 = .ok (.aload_n 0, 1) := by decide +kernel
theorem dX9_target_13 : decode cX9_target 13 = .ok (.getfield 13, 3) := by decide +kernel
theorem dX9_target_16 : decode cX9_target 16 = .ok (.iconst 1, 1) := by decide +kernel
theorem dX9_target_17 : decode cX9_target 17 = .ok (.iload_n 1, 1) := by decide +kernel
theorem dX9_target_18 : decode cX9_target 18 = .ok (.iadd, 1) := by decide +kernel
theorem dX9_target_19 : decode cX9_target 19 = .ok (.iconst 1, 1) := by decide +kernel
theorem dX9_target_20 : decode cX9_target 20 = .ok (.isub, 1) := by decide +kernel
theorem dX9_target_21 : decode cX9_target 21 = .ok (.iaload, 1) := by decide +kernel
theorem dX9_target_22 : decode cX9_target 22 = .ok (.sipush 10430, 3) := by decide +kernel
theorem dX9_target_25 : decode cX9_target 25 = .ok (.imul, 1) := by decide +kernel
theorem dX9_target_26 : decode cX9_target 26 = .ok (.ireturn, 1) := by decide +kernel
set_option maxRecDepth 20000 in
theorem ggX9_pushNow_X9_balancing : GoodIn wsX9_pushNow wsX9_balancing := goodIn_r _ [8, 2, 1, 9, 10, 7, 11, 30, 31, 32, 33, 34, 35, 36, 37, 38, 39, 40, 41, 42, 43, 44, 45, 46, 47, 48, 49, 50, 51] (by decide +kernel) (by decide +kernel)
set_option maxRecDepth 20000 in
theorem gX9_pushNow_X9_balancing : GoodIn wsX9_pushNow (wsV RX9 194 RX9 yX9_balancing wsX9_balancing) := goodIn_app (goodIn_of _ (by decide +kernel)) ggX9_pushNow_X9_balancing
set_option maxRecDepth 20000 in
theorem ggX9_pushNow_X9_cosineOf : GoodIn wsX9_pushNow wsX9_cosineOf := goodIn_r _ [14, 15, 16, 7, 17, 18, 19, 20, 21, 22, 23] (by decide +kernel) (by decide +kernel)
set_option maxRecDepth 20000 in
theorem gX9_pushNow_X9_cosineOf : GoodIn wsX9_pushNow (va_wsS RX9 184 yX9_cosineOf wsX9_cosineOf) := goodIn_app (goodIn_of _ (by decide +kernel)) ggX9_pushNow_X9_cosineOf
set_option maxRecDepth 20000 in
theorem ggX9_pushNow_X9_energyOf : GoodIn wsX9_pushNow wsX9_energyOf := goodIn_r _ [27, 1, 28, 2, 3, 29, 12, 13, 7, 14, 15, 16, 17, 18, 19, 20, 21, 22, 23, 30, 31, 32, 33, 34, 35, 36, 37, 38, 39, 40, 41, 42, 43, 44, 45, 46, 47, 48, 49, 50, 51] (by decide +kernel) (by decide +kernel)
set_option maxRecDepth 20000 in
theorem gX9_pushNow_X9_energyOf : GoodIn wsX9_pushNow (wsV RX9 246 RX9 yX9_energyOf wsX9_energyOf) := goodIn_app (goodIn_of _ (by decide +kernel)) ggX9_pushNow_X9_energyOf
theorem dX9_pushNow_0 : decode cX9_pushNow 0 = .ok (.aload_n 0, 1) := by decide +kernel
theorem dX9_pushNow_1 : decode cX9_pushNow 1 = .ok (.getfield 7, 3) := by decide +kernel
theorem dX9_pushNow_4 : decode cX9_pushNow 4 = .ok (.iconst 1, 1) := by decide +kernel
theorem dX9_pushNow_5 : decode cX9_pushNow 5 = .ok (.iaload, 1) := by decide +kernel
theorem dX9_pushNow_6 : decode cX9_pushNow 6 = .ok (.iconst 2, 1) := by decide +kernel
theorem dX9_pushNow_7 : decode cX9_pushNow 7 = .ok (.if_icmp .ne 12, 3) := by decide +kernel
theorem dX9_pushNow_10 : decode cX9_pushNow 10 = .ok (.aload_n 0, 1) := by decide +kernel
theorem dX9_pushNow_11 : decode cX9_pushNow 11 = .ok (.aload_n 0, 1) := by decide +kernel
theorem dX9_pushNow_12 : decode cX9_pushNow 12 = .ok (.getfield 7, 3) := by decide +kernel
theorem dX9_pushNow_15 : decode cX9_pushNow 15 = .ok (.invokevirtual 194, 3) := by decide +kernel
theorem dX9_pushNow_18 : decode cX9_pushNow 18 = .ok (.ireturn, 1) := by decide +kernel
theorem dX9_pushNow_19 : decode cX9_pushNow 19 = .ok (.aload_n 0, 1) := by decide +kernel
theorem dX9_pushNow_20 : decode cX9_pushNow 20 = .ok (.getfield 7, 3) := by decide +kernel
theorem dX9_pushNow_23 : decode cX9_pushNow 23 = .ok (.iconst 1, 1) := by decide +kernel
theorem dX9_pushNow_24 : decode cX9_pushNow 24 = .ok (.iaload, 1) := by decide +kernel
theorem dX9_pushNow_25 : decode cX9_pushNow 25 = .ok (.iconst 1, 1) := by decide +kernel
theorem dX9_pushNow_26 : decode cX9_pushNow 26 = .ok (.if_icmp .eq 5, 3) := by decide +kernel
theorem dX9_pushNow_29 : decode cX9_pushNow 29 = .ok (.iconst 0, 1) := by decide +kernel
theorem dX9_pushNow_30 : decode cX9_pushNow 30 = .ok (.ireturn, 1) := by decide +kernel
theorem dX9_pushNow_31 : decode cX9_pushNow 31 = .ok (.aload_n 0, 1) := by decide +kernel
theorem dX9_pushNow_32 : decode cX9_pushNow 32 = .ok (.getfield 7, 3) := by decide +kernel
theorem dX9_pushNow_35 : decode cX9_pushNow 35 = .ok (.iconst 5, 1) := by decide +kernel
theorem dX9_pushNow_36 : decode cX9_pushNow 36 = .ok (.iaload, 1) := by decide +kernel
theorem dX9_pushNow_37 : decode cX9_pushNow 37 = .ok (.istore_n 1, 1) := by decide +kernel
theorem dX9_pushNow_38 : decode cX9_pushNow 38 = .ok (.aload_n 0, 1) := by decide +kernel
theorem dX9_pushNow_39 : decode cX9_pushNow 39 = .ok (.getfield 7, 3) := by decide +kernel
theorem dX9_pushNow_42 : decode cX9_pushNow 42 = .ok (.bipush 12, 2) := by decide +kernel
theorem dX9_pushNow_44 : decode cX9_pushNow 44 = .ok (.iaload, 1) := by decide +kernel
theorem dX9_pushNow_45 : decode cX9_pushNow 45 = .ok (.aload_n 0, 1) := by decide +kernel
theorem dX9_pushNow_46 : decode cX9_pushNow 46 = .ok (.getfield 7, 3) := by decide +kernel
theorem dX9_pushNow_49 : decode cX9_pushNow 49 = .ok (.bipush 10, 2) := by decide +kernel
theorem dX9_pushNow_51 : decode cX9_pushNow 51 = .ok (.iaload, 1) := by decide +kernel
theorem dX9_pushNow_52 : decode cX9_pushNow 52 = .ok (.invokestatic 184, 3) := by decide +kernel
theorem dX9_pushNow_55 : decode cX9_pushNow 55 = .ok (.imul, 1) := by decide +kernel
theorem dX9_pushNow_56 : decode cX9_pushNow 56 = .ok (.istore_n 2, 1) := by decide +kernel
theorem dX9_pushNow_57 : decode cX9_pushNow 57 = .ok (.iload_n 2, 1) := by decide +kernel
theorem dX9_pushNow_58 : decode cX9_pushNow 58 = .ok (.ifCond .ne 5, 3) := by decide +kernel
theorem dX9_pushNow_61 : decode cX9_pushNow 61 = .ok (.iload_n 1, 1) := by decide +kernel
theorem dX9_pushNow_62 : decode cX9_pushNow 62 = .ok (.ireturn, 1) := by decide +kernel
theorem dX9_pushNow_63 : decode cX9_pushNow 63 = .ok (.aload_n 0, 1) := by decide +kernel
theorem dX9_pushNow_64 : decode cX9_pushNow 64 = .ok (.iconst 0, 1) := by decide +kernel
theorem dX9_pushNow_65 : decode cX9_pushNow 65 = .ok (.invokevirtual 246, 3) := by decide +kernel
theorem dX9_pushNow_68 : decode cX9_pushNow 68 = .ok (.aload_n 0, 1) := by decide +kernel
theorem dX9_pushNow_69 : decode cX9_pushNow 69 = .ok (.getfield 13, 3) := by decide +kernel
theorem dX9_pushNow_72 : decode cX9_pushNow 72 = .ok (.iconst 1, 1) := by decide +kernel
theorem dX9_pushNow_73 : decode cX9_pushNow 73 = .ok (.iaload, 1) := by decide +kernel
theorem dX9_pushNow_74 : decode cX9_pushNow 74 = .ok (.i2l, 1) := by decide +kernel
theorem dX9_pushNow_75 : decode cX9_pushNow 75 = .ok (.ldc2_w 242, 3) := by decide +kernel
theorem dX9_pushNow_78 : decode cX9_pushNow 78 = .ok (.lmul, 1) := by decide +kernel
theorem dX9_pushNow_79 : decode cX9_pushNow 79 = .ok (.lcmp, 1) := by decide +kernel
theorem dX9_pushNow_80 : decode cX9_pushNow 80 = .ok (.ifCond .ge 7, 3) := by decide +kernel
theorem dX9_pushNow_83 : decode cX9_pushNow 83 = .ok (.iconst 1, 1) := by decide +kernel
theorem dX9_pushNow_84 : decode cX9_pushNow 84 = .ok (.goto 4, 3) := by decide +kernel
theorem dX9_pushNow_87 : decode cX9_pushNow 87 = .ok (.iconst 0, 1) := by decide +kernel
theorem dX9_pushNow_88 : decode cX9_pushNow 88 = .ok (.istore_n 3, 1) := by decide +kernel
theorem dX9_pushNow_89 : decode cX9_pushNow 89 = .ok (.iload_n 2, 1) := by decide +kernel
theorem dX9_pushNow_90 : decode cX9_pushNow 90 = .ok (.ifCond .le 7, 3) := by decide +kernel
theorem dX9_pushNow_93 : decode cX9_pushNow 93 = .ok (.iconst 1, 1) := by decide +kernel
theorem dX9_pushNow_94 : decode cX9_pushNow 94 = .ok (.goto 4, 3) := by decide +kernel
theorem dX9_pushNow_97 : decode cX9_pushNow 97 = .ok (.iconst 0, 1) := by decide +kernel
theorem dX9_pushNow_98 : decode cX9_pushNow 98 = .ok (.iload_n 3, 1) := by decide +kernel
theorem dX9_pushNow_99 : decode cX9_pushNow 99 = .ok (.if_icmp .ne 8, 3) := by decide +kernel
theorem dX9_pushNow_102 : decode cX9_pushNow 102 = .ok (.iload_n 1, 1) := by decide +kernel
theorem dX9_pushNow_103 : decode cX9_pushNow 103 = .ok (.ineg, 1) := by decide +kernel
theorem dX9_pushNow_104 : decode cX9_pushNow 104 = .ok (.goto 4, 3) := by decide +kernel
theorem dX9_pushNow_107 : decode cX9_pushNow 107 = .ok (.iload_n 1, 1) := by decide +kernel
theorem dX9_pushNow_108 : decode cX9_pushNow 108 = .ok (.ireturn, 1) := by decide +kernel
set_option maxRecDepth 20000 in
theorem ggX9_push_X9_pushNow : GoodIn wsX9_push wsX9_pushNow := goodIn_r _ [6, 7, 8, 9, 10, 11, 12, 5, 13, 14, 15, 16, 17, 18, 19, 20, 21, 22, 23, 24, 25, 26, 27, 28, 29, 30, 31, 32, 33, 34, 35, 36, 37, 38, 39, 40, 41, 42, 43, 44, 45, 46, 47, 48, 49, 50, 51, 52, 53, 54, 55, 56] (by decide +kernel) (by decide +kernel)
set_option maxRecDepth 20000 in
theorem gX9_push_X9_pushNow : GoodIn wsX9_push (wsV RX9 250 RX9 yX9_pushNow wsX9_pushNow) := goodIn_app (goodIn_of _ (by decide +kernel)) ggX9_push_X9_pushNow
theorem dX9_push_0 : decode cX9_push 0 = .ok (.aload_n 0, 1) := by decide +kernel
theorem dX9_push_1 : decode cX9_push 1 = .ok (.iconst 0, 1) := by decide +kernel
theorem dX9_push_2 : decode cX9_push 2 = .ok (.putfield 55, 3) := by decide +kernel
theorem dX9_push_5 : decode cX9_push 5 = .ok (.aload_n 0, 1) := by decide +kernel
theorem dX9_push_6 : decode cX9_push 6 = .ok (.invokevirtual 250, 3) := by decide +kernel
theorem dX9_push_9 : decode cX9_push 9 = .ok (.ireturn, 1) := by decide +kernel
theorem dX9_stopReason_0 : decode cX9_stopReason 0 = .ok (.aload_n 0, 1) := by decide +kernel
theorem dX9_stopReason_1 : decode cX9_stopReason 1 = .ok (.iconst 0, 1) := by decide +kernel
theorem dX9_stopReason_2 : decode cX9_stopReason 2 = .ok (.putfield 55, 3) := by decide +kernel
theorem dX9_stopReason_5 : decode cX9_stopReason 5 = .ok (.aload_n 0, 1) := by decide +kernel
theorem dX9_stopReason_6 : decode cX9_stopReason 6 = .ok (.getfield 7, 3) := by decide +kernel
theorem dX9_stopReason_9 : decode cX9_stopReason 9 = .ok (.bipush 9, 2) := by decide +kernel
theorem dX9_stopReason_11 : decode cX9_stopReason 11 = .ok (.iaload, 1) := by decide +kernel
theorem dX9_stopReason_12 : decode cX9_stopReason 12 = .ok (.ireturn, 1) := by decide +kernel
theorem dX9_switchesOf_0 : decode cX9_switchesOf 0 = .ok (.iconst 0, 1) := by decide +kernel
theorem dX9_switchesOf_1 : decode cX9_switchesOf 1 = .ok (.istore_n 2, 1) := by decide +kernel
theorem dX9_switchesOf_2 : decode cX9_switchesOf 2 = .ok (.aload_n 0, 1) := by decide +kernel
theorem dX9_switchesOf_3 : decode cX9_switchesOf 3 = .ok (.getfield 7, 3) := by decide +kernel
theorem dX9_switchesOf_6 : decode cX9_switchesOf 6 = .ok (.iconst 0, 1) := by decide +kernel
theorem dX9_switchesOf_7 : decode cX9_switchesOf 7 = .ok (.iaload, 1) := by decide +kernel
theorem dX9_switchesOf_8 : decode cX9_switchesOf 8 = .ok (.istore_n 3, 1) := by decide +kernel
theorem dX9_switchesOf_9 : decode cX9_switchesOf 9 = .ok (.iload_n 3, 1) := by decide +kernel
theorem dX9_switchesOf_10 : decode cX9_switchesOf 10 = .ok (.ifCond .le 37, 3) := by decide +kernel
theorem dX9_switchesOf_13 : decode cX9_switchesOf 13 = .ok (.iload_n 3, 1) := by decide +kernel
theorem dX9_switchesOf_14 : decode cX9_switchesOf 14 = .ok (.aload_n 0, 1) := by decide +kernel
theorem dX9_switchesOf_15 : decode cX9_switchesOf 15 = .ok (.getfield 7, 3) := by decide +kernel
theorem dX9_switchesOf_18 : decode cX9_switchesOf 18 = .ok (.iconst 0, 1) := by decide +kernel
theorem dX9_switchesOf_19 : decode cX9_switchesOf 19 = .ok (.iaload, 1) := by decide +kernel
theorem dX9_switchesOf_20 : decode cX9_switchesOf 20 = .ok (.iload_n 1, 1) := by decide +kernel
theorem dX9_switchesOf_21 : decode cX9_switchesOf 21 = .ok (.isub, 1) := by decide +kernel
theorem dX9_switchesOf_22 : decode cX9_switchesOf 22 = .ok (.if_icmp .le 25, 3) := by decide +kernel
theorem dX9_switchesOf_25 : decode cX9_switchesOf 25 = .ok (.iload_n 2, 1) := by decide +kernel
theorem dX9_switchesOf_26 : decode cX9_switchesOf 26 = .ok (.aload_n 0, 1) := by decide +kernel
theorem dX9_switchesOf_27 : decode cX9_switchesOf 27 = .ok (.getfield 7, 3) := by decide +kernel
theorem dX9_switchesOf_30 : decode cX9_switchesOf 30 = .ok (.bipush 14, 2) := by decide +kernel
theorem dX9_switchesOf_32 : decode cX9_switchesOf 32 = .ok (.iload_n 3, 1) := by decide +kernel
theorem dX9_switchesOf_33 : decode cX9_switchesOf 33 = .ok (.sipush 200, 3) := by decide +kernel
theorem dX9_switchesOf_36 : decode cX9_switchesOf 36 = .ok (.irem, 1) := by decide +kernel
theorem dX9_switchesOf_37 : decode cX9_switchesOf 37 = .ok (.iadd, 1) := by decide +kernel
theorem dX9_switchesOf_38 : decode cX9_switchesOf 38 = .ok (.iaload, 1) := by decide +kernel
theorem dX9_switchesOf_39 : decode cX9_switchesOf 39 = .ok (.iadd, 1) := by decide +kernel
theorem dX9_switchesOf_40 : decode cX9_switchesOf 40 = .ok (.istore_n 2, 1) := by decide +kernel
theorem dX9_switchesOf_41 : decode cX9_switchesOf 41 = .ok (.iinc 3 (-1), 3) := by decide +kernel
theorem dX9_switchesOf_44 : decode cX9_switchesOf 44 = .ok (.goto (-35), 3) := by decide +kernel
theorem dX9_switchesOf_47 : decode cX9_switchesOf 47 = .ok (.iload_n 2, 1) := by decide +kernel
theorem dX9_switchesOf_48 : decode cX9_switchesOf 48 = .ok (.ireturn, 1) := by decide +kernel
set_option maxRecDepth 20000 in
theorem ggX9_switchesIn_X9_within : GoodIn wsX9_switchesIn wsX9_within := goodIn_r _ [5] (by decide +kernel) (by decide +kernel)
set_option maxRecDepth 20000 in
theorem gX9_switchesIn_X9_within : GoodIn wsX9_switchesIn (va_wsS RX9 88 yX9_within wsX9_within) := goodIn_app (goodIn_of _ (by decide +kernel)) ggX9_switchesIn_X9_within
set_option maxRecDepth 20000 in
theorem ggX9_switchesIn_X9_throwsIf : GoodIn wsX9_switchesIn wsX9_throwsIf := goodIn_r _ [9, 1, 15, 16, 17, 18, 19, 20, 21, 22, 23, 24, 25, 26, 27, 28, 29, 30, 31, 32, 33, 34, 35, 36] (by decide +kernel) (by decide +kernel)
set_option maxRecDepth 20000 in
theorem gX9_switchesIn_X9_throwsIf : GoodIn wsX9_switchesIn (wsV RX9 153 RX9 yX9_throwsIf wsX9_throwsIf) := goodIn_app (goodIn_of _ (by decide +kernel)) ggX9_switchesIn_X9_throwsIf
set_option maxRecDepth 20000 in
theorem ggX9_switchesIn_X9_switchesOf : GoodIn wsX9_switchesIn wsX9_switchesOf := goodIn_r _ [13, 14, 15, 16, 17, 18, 19, 20, 21, 22, 23, 24, 25, 26, 27, 28, 29, 30, 31, 32, 33, 34, 35, 36] (by decide +kernel) (by decide +kernel)
set_option maxRecDepth 20000 in
theorem gX9_switchesIn_X9_switchesOf : GoodIn wsX9_switchesIn (wsV RX9 253 RX9 yX9_switchesOf wsX9_switchesOf) := goodIn_app (goodIn_of _ (by decide +kernel)) ggX9_switchesIn_X9_switchesOf
theorem dX9_switchesIn_0 : decode cX9_switchesIn 0 = .ok (.aload_n 0, 1) := by decide +kernel
theorem dX9_switchesIn_1 : decode cX9_switchesIn 1 = .ok (.iconst 0, 1) := by decide +kernel
theorem dX9_switchesIn_2 : decode cX9_switchesIn 2 = .ok (.putfield 55, 3) := by decide +kernel
theorem dX9_switchesIn_5 : decode cX9_switchesIn 5 = .ok (.aload_n 0, 1) := by decide +kernel
theorem dX9_switchesIn_6 : decode cX9_switchesIn 6 = .ok (.iload_n 1, 1) := by decide +kernel
theorem dX9_switchesIn_7 : decode cX9_switchesIn 7 = .ok (.iconst 1, 1) := by decide +kernel
theorem dX9_switchesIn_8 : decode cX9_switchesIn 8 = .ok (.sipush 200, 3) := by decide +kernel
theorem dX9_switchesIn_11 : decode cX9_switchesIn 11 = .ok (.invokestatic 88, 3) := by decide +kernel
theorem dX9_switchesIn_14 : decode cX9_switchesIn 14 = .ok (.ifCond .ne 7, 3) := by decide +kernel
theorem dX9_switchesIn_17 : decode cX9_switchesIn 17 = .ok (.iconst 1, 1) := by decide +kernel
theorem dX9_switchesIn_18 : decode cX9_switchesIn 18 = .ok (.goto 4, 3) := by decide +kernel
theorem dX9_switchesIn_21 : decode cX9_switchesIn 21 = .ok (.iconst 0, 1) := by decide +kernel
theorem dX9_switchesIn_22 : decode cX9_switchesIn 22 = .ok (.iconst 1, 1) := by decide +kernel
theorem dX9_switchesIn_23 : decode cX9_switchesIn 23 = .ok (.invokevirtual 153, 3) := by decide +kernel
theorem dX9_switchesIn_26 : decode cX9_switchesIn 26 = .ok (.ifCond .eq 7, 3) := by decide +kernel
theorem dX9_switchesIn_29 : decode cX9_switchesIn 29 = .ok (.iconst 0, 1) := by decide +kernel
theorem dX9_switchesIn_30 : decode cX9_switchesIn 30 = .ok (.goto 8, 3) := by decide +kernel
theorem dX9_switchesIn_33 : decode cX9_switchesIn 33 = .ok (.aload_n 0, 1) := by decide +kernel
theorem dX9_switchesIn_34 : decode cX9_switchesIn 34 = .ok (.iload_n 1, 1) := by decide +kernel
theorem dX9_switchesIn_35 : decode cX9_switchesIn 35 = .ok (.invokevirtual 253, 3) := by decide +kernel
theorem dX9_switchesIn_38 : decode cX9_switchesIn 38 = .ok (.ireturn, 1) := by decide +kernel
set_option maxRecDepth 20000 in
theorem ggX9_switches_X9_canCapture : GoodIn wsX9_switches wsX9_canCapture := goodIn_r _ [7, 8, 9, 10, 6, 11, 12, 1, 2, 13, 14, 15, 16, 17, 18, 19, 20, 21, 22, 23, 24, 25, 26, 27, 28, 29, 30, 31, 32, 33, 34, 35, 36, 37, 38, 39, 40, 41, 42, 43, 44, 45, 46, 47, 48, 49, 50, 51, 52, 53, 54, 55, 56, 57, 58, 59, 60, 61, 62, 63, 64, 65, 66, 67, 68, 69, 70, 71, 72, 73, 78, 79, 80, 81, 82, 83, 84, 85, 86, 87, 88, 89, 90, 91, 92, 93, 94, 95, 96, 97, 98, 99] (by decide +kernel) (by decide +kernel)
set_option maxRecDepth 20000 in
theorem gX9_switches_X9_canCapture : GoodIn wsX9_switches (wsV RX9 234 RX9 yX9_canCapture wsX9_canCapture) := goodIn_app (goodIn_of _ (by decide +kernel)) ggX9_switches_X9_canCapture
set_option maxRecDepth 20000 in
theorem ggX9_switches_X9_leansBeyond : GoodIn wsX9_switches wsX9_leansBeyond := goodIn_r _ [52, 27, 28, 6, 29, 47, 48, 49] (by decide +kernel) (by decide +kernel)
set_option maxRecDepth 20000 in
theorem gX9_switches_X9_leansBeyond : GoodIn wsX9_switches (va_wsS RX9 202 yX9_leansBeyond wsX9_leansBeyond) := goodIn_app (goodIn_of _ (by decide +kernel)) ggX9_switches_X9_leansBeyond
set_option maxRecDepth 20000 in
theorem ggX9_switches_X9_switchesOf : GoodIn wsX9_switches wsX9_switchesOf := goodIn_r _ [77, 1, 78, 79, 80, 81, 82, 83, 84, 85, 86, 87, 88, 89, 90, 91, 92, 93, 94, 95, 96, 97, 98, 99] (by decide +kernel) (by decide +kernel)
set_option maxRecDepth 20000 in
theorem gX9_switches_X9_switchesOf : GoodIn wsX9_switches (wsV RX9 253 RX9 yX9_switchesOf wsX9_switchesOf) := goodIn_app (goodIn_of _ (by decide +kernel)) ggX9_switches_X9_switchesOf
theorem dX9_switches_0 : decode cX9_switches 0 = .ok (.aload_n 0, 1) := by decide +kernel
theorem dX9_switches_1 : decode cX9_switches 1 = .ok (.getfield 7, 3) := by decide +kernel
theorem dX9_switches_4 : decode cX9_switches 4 = .ok (.iconst 1, 1) := by decide +kernel
theorem dX9_switches_5 : decode cX9_switches 5 = .ok (.iaload, 1) := by decide +kernel
theorem dX9_switches_6 : decode cX9_switches 6 = .ok (.iconst 1, 1) := by decide +kernel
theorem dX9_switches_7 : decode cX9_switches 7 = .ok (.if_icmp .ne 23, 3) := by decide +kernel
theorem dX9_switches_10 : decode cX9_switches 10 = .ok (.aload_n 0, 1) := by decide +kernel
theorem dX9_switches_11 : decode cX9_switches 11 = .ok (.getfield 7, 3) := by decide +kernel
theorem dX9_switches_14 : decode cX9_switches 14 = .ok (.iconst 4, 1) := by decide +kernel
theorem dX9_switches_15 : decode cX9_switches 15 = .ok (.iaload, 1) := by decide +kernel
theorem dX9_switches_16 : decode cX9_switches 16 = .ok (.ifCond .ne 14, 3) := by decide +kernel
theorem dX9_switches_19 : decode cX9_switches 19 = .ok (.aload_n 0, 1) := by decide +kernel
theorem dX9_switches_20 : decode cX9_switches 20 = .ok (.invokevirtual 234, 3) := by decide +kernel
theorem dX9_switches_23 : decode cX9_switches 23 = .ok (.ifCond .eq 7, 3) := by decide +kernel
theorem dX9_switches_26 : decode cX9_switches 26 = .ok (.iconst 1, 1) := by decide +kernel
theorem dX9_switches_27 : decode cX9_switches 27 = .ok (.goto 4, 3) := by decide +kernel
theorem dX9_switches_30 : decode cX9_switches 30 = .ok (.iconst 0, 1) := by decide +kernel
theorem dX9_switches_31 : decode cX9_switches 31 = .ok (.istore_n 1, 1) := by decide +kernel
theorem dX9_switches_32 : decode cX9_switches 32 = .ok (.aload_n 0, 1) := by decide +kernel
theorem dX9_switches_33 : decode cX9_switches 33 = .ok (.getfield 7, 3) := by decide +kernel
theorem dX9_switches_36 : decode cX9_switches 36 = .ok (.iconst 1, 1) := by decide +kernel
theorem dX9_switches_37 : decode cX9_switches 37 = .ok (.iaload, 1) := by decide +kernel
theorem dX9_switches_38 : decode cX9_switches 38 = .ok (.iconst 2, 1) := by decide +kernel
theorem dX9_switches_39 : decode cX9_switches 39 = .ok (.if_icmp .ne 24, 3) := by decide +kernel
theorem dX9_switches_42 : decode cX9_switches 42 = .ok (.aload_n 0, 1) := by decide +kernel
theorem dX9_switches_43 : decode cX9_switches 43 = .ok (.getfield 7, 3) := by decide +kernel
theorem dX9_switches_46 : decode cX9_switches 46 = .ok (.aload_n 0, 1) := by decide +kernel
theorem dX9_switches_47 : decode cX9_switches 47 = .ok (.getfield 13, 3) := by decide +kernel
theorem dX9_switches_50 : decode cX9_switches 50 = .ok (.bipush 19, 2) := by decide +kernel
theorem dX9_switches_52 : decode cX9_switches 52 = .ok (.iaload, 1) := by decide +kernel
theorem dX9_switches_53 : decode cX9_switches 53 = .ok (.invokestatic 202, 3) := by decide +kernel
theorem dX9_switches_56 : decode cX9_switches 56 = .ok (.ifCond .eq 7, 3) := by decide +kernel
theorem dX9_switches_59 : decode cX9_switches 59 = .ok (.iconst 1, 1) := by decide +kernel
theorem dX9_switches_60 : decode cX9_switches 60 = .ok (.goto 4, 3) := by decide +kernel
theorem dX9_switches_63 : decode cX9_switches 63 = .ok (.iconst 0, 1) := by decide +kernel
theorem dX9_switches_64 : decode cX9_switches 64 = .ok (.istore_n 2, 1) := by decide +kernel
theorem dX9_switches_65 : decode cX9_switches 65 = .ok (.iload_n 1, 1) := by decide +kernel
theorem dX9_switches_66 : decode cX9_switches 66 = .ok (.ifCond .ne 8, 3) := by decide +kernel
theorem dX9_switches_69 : decode cX9_switches 69 = .ok (.iload_n 2, 1) := by decide +kernel
theorem dX9_switches_70 : decode cX9_switches 70 = .ok (.ifCond .ne 4, 3) := by decide +kernel
theorem dX9_switches_73 : decode cX9_switches 73 = .ok (.return_, 1) := by decide +kernel
theorem dX9_switches_74 : decode cX9_switches 74 = .ok (.aload_n 0, 1) := by decide +kernel
theorem dX9_switches_75 : decode cX9_switches 75 = .ok (.getfield 7, 3) := by decide +kernel
theorem dX9_switches_78 : decode cX9_switches 78 = .ok (.iconst 1, 1) := by decide +kernel
theorem dX9_switches_79 : decode cX9_switches 79 = .ok (.iload_n 1, 1) := by decide +kernel
theorem dX9_switches_80 : decode cX9_switches 80 = .ok (.ifCond .eq 7, 3) := by decide +kernel
theorem dX9_switches_83 : decode cX9_switches 83 = .ok (.iconst 2, 1) := by decide +kernel
theorem dX9_switches_84 : decode cX9_switches 84 = .ok (.goto 4, 3) := by decide +kernel
theorem dX9_switches_87 : decode cX9_switches 87 = .ok (.iconst 1, 1) := by decide +kernel
theorem dX9_switches_88 : decode cX9_switches 88 = .ok (.iastore, 1) := by decide +kernel
theorem dX9_switches_89 : decode cX9_switches 89 = .ok (.aload_n 0, 1) := by decide +kernel
theorem dX9_switches_90 : decode cX9_switches 90 = .ok (.getfield 7, 3) := by decide +kernel
theorem dX9_switches_93 : decode cX9_switches 93 = .ok (.bipush 6, 2) := by decide +kernel
theorem dX9_switches_95 : decode cX9_switches 95 = .ok (.dup2, 1) := by decide +kernel
theorem dX9_switches_96 : decode cX9_switches 96 = .ok (.iaload, 1) := by decide +kernel
theorem dX9_switches_97 : decode cX9_switches 97 = .ok (.iconst 1, 1) := by decide +kernel
theorem dX9_switches_98 : decode cX9_switches 98 = .ok (.iadd, 1) := by decide +kernel
theorem dX9_switches_99 : decode cX9_switches 99 = .ok (.iastore, 1) := by decide +kernel
theorem dX9_switches_100 : decode cX9_switches 100 = .ok (.aload_n 0, 1) := by decide +kernel
theorem dX9_switches_101 : decode cX9_switches 101 = .ok (.getfield 7, 3) := by decide +kernel
theorem dX9_switches_104 : decode cX9_switches 104 = .ok (.bipush 14, 2) := by decide +kernel
theorem dX9_switches_106 : decode cX9_switches 106 = .ok (.aload_n 0, 1) := by decide +kernel
theorem dX9_switches_107 : decode cX9_switches 107 = .ok (.getfield 7, 3) := by decide +kernel
theorem dX9_switches_110 : decode cX9_switches 110 = .ok (.iconst 0, 1) := by decide +kernel
theorem dX9_switches_111 : decode cX9_switches 111 = .ok (.iaload, 1) := by decide +kernel
theorem dX9_switches_112 : decode cX9_switches 112 = .ok (.sipush 200, 3) := by decide +kernel
theorem dX9_switches_115 : decode cX9_switches 115 = .ok (.irem, 1) := by decide +kernel
theorem dX9_switches_116 : decode cX9_switches 116 = .ok (.iadd, 1) := by decide +kernel
theorem dX9_switches_117 : decode cX9_switches 117 = .ok (.iconst 1, 1) := by decide +kernel
theorem dX9_switches_118 : decode cX9_switches 118 = .ok (.iastore, 1) := by decide +kernel
theorem dX9_switches_119 : decode cX9_switches 119 = .ok (.aload_n 0, 1) := by decide +kernel
theorem dX9_switches_120 : decode cX9_switches 120 = .ok (.aload_n 0, 1) := by decide +kernel
theorem dX9_switches_121 : decode cX9_switches 121 = .ok (.getfield 13, 3) := by decide +kernel
theorem dX9_switches_124 : decode cX9_switches 124 = .ok (.bipush 22, 2) := by decide +kernel
theorem dX9_switches_126 : decode cX9_switches 126 = .ok (.iaload, 1) := by decide +kernel
theorem dX9_switches_127 : decode cX9_switches 127 = .ok (.invokevirtual 253, 3) := by decide +kernel
theorem dX9_switches_130 : decode cX9_switches 130 = .ok (.aload_n 0, 1) := by decide +kernel
theorem dX9_switches_131 : decode cX9_switches 131 = .ok (.getfield 13, 3) := by decide +kernel
theorem dX9_switches_134 : decode cX9_switches 134 = .ok (.bipush 21, 2) := by decide +kernel
theorem dX9_switches_136 : decode cX9_switches 136 = .ok (.iaload, 1) := by decide +kernel
theorem dX9_switches_137 : decode cX9_switches 137 = .ok (.if_icmp .le 23, 3) := by decide +kernel
theorem dX9_switches_140 : decode cX9_switches 140 = .ok (.aload_n 0, 1) := by decide +kernel
theorem dX9_switches_141 : decode cX9_switches 141 = .ok (.getfield 7, 3) := by decide +kernel
theorem dX9_switches_144 : decode cX9_switches 144 = .ok (.iconst 1, 1) := by decide +kernel
theorem dX9_switches_145 : decode cX9_switches 145 = .ok (.iconst 1, 1) := by decide +kernel
theorem dX9_switches_146 : decode cX9_switches 146 = .ok (.iastore, 1) := by decide +kernel
theorem dX9_switches_147 : decode cX9_switches 147 = .ok (.aload_n 0, 1) := by decide +kernel
theorem dX9_switches_148 : decode cX9_switches 148 = .ok (.getfield 7, 3) := by decide +kernel
theorem dX9_switches_151 : decode cX9_switches 151 = .ok (.iconst 4, 1) := by decide +kernel
theorem dX9_switches_152 : decode cX9_switches 152 = .ok (.aload_n 0, 1) := by decide +kernel
theorem dX9_switches_153 : decode cX9_switches 153 = .ok (.getfield 13, 3) := by decide +kernel
theorem dX9_switches_156 : decode cX9_switches 156 = .ok (.bipush 23, 2) := by decide +kernel
theorem dX9_switches_158 : decode cX9_switches 158 = .ok (.iaload, 1) := by decide +kernel
theorem dX9_switches_159 : decode cX9_switches 159 = .ok (.iastore, 1) := by decide +kernel
theorem dX9_switches_160 : decode cX9_switches 160 = .ok (.return_, 1) := by decide +kernel
set_option maxRecDepth 20000 in
theorem ggX9_passes_X9_switches : GoodIn wsX9_passes wsX9_switches := goodIn_r _ [6, 1, 7, 8, 9, 10, 5, 11, 12, 13, 14, 15, 16, 17, 18, 19, 20, 21, 22, 23, 24, 25, 26, 27, 28, 29, 30, 31, 32, 33, 34, 35, 36, 37, 38, 39, 40, 41, 42, 43, 44, 45, 46, 47, 48, 49, 50, 51, 52, 53, 54, 55, 56, 57, 58, 59, 60, 61, 62, 63, 64, 65, 66, 67, 68, 69, 70, 71, 72, 73, 74, 75, 76, 77, 78, 79, 80, 81, 93, 94, 95, 96, 97, 98, 99, 100, 101, 102, 103, 104, 105, 106, 107, 108, 109, 110, 111, 112, 113, 114] (by decide +kernel) (by decide +kernel)
set_option maxRecDepth 20000 in
theorem gX9_passes_X9_switches : GoodIn wsX9_passes (wsV RX9 256 RX9 yX9_switches wsX9_switches) := goodIn_app (goodIn_of _ (by decide +kernel)) ggX9_passes_X9_switches
set_option maxRecDepth 20000 in
theorem ggX9_passes_X9_pushNow : GoodIn wsX9_passes wsX9_pushNow := goodIn_r _ [85, 1, 7, 86, 27, 28, 29, 5, 30, 31, 32, 33, 48, 49, 50, 24, 25, 26, 38, 39, 40, 41, 42, 43, 87, 88, 89, 90, 91, 92, 93, 94, 95, 96, 97, 98, 99, 100, 101, 102, 103, 104, 105, 106, 107, 108, 109, 110, 111, 112, 113, 114] (by decide +kernel) (by decide +kernel)
set_option maxRecDepth 20000 in
theorem gX9_passes_X9_pushNow : GoodIn wsX9_passes (wsV RX9 250 RX9 yX9_pushNow wsX9_pushNow) := goodIn_app (goodIn_of _ (by decide +kernel)) ggX9_passes_X9_pushNow
set_option maxRecDepth 20000 in
theorem ggX9_passes_X9_step : GoodIn wsX9_passes wsX9_step := goodIn_r _ [37, 7, 24, 25, 5, 26, 38, 39, 40, 41, 42, 43, 44, 45, 46, 47, 48, 49, 50, 51, 52, 53, 93, 94, 95, 96, 97, 98, 99, 100, 101, 102, 103, 104, 105, 106, 107, 108, 109, 110, 111, 112, 113, 114] (by decide +kernel) (by decide +kernel)
set_option maxRecDepth 20000 in
theorem gX9_passes_X9_step : GoodIn wsX9_passes (wsV RX9 198 RX9 yX9_step wsX9_step) := goodIn_app (goodIn_of _ (by decide +kernel)) ggX9_passes_X9_step
theorem dX9_passes_0 : decode cX9_passes 0 = .ok (.aload_n 0, 1) := by decide +kernel
theorem dX9_passes_1 : decode cX9_passes 1 = .ok (.getfield 7, 3) := by decide +kernel
theorem dX9_passes_4 : decode cX9_passes 4 = .ok (.iconst 0, 1) := by decide +kernel
theorem dX9_passes_5 : decode cX9_passes 5 = .ok (.dup2, 1) := by decide +kernel
theorem dX9_passes_6 : decode cX9_passes 6 = .ok (.iaload, 1) := by decide +kernel
theorem dX9_passes_7 : decode cX9_passes 7 = .ok (.iconst 1, 1) := by decide +kernel
theorem dX9_passes_8 : decode cX9_passes 8 = .ok (.iadd, 1) := by decide +kernel
theorem dX9_passes_9 : decode cX9_passes 9 = .ok (.iastore, 1) := by decide +kernel
theorem dX9_passes_10 : decode cX9_passes 10 = .ok (.aload_n 0, 1) := by decide +kernel
theorem dX9_passes_11 : decode cX9_passes 11 = .ok (.getfield 7, 3) := by decide +kernel
theorem dX9_passes_14 : decode cX9_passes 14 = .ok (.bipush 14, 2) := by decide +kernel
theorem dX9_passes_16 : decode cX9_passes 16 = .ok (.aload_n 0, 1) := by decide +kernel
theorem dX9_passes_17 : decode cX9_passes 17 = .ok (.getfield 7, 3) := by decide +kernel
theorem dX9_passes_20 : decode cX9_passes 20 = .ok (.iconst 0, 1) := by decide +kernel
theorem dX9_passes_21 : decode cX9_passes 21 = .ok (.iaload, 1) := by decide +kernel
theorem dX9_passes_22 : decode cX9_passes 22 = .ok (.sipush 200, 3) := by decide +kernel
theorem dX9_passes_25 : decode cX9_passes 25 = .ok (.irem, 1) := by decide +kernel
theorem dX9_passes_26 : decode cX9_passes 26 = .ok (.iadd, 1) := by decide +kernel
theorem dX9_passes_27 : decode cX9_passes 27 = .ok (.iconst 0, 1) := by decide +kernel
theorem dX9_passes_28 : decode cX9_passes 28 = .ok (.iastore, 1) := by decide +kernel
theorem dX9_passes_29 : decode cX9_passes 29 = .ok (.aload_n 0, 1) := by decide +kernel
theorem dX9_passes_30 : decode cX9_passes 30 = .ok (.getfield 7, 3) := by decide +kernel
theorem dX9_passes_33 : decode cX9_passes 33 = .ok (.iconst 1, 1) := by decide +kernel
theorem dX9_passes_34 : decode cX9_passes 34 = .ok (.iaload, 1) := by decide +kernel
theorem dX9_passes_35 : decode cX9_passes 35 = .ok (.iconst 3, 1) := by decide +kernel
theorem dX9_passes_36 : decode cX9_passes 36 = .ok (.if_icmp .ne 4, 3) := by decide +kernel
theorem dX9_passes_39 : decode cX9_passes 39 = .ok (.return_, 1) := by decide +kernel
theorem dX9_passes_40 : decode cX9_passes 40 = .ok (.aload_n 0, 1) := by decide +kernel
theorem dX9_passes_41 : decode cX9_passes 41 = .ok (.getfield 7, 3) := by decide +kernel
theorem dX9_passes_44 : decode cX9_passes 44 = .ok (.iconst 4, 1) := by decide +kernel
theorem dX9_passes_45 : decode cX9_passes 45 = .ok (.dup2, 1) := by decide +kernel
theorem dX9_passes_46 : decode cX9_passes 46 = .ok (.iaload, 1) := by decide +kernel
theorem dX9_passes_47 : decode cX9_passes 47 = .ok (.aload_n 0, 1) := by decide +kernel
theorem dX9_passes_48 : decode cX9_passes 48 = .ok (.getfield 7, 3) := by decide +kernel
theorem dX9_passes_51 : decode cX9_passes 51 = .ok (.iconst 4, 1) := by decide +kernel
theorem dX9_passes_52 : decode cX9_passes 52 = .ok (.iaload, 1) := by decide +kernel
theorem dX9_passes_53 : decode cX9_passes 53 = .ok (.ifCond .le 7, 3) := by decide +kernel
theorem dX9_passes_56 : decode cX9_passes 56 = .ok (.iconst 1, 1) := by decide +kernel
theorem dX9_passes_57 : decode cX9_passes 57 = .ok (.goto 4, 3) := by decide +kernel
theorem dX9_passes_60 : decode cX9_passes 60 = .ok (.iconst 0, 1) := by decide +kernel
theorem dX9_passes_61 : decode cX9_passes 61 = .ok (.isub, 1) := by decide +kernel
theorem dX9_passes_62 : decode cX9_passes 62 = .ok (.iastore, 1) := by decide +kernel
theorem dX9_passes_63 : decode cX9_passes 63 = .ok (.aload_n 0, 1) := by decide +kernel
theorem dX9_passes_64 : decode cX9_passes 64 = .ok (.invokevirtual 256, 3) := by decide +kernel
theorem dX9_passes_67 : decode cX9_passes 67 = .ok (.aload_n 0, 1) := by decide +kernel
theorem dX9_passes_68 : decode cX9_passes 68 = .ok (.aload_n 0, 1) := by decide +kernel
theorem dX9_passes_69 : decode cX9_passes 69 = .ok (.getfield 7, 3) := by decide +kernel
theorem dX9_passes_72 : decode cX9_passes 72 = .ok (.aload_n 0, 1) := by decide +kernel
theorem dX9_passes_73 : decode cX9_passes 73 = .ok (.invokevirtual 250, 3) := by decide +kernel
theorem dX9_passes_76 : decode cX9_passes 76 = .ok (.invokevirtual 198, 3) := by decide +kernel
theorem dX9_passes_79 : decode cX9_passes 79 = .ok (.istore_n 1, 1) := by decide +kernel
theorem dX9_passes_80 : decode cX9_passes 80 = .ok (.iload_n 1, 1) := by decide +kernel
theorem dX9_passes_81 : decode cX9_passes 81 = .ok (.ifCond .le 29, 3) := by decide +kernel
theorem dX9_passes_84 : decode cX9_passes 84 = .ok (.aload_n 0, 1) := by decide +kernel
theorem dX9_passes_85 : decode cX9_passes 85 = .ok (.getfield 7, 3) := by decide +kernel
theorem dX9_passes_88 : decode cX9_passes 88 = .ok (.iconst 1, 1) := by decide +kernel
theorem dX9_passes_89 : decode cX9_passes 89 = .ok (.iconst 3, 1) := by decide +kernel
theorem dX9_passes_90 : decode cX9_passes 90 = .ok (.iastore, 1) := by decide +kernel
theorem dX9_passes_91 : decode cX9_passes 91 = .ok (.aload_n 0, 1) := by decide +kernel
theorem dX9_passes_92 : decode cX9_passes 92 = .ok (.getfield 7, 3) := by decide +kernel
theorem dX9_passes_95 : decode cX9_passes 95 = .ok (.bipush 7, 2) := by decide +kernel
theorem dX9_passes_97 : decode cX9_passes 97 = .ok (.dup2, 1) := by decide +kernel
theorem dX9_passes_98 : decode cX9_passes 98 = .ok (.iaload, 1) := by decide +kernel
theorem dX9_passes_99 : decode cX9_passes 99 = .ok (.iconst 1, 1) := by decide +kernel
theorem dX9_passes_100 : decode cX9_passes 100 = .ok (.iadd, 1) := by decide +kernel
theorem dX9_passes_101 : decode cX9_passes 101 = .ok (.iastore, 1) := by decide +kernel
theorem dX9_passes_102 : decode cX9_passes 102 = .ok (.aload_n 0, 1) := by decide +kernel
theorem dX9_passes_103 : decode cX9_passes 103 = .ok (.getfield 7, 3) := by decide +kernel
theorem dX9_passes_106 : decode cX9_passes 106 = .ok (.bipush 9, 2) := by decide +kernel
theorem dX9_passes_108 : decode cX9_passes 108 = .ok (.iload_n 1, 1) := by decide +kernel
theorem dX9_passes_109 : decode cX9_passes 109 = .ok (.iastore, 1) := by decide +kernel
theorem dX9_passes_110 : decode cX9_passes 110 = .ok (.return_, 1) := by decide +kernel
set_option maxRecDepth 20000 in
theorem ggX9_ticksTo_X9_within : GoodIn wsX9_ticksTo wsX9_within := goodIn_r _ [7] (by decide +kernel) (by decide +kernel)
set_option maxRecDepth 20000 in
theorem gX9_ticksTo_X9_within : GoodIn wsX9_ticksTo (va_wsS RX9 88 yX9_within wsX9_within) := goodIn_app (goodIn_of _ (by decide +kernel)) ggX9_ticksTo_X9_within
set_option maxRecDepth 20000 in
theorem ggX9_ticksTo_X9_throwsIf : GoodIn wsX9_ticksTo wsX9_throwsIf := goodIn_r _ [11, 1, 106, 107, 108, 109, 110, 111, 112, 113, 114, 115, 116, 117, 118, 119, 120, 121, 122, 123, 124, 125, 126, 127] (by decide +kernel) (by decide +kernel)
set_option maxRecDepth 20000 in
theorem gX9_ticksTo_X9_throwsIf : GoodIn wsX9_ticksTo (wsV RX9 153 RX9 yX9_throwsIf wsX9_throwsIf) := goodIn_app (goodIn_of _ (by decide +kernel)) ggX9_ticksTo_X9_throwsIf
set_option maxRecDepth 20000 in
theorem ggX9_ticksTo_X9_copies : GoodIn wsX9_ticksTo wsX9_copies := goodIn_r _ [14] (by decide +kernel) (by decide +kernel)
set_option maxRecDepth 20000 in
theorem gX9_ticksTo_X9_copies : GoodIn wsX9_ticksTo (va_wsS RX9 259 yX9_copies wsX9_copies) := goodIn_app (goodIn_of _ (by decide +kernel)) ggX9_ticksTo_X9_copies
set_option maxRecDepth 20000 in
theorem ggX9_ticksTo_X9_passes : GoodIn wsX9_ticksTo wsX9_passes := goodIn_r _ [18, 2, 19, 20, 21, 6, 22, 23, 24, 25, 26, 27, 28, 29, 30, 31, 32, 33, 34, 35, 36, 37, 38, 39, 40, 41, 42, 43, 44, 45, 46, 47, 48, 49, 50, 51, 52, 53, 54, 55, 56, 57, 58, 59, 60, 61, 62, 63, 64, 65, 66, 67, 68, 69, 70, 71, 72, 73, 74, 75, 76, 77, 78, 79, 80, 81, 82, 83, 84, 85, 86, 87, 88, 89, 90, 4, 5, 7, 91, 92, 93, 94, 95, 96, 97, 98, 99, 100, 101, 102, 103, 104, 105, 106, 107, 108, 109, 110, 111, 112, 113, 114, 115, 116, 117, 118, 119, 120, 121, 122, 123, 124, 125, 126, 127] (by decide +kernel) (by decide +kernel)
set_option maxRecDepth 20000 in
theorem gX9_ticksTo_X9_passes : GoodIn wsX9_ticksTo (wsV RX9 263 RX9 yX9_passes wsX9_passes) := goodIn_app (goodIn_of _ (by decide +kernel)) ggX9_ticksTo_X9_passes
theorem dX9_ticksTo_0 : decode cX9_ticksTo 0 = .ok (.aload_n 0, 1) := by decide +kernel
theorem dX9_ticksTo_1 : decode cX9_ticksTo 1 = .ok (.iconst 0, 1) := by decide +kernel
theorem dX9_ticksTo_2 : decode cX9_ticksTo 2 = .ok (.putfield 55, 3) := by decide +kernel
theorem dX9_ticksTo_5 : decode cX9_ticksTo 5 = .ok (.aload_n 0, 1) := by decide +kernel
theorem dX9_ticksTo_6 : decode cX9_ticksTo 6 = .ok (.iload_n 2, 1) := by decide +kernel
theorem dX9_ticksTo_7 : decode cX9_ticksTo 7 = .ok (.iconst 0, 1) := by decide +kernel
theorem dX9_ticksTo_8 : decode cX9_ticksTo 8 = .ok (.sipush 1000, 3) := by decide +kernel
theorem dX9_ticksTo_11 : decode cX9_ticksTo 11 = .ok (.invokestatic 88, 3) := by decide +kernel
