set_option maxRecDepth 20000 in
theorem ggX0_init_X6_init : GoodIn wsX0_init wsX6_init := goodIn_r _ [9, 10, 2, 3, 11, 12, 13, 14, 15, 16, 17, 18, 19, 20, 21, 22, 23, 24, 25, 26, 27, 28, 29, 30, 31, 32, 33, 34, 49, 50, 51, 52, 53, 54, 38, 39, 40, 41, 42, 43, 44, 45, 46, 47, 48, 55, 56, 57, 58, 59, 60] (by decide +kernel) (by decide +kernel)
set_option maxRecDepth 20000 in
theorem gX0_init_X6_init_n15 : GoodIn wsX0_init (wsX6_init) := ggX0_init_X6_init
theorem dX0_init_0 : decode cX0_init 0 = .ok (.aload_n 0, 1) := by decide +kernel
theorem dX0_init_1 : decode cX0_init 1 = .ok (.invokespecial 1, 3) := by decide +kernel
theorem dX0_init_4 : decode cX0_init 4 = .ok (.aload_n 0, 1) := by decide +kernel
theorem dX0_init_5 : decode cX0_init 5 = .ok (.bipush 10, 2) := by decide +kernel
theorem dX0_init_7 : decode cX0_init 7 = .ok (.anewarray 9, 3) := by decide +kernel
theorem dX0_init_10 : decode cX0_init 10 = .ok (.putfield 11, 3) := by decide +kernel
theorem dX0_init_13 : decode cX0_init 13 = .ok (.iconst 0, 1) := by decide +kernel
theorem dX0_init_14 : decode cX0_init 14 = .ok (.istore_n 1, 1) := by decide +kernel
theorem dX0_init_15 : decode cX0_init 15 = .ok (.iload_n 1, 1) := by decide +kernel
theorem dX0_init_16 : decode cX0_init 16 = .ok (.aload_n 0, 1) := by decide +kernel
theorem dX0_init_17 : decode cX0_init 17 = .ok (.getfield 11, 3) := by decide +kernel
theorem dX0_init_20 : decode cX0_init 20 = .ok (.arraylength, 1) := by decide +kernel
theorem dX0_init_21 : decode cX0_init 21 = .ok (.if_icmp .ge 22, 3) := by decide +kernel
theorem dX0_init_24 : decode cX0_init 24 = .ok (.aload_n 0, 1) := by decide +kernel
theorem dX0_init_25 : decode cX0_init 25 = .ok (.getfield 11, 3) := by decide +kernel
theorem dX0_init_28 : decode cX0_init 28 = .ok (.iload_n 1, 1) := by decide +kernel
theorem dX0_init_29 : decode cX0_init 29 = .ok (.new 9, 3) := by decide +kernel
theorem dX0_init_32 : decode cX0_init 32 = .ok (.dup, 1) := by decide +kernel
theorem dX0_init_33 : decode cX0_init 33 = .ok (.invokespecial 15, 3) := by decide +kernel
theorem dX0_init_36 : decode cX0_init 36 = .ok (.aastore, 1) := by decide +kernel
theorem dX0_init_37 : decode cX0_init 37 = .ok (.iinc 1 1, 3) := by decide +kernel
theorem dX0_init_40 : decode cX0_init 40 = .ok (.goto (-25), 3) := by decide +kernel
theorem dX0_init_43 : decode cX0_init 43 = .ok (.return_, 1) := by decide +kernel
set_option maxRecDepth 20000 in
theorem ggX0_remember_X0_rowAt : GoodIn wsX0_remember wsX0_rowAt := goodIn_r _ [11, 12, 64, 65, 66] (by decide +kernel) (by decide +kernel)
set_option maxRecDepth 20000 in
theorem gX0_remember_X0_rowAt : GoodIn wsX0_remember (wsV RX0 20 RX0 yX0_rowAt wsX0_rowAt) := goodIn_app (goodIn_of _ (by decide +kernel)) ggX0_remember_X0_rowAt
set_option maxRecDepth 20000 in
theorem ggX0_remember_X6_takeOver : GoodIn wsX0_remember wsX6_takeOver := goodIn_r _ [17, 18, 19, 20, 21, 22, 23, 24, 25, 26, 27, 28, 29, 30, 31, 32, 33, 34, 35, 36, 37, 38, 39, 40, 41, 42, 43, 44, 45, 46, 47, 48, 49, 50, 4, 5, 6, 51, 52, 53, 54, 55, 56, 57, 58, 59, 60, 61, 62, 63, 67, 68, 69, 70, 71, 72, 73, 74, 75, 76, 77, 78, 79, 80, 81, 82, 83, 84, 85, 86, 87, 88, 89] (by decide +kernel) (by decide +kernel)
set_option maxRecDepth 20000 in
theorem gX0_remember_X6_takeOver : GoodIn wsX0_remember (wsV RX0 24 RX6 yX6_takeOver wsX6_takeOver) := goodIn_app (goodIn_of _ (by decide +kernel)) ggX0_remember_X6_takeOver
theorem dX0_remember_0 : decode cX0_remember 0 = .ok (.aload_n 0, 1) := by decide +kernel
theorem dX0_remember_1 : decode cX0_remember 1 = .ok (.aload_n 0, 1) := by decide +kernel
theorem dX0_remember_2 : decode cX0_remember 2 = .ok (.getfield 16, 3) := by decide +kernel
theorem dX0_remember_5 : decode cX0_remember 5 = .ok (.invokevirtual 20, 3) := by decide +kernel
theorem dX0_remember_8 : decode cX0_remember 8 = .ok (.astore_n 2, 1) := by decide +kernel
theorem dX0_remember_9 : decode cX0_remember 9 = .ok (.aload_n 2, 1) := by decide +kernel
theorem dX0_remember_10 : decode cX0_remember 10 = .ok (.ifnonnull 4, 3) := by decide +kernel
theorem dX0_remember_13 : decode cX0_remember 13 = .ok (.return_, 1) := by decide +kernel
theorem dX0_remember_14 : decode cX0_remember 14 = .ok (.aload_n 2, 1) := by decide +kernel
theorem dX0_remember_15 : decode cX0_remember 15 = .ok (.aload_n 1, 1) := by decide +kernel
theorem dX0_remember_16 : decode cX0_remember 16 = .ok (.invokevirtual 24, 3) := by decide +kernel
theorem dX0_remember_19 : decode cX0_remember 19 = .ok (.aload_n 0, 1) := by decide +kernel
theorem dX0_remember_20 : decode cX0_remember 20 = .ok (.aload_n 0, 1) := by decide +kernel
theorem dX0_remember_21 : decode cX0_remember 21 = .ok (.getfield 16, 3) := by decide +kernel
theorem dX0_remember_24 : decode cX0_remember 24 = .ok (.iconst 1, 1) := by decide +kernel
theorem dX0_remember_25 : decode cX0_remember 25 = .ok (.iadd, 1) := by decide +kernel
theorem dX0_remember_26 : decode cX0_remember 26 = .ok (.bipush 10, 2) := by decide +kernel
theorem dX0_remember_28 : decode cX0_remember 28 = .ok (.irem, 1) := by decide +kernel
theorem dX0_remember_29 : decode cX0_remember 29 = .ok (.putfield 16, 3) := by decide +kernel
theorem dX0_remember_32 : decode cX0_remember 32 = .ok (.aload_n 0, 1) := by decide +kernel
theorem dX0_remember_33 : decode cX0_remember 33 = .ok (.aload_n 0, 1) := by decide +kernel
theorem dX0_remember_34 : decode cX0_remember 34 = .ok (.getfield 28, 3) := by decide +kernel
theorem dX0_remember_37 : decode cX0_remember 37 = .ok (.iconst 1, 1) := by decide +kernel
theorem dX0_remember_38 : decode cX0_remember 38 = .ok (.iadd, 1) := by decide +kernel
theorem dX0_remember_39 : decode cX0_remember 39 = .ok (.bipush 10, 2) := by decide +kernel
theorem dX0_remember_41 : decode cX0_remember 41 = .ok (.invokestatic 31, 3) := by decide +kernel
theorem dX0_remember_44 : decode cX0_remember 44 = .ok (.putfield 28, 3) := by decide +kernel
theorem dX0_remember_47 : decode cX0_remember 47 = .ok (.return_, 1) := by decide +kernel
set_option maxRecDepth 20000 in
theorem ggX0_giveBackTo_X0_rowAt : GoodIn wsX0_giveBackTo wsX0_rowAt := goodIn_r _ [7, 8, 63, 64, 65] (by decide +kernel) (by decide +kernel)
set_option maxRecDepth 20000 in
theorem gX0_giveBackTo_X0_rowAt : GoodIn wsX0_giveBackTo (wsV RX0 20 RX0 yX0_rowAt wsX0_rowAt) := goodIn_app (goodIn_of _ (by decide +kernel)) ggX0_giveBackTo_X0_rowAt
set_option maxRecDepth 20000 in
theorem ggX0_giveBackTo_X6_takeOver : GoodIn wsX0_giveBackTo wsX6_takeOver := goodIn_r _ [13, 14, 15, 16, 17, 18, 19, 20, 21, 22, 23, 24, 25, 26, 27, 28, 29, 30, 31, 32, 33, 34, 35, 36, 37, 38, 39, 40, 41, 42, 43, 44, 45, 46, 47, 48, 49, 50, 51, 52, 53, 54, 55, 56, 57, 58, 59, 60, 61, 62, 66, 67, 68, 69, 70, 71, 72, 73, 74, 75, 76, 77, 78, 79, 80, 81, 82, 83, 84, 85, 86, 87, 88] (by decide +kernel) (by decide +kernel)
set_option maxRecDepth 20000 in
theorem gX0_giveBackTo_X6_takeOver : GoodIn wsX0_giveBackTo (wsV RX0 24 RX6 yX6_takeOver wsX6_takeOver) := goodIn_app (goodIn_of _ (by decide +kernel)) ggX0_giveBackTo_X6_takeOver
theorem dX0_giveBackTo_0 : decode cX0_giveBackTo 0 = .ok (.aload_n 0, 1) := by decide +kernel
theorem dX0_giveBackTo_1 : decode cX0_giveBackTo 1 = .ok (.getfield 16, 3) := by decide +kernel
theorem dX0_giveBackTo_4 : decode cX0_giveBackTo 4 = .ok (.bipush 10, 2) := by decide +kernel
theorem dX0_giveBackTo_6 : decode cX0_giveBackTo 6 = .ok (.iadd, 1) := by decide +kernel
theorem dX0_giveBackTo_7 : decode cX0_giveBackTo 7 = .ok (.iconst 1, 1) := by decide +kernel
theorem dX0_giveBackTo_8 : decode cX0_giveBackTo 8 = .ok (.isub, 1) := by decide +kernel
theorem dX0_giveBackTo_9 : decode cX0_giveBackTo 9 = .ok (.bipush 10, 2) := by decide +kernel
theorem dX0_giveBackTo_11 : decode cX0_giveBackTo 11 = .ok (.irem, 1) := by decide +kernel
theorem dX0_giveBackTo_12 : decode cX0_giveBackTo 12 = .ok (.istore_n 2, 1) := by decide +kernel
theorem dX0_giveBackTo_13 : decode cX0_giveBackTo 13 = .ok (.aload_n 0, 1) := by decide +kernel
theorem dX0_giveBackTo_14 : decode cX0_giveBackTo 14 = .ok (.iload_n 2, 1) := by decide +kernel
theorem dX0_giveBackTo_15 : decode cX0_giveBackTo 15 = .ok (.invokevirtual 20, 3) := by decide +kernel
theorem dX0_giveBackTo_18 : decode cX0_giveBackTo 18 = .ok (.astore_n 3, 1) := by decide +kernel
theorem dX0_giveBackTo_19 : decode cX0_giveBackTo 19 = .ok (.aload_n 0, 1) := by decide +kernel
theorem dX0_giveBackTo_20 : decode cX0_giveBackTo 20 = .ok (.getfield 28, 3) := by decide +kernel
theorem dX0_giveBackTo_23 : decode cX0_giveBackTo 23 = .ok (.ifCond .eq 7, 3) := by decide +kernel
theorem dX0_giveBackTo_26 : decode cX0_giveBackTo 26 = .ok (.aload_n 3, 1) := by decide +kernel
theorem dX0_giveBackTo_27 : decode cX0_giveBackTo 27 = .ok (.ifnonnull 5, 3) := by decide +kernel
theorem dX0_giveBackTo_30 : decode cX0_giveBackTo 30 = .ok (.iconst 0, 1) := by decide +kernel
theorem dX0_giveBackTo_31 : decode cX0_giveBackTo 31 = .ok (.ireturn, 1) := by decide +kernel
theorem dX0_giveBackTo_32 : decode cX0_giveBackTo 32 = .ok (.aload_n 1, 1) := by decide +kernel
theorem dX0_giveBackTo_33 : decode cX0_giveBackTo 33 = .ok (.aload_n 3, 1) := by decide +kernel
theorem dX0_giveBackTo_34 : decode cX0_giveBackTo 34 = .ok (.invokevirtual 24, 3) := by decide +kernel
theorem dX0_giveBackTo_37 : decode cX0_giveBackTo 37 = .ok (.aload_n 0, 1) := by decide +kernel
theorem dX0_giveBackTo_38 : decode cX0_giveBackTo 38 = .ok (.iload_n 2, 1) := by decide +kernel
theorem dX0_giveBackTo_39 : decode cX0_giveBackTo 39 = .ok (.putfield 16, 3) := by decide +kernel
theorem dX0_giveBackTo_42 : decode cX0_giveBackTo 42 = .ok (.aload_n 0, 1) := by decide +kernel
theorem dX0_giveBackTo_43 : decode cX0_giveBackTo 43 = .ok (.dup, 1) := by decide +kernel
theorem dX0_giveBackTo_44 : decode cX0_giveBackTo 44 = .ok (.getfield 28, 3) := by decide +kernel
theorem dX0_giveBackTo_47 : decode cX0_giveBackTo 47 = .ok (.iconst 1, 1) := by decide +kernel
theorem dX0_giveBackTo_48 : decode cX0_giveBackTo 48 = .ok (.isub, 1) := by decide +kernel
theorem dX0_giveBackTo_49 : decode cX0_giveBackTo 49 = .ok (.putfield 28, 3) := by decide +kernel
theorem dX0_giveBackTo_52 : decode cX0_giveBackTo 52 = .ok (.iconst 1, 1) := by decide +kernel
theorem dX0_giveBackTo_53 : decode cX0_giveBackTo 53 = .ok (.ireturn, 1) := by decide +kernel
theorem dX0_forget_0 : decode cX0_forget 0 = .ok (.aload_n 0, 1) := by decide +kernel
theorem dX0_forget_1 : decode cX0_forget 1 = .ok (.iconst 0, 1) := by decide +kernel
theorem dX0_forget_2 : decode cX0_forget 2 = .ok (.putfield 28, 3) := by decide +kernel
theorem dX0_forget_5 : decode cX0_forget 5 = .ok (.return_, 1) := by decide +kernel
theorem dX0_rowAt_0 : decode cX0_rowAt 0 = .ok (.iload_n 1, 1) := by decide +kernel
theorem dX0_rowAt_1 : decode cX0_rowAt 1 = .ok (.ifCond .lt 21, 3) := by decide +kernel
theorem dX0_rowAt_4 : decode cX0_rowAt 4 = .ok (.iload_n 1, 1) := by decide +kernel
theorem dX0_rowAt_5 : decode cX0_rowAt 5 = .ok (.aload_n 0, 1) := by decide +kernel
theorem dX0_rowAt_6 : decode cX0_rowAt 6 = .ok (.getfield 11, 3) := by decide +kernel
theorem dX0_rowAt_9 : decode cX0_rowAt 9 = .ok (.arraylength, 1) := by decide +kernel
theorem dX0_rowAt_10 : decode cX0_rowAt 10 = .ok (.if_icmp .ge 12, 3) := by decide +kernel
theorem dX0_rowAt_13 : decode cX0_rowAt 13 = .ok (.aload_n 0, 1) := by decide +kernel
theorem dX0_rowAt_14 : decode cX0_rowAt 14 = .ok (.getfield 11, 3) := by decide +kernel
theorem dX0_rowAt_17 : decode cX0_rowAt 17 = .ok (.iload_n 1, 1) := by decide +kernel
theorem dX0_rowAt_18 : decode cX0_rowAt 18 = .ok (.aaload, 1) := by decide +kernel
theorem dX0_rowAt_19 : decode cX0_rowAt 19 = .ok (.goto 4, 3) := by decide +kernel
theorem dX0_rowAt_22 : decode cX0_rowAt 22 = .ok (.aconst_null, 1) := by decide +kernel
theorem dX0_rowAt_23 : decode cX0_rowAt 23 = .ok (.areturn, 1) := by decide +kernel
theorem dX1_init_0 : decode cX1_init 0 = .ok (.aload_n 0, 1) := by decide +kernel
theorem dX1_init_1 : decode cX1_init 1 = .ok (.invokespecial 1, 3) := by decide +kernel
theorem dX1_init_4 : decode cX1_init 4 = .ok (.return_, 1) := by decide +kernel
theorem dX1_angleOf_0 : decode cX1_angleOf 0 = .ok (.iload_n 1, 1) := by decide +kernel
theorem dX1_angleOf_1 : decode cX1_angleOf 1 = .ok (.iconst 1, 1) := by decide +kernel
theorem dX1_angleOf_2 : decode cX1_angleOf 2 = .ok (.if_icmp .ne 10, 3) := by decide +kernel
theorem dX1_angleOf_5 : decode cX1_angleOf 5 = .ok (.aload_n 0, 1) := by decide +kernel
theorem dX1_angleOf_6 : decode cX1_angleOf 6 = .ok (.getfield 7, 3) := by decide +kernel
theorem dX1_angleOf_9 : decode cX1_angleOf 9 = .ok (.goto 7, 3) := by decide +kernel
theorem dX1_angleOf_12 : decode cX1_angleOf 12 = .ok (.aload_n 0, 1) := by decide +kernel
theorem dX1_angleOf_13 : decode cX1_angleOf 13 = .ok (.getfield 13, 3) := by decide +kernel
theorem dX1_angleOf_16 : decode cX1_angleOf 16 = .ok (.ireturn, 1) := by decide +kernel
theorem dX1_speedOf_0 : decode cX1_speedOf 0 = .ok (.iload_n 1, 1) := by decide +kernel
theorem dX1_speedOf_1 : decode cX1_speedOf 1 = .ok (.iconst 1, 1) := by decide +kernel
theorem dX1_speedOf_2 : decode cX1_speedOf 2 = .ok (.if_icmp .ne 10, 3) := by decide +kernel
theorem dX1_speedOf_5 : decode cX1_speedOf 5 = .ok (.aload_n 0, 1) := by decide +kernel
theorem dX1_speedOf_6 : decode cX1_speedOf 6 = .ok (.getfield 16, 3) := by decide +kernel
theorem dX1_speedOf_9 : decode cX1_speedOf 9 = .ok (.goto 7, 3) := by decide +kernel
theorem dX1_speedOf_12 : decode cX1_speedOf 12 = .ok (.aload_n 0, 1) := by decide +kernel
theorem dX1_speedOf_13 : decode cX1_speedOf 13 = .ok (.getfield 19, 3) := by decide +kernel
theorem dX1_speedOf_16 : decode cX1_speedOf 16 = .ok (.ireturn, 1) := by decide +kernel
theorem dX1_setSpeed_0 : decode cX1_setSpeed 0 = .ok (.iload_n 1, 1) := by decide +kernel
theorem dX1_setSpeed_1 : decode cX1_setSpeed 1 = .ok (.iconst 1, 1) := by decide +kernel
theorem dX1_setSpeed_2 : decode cX1_setSpeed 2 = .ok (.if_icmp .ne 11, 3) := by decide +kernel
theorem dX1_setSpeed_5 : decode cX1_setSpeed 5 = .ok (.aload_n 0, 1) := by decide +kernel
theorem dX1_setSpeed_6 : decode cX1_setSpeed 6 = .ok (.iload_n 2, 1) := by decide +kernel
theorem dX1_setSpeed_7 : decode cX1_setSpeed 7 = .ok (.putfield 16, 3) := by decide +kernel
theorem dX1_setSpeed_10 : decode cX1_setSpeed 10 = .ok (.goto 8, 3) := by decide +kernel
theorem dX1_setSpeed_13 : decode cX1_setSpeed 13 = .ok (.aload_n 0, 1) := by decide +kernel
theorem dX1_setSpeed_14 : decode cX1_setSpeed 14 = .ok (.iload_n 2, 1) := by decide +kernel
theorem dX1_setSpeed_15 : decode cX1_setSpeed 15 = .ok (.putfield 19, 3) := by decide +kernel
theorem dX1_setSpeed_18 : decode cX1_setSpeed 18 = .ok (.return_, 1) := by decide +kernel
set_option maxRecDepth 20000 in
theorem ggX1_partOfLink_X1_speedOf : GoodIn wsX1_partOfLink wsX1_speedOf := goodIn_r _ [5, 6, 7, 17, 18, 19, 20, 21, 22] (by decide +kernel) (by decide +kernel)
set_option maxRecDepth 20000 in
theorem gX1_partOfLink_X1_speedOf : GoodIn wsX1_partOfLink (wsV RX1 22 RX1 yX1_speedOf wsX1_speedOf) := goodIn_app (goodIn_of _ (by decide +kernel)) ggX1_partOfLink_X1_speedOf
set_option maxRecDepth 20000 in
theorem ggX1_partOfLink_X1_angleOf : GoodIn wsX1_partOfLink wsX1_angleOf := goodIn_r _ [11, 12, 13, 17, 18, 19, 20, 21, 22] (by decide +kernel) (by decide +kernel)
set_option maxRecDepth 20000 in
theorem gX1_partOfLink_X1_angleOf : GoodIn wsX1_partOfLink (wsV RX1 26 RX1 yX1_angleOf wsX1_angleOf) := goodIn_app (goodIn_of _ (by decide +kernel)) ggX1_partOfLink_X1_angleOf
set_option maxRecDepth 20000 in
theorem ggX1_partOfLink_X8_leanOf : GoodIn wsX1_partOfLink wsX8_leanOf := goodIn_r _ [16] (by decide +kernel) (by decide +kernel)
set_option maxRecDepth 20000 in
theorem gX1_partOfLink_X8_leanOf_n29 : GoodIn wsX1_partOfLink (wsX8_leanOf) := ggX1_partOfLink_X8_leanOf
theorem dX1_partOfLink_0 : decode cX1_partOfLink 0 = .ok (.iload_n 2, 1) := by decide +kernel
theorem dX1_partOfLink_1 : decode cX1_partOfLink 1 = .ok (.iconst 1, 1) := by decide +kernel
theorem dX1_partOfLink_2 : decode cX1_partOfLink 2 = .ok (.if_icmp .ne 9, 3) := by decide +kernel
theorem dX1_partOfLink_5 : decode cX1_partOfLink 5 = .ok (.aload_n 0, 1) := by decide +kernel
theorem dX1_partOfLink_6 : decode cX1_partOfLink 6 = .ok (.iload_n 1, 1) := by decide +kernel
theorem dX1_partOfLink_7 : decode cX1_partOfLink 7 = .ok (.invokevirtual 22, 3) := by decide +kernel
theorem dX1_partOfLink_10 : decode cX1_partOfLink 10 = .ok (.ireturn, 1) := by decide +kernel
theorem dX1_partOfLink_11 : decode cX1_partOfLink 11 = .ok (.iload_n 2, 1) := by decide +kernel
theorem dX1_partOfLink_12 : decode cX1_partOfLink 12 = .ok (.ifCond .ne 11, 3) := by decide +kernel
theorem dX1_partOfLink_15 : decode cX1_partOfLink 15 = .ok (.aload_n 0, 1) := by decide +kernel
theorem dX1_partOfLink_16 : decode cX1_partOfLink 16 = .ok (.iload_n 1, 1) := by decide +kernel
theorem dX1_partOfLink_17 : decode cX1_partOfLink 17 = .ok (.invokevirtual 26, 3) := by decide +kernel
theorem dX1_partOfLink_20 : decode cX1_partOfLink 20 = .ok (.goto 11, 3) := by decide +kernel
theorem dX1_partOfLink_23 : decode cX1_partOfLink 23 = .ok (.aload_n 0, 1) := by decide +kernel
theorem dX1_partOfLink_24 : decode cX1_partOfLink 24 = .ok (.iload_n 1, 1) := by decide +kernel
theorem dX1_partOfLink_25 : decode cX1_partOfLink 25 = .ok (.invokevirtual 26, 3) := by decide +kernel
theorem dX1_partOfLink_28 : decode cX1_partOfLink 28 = .ok (.invokestatic 29, 3) := by decide +kernel
theorem dX1_partOfLink_31 : decode cX1_partOfLink 31 = .ok (.ireturn, 1) := by decide +kernel
theorem dX1_restAt_0 : decode cX1_restAt 0 = .ok (.aload_n 0, 1) := by decide +kernel
theorem dX1_restAt_1 : decode cX1_restAt 1 = .ok (.iconst 0, 1) := by decide +kernel
theorem dX1_restAt_2 : decode cX1_restAt 2 = .ok (.putfield 34, 3) := by decide +kernel
theorem dX1_restAt_5 : decode cX1_restAt 5 = .ok (.aload_n 0, 1) := by decide +kernel
theorem dX1_restAt_6 : decode cX1_restAt 6 = .ok (.iconst 0, 1) := by decide +kernel
theorem dX1_restAt_7 : decode cX1_restAt 7 = .ok (.putfield 37, 3) := by decide +kernel
theorem dX1_restAt_10 : decode cX1_restAt 10 = .ok (.aload_n 0, 1) := by decide +kernel
theorem dX1_restAt_11 : decode cX1_restAt 11 = .ok (.iload_n 1, 1) := by decide +kernel
theorem dX1_restAt_12 : decode cX1_restAt 12 = .ok (.putfield 7, 3) := by decide +kernel
theorem dX1_restAt_15 : decode cX1_restAt 15 = .ok (.aload_n 0, 1) := by decide +kernel
theorem dX1_restAt_16 : decode cX1_restAt 16 = .ok (.iload_n 2, 1) := by decide +kernel
theorem dX1_restAt_17 : decode cX1_restAt 17 = .ok (.putfield 13, 3) := by decide +kernel
theorem dX1_restAt_20 : decode cX1_restAt 20 = .ok (.aload_n 0, 1) := by decide +kernel
theorem dX1_restAt_21 : decode cX1_restAt 21 = .ok (.iconst 0, 1) := by decide +kernel
theorem dX1_restAt_22 : decode cX1_restAt 22 = .ok (.putfield 16, 3) := by decide +kernel
theorem dX1_restAt_25 : decode cX1_restAt 25 = .ok (.aload_n 0, 1) := by decide +kernel
theorem dX1_restAt_26 : decode cX1_restAt 26 = .ok (.iconst 0, 1) := by decide +kernel
theorem dX1_restAt_27 : decode cX1_restAt 27 = .ok (.putfield 19, 3) := by decide +kernel
theorem dX1_restAt_30 : decode cX1_restAt 30 = .ok (.return_, 1) := by decide +kernel
theorem dX1_copyFrom_0 : decode cX1_copyFrom 0 = .ok (.aload_n 0, 1) := by decide +kernel
theorem dX1_copyFrom_1 : decode cX1_copyFrom 1 = .ok (.aload_n 1, 1) := by decide +kernel
theorem dX1_copyFrom_2 : decode cX1_copyFrom 2 = .ok (.getfield 34, 3) := by decide +kernel
theorem dX1_copyFrom_5 : decode cX1_copyFrom 5 = .ok (.putfield 34, 3) := by decide +kernel
theorem dX1_copyFrom_8 : decode cX1_copyFrom 8 = .ok (.aload_n 0, 1) := by decide +kernel
theorem dX1_copyFrom_9 : decode cX1_copyFrom 9 = .ok (.aload_n 1, 1) := by decide +kernel
theorem dX1_copyFrom_10 : decode cX1_copyFrom 10 = .ok (.getfield 37, 3) := by decide +kernel
theorem dX1_copyFrom_13 : decode cX1_copyFrom 13 = .ok (.putfield 37, 3) := by decide +kernel
theorem dX1_copyFrom_16 : decode cX1_copyFrom 16 = .ok (.aload_n 0, 1) := by decide +kernel
theorem dX1_copyFrom_17 : decode cX1_copyFrom 17 = .ok (.aload_n 1, 1) := by decide +kernel
theorem dX1_copyFrom_18 : decode cX1_copyFrom 18 = .ok (.getfield 7, 3) := by decide +kernel
theorem dX1_copyFrom_21 : decode cX1_copyFrom 21 = .ok (.putfield 7, 3) := by decide +kernel
theorem dX1_copyFrom_24 : decode cX1_copyFrom 24 = .ok (.aload_n 0, 1) := by decide +kernel
theorem dX1_copyFrom_25 : decode cX1_copyFrom 25 = .ok (.aload_n 1, 1) := by decide +kernel
theorem dX1_copyFrom_26 : decode cX1_copyFrom 26 = .ok (.getfield 13, 3) := by decide +kernel
theorem dX1_copyFrom_29 : decode cX1_copyFrom 29 = .ok (.putfield 13, 3) := by decide +kernel
theorem dX1_copyFrom_32 : decode cX1_copyFrom 32 = .ok (.aload_n 0, 1) := by decide +kernel
theorem dX1_copyFrom_33 : decode cX1_copyFrom 33 = .ok (.aload_n 1, 1) := by decide +kernel
theorem dX1_copyFrom_34 : decode cX1_copyFrom 34 = .ok (.getfield 16, 3) := by decide +kernel
theorem dX1_copyFrom_37 : decode cX1_copyFrom 37 = .ok (.putfield 16, 3) := by decide +kernel
theorem dX1_copyFrom_40 : decode cX1_copyFrom 40 = .ok (.aload_n 0, 1) := by decide +kernel
theorem dX1_copyFrom_41 : decode cX1_copyFrom 41 = .ok (.aload_n 1, 1) := by decide +kernel
theorem dX1_copyFrom_42 : decode cX1_copyFrom 42 = .ok (.getfield 19, 3) := by decide +kernel
theorem dX1_copyFrom_45 : decode cX1_copyFrom 45 = .ok (.putfield 19, 3) := by decide +kernel
theorem dX1_copyFrom_48 : decode cX1_copyFrom 48 = .ok (.return_, 1) := by decide +kernel
theorem dX2_init_0 : decode cX2_init 0 = .ok (.aload_n 0, 1) := by decide +kernel
theorem dX2_init_1 : decode cX2_init 1 = .ok (.invokespecial 3, 3) := by decide +kernel
theorem dX2_init_4 : decode cX2_init 4 = .ok (.aload_n 0, 1) := by decide +kernel
theorem dX2_init_5 : decode cX2_init 5 = .ok (.bipush 24, 2) := by decide +kernel
theorem dX2_init_7 : decode cX2_init 7 = .ok (.newarray .int, 2) := by decide +kernel
theorem dX2_init_9 : decode cX2_init 9 = .ok (.putfield 9, 3) := by decide +kernel
theorem dX2_init_12 : decode cX2_init 12 = .ok (.return_, 1) := by decide +kernel
set_option maxRecDepth 20000 in
theorem ggX2_takeNumbers_X8_copyRow : GoodIn wsX2_takeNumbers wsX8_copyRow := goodIn_r _ [4, 5, 6, 7, 8, 9, 10, 11, 12] (by decide +kernel) (by decide +kernel)
set_option maxRecDepth 20000 in
theorem gX2_takeNumbers_X8_copyRow_n15 : GoodIn wsX2_takeNumbers (wsX8_copyRow) := ggX2_takeNumbers_X8_copyRow
theorem dX2_takeNumbers_0 : decode cX2_takeNumbers 0 = .ok (.aload_n 1, 1) := by decide +kernel
theorem dX2_takeNumbers_1 : decode cX2_takeNumbers 1 = .ok (.aload_n 0, 1) := by decide +kernel
theorem dX2_takeNumbers_2 : decode cX2_takeNumbers 2 = .ok (.getfield 9, 3) := by decide +kernel
theorem dX2_takeNumbers_5 : decode cX2_takeNumbers 5 = .ok (.invokestatic 15, 3) := by decide +kernel
theorem dX2_takeNumbers_8 : decode cX2_takeNumbers 8 = .ok (.return_, 1) := by decide +kernel
theorem dX2_number_0 : decode cX2_number 0 = .ok (.iload_n 1, 1) := by decide +kernel
theorem dX2_number_1 : decode cX2_number 1 = .ok (.ifCond .lt 21, 3) := by decide +kernel
theorem dX2_number_4 : decode cX2_number 4 = .ok (.iload_n 1, 1) := by decide +kernel
theorem dX2_number_5 : decode cX2_number 5 = .ok (.aload_n 0, 1) := by decide +kernel
theorem dX2_number_6 : decode cX2_number 6 = .ok (.getfield 9, 3) := by decide +kernel
theorem dX2_number_9 : decode cX2_number 9 = .ok (.arraylength, 1) := by decide +kernel
theorem dX2_number_10 : decode cX2_number 10 = .ok (.if_icmp .ge 12, 3) := by decide +kernel
theorem dX2_number_13 : decode cX2_number 13 = .ok (.aload_n 0, 1) := by decide +kernel
theorem dX2_number_14 : decode cX2_number 14 = .ok (.getfield 9, 3) := by decide +kernel
theorem dX2_number_17 : decode cX2_number 17 = .ok (.iload_n 1, 1) := by decide +kernel
theorem dX2_number_18 : decode cX2_number 18 = .ok (.iaload, 1) := by decide +kernel
theorem dX2_number_19 : decode cX2_number 19 = .ok (.goto 4, 3) := by decide +kernel
theorem dX2_number_22 : decode cX2_number 22 = .ok (.iconst 0, 1) := by decide +kernel
theorem dX2_number_23 : decode cX2_number 23 = .ok (.ireturn, 1) := by decide +kernel
set_option maxRecDepth 20000 in
theorem ggX2_energyOf_X1_speedOf : GoodIn wsX2_energyOf wsX1_speedOf := goodIn_r _ [8, 9, 10, 29, 30, 31, 32, 33, 34] (by decide +kernel) (by decide +kernel)
set_option maxRecDepth 20000 in
theorem gX2_energyOf_X1_speedOf : GoodIn wsX2_energyOf (wsV RX2 19 RX1 yX1_speedOf wsX1_speedOf) := goodIn_app (goodIn_of _ (by decide +kernel)) ggX2_energyOf_X1_speedOf
set_option maxRecDepth 20000 in
theorem ggX2_energyOf_X2_number : GoodIn wsX2_energyOf wsX2_number := goodIn_r _ [15, 16, 35] (by decide +kernel) (by decide +kernel)
set_option maxRecDepth 20000 in
theorem gX2_energyOf_X2_number : GoodIn wsX2_energyOf (wsV RX2 25 RX2 yX2_number wsX2_number) := goodIn_app (goodIn_of _ (by decide +kernel)) ggX2_energyOf_X2_number
set_option maxRecDepth 20000 in
theorem ggX2_energyOf_X1_angleOf : GoodIn wsX2_energyOf wsX1_angleOf := goodIn_r _ [20, 21, 22, 29, 30, 31, 32, 33, 34] (by decide +kernel) (by decide +kernel)
set_option maxRecDepth 20000 in
theorem gX2_energyOf_X1_angleOf : GoodIn wsX2_energyOf (wsV RX2 30 RX1 yX1_angleOf wsX1_angleOf) := goodIn_app (goodIn_of _ (by decide +kernel)) ggX2_energyOf_X1_angleOf
set_option maxRecDepth 20000 in
theorem ggX2_energyOf_X8_sineOf : GoodIn wsX2_energyOf wsX8_sineOf := goodIn_r _ [25, 26, 27, 28] (by decide +kernel) (by decide +kernel)
set_option maxRecDepth 20000 in
theorem gX2_energyOf_X8_sineOf_n33 : GoodIn wsX2_energyOf (wsX8_sineOf) := ggX2_energyOf_X8_sineOf
theorem dX2_energyOf_0 : decode cX2_energyOf 0 = .ok (.aload_n 2, 1) := by decide +kernel
theorem dX2_energyOf_1 : decode cX2_energyOf 1 = .ok (.iload_n 1, 1) := by decide +kernel
theorem dX2_energyOf_2 : decode cX2_energyOf 2 = .ok (.invokevirtual 19, 3) := by decide +kernel
theorem dX2_energyOf_5 : decode cX2_energyOf 5 = .ok (.i2l, 1) := by decide +kernel
theorem dX2_energyOf_6 : decode cX2_energyOf 6 = .ok (.lstore_n 3, 1) := by decide +kernel
theorem dX2_energyOf_7 : decode cX2_energyOf 7 = .ok (.aload_n 0, 1) := by decide +kernel
theorem dX2_energyOf_8 : decode cX2_energyOf 8 = .ok (.iconst 1, 1) := by decide +kernel
theorem dX2_energyOf_9 : decode cX2_energyOf 9 = .ok (.iload_n 1, 1) := by decide +kernel
theorem dX2_energyOf_10 : decode cX2_energyOf 10 = .ok (.iadd, 1) := by decide +kernel
theorem dX2_energyOf_11 : decode cX2_energyOf 11 = .ok (.iconst 1, 1) := by decide +kernel
theorem dX2_energyOf_12 : decode cX2_energyOf 12 = .ok (.isub, 1) := by decide +kernel
theorem dX2_energyOf_13 : decode cX2_energyOf 13 = .ok (.invokevirtual 25, 3) := by decide +kernel
theorem dX2_energyOf_16 : decode cX2_energyOf 16 = .ok (.i2l, 1) := by decide +kernel
theorem dX2_energyOf_17 : decode cX2_energyOf 17 = .ok (.lstore 5, 2) := by decide +kernel
theorem dX2_energyOf_19 : decode cX2_energyOf 19 = .ok (.lload_n 3, 1) := by decide +kernel
theorem dX2_energyOf_20 : decode cX2_energyOf 20 = .ok (.lload_n 3, 1) := by decide +kernel
theorem dX2_energyOf_21 : decode cX2_energyOf 21 = .ok (.lmul, 1) := by decide +kernel
theorem dX2_energyOf_22 : decode cX2_energyOf 22 = .ok (.ldc2_w 28, 3) := by decide +kernel
theorem dX2_energyOf_25 : decode cX2_energyOf 25 = .ok (.ldiv, 1) := by decide +kernel
theorem dX2_energyOf_26 : decode cX2_energyOf 26 = .ok (.lload 5, 2) := by decide +kernel
theorem dX2_energyOf_28 : decode cX2_energyOf 28 = .ok (.aload_n 2, 1) := by decide +kernel
theorem dX2_energyOf_29 : decode cX2_energyOf 29 = .ok (.iload_n 1, 1) := by decide +kernel
theorem dX2_energyOf_30 : decode cX2_energyOf 30 = .ok (.invokevirtual 30, 3) := by decide +kernel
theorem dX2_energyOf_33 : decode cX2_energyOf 33 = .ok (.sipush 1024, 3) := by decide +kernel
theorem dX2_energyOf_36 : decode cX2_energyOf 36 = .ok (.iadd, 1) := by decide +kernel
theorem dX2_energyOf_37 : decode cX2_energyOf 37 = .ok (.invokestatic 33, 3) := by decide +kernel
theorem dX2_energyOf_40 : decode cX2_energyOf 40 = .ok (.i2l, 1) := by decide +kernel
theorem dX2_energyOf_41 : decode cX2_energyOf 41 = .ok (.lmul, 1) := by decide +kernel
theorem dX2_energyOf_42 : decode cX2_energyOf 42 = .ok (.ldc2_w 36, 3) := by decide +kernel
theorem dX2_energyOf_45 : decode cX2_energyOf 45 = .ok (.lmul, 1) := by decide +kernel
theorem dX2_energyOf_46 : decode cX2_energyOf 46 = .ok (.ldc2_w 38, 3) := by decide +kernel
theorem dX2_energyOf_49 : decode cX2_energyOf 49 = .ok (.ldiv, 1) := by decide +kernel
theorem dX2_energyOf_50 : decode cX2_energyOf 50 = .ok (.ladd, 1) := by decide +kernel
theorem dX2_energyOf_51 : decode cX2_energyOf 51 = .ok (.lreturn, 1) := by decide +kernel
set_option maxRecDepth 20000 in
theorem ggX2_targetOf_X2_number : GoodIn wsX2_targetOf wsX2_number := goodIn_r _ [5, 6, 7] (by decide +kernel) (by decide +kernel)
set_option maxRecDepth 20000 in
theorem gX2_targetOf_X2_number : GoodIn wsX2_targetOf (wsV RX2 25 RX2 yX2_number wsX2_number) := goodIn_app (goodIn_of _ (by decide +kernel)) ggX2_targetOf_X2_number
theorem dX2_targetOf_0 : decode cX2_targetOf 0 = .ok (.aload_n 0, 1) := by decide +kernel
theorem dX2_targetOf_1 : decode cX2_targetOf 1 = .ok (.iconst 1, 1) := by decide +kernel
theorem dX2_targetOf_2 : decode cX2_targetOf 2 = .ok (.iload_n 1, 1) := by decide +kernel
theorem dX2_targetOf_3 : decode cX2_targetOf 3 = .ok (.iadd, 1) := by decide +kernel
theorem dX2_targetOf_4 : decode cX2_targetOf 4 = .ok (.iconst 1, 1) := by decide +kernel
theorem dX2_targetOf_5 : decode cX2_targetOf 5 = .ok (.isub, 1) := by decide +kernel
theorem dX2_targetOf_6 : decode cX2_targetOf 6 = .ok (.invokevirtual 25, 3) := by decide +kernel
theorem dX2_targetOf_9 : decode cX2_targetOf 9 = .ok (.sipush 10430, 3) := by decide +kernel
theorem dX2_targetOf_12 : decode cX2_targetOf 12 = .ok (.imul, 1) := by decide +kernel
theorem dX2_targetOf_13 : decode cX2_targetOf 13 = .ok (.ireturn, 1) := by decide +kernel
set_option maxRecDepth 20000 in
theorem ggX2_balancingPush_X2_number : GoodIn wsX2_balancingPush wsX2_number := goodIn_r _ [12, 13, 23] (by decide +kernel) (by decide +kernel)
set_option maxRecDepth 20000 in
theorem gX2_balancingPush_X2_number : GoodIn wsX2_balancingPush (wsV RX2 25 RX2 yX2_number wsX2_number) := goodIn_app (goodIn_of _ (by decide +kernel)) ggX2_balancingPush_X2_number
set_option maxRecDepth 20000 in
theorem ggX2_balancingPush_X8_leanOf : GoodIn wsX2_balancingPush wsX8_leanOf := goodIn_r _ [16] (by decide +kernel) (by decide +kernel)
set_option maxRecDepth 20000 in
theorem gX2_balancingPush_X8_leanOf_n44 : GoodIn wsX2_balancingPush (wsX8_leanOf) := ggX2_balancingPush_X8_leanOf
theorem dX2_balancingPush_0 : decode cX2_balancingPush 0 = .ok (.aload_n 0, 1) := by decide +kernel
theorem dX2_balancingPush_1 : decode cX2_balancingPush 1 = .ok (.bipush 9, 2) := by decide +kernel
theorem dX2_balancingPush_3 : decode cX2_balancingPush 3 = .ok (.invokevirtual 25, 3) := by decide +kernel
theorem dX2_balancingPush_6 : decode cX2_balancingPush 6 = .ok (.aload_n 1, 1) := by decide +kernel
theorem dX2_balancingPush_7 : decode cX2_balancingPush 7 = .ok (.getfield 40, 3) := by decide +kernel
theorem dX2_balancingPush_10 : decode cX2_balancingPush 10 = .ok (.invokestatic 44, 3) := by decide +kernel
theorem dX2_balancingPush_13 : decode cX2_balancingPush 13 = .ok (.imul, 1) := by decide +kernel
theorem dX2_balancingPush_14 : decode cX2_balancingPush 14 = .ok (.aload_n 0, 1) := by decide +kernel
theorem dX2_balancingPush_15 : decode cX2_balancingPush 15 = .ok (.bipush 10, 2) := by decide +kernel
theorem dX2_balancingPush_17 : decode cX2_balancingPush 17 = .ok (.invokevirtual 25, 3) := by decide +kernel
theorem dX2_balancingPush_20 : decode cX2_balancingPush 20 = .ok (.aload_n 1, 1) := by decide +kernel
theorem dX2_balancingPush_21 : decode cX2_balancingPush 21 = .ok (.getfield 47, 3) := by decide +kernel
theorem dX2_balancingPush_24 : decode cX2_balancingPush 24 = .ok (.imul, 1) := by decide +kernel
theorem dX2_balancingPush_25 : decode cX2_balancingPush 25 = .ok (.iadd, 1) := by decide +kernel
theorem dX2_balancingPush_26 : decode cX2_balancingPush 26 = .ok (.aload_n 0, 1) := by decide +kernel
theorem dX2_balancingPush_27 : decode cX2_balancingPush 27 = .ok (.bipush 11, 2) := by decide +kernel
theorem dX2_balancingPush_29 : decode cX2_balancingPush 29 = .ok (.invokevirtual 25, 3) := by decide +kernel
theorem dX2_balancingPush_32 : decode cX2_balancingPush 32 = .ok (.aload_n 1, 1) := by decide +kernel
theorem dX2_balancingPush_33 : decode cX2_balancingPush 33 = .ok (.getfield 50, 3) := by decide +kernel
theorem dX2_balancingPush_36 : decode cX2_balancingPush 36 = .ok (.invokestatic 44, 3) := by decide +kernel
theorem dX2_balancingPush_39 : decode cX2_balancingPush 39 = .ok (.imul, 1) := by decide +kernel
theorem dX2_balancingPush_40 : decode cX2_balancingPush 40 = .ok (.iadd, 1) := by decide +kernel
theorem dX2_balancingPush_41 : decode cX2_balancingPush 41 = .ok (.aload_n 0, 1) := by decide +kernel
theorem dX2_balancingPush_42 : decode cX2_balancingPush 42 = .ok (.bipush 12, 2) := by decide +kernel
theorem dX2_balancingPush_44 : decode cX2_balancingPush 44 = .ok (.invokevirtual 25, 3) := by decide +kernel
theorem dX2_balancingPush_47 : decode cX2_balancingPush 47 = .ok (.aload_n 1, 1) := by decide +kernel
theorem dX2_balancingPush_48 : decode cX2_balancingPush 48 = .ok (.getfield 53, 3) := by decide +kernel
theorem dX2_balancingPush_51 : decode cX2_balancingPush 51 = .ok (.imul, 1) := by decide +kernel
theorem dX2_balancingPush_52 : decode cX2_balancingPush 52 = .ok (.iadd, 1) := by decide +kernel
theorem dX2_balancingPush_53 : decode cX2_balancingPush 53 = .ok (.aload_n 0, 1) := by decide +kernel
theorem dX2_balancingPush_54 : decode cX2_balancingPush 54 = .ok (.bipush 13, 2) := by decide +kernel
theorem dX2_balancingPush_56 : decode cX2_balancingPush 56 = .ok (.invokevirtual 25, 3) := by decide +kernel
theorem dX2_balancingPush_59 : decode cX2_balancingPush 59 = .ok (.aload_n 1, 1) := by decide +kernel
theorem dX2_balancingPush_60 : decode cX2_balancingPush 60 = .ok (.getfield 56, 3) := by decide +kernel
theorem dX2_balancingPush_63 : decode cX2_balancingPush 63 = .ok (.imul, 1) := by decide +kernel
theorem dX2_balancingPush_64 : decode cX2_balancingPush 64 = .ok (.iadd, 1) := by decide +kernel
theorem dX2_balancingPush_65 : decode cX2_balancingPush 65 = .ok (.aload_n 0, 1) := by decide +kernel
theorem dX2_balancingPush_66 : decode cX2_balancingPush 66 = .ok (.bipush 14, 2) := by decide +kernel
theorem dX2_balancingPush_68 : decode cX2_balancingPush 68 = .ok (.invokevirtual 25, 3) := by decide +kernel
theorem dX2_balancingPush_71 : decode cX2_balancingPush 71 = .ok (.aload_n 1, 1) := by decide +kernel
theorem dX2_balancingPush_72 : decode cX2_balancingPush 72 = .ok (.getfield 59, 3) := by decide +kernel
theorem dX2_balancingPush_75 : decode cX2_balancingPush 75 = .ok (.imul, 1) := by decide +kernel
theorem dX2_balancingPush_76 : decode cX2_balancingPush 76 = .ok (.iadd, 1) := by decide +kernel
theorem dX2_balancingPush_77 : decode cX2_balancingPush 77 = .ok (.istore_n 3, 1) := by decide +kernel
theorem dX2_balancingPush_78 : decode cX2_balancingPush 78 = .ok (.iload_n 2, 1) := by decide +kernel
theorem dX2_balancingPush_79 : decode cX2_balancingPush 79 = .ok (.ineg, 1) := by decide +kernel
theorem dX2_balancingPush_80 : decode cX2_balancingPush 80 = .ok (.iload_n 2, 1) := by decide +kernel
theorem dX2_balancingPush_81 : decode cX2_balancingPush 81 = .ok (.iload_n 3, 1) := by decide +kernel
theorem dX2_balancingPush_82 : decode cX2_balancingPush 82 = .ok (.bipush 64, 2) := by decide +kernel
theorem dX2_balancingPush_84 : decode cX2_balancingPush 84 = .ok (.idiv, 1) := by decide +kernel
theorem dX2_balancingPush_85 : decode cX2_balancingPush 85 = .ok (.invokestatic 62, 3) := by decide +kernel
theorem dX2_balancingPush_88 : decode cX2_balancingPush 88 = .ok (.invokestatic 68, 3) := by decide +kernel
theorem dX2_balancingPush_91 : decode cX2_balancingPush 91 = .ok (.ireturn, 1) := by decide +kernel
set_option maxRecDepth 20000 in
theorem ggX2_swingPush_X8_sineOf : GoodIn wsX2_swingPush wsX8_sineOf := goodIn_r _ [3, 4, 5, 6] (by decide +kernel) (by decide +kernel)
set_option maxRecDepth 20000 in
theorem gX2_swingPush_X8_sineOf_n33 : GoodIn wsX2_swingPush (wsX8_sineOf) := ggX2_swingPush_X8_sineOf
set_option maxRecDepth 20000 in
theorem ggX2_swingPush_X2_energyOf : GoodIn wsX2_swingPush wsX2_energyOf := goodIn_r _ [11, 12, 13, 14, 15, 16, 17, 18, 19, 20, 21, 22, 23, 24, 10, 25, 26, 27, 28, 29, 30, 31, 32, 1, 2, 3, 4, 5, 6, 37, 38, 39, 40, 41, 42, 43] (by decide +kernel) (by decide +kernel)
set_option maxRecDepth 20000 in
theorem gX2_swingPush_X2_energyOf : GoodIn wsX2_swingPush (wsV RX2 71 RX2 yX2_energyOf wsX2_energyOf) := goodIn_app (goodIn_of _ (by decide +kernel)) ggX2_swingPush_X2_energyOf
set_option maxRecDepth 20000 in
theorem ggX2_swingPush_X2_targetOf : GoodIn wsX2_swingPush wsX2_targetOf := goodIn_r _ [36, 22, 23, 24, 10, 25, 26, 43] (by decide +kernel) (by decide +kernel)
set_option maxRecDepth 20000 in
theorem gX2_swingPush_X2_targetOf : GoodIn wsX2_swingPush (wsV RX2 75 RX2 yX2_targetOf wsX2_targetOf) := goodIn_app (goodIn_of _ (by decide +kernel)) ggX2_swingPush_X2_targetOf
theorem dX2_swingPush_0 : decode cX2_swingPush 0 = .ok (.aload_n 1, 1) := by decide +kernel
theorem dX2_swingPush_1 : decode cX2_swingPush 1 = .ok (.getfield 47, 3) := by decide +kernel
theorem dX2_swingPush_4 : decode cX2_swingPush 4 = .ok (.aload_n 1, 1) := by decide +kernel
theorem dX2_swingPush_5 : decode cX2_swingPush 5 = .ok (.getfield 40, 3) := by decide +kernel
theorem dX2_swingPush_8 : decode cX2_swingPush 8 = .ok (.sipush 1024, 3) := by decide +kernel
theorem dX2_swingPush_11 : decode cX2_swingPush 11 = .ok (.iadd, 1) := by decide +kernel
theorem dX2_swingPush_12 : decode cX2_swingPush 12 = .ok (.invokestatic 33, 3) := by decide +kernel
theorem dX2_swingPush_15 : decode cX2_swingPush 15 = .ok (.imul, 1) := by decide +kernel
theorem dX2_swingPush_16 : decode cX2_swingPush 16 = .ok (.istore_n 3, 1) := by decide +kernel
theorem dX2_swingPush_17 : decode cX2_swingPush 17 = .ok (.iload_n 3, 1) := by decide +kernel
theorem dX2_swingPush_18 : decode cX2_swingPush 18 = .ok (.ifCond .ne 5, 3) := by decide +kernel
theorem dX2_swingPush_21 : decode cX2_swingPush 21 = .ok (.iload_n 2, 1) := by decide +kernel
theorem dX2_swingPush_22 : decode cX2_swingPush 22 = .ok (.ireturn, 1) := by decide +kernel
theorem dX2_swingPush_23 : decode cX2_swingPush 23 = .ok (.aload_n 0, 1) := by decide +kernel
theorem dX2_swingPush_24 : decode cX2_swingPush 24 = .ok (.iconst 1, 1) := by decide +kernel
theorem dX2_swingPush_25 : decode cX2_swingPush 25 = .ok (.aload_n 1, 1) := by decide +kernel
theorem dX2_swingPush_26 : decode cX2_swingPush 26 = .ok (.invokevirtual 71, 3) := by decide +kernel
theorem dX2_swingPush_29 : decode cX2_swingPush 29 = .ok (.aload_n 0, 1) := by decide +kernel
theorem dX2_swingPush_30 : decode cX2_swingPush 30 = .ok (.iconst 1, 1) := by decide +kernel
theorem dX2_swingPush_31 : decode cX2_swingPush 31 = .ok (.invokevirtual 75, 3) := by decide +kernel
theorem dX2_swingPush_34 : decode cX2_swingPush 34 = .ok (.i2l, 1) := by decide +kernel
theorem dX2_swingPush_35 : decode cX2_swingPush 35 = .ok (.lcmp, 1) := by decide +kernel
theorem dX2_swingPush_36 : decode cX2_swingPush 36 = .ok (.ifCond .ge 7, 3) := by decide +kernel
theorem dX2_swingPush_39 : decode cX2_swingPush 39 = .ok (.iconst 1, 1) := by decide +kernel
theorem dX2_swingPush_40 : decode cX2_swingPush 40 = .ok (.goto 4, 3) := by decide +kernel
theorem dX2_swingPush_43 : decode cX2_swingPush 43 = .ok (.iconst 0, 1) := by decide +kernel
theorem dX2_swingPush_44 : decode cX2_swingPush 44 = .ok (.istore 4, 2) := by decide +kernel
theorem dX2_swingPush_46 : decode cX2_swingPush 46 = .ok (.iload 4, 2) := by decide +kernel
theorem dX2_swingPush_48 : decode cX2_swingPush 48 = .ok (.iload_n 3, 1) := by decide +kernel
theorem dX2_swingPush_49 : decode cX2_swingPush 49 = .ok (.ifCond .le 7, 3) := by decide +kernel
theorem dX2_swingPush_52 : decode cX2_swingPush 52 = .ok (.iconst 1, 1) := by decide +kernel
theorem dX2_swingPush_53 : decode cX2_swingPush 53 = .ok (.goto 4, 3) := by decide +kernel
theorem dX2_swingPush_56 : decode cX2_swingPush 56 = .ok (.iconst 0, 1) := by decide +kernel
theorem dX2_swingPush_57 : decode cX2_swingPush 57 = .ok (.if_icmp .ne 8, 3) := by decide +kernel
theorem dX2_swingPush_60 : decode cX2_swingPush 60 = .ok (.iload_n 2, 1) := by decide +kernel
theorem dX2_swingPush_61 : decode cX2_swingPush 61 = .ok (.ineg, 1) := by decide +kernel
theorem dX2_swingPush_62 : decode cX2_swingPush 62 = .ok (.goto 4, 3) := by decide +kernel
theorem dX2_swingPush_65 : decode cX2_swingPush 65 = .ok (.iload_n 2, 1) := by decide +kernel
theorem dX2_swingPush_66 : decode cX2_swingPush 66 = .ok (.ireturn, 1) := by decide +kernel
set_option maxRecDepth 20000 in
theorem ggX2_makeStep_X2_number : GoodIn wsX2_makeStep wsX2_number := goodIn_r _ [5, 6, 44] (by decide +kernel) (by decide +kernel)
set_option maxRecDepth 20000 in
theorem gX2_makeStep_X2_number : GoodIn wsX2_makeStep (wsV RX2 25 RX2 yX2_number wsX2_number) := goodIn_app (goodIn_of _ (by decide +kernel)) ggX2_makeStep_X2_number
set_option maxRecDepth 20000 in
theorem ggX2_makeStep_X8_sineOf : GoodIn wsX2_makeStep wsX8_sineOf := goodIn_r _ [9, 10, 11, 12] (by decide +kernel) (by decide +kernel)
set_option maxRecDepth 20000 in
theorem gX2_makeStep_X8_sineOf_n33 : GoodIn wsX2_makeStep (wsX8_sineOf) := ggX2_makeStep_X8_sineOf
set_option maxRecDepth 20000 in
theorem ggX2_makeStep_X2_speedGain : GoodIn wsX2_makeStep wsX2_speedGain := goodIn_r _ [16, 17, 18, 19, 20, 21, 22, 23, 1, 2, 3, 4, 5, 6, 7, 8, 9, 10, 11, 12, 24, 25, 26, 27, 28, 29, 38, 39, 40, 41, 42, 43, 44] (by decide +kernel) (by decide +kernel)
set_option maxRecDepth 20000 in
theorem gX2_makeStep_X2_speedGain : GoodIn wsX2_makeStep (wsV RX2 78 RX2 yX2_speedGain wsX2_speedGain) := goodIn_app (goodIn_of _ (by decide +kernel)) ggX2_makeStep_X2_speedGain
set_option maxRecDepth 20000 in
theorem ggX2_makeStep_X8_wrapped : GoodIn wsX2_makeStep wsX8_wrapped := goodIn_r _ [31] (by decide +kernel) (by decide +kernel)
set_option maxRecDepth 20000 in
theorem gX2_makeStep_X8_wrapped_n82 : GoodIn wsX2_makeStep (wsX8_wrapped) := ggX2_makeStep_X8_wrapped
set_option maxRecDepth 20000 in
theorem ggX2_makeStep_X2_outcomeOf : GoodIn wsX2_makeStep wsX2_outcomeOf := goodIn_r _ [35, 1, 2, 3, 4, 5, 6, 36, 8, 37, 38, 39, 40, 41, 42, 43, 44] (by decide +kernel) (by decide +kernel)
set_option maxRecDepth 20000 in
theorem gX2_makeStep_X2_outcomeOf : GoodIn wsX2_makeStep (wsV RX2 85 RX2 yX2_outcomeOf wsX2_outcomeOf) := goodIn_app (goodIn_of _ (by decide +kernel)) ggX2_makeStep_X2_outcomeOf
theorem dX2_makeStep_0 : decode cX2_makeStep 0 = .ok (.aload_n 0, 1) := by decide +kernel
theorem dX2_makeStep_1 : decode cX2_makeStep 1 = .ok (.bipush 8, 2) := by decide +kernel
theorem dX2_makeStep_3 : decode cX2_makeStep 3 = .ok (.invokevirtual 25, 3) := by decide +kernel
theorem dX2_makeStep_6 : decode cX2_makeStep 6 = .ok (.aload_n 1, 1) := by decide +kernel
theorem dX2_makeStep_7 : decode cX2_makeStep 7 = .ok (.getfield 40, 3) := by decide +kernel
theorem dX2_makeStep_10 : decode cX2_makeStep 10 = .ok (.aload_n 1, 1) := by decide +kernel
theorem dX2_makeStep_11 : decode cX2_makeStep 11 = .ok (.getfield 50, 3) := by decide +kernel
theorem dX2_makeStep_14 : decode cX2_makeStep 14 = .ok (.isub, 1) := by decide +kernel
theorem dX2_makeStep_15 : decode cX2_makeStep 15 = .ok (.invokestatic 33, 3) := by decide +kernel
theorem dX2_makeStep_18 : decode cX2_makeStep 18 = .ok (.imul, 1) := by decide +kernel
theorem dX2_makeStep_19 : decode cX2_makeStep 19 = .ok (.sipush 4096, 3) := by decide +kernel
theorem dX2_makeStep_22 : decode cX2_makeStep 22 = .ok (.idiv, 1) := by decide +kernel
theorem dX2_makeStep_23 : decode cX2_makeStep 23 = .ok (.istore_n 3, 1) := by decide +kernel
theorem dX2_makeStep_24 : decode cX2_makeStep 24 = .ok (.aload_n 0, 1) := by decide +kernel
theorem dX2_makeStep_25 : decode cX2_makeStep 25 = .ok (.iconst 1, 1) := by decide +kernel
theorem dX2_makeStep_26 : decode cX2_makeStep 26 = .ok (.aload_n 1, 1) := by decide +kernel
theorem dX2_makeStep_27 : decode cX2_makeStep 27 = .ok (.iload_n 2, 1) := by decide +kernel
theorem dX2_makeStep_28 : decode cX2_makeStep 28 = .ok (.invokevirtual 78, 3) := by decide +kernel
theorem dX2_makeStep_31 : decode cX2_makeStep 31 = .ok (.iload_n 3, 1) := by decide +kernel
theorem dX2_makeStep_32 : decode cX2_makeStep 32 = .ok (.isub, 1) := by decide +kernel
theorem dX2_makeStep_33 : decode cX2_makeStep 33 = .ok (.istore 4, 2) := by decide +kernel
theorem dX2_makeStep_35 : decode cX2_makeStep 35 = .ok (.aload_n 0, 1) := by decide +kernel
theorem dX2_makeStep_36 : decode cX2_makeStep 36 = .ok (.iconst 2, 1) := by decide +kernel
theorem dX2_makeStep_37 : decode cX2_makeStep 37 = .ok (.aload_n 1, 1) := by decide +kernel
theorem dX2_makeStep_38 : decode cX2_makeStep 38 = .ok (.iload_n 2, 1) := by decide +kernel
theorem dX2_makeStep_39 : decode cX2_makeStep 39 = .ok (.invokevirtual 78, 3) := by decide +kernel
theorem dX2_makeStep_42 : decode cX2_makeStep 42 = .ok (.iload_n 3, 1) := by decide +kernel
theorem dX2_makeStep_43 : decode cX2_makeStep 43 = .ok (.iadd, 1) := by decide +kernel
theorem dX2_makeStep_44 : decode cX2_makeStep 44 = .ok (.istore 5, 2) := by decide +kernel
theorem dX2_makeStep_46 : decode cX2_makeStep 46 = .ok (.aload_n 1, 1) := by decide +kernel
theorem dX2_makeStep_47 : decode cX2_makeStep 47 = .ok (.dup, 1) := by decide +kernel
theorem dX2_makeStep_48 : decode cX2_makeStep 48 = .ok (.getfield 59, 3) := by decide +kernel
theorem dX2_makeStep_51 : decode cX2_makeStep 51 = .ok (.iload_n 2, 1) := by decide +kernel
theorem dX2_makeStep_52 : decode cX2_makeStep 52 = .ok (.iadd, 1) := by decide +kernel
theorem dX2_makeStep_53 : decode cX2_makeStep 53 = .ok (.putfield 59, 3) := by decide +kernel
theorem dX2_makeStep_56 : decode cX2_makeStep 56 = .ok (.aload_n 1, 1) := by decide +kernel
theorem dX2_makeStep_57 : decode cX2_makeStep 57 = .ok (.dup, 1) := by decide +kernel
theorem dX2_makeStep_58 : decode cX2_makeStep 58 = .ok (.getfield 47, 3) := by decide +kernel
theorem dX2_makeStep_61 : decode cX2_makeStep 61 = .ok (.iload 4, 2) := by decide +kernel
theorem dX2_makeStep_63 : decode cX2_makeStep 63 = .ok (.iadd, 1) := by decide +kernel
theorem dX2_makeStep_64 : decode cX2_makeStep 64 = .ok (.putfield 47, 3) := by decide +kernel
theorem dX2_makeStep_67 : decode cX2_makeStep 67 = .ok (.aload_n 1, 1) := by decide +kernel
theorem dX2_makeStep_68 : decode cX2_makeStep 68 = .ok (.dup, 1) := by decide +kernel
theorem dX2_makeStep_69 : decode cX2_makeStep 69 = .ok (.getfield 53, 3) := by decide +kernel
theorem dX2_makeStep_72 : decode cX2_makeStep 72 = .ok (.iload 5, 2) := by decide +kernel
theorem dX2_makeStep_74 : decode cX2_makeStep 74 = .ok (.iadd, 1) := by decide +kernel
theorem dX2_makeStep_75 : decode cX2_makeStep 75 = .ok (.putfield 53, 3) := by decide +kernel
theorem dX2_makeStep_78 : decode cX2_makeStep 78 = .ok (.aload_n 1, 1) := by decide +kernel
theorem dX2_makeStep_79 : decode cX2_makeStep 79 = .ok (.dup, 1) := by decide +kernel
theorem dX2_makeStep_80 : decode cX2_makeStep 80 = .ok (.getfield 56, 3) := by decide +kernel
theorem dX2_makeStep_83 : decode cX2_makeStep 83 = .ok (.aload_n 1, 1) := by decide +kernel
theorem dX2_makeStep_84 : decode cX2_makeStep 84 = .ok (.getfield 59, 3) := by decide +kernel
theorem dX2_makeStep_87 : decode cX2_makeStep 87 = .ok (.bipush 8, 2) := by decide +kernel
theorem dX2_makeStep_89 : decode cX2_makeStep 89 = .ok (.idiv, 1) := by decide +kernel
theorem dX2_makeStep_90 : decode cX2_makeStep 90 = .ok (.iadd, 1) := by decide +kernel
theorem dX2_makeStep_91 : decode cX2_makeStep 91 = .ok (.putfield 56, 3) := by decide +kernel
theorem dX2_makeStep_94 : decode cX2_makeStep 94 = .ok (.aload_n 1, 1) := by decide +kernel
theorem dX2_makeStep_95 : decode cX2_makeStep 95 = .ok (.aload_n 1, 1) := by decide +kernel
theorem dX2_makeStep_96 : decode cX2_makeStep 96 = .ok (.getfield 40, 3) := by decide +kernel
theorem dX2_makeStep_99 : decode cX2_makeStep 99 = .ok (.aload_n 1, 1) := by decide +kernel
theorem dX2_makeStep_100 : decode cX2_makeStep 100 = .ok (.getfield 47, 3) := by decide +kernel
theorem dX2_makeStep_103 : decode cX2_makeStep 103 = .ok (.bipush 16, 2) := by decide +kernel
theorem dX2_makeStep_105 : decode cX2_makeStep 105 = .ok (.idiv, 1) := by decide +kernel
theorem dX2_makeStep_106 : decode cX2_makeStep 106 = .ok (.iadd, 1) := by decide +kernel
theorem dX2_makeStep_107 : decode cX2_makeStep 107 = .ok (.invokestatic 82, 3) := by decide +kernel
theorem dX2_makeStep_110 : decode cX2_makeStep 110 = .ok (.putfield 40, 3) := by decide +kernel
theorem dX2_makeStep_113 : decode cX2_makeStep 113 = .ok (.aload_n 1, 1) := by decide +kernel
theorem dX2_makeStep_114 : decode cX2_makeStep 114 = .ok (.aload_n 1, 1) := by decide +kernel
theorem dX2_makeStep_115 : decode cX2_makeStep 115 = .ok (.getfield 50, 3) := by decide +kernel
theorem dX2_makeStep_118 : decode cX2_makeStep 118 = .ok (.aload_n 1, 1) := by decide +kernel
theorem dX2_makeStep_119 : decode cX2_makeStep 119 = .ok (.getfield 53, 3) := by decide +kernel
theorem dX2_makeStep_122 : decode cX2_makeStep 122 = .ok (.bipush 16, 2) := by decide +kernel
theorem dX2_makeStep_124 : decode cX2_makeStep 124 = .ok (.idiv, 1) := by decide +kernel
theorem dX2_makeStep_125 : decode cX2_makeStep 125 = .ok (.iadd, 1) := by decide +kernel
theorem dX2_makeStep_126 : decode cX2_makeStep 126 = .ok (.invokestatic 82, 3) := by decide +kernel
theorem dX2_makeStep_129 : decode cX2_makeStep 129 = .ok (.putfield 50, 3) := by decide +kernel
theorem dX2_makeStep_132 : decode cX2_makeStep 132 = .ok (.aload_n 0, 1) := by decide +kernel
theorem dX2_makeStep_133 : decode cX2_makeStep 133 = .ok (.aload_n 1, 1) := by decide +kernel
theorem dX2_makeStep_134 : decode cX2_makeStep 134 = .ok (.invokevirtual 85, 3) := by decide +kernel
theorem dX2_makeStep_137 : decode cX2_makeStep 137 = .ok (.ireturn, 1) := by decide +kernel
set_option maxRecDepth 20000 in
theorem ggX2_speedGain_X1_angleOf : GoodIn wsX2_speedGain wsX1_angleOf := goodIn_r _ [5, 6, 7, 26, 27, 28, 29, 30, 31] (by decide +kernel) (by decide +kernel)
set_option maxRecDepth 20000 in
theorem gX2_speedGain_X1_angleOf : GoodIn wsX2_speedGain (wsV RX2 30 RX1 yX1_angleOf wsX1_angleOf) := goodIn_app (goodIn_of _ (by decide +kernel)) ggX2_speedGain_X1_angleOf
set_option maxRecDepth 20000 in
theorem ggX2_speedGain_X2_number : GoodIn wsX2_speedGain wsX2_number := goodIn_r _ [12, 13, 32] (by decide +kernel) (by decide +kernel)
set_option maxRecDepth 20000 in
theorem gX2_speedGain_X2_number : GoodIn wsX2_speedGain (wsV RX2 25 RX2 yX2_number wsX2_number) := goodIn_app (goodIn_of _ (by decide +kernel)) ggX2_speedGain_X2_number
set_option maxRecDepth 20000 in
theorem ggX2_speedGain_X8_sineOf : GoodIn wsX2_speedGain wsX8_sineOf := goodIn_r _ [16, 17, 18, 19] (by decide +kernel) (by decide +kernel)
set_option maxRecDepth 20000 in
theorem gX2_speedGain_X8_sineOf_n33 : GoodIn wsX2_speedGain (wsX8_sineOf) := ggX2_speedGain_X8_sineOf
set_option maxRecDepth 20000 in
theorem ggX2_speedGain_X1_speedOf : GoodIn wsX2_speedGain wsX1_speedOf := goodIn_r _ [23, 24, 25, 26, 27, 28, 29, 30, 31] (by decide +kernel) (by decide +kernel)
set_option maxRecDepth 20000 in
theorem gX2_speedGain_X1_speedOf : GoodIn wsX2_speedGain (wsV RX2 19 RX1 yX1_speedOf wsX1_speedOf) := goodIn_app (goodIn_of _ (by decide +kernel)) ggX2_speedGain_X1_speedOf
theorem dX2_speedGain_0 : decode cX2_speedGain 0 = .ok (.aload_n 2, 1) := by decide +kernel
theorem dX2_speedGain_1 : decode cX2_speedGain 1 = .ok (.iload_n 1, 1) := by decide +kernel
theorem dX2_speedGain_2 : decode cX2_speedGain 2 = .ok (.invokevirtual 30, 3) := by decide +kernel
theorem dX2_speedGain_5 : decode cX2_speedGain 5 = .ok (.istore 4, 2) := by decide +kernel
theorem dX2_speedGain_7 : decode cX2_speedGain 7 = .ok (.aload_n 0, 1) := by decide +kernel
theorem dX2_speedGain_8 : decode cX2_speedGain 8 = .ok (.iconst 1, 1) := by decide +kernel
theorem dX2_speedGain_9 : decode cX2_speedGain 9 = .ok (.iload_n 1, 1) := by decide +kernel
theorem dX2_speedGain_10 : decode cX2_speedGain 10 = .ok (.iadd, 1) := by decide +kernel
theorem dX2_speedGain_11 : decode cX2_speedGain 11 = .ok (.iconst 1, 1) := by decide +kernel
theorem dX2_speedGain_12 : decode cX2_speedGain 12 = .ok (.isub, 1) := by decide +kernel
theorem dX2_speedGain_13 : decode cX2_speedGain 13 = .ok (.invokevirtual 25, 3) := by decide +kernel
theorem dX2_speedGain_16 : decode cX2_speedGain 16 = .ok (.iload 4, 2) := by decide +kernel
theorem dX2_speedGain_18 : decode cX2_speedGain 18 = .ok (.invokestatic 33, 3) := by decide +kernel
theorem dX2_speedGain_21 : decode cX2_speedGain 21 = .ok (.imul, 1) := by decide +kernel
theorem dX2_speedGain_22 : decode cX2_speedGain 22 = .ok (.istore 5, 2) := by decide +kernel
theorem dX2_speedGain_24 : decode cX2_speedGain 24 = .ok (.aload_n 0, 1) := by decide +kernel
theorem dX2_speedGain_25 : decode cX2_speedGain 25 = .ok (.iconst 5, 1) := by decide +kernel
theorem dX2_speedGain_26 : decode cX2_speedGain 26 = .ok (.iload_n 1, 1) := by decide +kernel
theorem dX2_speedGain_27 : decode cX2_speedGain 27 = .ok (.iadd, 1) := by decide +kernel
theorem dX2_speedGain_28 : decode cX2_speedGain 28 = .ok (.iconst 1, 1) := by decide +kernel
theorem dX2_speedGain_29 : decode cX2_speedGain 29 = .ok (.isub, 1) := by decide +kernel
theorem dX2_speedGain_30 : decode cX2_speedGain 30 = .ok (.invokevirtual 25, 3) := by decide +kernel
theorem dX2_speedGain_33 : decode cX2_speedGain 33 = .ok (.iload_n 3, 1) := by decide +kernel
theorem dX2_speedGain_34 : decode cX2_speedGain 34 = .ok (.imul, 1) := by decide +kernel
theorem dX2_speedGain_35 : decode cX2_speedGain 35 = .ok (.iload 4, 2) := by decide +kernel
theorem dX2_speedGain_37 : decode cX2_speedGain 37 = .ok (.sipush 1024, 3) := by decide +kernel
theorem dX2_speedGain_40 : decode cX2_speedGain 40 = .ok (.iadd, 1) := by decide +kernel
theorem dX2_speedGain_41 : decode cX2_speedGain 41 = .ok (.invokestatic 33, 3) := by decide +kernel
theorem dX2_speedGain_44 : decode cX2_speedGain 44 = .ok (.imul, 1) := by decide +kernel
theorem dX2_speedGain_45 : decode cX2_speedGain 45 = .ok (.istore 6, 2) := by decide +kernel
theorem dX2_speedGain_47 : decode cX2_speedGain 47 = .ok (.iload 5, 2) := by decide +kernel
theorem dX2_speedGain_49 : decode cX2_speedGain 49 = .ok (.iload 6, 2) := by decide +kernel
theorem dX2_speedGain_51 : decode cX2_speedGain 51 = .ok (.isub, 1) := by decide +kernel
theorem dX2_speedGain_52 : decode cX2_speedGain 52 = .ok (.sipush 4096, 3) := by decide +kernel
theorem dX2_speedGain_55 : decode cX2_speedGain 55 = .ok (.idiv, 1) := by decide +kernel
theorem dX2_speedGain_56 : decode cX2_speedGain 56 = .ok (.aload_n 0, 1) := by decide +kernel
theorem dX2_speedGain_57 : decode cX2_speedGain 57 = .ok (.iconst 3, 1) := by decide +kernel
theorem dX2_speedGain_58 : decode cX2_speedGain 58 = .ok (.iload_n 1, 1) := by decide +kernel
theorem dX2_speedGain_59 : decode cX2_speedGain 59 = .ok (.iadd, 1) := by decide +kernel
theorem dX2_speedGain_60 : decode cX2_speedGain 60 = .ok (.iconst 1, 1) := by decide +kernel
theorem dX2_speedGain_61 : decode cX2_speedGain 61 = .ok (.isub, 1) := by decide +kernel
theorem dX2_speedGain_62 : decode cX2_speedGain 62 = .ok (.invokevirtual 25, 3) := by decide +kernel
theorem dX2_speedGain_65 : decode cX2_speedGain 65 = .ok (.aload_n 2, 1) := by decide +kernel
theorem dX2_speedGain_66 : decode cX2_speedGain 66 = .ok (.iload_n 1, 1) := by decide +kernel
theorem dX2_speedGain_67 : decode cX2_speedGain 67 = .ok (.invokevirtual 19, 3) := by decide +kernel
theorem dX2_speedGain_70 : decode cX2_speedGain 70 = .ok (.imul, 1) := by decide +kernel
theorem dX2_speedGain_71 : decode cX2_speedGain 71 = .ok (.sipush 4096, 3) := by decide +kernel
theorem dX2_speedGain_74 : decode cX2_speedGain 74 = .ok (.idiv, 1) := by decide +kernel
theorem dX2_speedGain_75 : decode cX2_speedGain 75 = .ok (.isub, 1) := by decide +kernel
theorem dX2_speedGain_76 : decode cX2_speedGain 76 = .ok (.ireturn, 1) := by decide +kernel
set_option maxRecDepth 20000 in
theorem ggX2_outcomeOf_X2_number : GoodIn wsX2_outcomeOf wsX2_number := goodIn_r _ [5, 6, 16] (by decide +kernel) (by decide +kernel)
set_option maxRecDepth 20000 in
theorem gX2_outcomeOf_X2_number : GoodIn wsX2_outcomeOf (wsV RX2 25 RX2 yX2_number wsX2_number) := goodIn_app (goodIn_of _ (by decide +kernel)) ggX2_outcomeOf_X2_number
set_option maxRecDepth 20000 in
theorem ggX2_outcomeOf_X8_isBeyond : GoodIn wsX2_outcomeOf wsX8_isBeyond := goodIn_r _ [9] (by decide +kernel) (by decide +kernel)
set_option maxRecDepth 20000 in
theorem gX2_outcomeOf_X8_isBeyond_n89 : GoodIn wsX2_outcomeOf (wsX8_isBeyond) := ggX2_outcomeOf_X8_isBeyond
theorem dX2_outcomeOf_0 : decode cX2_outcomeOf 0 = .ok (.aload_n 0, 1) := by decide +kernel
theorem dX2_outcomeOf_1 : decode cX2_outcomeOf 1 = .ok (.iconst 0, 1) := by decide +kernel
theorem dX2_outcomeOf_2 : decode cX2_outcomeOf 2 = .ok (.invokevirtual 25, 3) := by decide +kernel
theorem dX2_outcomeOf_5 : decode cX2_outcomeOf 5 = .ok (.istore_n 2, 1) := by decide +kernel
theorem dX2_outcomeOf_6 : decode cX2_outcomeOf 6 = .ok (.aload_n 1, 1) := by decide +kernel
theorem dX2_outcomeOf_7 : decode cX2_outcomeOf 7 = .ok (.getfield 56, 3) := by decide +kernel
theorem dX2_outcomeOf_10 : decode cX2_outcomeOf 10 = .ok (.iload_n 2, 1) := by decide +kernel
theorem dX2_outcomeOf_11 : decode cX2_outcomeOf 11 = .ok (.invokestatic 89, 3) := by decide +kernel
theorem dX2_outcomeOf_14 : decode cX2_outcomeOf 14 = .ok (.ifCond .eq 27, 3) := by decide +kernel
theorem dX2_outcomeOf_17 : decode cX2_outcomeOf 17 = .ok (.aload_n 1, 1) := by decide +kernel
theorem dX2_outcomeOf_18 : decode cX2_outcomeOf 18 = .ok (.aload_n 1, 1) := by decide +kernel
theorem dX2_outcomeOf_19 : decode cX2_outcomeOf 19 = .ok (.getfield 56, 3) := by decide +kernel
theorem dX2_outcomeOf_22 : decode cX2_outcomeOf 22 = .ok (.ifCond .le 7, 3) := by decide +kernel
theorem dX2_outcomeOf_25 : decode cX2_outcomeOf 25 = .ok (.iload_n 2, 1) := by decide +kernel
theorem dX2_outcomeOf_26 : decode cX2_outcomeOf 26 = .ok (.goto 5, 3) := by decide +kernel
theorem dX2_outcomeOf_29 : decode cX2_outcomeOf 29 = .ok (.iload_n 2, 1) := by decide +kernel
theorem dX2_outcomeOf_30 : decode cX2_outcomeOf 30 = .ok (.ineg, 1) := by decide +kernel
theorem dX2_outcomeOf_31 : decode cX2_outcomeOf 31 = .ok (.putfield 56, 3) := by decide +kernel
theorem dX2_outcomeOf_34 : decode cX2_outcomeOf 34 = .ok (.aload_n 1, 1) := by decide +kernel
theorem dX2_outcomeOf_35 : decode cX2_outcomeOf 35 = .ok (.iconst 0, 1) := by decide +kernel
theorem dX2_outcomeOf_36 : decode cX2_outcomeOf 36 = .ok (.putfield 59, 3) := by decide +kernel
theorem dX2_outcomeOf_39 : decode cX2_outcomeOf 39 = .ok (.iconst 1, 1) := by decide +kernel
theorem dX2_outcomeOf_40 : decode cX2_outcomeOf 40 = .ok (.ireturn, 1) := by decide +kernel
theorem dX2_outcomeOf_41 : decode cX2_outcomeOf 41 = .ok (.aload_n 0, 1) := by decide +kernel
theorem dX2_outcomeOf_42 : decode cX2_outcomeOf 42 = .ok (.bipush 20, 2) := by decide +kernel
theorem dX2_outcomeOf_44 : decode cX2_outcomeOf 44 = .ok (.invokevirtual 25, 3) := by decide +kernel
theorem dX2_outcomeOf_47 : decode cX2_outcomeOf 47 = .ok (.istore_n 3, 1) := by decide +kernel
theorem dX2_outcomeOf_48 : decode cX2_outcomeOf 48 = .ok (.aload_n 1, 1) := by decide +kernel
theorem dX2_outcomeOf_49 : decode cX2_outcomeOf 49 = .ok (.getfield 47, 3) := by decide +kernel
theorem dX2_outcomeOf_52 : decode cX2_outcomeOf 52 = .ok (.iload_n 3, 1) := by decide +kernel
theorem dX2_outcomeOf_53 : decode cX2_outcomeOf 53 = .ok (.invokestatic 89, 3) := by decide +kernel
theorem dX2_outcomeOf_56 : decode cX2_outcomeOf 56 = .ok (.ifCond .ne 14, 3) := by decide +kernel
theorem dX2_outcomeOf_59 : decode cX2_outcomeOf 59 = .ok (.aload_n 1, 1) := by decide +kernel
theorem dX2_outcomeOf_60 : decode cX2_outcomeOf 60 = .ok (.getfield 53, 3) := by decide +kernel
theorem dX2_outcomeOf_63 : decode cX2_outcomeOf 63 = .ok (.iload_n 3, 1) := by decide +kernel
theorem dX2_outcomeOf_64 : decode cX2_outcomeOf 64 = .ok (.invokestatic 89, 3) := by decide +kernel
theorem dX2_outcomeOf_67 : decode cX2_outcomeOf 67 = .ok (.ifCond .eq 7, 3) := by decide +kernel
theorem dX2_outcomeOf_70 : decode cX2_outcomeOf 70 = .ok (.iconst 2, 1) := by decide +kernel
theorem dX2_outcomeOf_71 : decode cX2_outcomeOf 71 = .ok (.goto 4, 3) := by decide +kernel
theorem dX2_outcomeOf_74 : decode cX2_outcomeOf 74 = .ok (.iconst 0, 1) := by decide +kernel
theorem dX2_outcomeOf_75 : decode cX2_outcomeOf 75 = .ok (.ireturn, 1) := by decide +kernel
set_option maxRecDepth 20000 in
theorem ggX2_leansBeyond_X2_number : GoodIn wsX2_leansBeyond wsX2_number := goodIn_r _ [5, 6, 18] (by decide +kernel) (by decide +kernel)
set_option maxRecDepth 20000 in
theorem gX2_leansBeyond_X2_number : GoodIn wsX2_leansBeyond (wsV RX2 25 RX2 yX2_number wsX2_number) := goodIn_app (goodIn_of _ (by decide +kernel)) ggX2_leansBeyond_X2_number
set_option maxRecDepth 20000 in
theorem ggX2_leansBeyond_X8_leanOf : GoodIn wsX2_leansBeyond wsX8_leanOf := goodIn_r _ [9] (by decide +kernel) (by decide +kernel)
set_option maxRecDepth 20000 in
theorem gX2_leansBeyond_X8_leanOf_n44 : GoodIn wsX2_leansBeyond (wsX8_leanOf) := ggX2_leansBeyond_X8_leanOf
set_option maxRecDepth 20000 in
theorem ggX2_leansBeyond_X8_isBeyond : GoodIn wsX2_leansBeyond wsX8_isBeyond := goodIn_r _ [11] (by decide +kernel) (by decide +kernel)
set_option maxRecDepth 20000 in
theorem gX2_leansBeyond_X8_isBeyond_n89 : GoodIn wsX2_leansBeyond (wsX8_isBeyond) := ggX2_leansBeyond_X8_isBeyond
theorem dX2_leansBeyond_0 : decode cX2_leansBeyond 0 = .ok (.aload_n 0, 1) := by decide +kernel
theorem dX2_leansBeyond_1 : decode cX2_leansBeyond 1 = .ok (.iload_n 2, 1) := by decide +kernel
theorem dX2_leansBeyond_2 : decode cX2_leansBeyond 2 = .ok (.invokevirtual 25, 3) := by decide +kernel
theorem dX2_leansBeyond_5 : decode cX2_leansBeyond 5 = .ok (.istore_n 3, 1) := by decide +kernel
theorem dX2_leansBeyond_6 : decode cX2_leansBeyond 6 = .ok (.aload_n 1, 1) := by decide +kernel
theorem dX2_leansBeyond_7 : decode cX2_leansBeyond 7 = .ok (.getfield 40, 3) := by decide +kernel
theorem dX2_leansBeyond_10 : decode cX2_leansBeyond 10 = .ok (.invokestatic 44, 3) := by decide +kernel
theorem dX2_leansBeyond_13 : decode cX2_leansBeyond 13 = .ok (.iload_n 3, 1) := by decide +kernel
theorem dX2_leansBeyond_14 : decode cX2_leansBeyond 14 = .ok (.invokestatic 89, 3) := by decide +kernel
theorem dX2_leansBeyond_17 : decode cX2_leansBeyond 17 = .ok (.ifCond .ne 17, 3) := by decide +kernel
theorem dX2_leansBeyond_20 : decode cX2_leansBeyond 20 = .ok (.aload_n 1, 1) := by decide +kernel
theorem dX2_leansBeyond_21 : decode cX2_leansBeyond 21 = .ok (.getfield 50, 3) := by decide +kernel
theorem dX2_leansBeyond_24 : decode cX2_leansBeyond 24 = .ok (.invokestatic 44, 3) := by decide +kernel
theorem dX2_leansBeyond_27 : decode cX2_leansBeyond 27 = .ok (.iload_n 3, 1) := by decide +kernel
theorem dX2_leansBeyond_28 : decode cX2_leansBeyond 28 = .ok (.invokestatic 89, 3) := by decide +kernel
theorem dX2_leansBeyond_31 : decode cX2_leansBeyond 31 = .ok (.ifCond .eq 7, 3) := by decide +kernel
theorem dX2_leansBeyond_34 : decode cX2_leansBeyond 34 = .ok (.iconst 1, 1) := by decide +kernel
theorem dX2_leansBeyond_35 : decode cX2_leansBeyond 35 = .ok (.goto 4, 3) := by decide +kernel
theorem dX2_leansBeyond_38 : decode cX2_leansBeyond 38 = .ok (.iconst 0, 1) := by decide +kernel
theorem dX2_leansBeyond_39 : decode cX2_leansBeyond 39 = .ok (.ireturn, 1) := by decide +kernel
set_option maxRecDepth 20000 in
theorem ggX2_hasCell_X2_number : GoodIn wsX2_hasCell wsX2_number := goodIn_r _ [5, 6, 10] (by decide +kernel) (by decide +kernel)
set_option maxRecDepth 20000 in
theorem gX2_hasCell_X2_number : GoodIn wsX2_hasCell (wsV RX2 25 RX2 yX2_number wsX2_number) := goodIn_app (goodIn_of _ (by decide +kernel)) ggX2_hasCell_X2_number
set_option maxRecDepth 20000 in
theorem ggX2_hasCell_X8_isBeyond : GoodIn wsX2_hasCell wsX8_isBeyond := goodIn_r _ [9] (by decide +kernel) (by decide +kernel)
set_option maxRecDepth 20000 in
theorem gX2_hasCell_X8_isBeyond_n89 : GoodIn wsX2_hasCell (wsX8_isBeyond) := ggX2_hasCell_X8_isBeyond
theorem dX2_hasCell_0 : decode cX2_hasCell 0 = .ok (.aload_n 0, 1) := by decide +kernel
theorem dX2_hasCell_1 : decode cX2_hasCell 1 = .ok (.bipush 17, 2) := by decide +kernel
theorem dX2_hasCell_3 : decode cX2_hasCell 3 = .ok (.invokevirtual 25, 3) := by decide +kernel
theorem dX2_hasCell_6 : decode cX2_hasCell 6 = .ok (.istore_n 3, 1) := by decide +kernel
theorem dX2_hasCell_7 : decode cX2_hasCell 7 = .ok (.iload_n 1, 1) := by decide +kernel
theorem dX2_hasCell_8 : decode cX2_hasCell 8 = .ok (.iload_n 3, 1) := by decide +kernel
theorem dX2_hasCell_9 : decode cX2_hasCell 9 = .ok (.invokestatic 89, 3) := by decide +kernel
theorem dX2_hasCell_12 : decode cX2_hasCell 12 = .ok (.ifCond .ne 15, 3) := by decide +kernel
theorem dX2_hasCell_15 : decode cX2_hasCell 15 = .ok (.iload_n 2, 1) := by decide +kernel
theorem dX2_hasCell_16 : decode cX2_hasCell 16 = .ok (.iload_n 3, 1) := by decide +kernel
theorem dX2_hasCell_17 : decode cX2_hasCell 17 = .ok (.invokestatic 89, 3) := by decide +kernel
theorem dX2_hasCell_20 : decode cX2_hasCell 20 = .ok (.ifCond .ne 7, 3) := by decide +kernel
theorem dX2_hasCell_23 : decode cX2_hasCell 23 = .ok (.iconst 1, 1) := by decide +kernel
theorem dX2_hasCell_24 : decode cX2_hasCell 24 = .ok (.goto 4, 3) := by decide +kernel
theorem dX2_hasCell_27 : decode cX2_hasCell 27 = .ok (.iconst 0, 1) := by decide +kernel
theorem dX2_hasCell_28 : decode cX2_hasCell 28 = .ok (.ireturn, 1) := by decide +kernel
set_option maxRecDepth 20000 in
theorem ggX2_cellPart_X1_angleOf : GoodIn wsX2_cellPart wsX1_angleOf := goodIn_r _ [5, 6, 7, 27, 28, 29, 30, 31, 32] (by decide +kernel) (by decide +kernel)
set_option maxRecDepth 20000 in
theorem gX2_cellPart_X1_angleOf : GoodIn wsX2_cellPart (wsV RX2 30 RX1 yX1_angleOf wsX1_angleOf) := goodIn_app (goodIn_of _ (by decide +kernel)) ggX2_cellPart_X1_angleOf
set_option maxRecDepth 20000 in
theorem ggX2_cellPart_X8_leanOf : GoodIn wsX2_cellPart wsX8_leanOf := goodIn_r _ [10] (by decide +kernel) (by decide +kernel)
set_option maxRecDepth 20000 in
theorem gX2_cellPart_X8_leanOf_n44 : GoodIn wsX2_cellPart (wsX8_leanOf) := ggX2_cellPart_X8_leanOf
set_option maxRecDepth 20000 in
theorem ggX2_cellPart_X1_speedOf : GoodIn wsX2_cellPart wsX1_speedOf := goodIn_r _ [14, 15, 16, 27, 28, 29, 30, 31, 32] (by decide +kernel) (by decide +kernel)
set_option maxRecDepth 20000 in
theorem gX2_cellPart_X1_speedOf : GoodIn wsX2_cellPart (wsV RX2 19 RX1 yX1_speedOf wsX1_speedOf) := goodIn_app (goodIn_of _ (by decide +kernel)) ggX2_cellPart_X1_speedOf
set_option maxRecDepth 20000 in
theorem ggX2_cellPart_X2_number : GoodIn wsX2_cellPart wsX2_number := goodIn_r _ [21, 22, 33] (by decide +kernel) (by decide +kernel)
set_option maxRecDepth 20000 in
theorem gX2_cellPart_X2_number : GoodIn wsX2_cellPart (wsV RX2 25 RX2 yX2_number wsX2_number) := goodIn_app (goodIn_of _ (by decide +kernel)) ggX2_cellPart_X2_number
set_option maxRecDepth 20000 in
theorem ggX2_cellPart_J9_floorDiv_7cf53 : GoodIn wsX2_cellPart wsJ9_floorDiv_7cf53 := goodIn_r _ [26] (by decide +kernel) (by decide +kernel)
set_option maxRecDepth 20000 in
theorem gX2_cellPart_J9_floorDiv_7cf53 : GoodIn wsX2_cellPart (va_wsS RX2 93 yJ9_floorDiv_7cf53 wsJ9_floorDiv_7cf53) := goodIn_app (goodIn_of _ (by decide +kernel)) ggX2_cellPart_J9_floorDiv_7cf53
theorem dX2_cellPart_0 : decode cX2_cellPart 0 = .ok (.iload_n 3, 1) := by decide +kernel
theorem dX2_cellPart_1 : decode cX2_cellPart 1 = .ok (.ifCond .ne 14, 3) := by decide +kernel
theorem dX2_cellPart_4 : decode cX2_cellPart 4 = .ok (.aload_n 1, 1) := by decide +kernel
theorem dX2_cellPart_5 : decode cX2_cellPart 5 = .ok (.iload_n 2, 1) := by decide +kernel
theorem dX2_cellPart_6 : decode cX2_cellPart 6 = .ok (.invokevirtual 30, 3) := by decide +kernel
theorem dX2_cellPart_9 : decode cX2_cellPart 9 = .ok (.invokestatic 44, 3) := by decide +kernel
theorem dX2_cellPart_12 : decode cX2_cellPart 12 = .ok (.goto 8, 3) := by decide +kernel
theorem dX2_cellPart_15 : decode cX2_cellPart 15 = .ok (.aload_n 1, 1) := by decide +kernel
theorem dX2_cellPart_16 : decode cX2_cellPart 16 = .ok (.iload_n 2, 1) := by decide +kernel
theorem dX2_cellPart_17 : decode cX2_cellPart 17 = .ok (.invokevirtual 19, 3) := by decide +kernel
theorem dX2_cellPart_20 : decode cX2_cellPart 20 = .ok (.istore 4, 2) := by decide +kernel
theorem dX2_cellPart_22 : decode cX2_cellPart 22 = .ok (.aload_n 0, 1) := by decide +kernel
theorem dX2_cellPart_23 : decode cX2_cellPart 23 = .ok (.iload_n 3, 1) := by decide +kernel
theorem dX2_cellPart_24 : decode cX2_cellPart 24 = .ok (.ifCond .ne 8, 3) := by decide +kernel
theorem dX2_cellPart_27 : decode cX2_cellPart 27 = .ok (.bipush 15, 2) := by decide +kernel
theorem dX2_cellPart_29 : decode cX2_cellPart 29 = .ok (.goto 5, 3) := by decide +kernel
theorem dX2_cellPart_32 : decode cX2_cellPart 32 = .ok (.bipush 16, 2) := by decide +kernel
theorem dX2_cellPart_34 : decode cX2_cellPart 34 = .ok (.invokevirtual 25, 3) := by decide +kernel
theorem dX2_cellPart_37 : decode cX2_cellPart 37 = .ok (.istore 5, 2) := by decide +kernel
theorem dX2_cellPart_39 : decode cX2_cellPart 39 = .ok (.iload 5, 2) := by decide +kernel
theorem dX2_cellPart_41 : decode cX2_cellPart 41 = .ok (.ifCond .le 20, 3) := by decide +kernel
theorem dX2_cellPart_44 : decode cX2_cellPart 44 = .ok (.iconst 2, 1) := by decide +kernel
theorem dX2_cellPart_45 : decode cX2_cellPart 45 = .ok (.iload 4, 2) := by decide +kernel
theorem dX2_cellPart_47 : decode cX2_cellPart 47 = .ok (.imul, 1) := by decide +kernel
theorem dX2_cellPart_48 : decode cX2_cellPart 48 = .ok (.iload 5, 2) := by decide +kernel
theorem dX2_cellPart_50 : decode cX2_cellPart 50 = .ok (.iadd, 1) := by decide +kernel
theorem dX2_cellPart_51 : decode cX2_cellPart 51 = .ok (.iconst 2, 1) := by decide +kernel
theorem dX2_cellPart_52 : decode cX2_cellPart 52 = .ok (.iload 5, 2) := by decide +kernel
theorem dX2_cellPart_54 : decode cX2_cellPart 54 = .ok (.imul, 1) := by decide +kernel
theorem dX2_cellPart_55 : decode cX2_cellPart 55 = .ok (.invokestatic 93, 3) := by decide +kernel
theorem dX2_cellPart_58 : decode cX2_cellPart 58 = .ok (.goto 4, 3) := by decide +kernel
theorem dX2_cellPart_61 : decode cX2_cellPart 61 = .ok (.iconst 0, 1) := by decide +kernel
theorem dX2_cellPart_62 : decode cX2_cellPart 62 = .ok (.ireturn, 1) := by decide +kernel
theorem dX3_init_0 : decode cX3_init 0 = .ok (.aload_n 0, 1) := by decide +kernel
theorem dX3_init_1 : decode cX3_init 1 = .ok (.invokespecial 3, 3) := by decide +kernel
theorem dX3_init_4 : decode cX3_init 4 = .ok (.aload_n 0, 1) := by decide +kernel
theorem dX3_init_5 : decode cX3_init 5 = .ok (.sipush 500, 3) := by decide +kernel
theorem dX3_init_8 : decode cX3_init 8 = .ok (.newarray .int, 2) := by decide +kernel
theorem dX3_init_10 : decode cX3_init 10 = .ok (.putfield 9, 3) := by decide +kernel
theorem dX3_init_13 : decode cX3_init 13 = .ok (.aload_n 0, 1) := by decide +kernel
theorem dX3_init_14 : decode cX3_init 14 = .ok (.bipush 24, 2) := by decide +kernel
theorem dX3_init_16 : decode cX3_init 16 = .ok (.newarray .int, 2) := by decide +kernel
theorem dX3_init_18 : decode cX3_init 18 = .ok (.putfield 15, 3) := by decide +kernel
theorem dX3_init_21 : decode cX3_init 21 = .ok (.return_, 1) := by decide +kernel
theorem dX3_hasRoomFor_0 : decode cX3_hasRoomFor 0 = .ok (.aload_n 0, 1) := by decide +kernel
theorem dX3_hasRoomFor_1 : decode cX3_hasRoomFor 1 = .ok (.getfield 18, 3) := by decide +kernel
theorem dX3_hasRoomFor_4 : decode cX3_hasRoomFor 4 = .ok (.iload_n 1, 1) := by decide +kernel
theorem dX3_hasRoomFor_5 : decode cX3_hasRoomFor 5 = .ok (.iadd, 1) := by decide +kernel
theorem dX3_hasRoomFor_6 : decode cX3_hasRoomFor 6 = .ok (.sipush 500, 3) := by decide +kernel
theorem dX3_hasRoomFor_9 : decode cX3_hasRoomFor 9 = .ok (.if_icmp .gt 7, 3) := by decide +kernel
theorem dX3_hasRoomFor_12 : decode cX3_hasRoomFor 12 = .ok (.iconst 1, 1) := by decide +kernel
theorem dX3_hasRoomFor_13 : decode cX3_hasRoomFor 13 = .ok (.goto 4, 3) := by decide +kernel
theorem dX3_hasRoomFor_16 : decode cX3_hasRoomFor 16 = .ok (.iconst 0, 1) := by decide +kernel
theorem dX3_hasRoomFor_17 : decode cX3_hasRoomFor 17 = .ok (.ireturn, 1) := by decide +kernel
set_option maxRecDepth 20000 in
theorem ggX3_addBytesOf_X8_putAt : GoodIn wsX3_addBytesOf wsX8_putAt := goodIn_r _ [5] (by decide +kernel) (by decide +kernel)
set_option maxRecDepth 20000 in
theorem gX3_addBytesOf_X8_putAt_n22 : GoodIn wsX3_addBytesOf (wsX8_putAt) := ggX3_addBytesOf_X8_putAt
theorem dX3_addBytesOf_0 : decode cX3_addBytesOf 0 = .ok (.bipush 24, 2) := by decide +kernel
theorem dX3_addBytesOf_2 : decode cX3_addBytesOf 2 = .ok (.istore_n 2, 1) := by decide +kernel
theorem dX3_addBytesOf_3 : decode cX3_addBytesOf 3 = .ok (.iload_n 2, 1) := by decide +kernel
theorem dX3_addBytesOf_4 : decode cX3_addBytesOf 4 = .ok (.ifCond .lt 37, 3) := by decide +kernel
theorem dX3_addBytesOf_7 : decode cX3_addBytesOf 7 = .ok (.aload_n 0, 1) := by decide +kernel
theorem dX3_addBytesOf_8 : decode cX3_addBytesOf 8 = .ok (.getfield 9, 3) := by decide +kernel
theorem dX3_addBytesOf_11 : decode cX3_addBytesOf 11 = .ok (.aload_n 0, 1) := by decide +kernel
theorem dX3_addBytesOf_12 : decode cX3_addBytesOf 12 = .ok (.getfield 18, 3) := by decide +kernel
theorem dX3_addBytesOf_15 : decode cX3_addBytesOf 15 = .ok (.iload_n 1, 1) := by decide +kernel
theorem dX3_addBytesOf_16 : decode cX3_addBytesOf 16 = .ok (.iload_n 2, 1) := by decide +kernel
theorem dX3_addBytesOf_17 : decode cX3_addBytesOf 17 = .ok (.iushr, 1) := by decide +kernel
theorem dX3_addBytesOf_18 : decode cX3_addBytesOf 18 = .ok (.sipush 255, 3) := by decide +kernel
theorem dX3_addBytesOf_21 : decode cX3_addBytesOf 21 = .ok (.iand, 1) := by decide +kernel
theorem dX3_addBytesOf_22 : decode cX3_addBytesOf 22 = .ok (.invokestatic 22, 3) := by decide +kernel
theorem dX3_addBytesOf_25 : decode cX3_addBytesOf 25 = .ok (.aload_n 0, 1) := by decide +kernel
theorem dX3_addBytesOf_26 : decode cX3_addBytesOf 26 = .ok (.dup, 1) := by decide +kernel
theorem dX3_addBytesOf_27 : decode cX3_addBytesOf 27 = .ok (.getfield 18, 3) := by decide +kernel
theorem dX3_addBytesOf_30 : decode cX3_addBytesOf 30 = .ok (.iconst 1, 1) := by decide +kernel
theorem dX3_addBytesOf_31 : decode cX3_addBytesOf 31 = .ok (.iadd, 1) := by decide +kernel
theorem dX3_addBytesOf_32 : decode cX3_addBytesOf 32 = .ok (.putfield 18, 3) := by decide +kernel
theorem dX3_addBytesOf_35 : decode cX3_addBytesOf 35 = .ok (.iinc 2 (-8), 3) := by decide +kernel
theorem dX3_addBytesOf_38 : decode cX3_addBytesOf 38 = .ok (.goto (-35), 3) := by decide +kernel
theorem dX3_addBytesOf_41 : decode cX3_addBytesOf 41 = .ok (.return_, 1) := by decide +kernel
set_option maxRecDepth 20000 in
theorem ggX3_readText_X8_copyRow : GoodIn wsX3_readText wsX8_copyRow := goodIn_r _ [9, 10, 11, 12, 13, 14, 15, 16, 17] (by decide +kernel) (by decide +kernel)
set_option maxRecDepth 20000 in
theorem gX3_readText_X8_copyRow_n29 : GoodIn wsX3_readText (wsX8_copyRow) := ggX3_readText_X8_copyRow
set_option maxRecDepth 20000 in
theorem ggX3_readText_X3_readToken : GoodIn wsX3_readText wsX3_readToken := goodIn_r _ [22, 4, 23, 3, 24, 6, 25, 8, 26, 27, 28, 21, 29, 30, 31, 32, 33, 34, 35, 36, 37, 38, 39, 40, 41, 42, 43, 44, 114, 115, 116, 117, 118, 119, 120, 121, 122] (by decide +kernel) (by decide +kernel)
set_option maxRecDepth 20000 in
theorem gX3_readText_X3_readToken : GoodIn wsX3_readText (wsV RX3 42 RX3 yX3_readToken wsX3_readToken) := goodIn_app (goodIn_of _ (by decide +kernel)) ggX3_readText_X3_readToken
set_option maxRecDepth 20000 in
theorem ggX3_readText_X3_readStatement : GoodIn wsX3_readText wsX3_readStatement := goodIn_r _ [48, 6, 5, 49, 50, 51, 21, 52, 53, 8, 54, 55, 56, 57, 58, 4, 23, 24, 59, 60, 61, 62, 63, 64, 65, 66, 67, 68, 69, 70, 71, 72, 73, 74, 75, 76, 77, 78, 79, 80, 81, 82, 83, 84, 85, 86, 87, 88, 89, 90, 91, 92, 93, 94, 95, 96, 97, 98, 99, 100, 101, 102, 103, 104, 105, 106, 107, 25, 26, 108, 109, 110, 111, 44, 1, 18, 19, 20, 22, 3, 27, 28, 29, 30, 31, 32, 33, 34, 35, 36, 37, 38, 39, 40, 41, 42, 43, 112, 113, 114, 115, 116, 117, 118, 119, 120, 121, 122] (by decide +kernel) (by decide +kernel)
set_option maxRecDepth 20000 in
theorem gX3_readText_X3_readStatement : GoodIn wsX3_readText (wsV RX3 48 RX3 yX3_readStatement wsX3_readStatement) := goodIn_app (goodIn_of _ (by decide +kernel)) ggX3_readText_X3_readStatement
theorem dX3_readText_0 : decode cX3_readText 0 = .ok (.getstatic 26, 3) := by decide +kernel
theorem dX3_readText_3 : decode cX3_readText 3 = .ok (.aload_n 0, 1) := by decide +kernel
theorem dX3_readText_4 : decode cX3_readText 4 = .ok (.getfield 15, 3) := by decide +kernel
theorem dX3_readText_7 : decode cX3_readText 7 = .ok (.invokestatic 29, 3) := by decide +kernel
theorem dX3_readText_10 : decode cX3_readText 10 = .ok (.aload_n 0, 1) := by decide +kernel
theorem dX3_readText_11 : decode cX3_readText 11 = .ok (.iconst 0, 1) := by decide +kernel
theorem dX3_readText_12 : decode cX3_readText 12 = .ok (.putfield 18, 3) := by decide +kernel
theorem dX3_readText_15 : decode cX3_readText 15 = .ok (.aload_n 0, 1) := by decide +kernel
theorem dX3_readText_16 : decode cX3_readText 16 = .ok (.iload_n 1, 1) := by decide +kernel
theorem dX3_readText_17 : decode cX3_readText 17 = .ok (.putfield 33, 3) := by decide +kernel
theorem dX3_readText_20 : decode cX3_readText 20 = .ok (.aload_n 0, 1) := by decide +kernel
theorem dX3_readText_21 : decode cX3_readText 21 = .ok (.iconst 0, 1) := by decide +kernel
theorem dX3_readText_22 : decode cX3_readText 22 = .ok (.putfield 36, 3) := by decide +kernel
theorem dX3_readText_25 : decode cX3_readText 25 = .ok (.aload_n 0, 1) := by decide +kernel
theorem dX3_readText_26 : decode cX3_readText 26 = .ok (.iconst 0, 1) := by decide +kernel
theorem dX3_readText_27 : decode cX3_readText 27 = .ok (.putfield 39, 3) := by decide +kernel
theorem dX3_readText_30 : decode cX3_readText 30 = .ok (.iconst 0, 1) := by decide +kernel
theorem dX3_readText_31 : decode cX3_readText 31 = .ok (.istore_n 2, 1) := by decide +kernel
theorem dX3_readText_32 : decode cX3_readText 32 = .ok (.aload_n 0, 1) := by decide +kernel
theorem dX3_readText_33 : decode cX3_readText 33 = .ok (.invokevirtual 42, 3) := by decide +kernel
theorem dX3_readText_36 : decode cX3_readText 36 = .ok (.iconst 0, 1) := by decide +kernel
theorem dX3_readText_37 : decode cX3_readText 37 = .ok (.istore_n 3, 1) := by decide +kernel
theorem dX3_readText_38 : decode cX3_readText 38 = .ok (.iload_n 3, 1) := by decide +kernel
theorem dX3_readText_39 : decode cX3_readText 39 = .ok (.sipush 500, 3) := by decide +kernel
theorem dX3_readText_42 : decode cX3_readText 42 = .ok (.if_icmp .ge 33, 3) := by decide +kernel
theorem dX3_readText_45 : decode cX3_readText 45 = .ok (.iload_n 2, 1) := by decide +kernel
theorem dX3_readText_46 : decode cX3_readText 46 = .ok (.ifCond .ne 29, 3) := by decide +kernel
theorem dX3_readText_49 : decode cX3_readText 49 = .ok (.aload_n 0, 1) := by decide +kernel
theorem dX3_readText_50 : decode cX3_readText 50 = .ok (.getfield 45, 3) := by decide +kernel
theorem dX3_readText_53 : decode cX3_readText 53 = .ok (.ifCond .eq 22, 3) := by decide +kernel
theorem dX3_readText_56 : decode cX3_readText 56 = .ok (.aload_n 0, 1) := by decide +kernel
theorem dX3_readText_57 : decode cX3_readText 57 = .ok (.invokevirtual 48, 3) := by decide +kernel
theorem dX3_readText_60 : decode cX3_readText 60 = .ok (.istore_n 2, 1) := by decide +kernel
theorem dX3_readText_61 : decode cX3_readText 61 = .ok (.iload_n 2, 1) := by decide +kernel
theorem dX3_readText_62 : decode cX3_readText 62 = .ok (.ifCond .ne 7, 3) := by decide +kernel
theorem dX3_readText_65 : decode cX3_readText 65 = .ok (.aload_n 0, 1) := by decide +kernel
theorem dX3_readText_66 : decode cX3_readText 66 = .ok (.invokevirtual 42, 3) := by decide +kernel
theorem dX3_readText_69 : decode cX3_readText 69 = .ok (.iinc 3 1, 3) := by decide +kernel
theorem dX3_readText_72 : decode cX3_readText 72 = .ok (.goto (-34), 3) := by decide +kernel
theorem dX3_readText_75 : decode cX3_readText 75 = .ok (.iload_n 2, 1) := by decide +kernel
theorem dX3_readText_76 : decode cX3_readText 76 = .ok (.ireturn, 1) := by decide +kernel
set_option maxRecDepth 20000 in
theorem ggX3_readStatement_X3_sortOfWord : GoodIn wsX3_readStatement wsX3_sortOfWord := goodIn_r _ [7, 8, 9, 10, 11, 12, 13, 6, 14, 15, 16, 17, 18, 19, 20, 21, 22, 23, 24, 25, 26, 27, 28, 29, 30, 31, 32, 33, 34, 35, 36, 37, 38, 39, 40, 41, 42, 43, 44, 45, 46, 47, 48, 49, 50, 51, 52, 53, 54, 55, 56, 57, 58, 59, 60, 61, 62, 63, 64, 65, 66, 67, 68, 99, 100, 101, 102, 103, 104, 105, 106, 107] (by decide +kernel) (by decide +kernel)
set_option maxRecDepth 20000 in
theorem gX3_readStatement_X3_sortOfWord : GoodIn wsX3_readStatement (wsV RX3 52 RX3 yX3_sortOfWord wsX3_sortOfWord) := goodIn_app (goodIn_of _ (by decide +kernel)) ggX3_readStatement_X3_sortOfWord
set_option maxRecDepth 20000 in
theorem ggX3_readStatement_X8_valueAt : GoodIn wsX3_readStatement wsX8_valueAt := goodIn_r _ [68] (by decide +kernel) (by decide +kernel)
set_option maxRecDepth 20000 in
theorem gX3_readStatement_X8_valueAt_n58 : GoodIn wsX3_readStatement (wsX8_valueAt) := ggX3_readStatement_X8_valueAt
set_option maxRecDepth 20000 in
theorem ggX3_readStatement_X3_readNumber : GoodIn wsX3_readStatement wsX3_readNumber := goodIn_r _ [72, 1, 73, 74, 75, 76, 77, 6, 78, 15, 16, 79, 17, 67, 9, 68, 80, 81, 82, 83, 84, 85, 86, 87, 88, 89, 90, 91, 92, 93, 94, 95, 96, 97, 98, 99, 100, 101, 102, 103, 104, 105, 106, 107] (by decide +kernel) (by decide +kernel)
set_option maxRecDepth 20000 in
theorem gX3_readStatement_X3_readNumber : GoodIn wsX3_readStatement (wsV RX3 62 RX3 yX3_readNumber wsX3_readNumber) := goodIn_app (goodIn_of _ (by decide +kernel)) ggX3_readStatement_X3_readNumber
set_option maxRecDepth 20000 in
theorem ggX3_readStatement_X3_readToken : GoodIn wsX3_readStatement wsX3_readToken := goodIn_r _ [78, 15, 16, 79, 17, 1, 67, 9, 68, 80, 81, 6, 82, 83, 84, 85, 86, 87, 88, 89, 90, 91, 92, 93, 94, 95, 96, 73, 99, 100, 101, 102, 103, 104, 105, 106, 107] (by decide +kernel) (by decide +kernel)
set_option maxRecDepth 20000 in
theorem gX3_readStatement_X3_readToken : GoodIn wsX3_readStatement (wsV RX3 42 RX3 yX3_readToken wsX3_readToken) := goodIn_app (goodIn_of _ (by decide +kernel)) ggX3_readStatement_X3_readToken
theorem dX3_readStatement_0 : decode cX3_readStatement 0 = .ok (.aload_n 0, 1) := by decide +kernel
theorem dX3_readStatement_1 : decode cX3_readStatement 1 = .ok (.getfield 45, 3) := by decide +kernel
theorem dX3_readStatement_4 : decode cX3_readStatement 4 = .ok (.iconst 1, 1) := by decide +kernel
theorem dX3_readStatement_5 : decode cX3_readStatement 5 = .ok (.if_icmp .ne 10, 3) := by decide +kernel
theorem dX3_readStatement_8 : decode cX3_readStatement 8 = .ok (.aload_n 0, 1) := by decide +kernel
theorem dX3_readStatement_9 : decode cX3_readStatement 9 = .ok (.invokevirtual 52, 3) := by decide +kernel
theorem dX3_readStatement_12 : decode cX3_readStatement 12 = .ok (.goto 4, 3) := by decide +kernel
theorem dX3_readStatement_15 : decode cX3_readStatement 15 = .ok (.iconst (-1), 1) := by decide +kernel
theorem dX3_readStatement_16 : decode cX3_readStatement 16 = .ok (.istore_n 1, 1) := by decide +kernel
theorem dX3_readStatement_17 : decode cX3_readStatement 17 = .ok (.iload_n 1, 1) := by decide +kernel
theorem dX3_readStatement_18 : decode cX3_readStatement 18 = .ok (.iconst (-1), 1) := by decide +kernel
theorem dX3_readStatement_19 : decode cX3_readStatement 19 = .ok (.if_icmp .ne 5, 3) := by decide +kernel
theorem dX3_readStatement_22 : decode cX3_readStatement 22 = .ok (.iconst 1, 1) := by decide +kernel
theorem dX3_readStatement_23 : decode cX3_readStatement 23 = .ok (.ireturn, 1) := by decide +kernel
theorem dX3_readStatement_24 : decode cX3_readStatement 24 = .ok (.aload_n 0, 1) := by decide +kernel
theorem dX3_readStatement_25 : decode cX3_readStatement 25 = .ok (.getfield 39, 3) := by decide +kernel
theorem dX3_readStatement_28 : decode cX3_readStatement 28 = .ok (.iload_n 1, 1) := by decide +kernel
theorem dX3_readStatement_29 : decode cX3_readStatement 29 = .ok (.ishr, 1) := by decide +kernel
theorem dX3_readStatement_30 : decode cX3_readStatement 30 = .ok (.iconst 1, 1) := by decide +kernel
theorem dX3_readStatement_31 : decode cX3_readStatement 31 = .ok (.iand, 1) := by decide +kernel
theorem dX3_readStatement_32 : decode cX3_readStatement 32 = .ok (.ifCond .eq 5, 3) := by decide +kernel
theorem dX3_readStatement_35 : decode cX3_readStatement 35 = .ok (.iconst 2, 1) := by decide +kernel
theorem dX3_readStatement_36 : decode cX3_readStatement 36 = .ok (.ireturn, 1) := by decide +kernel
theorem dX3_readStatement_37 : decode cX3_readStatement 37 = .ok (.aload_n 0, 1) := by decide +kernel
theorem dX3_readStatement_38 : decode cX3_readStatement 38 = .ok (.dup, 1) := by decide +kernel
theorem dX3_readStatement_39 : decode cX3_readStatement 39 = .ok (.getfield 39, 3) := by decide +kernel
theorem dX3_readStatement_42 : decode cX3_readStatement 42 = .ok (.iconst 1, 1) := by decide +kernel
theorem dX3_readStatement_43 : decode cX3_readStatement 43 = .ok (.iload_n 1, 1) := by decide +kernel
theorem dX3_readStatement_44 : decode cX3_readStatement 44 = .ok (.ishl, 1) := by decide +kernel
theorem dX3_readStatement_45 : decode cX3_readStatement 45 = .ok (.ior, 1) := by decide +kernel
theorem dX3_readStatement_46 : decode cX3_readStatement 46 = .ok (.putfield 39, 3) := by decide +kernel
theorem dX3_readStatement_49 : decode cX3_readStatement 49 = .ok (.iconst 0, 1) := by decide +kernel
theorem dX3_readStatement_50 : decode cX3_readStatement 50 = .ok (.istore_n 2, 1) := by decide +kernel
theorem dX3_readStatement_51 : decode cX3_readStatement 51 = .ok (.getstatic 55, 3) := by decide +kernel
theorem dX3_readStatement_54 : decode cX3_readStatement 54 = .ok (.iload_n 1, 1) := by decide +kernel
theorem dX3_readStatement_55 : decode cX3_readStatement 55 = .ok (.iconst 1, 1) := by decide +kernel
theorem dX3_readStatement_56 : decode cX3_readStatement 56 = .ok (.iadd, 1) := by decide +kernel
theorem dX3_readStatement_57 : decode cX3_readStatement 57 = .ok (.invokestatic 58, 3) := by decide +kernel
theorem dX3_readStatement_60 : decode cX3_readStatement 60 = .ok (.istore_n 3, 1) := by decide +kernel
theorem dX3_readStatement_61 : decode cX3_readStatement 61 = .ok (.getstatic 55, 3) := by decide +kernel
theorem dX3_readStatement_64 : decode cX3_readStatement 64 = .ok (.iload_n 1, 1) := by decide +kernel
theorem dX3_readStatement_65 : decode cX3_readStatement 65 = .ok (.invokestatic 58, 3) := by decide +kernel
theorem dX3_readStatement_68 : decode cX3_readStatement 68 = .ok (.istore 4, 2) := by decide +kernel
theorem dX3_readStatement_70 : decode cX3_readStatement 70 = .ok (.iload 4, 2) := by decide +kernel
theorem dX3_readStatement_72 : decode cX3_readStatement 72 = .ok (.iload_n 3, 1) := by decide +kernel
theorem dX3_readStatement_73 : decode cX3_readStatement 73 = .ok (.if_icmp .ge 20, 3) := by decide +kernel
theorem dX3_readStatement_76 : decode cX3_readStatement 76 = .ok (.iload_n 2, 1) := by decide +kernel
theorem dX3_readStatement_77 : decode cX3_readStatement 77 = .ok (.ifCond .ne 16, 3) := by decide +kernel
theorem dX3_readStatement_80 : decode cX3_readStatement 80 = .ok (.aload_n 0, 1) := by decide +kernel
theorem dX3_readStatement_81 : decode cX3_readStatement 81 = .ok (.iload 4, 2) := by decide +kernel
theorem dX3_readStatement_83 : decode cX3_readStatement 83 = .ok (.invokevirtual 62, 3) := by decide +kernel
theorem dX3_readStatement_86 : decode cX3_readStatement 86 = .ok (.istore_n 2, 1) := by decide +kernel
theorem dX3_readStatement_87 : decode cX3_readStatement 87 = .ok (.iinc 4 1, 3) := by decide +kernel
theorem dX3_readStatement_90 : decode cX3_readStatement 90 = .ok (.goto (-20), 3) := by decide +kernel
theorem dX3_readStatement_93 : decode cX3_readStatement 93 = .ok (.iload_n 2, 1) := by decide +kernel
theorem dX3_readStatement_94 : decode cX3_readStatement 94 = .ok (.ifCond .eq 5, 3) := by decide +kernel
theorem dX3_readStatement_97 : decode cX3_readStatement 97 = .ok (.iload_n 2, 1) := by decide +kernel
theorem dX3_readStatement_98 : decode cX3_readStatement 98 = .ok (.ireturn, 1) := by decide +kernel
theorem dX3_readStatement_99 : decode cX3_readStatement 99 = .ok (.aload_n 0, 1) := by decide +kernel
theorem dX3_readStatement_100 : decode cX3_readStatement 100 = .ok (.invokevirtual 42, 3) := by decide +kernel
theorem dX3_readStatement_103 : decode cX3_readStatement 103 = .ok (.aload_n 0, 1) := by decide +kernel
theorem dX3_readStatement_104 : decode cX3_readStatement 104 = .ok (.getfield 45, 3) := by decide +kernel
theorem dX3_readStatement_107 : decode cX3_readStatement 107 = .ok (.iconst 3, 1) := by decide +kernel
theorem dX3_readStatement_108 : decode cX3_readStatement 108 = .ok (.if_icmp .ne 7, 3) := by decide +kernel
theorem dX3_readStatement_111 : decode cX3_readStatement 111 = .ok (.iconst 0, 1) := by decide +kernel
theorem dX3_readStatement_112 : decode cX3_readStatement 112 = .ok (.goto 4, 3) := by decide +kernel
theorem dX3_readStatement_115 : decode cX3_readStatement 115 = .ok (.iconst 1, 1) := by decide +kernel
theorem dX3_readStatement_116 : decode cX3_readStatement 116 = .ok (.ireturn, 1) := by decide +kernel
set_option maxRecDepth 20000 in
theorem ggX3_readNumber_X3_readToken : GoodIn wsX3_readNumber wsX3_readToken := goodIn_r _ [8, 9, 10, 11, 12, 1, 13, 14, 15, 16, 17, 7, 18, 19, 20, 21, 22, 23, 24, 25, 26, 27, 28, 29, 30, 31, 32, 2, 35, 36, 37, 38, 39, 40, 41, 42, 43] (by decide +kernel) (by decide +kernel)
set_option maxRecDepth 20000 in
theorem gX3_readNumber_X3_readToken : GoodIn wsX3_readNumber (wsV RX3 42 RX3 yX3_readToken wsX3_readToken) := goodIn_app (goodIn_of _ (by decide +kernel)) ggX3_readNumber_X3_readToken
set_option maxRecDepth 20000 in
theorem ggX3_readNumber_X8_valueAt : GoodIn wsX3_readNumber wsX8_valueAt := goodIn_r _ [15] (by decide +kernel) (by decide +kernel)
set_option maxRecDepth 20000 in
theorem gX3_readNumber_X8_valueAt_n58 : GoodIn wsX3_readNumber (wsX8_valueAt) := ggX3_readNumber_X8_valueAt
set_option maxRecDepth 20000 in
theorem ggX3_readNumber_X8_putAt : GoodIn wsX3_readNumber wsX8_putAt := goodIn_r _ [34] (by decide +kernel) (by decide +kernel)
set_option maxRecDepth 20000 in
theorem gX3_readNumber_X8_putAt_n22 : GoodIn wsX3_readNumber (wsX8_putAt) := ggX3_readNumber_X8_putAt
theorem dX3_readNumber_0 : decode cX3_readNumber 0 = .ok (.aload_n 0, 1) := by decide +kernel
theorem dX3_readNumber_1 : decode cX3_readNumber 1 = .ok (.invokevirtual 42, 3) := by decide +kernel
theorem dX3_readNumber_4 : decode cX3_readNumber 4 = .ok (.aload_n 0, 1) := by decide +kernel
theorem dX3_readNumber_5 : decode cX3_readNumber 5 = .ok (.getfield 45, 3) := by decide +kernel
theorem dX3_readNumber_8 : decode cX3_readNumber 8 = .ok (.iconst 2, 1) := by decide +kernel
theorem dX3_readNumber_9 : decode cX3_readNumber 9 = .ok (.if_icmp .eq 5, 3) := by decide +kernel
theorem dX3_readNumber_12 : decode cX3_readNumber 12 = .ok (.iconst 1, 1) := by decide +kernel
theorem dX3_readNumber_13 : decode cX3_readNumber 13 = .ok (.ireturn, 1) := by decide +kernel
theorem dX3_readNumber_14 : decode cX3_readNumber 14 = .ok (.aload_n 0, 1) := by decide +kernel
theorem dX3_readNumber_15 : decode cX3_readNumber 15 = .ok (.getfield 66, 3) := by decide +kernel
theorem dX3_readNumber_18 : decode cX3_readNumber 18 = .ok (.getstatic 69, 3) := by decide +kernel
theorem dX3_readNumber_21 : decode cX3_readNumber 21 = .ok (.iload_n 1, 1) := by decide +kernel
theorem dX3_readNumber_22 : decode cX3_readNumber 22 = .ok (.invokestatic 58, 3) := by decide +kernel
theorem dX3_readNumber_25 : decode cX3_readNumber 25 = .ok (.if_icmp .lt 17, 3) := by decide +kernel
theorem dX3_readNumber_28 : decode cX3_readNumber 28 = .ok (.aload_n 0, 1) := by decide +kernel
theorem dX3_readNumber_29 : decode cX3_readNumber 29 = .ok (.getfield 66, 3) := by decide +kernel
theorem dX3_readNumber_32 : decode cX3_readNumber 32 = .ok (.getstatic 72, 3) := by decide +kernel
theorem dX3_readNumber_35 : decode cX3_readNumber 35 = .ok (.iload_n 1, 1) := by decide +kernel
theorem dX3_readNumber_36 : decode cX3_readNumber 36 = .ok (.invokestatic 58, 3) := by decide +kernel
theorem dX3_readNumber_39 : decode cX3_readNumber 39 = .ok (.if_icmp .le 5, 3) := by decide +kernel
theorem dX3_readNumber_42 : decode cX3_readNumber 42 = .ok (.iconst 3, 1) := by decide +kernel
theorem dX3_readNumber_43 : decode cX3_readNumber 43 = .ok (.ireturn, 1) := by decide +kernel
theorem dX3_readNumber_44 : decode cX3_readNumber 44 = .ok (.aload_n 0, 1) := by decide +kernel
theorem dX3_readNumber_45 : decode cX3_readNumber 45 = .ok (.getfield 15, 3) := by decide +kernel
theorem dX3_readNumber_48 : decode cX3_readNumber 48 = .ok (.iload_n 1, 1) := by decide +kernel
theorem dX3_readNumber_49 : decode cX3_readNumber 49 = .ok (.aload_n 0, 1) := by decide +kernel
theorem dX3_readNumber_50 : decode cX3_readNumber 50 = .ok (.getfield 66, 3) := by decide +kernel
theorem dX3_readNumber_53 : decode cX3_readNumber 53 = .ok (.invokestatic 22, 3) := by decide +kernel
theorem dX3_readNumber_56 : decode cX3_readNumber 56 = .ok (.iconst 0, 1) := by decide +kernel
theorem dX3_readNumber_57 : decode cX3_readNumber 57 = .ok (.ireturn, 1) := by decide +kernel
set_option maxRecDepth 20000 in
theorem ggX3_sortOfWord_X8_wordOf : GoodIn wsX3_sortOfWord wsX8_wordOf := goodIn_r _ [3] (by decide +kernel) (by decide +kernel)
set_option maxRecDepth 20000 in
theorem gX3_sortOfWord_X8_wordOf_n75 : GoodIn wsX3_sortOfWord (wsX8_wordOf) := ggX3_sortOfWord_X8_wordOf
set_option maxRecDepth 20000 in
theorem ggX3_sortOfWord_X3_isWord : GoodIn wsX3_sortOfWord wsX3_isWord := goodIn_r _ [8, 9, 10, 11, 12, 13, 14, 15, 16, 17, 18, 19, 20, 21, 22, 23, 24, 25, 26, 27, 28, 29, 30, 31, 32, 33, 34, 35, 36, 37, 38, 39, 40, 41, 42, 43, 44, 45, 46, 47, 48, 49, 50, 51, 52, 53, 54, 55, 56, 57, 58, 59, 60, 61, 2, 62, 63, 64, 65, 66, 67, 68, 69, 70, 71] (by decide +kernel) (by decide +kernel)
set_option maxRecDepth 20000 in
theorem gX3_sortOfWord_X3_isWord : GoodIn wsX3_sortOfWord (wsV RX3 79 RX3 yX3_isWord wsX3_isWord) := goodIn_app (goodIn_of _ (by decide +kernel)) ggX3_sortOfWord_X3_isWord
theorem dX3_sortOfWord_0 : decode cX3_sortOfWord 0 = .ok (.iconst 0, 1) := by decide +kernel
theorem dX3_sortOfWord_1 : decode cX3_sortOfWord 1 = .ok (.istore_n 1, 1) := by decide +kernel
theorem dX3_sortOfWord_2 : decode cX3_sortOfWord 2 = .ok (.iload_n 1, 1) := by decide +kernel
theorem dX3_sortOfWord_3 : decode cX3_sortOfWord 3 = .ok (.bipush 9, 2) := by decide +kernel
theorem dX3_sortOfWord_5 : decode cX3_sortOfWord 5 = .ok (.if_icmp .ge 22, 3) := by decide +kernel
theorem dX3_sortOfWord_8 : decode cX3_sortOfWord 8 = .ok (.aload_n 0, 1) := by decide +kernel
theorem dX3_sortOfWord_9 : decode cX3_sortOfWord 9 = .ok (.iload_n 1, 1) := by decide +kernel
theorem dX3_sortOfWord_10 : decode cX3_sortOfWord 10 = .ok (.invokestatic 75, 3) := by decide +kernel
theorem dX3_sortOfWord_13 : decode cX3_sortOfWord 13 = .ok (.invokevirtual 79, 3) := by decide +kernel
theorem dX3_sortOfWord_16 : decode cX3_sortOfWord 16 = .ok (.ifCond .eq 5, 3) := by decide +kernel
theorem dX3_sortOfWord_19 : decode cX3_sortOfWord 19 = .ok (.iload_n 1, 1) := by decide +kernel
theorem dX3_sortOfWord_20 : decode cX3_sortOfWord 20 = .ok (.ireturn, 1) := by decide +kernel
theorem dX3_sortOfWord_21 : decode cX3_sortOfWord 21 = .ok (.iinc 1 1, 3) := by decide +kernel
theorem dX3_sortOfWord_24 : decode cX3_sortOfWord 24 = .ok (.goto (-22), 3) := by decide +kernel
theorem dX3_sortOfWord_27 : decode cX3_sortOfWord 27 = .ok (.iconst (-1), 1) := by decide +kernel
theorem dX3_sortOfWord_28 : decode cX3_sortOfWord 28 = .ok (.ireturn, 1) := by decide +kernel
set_option maxRecDepth 20000 in
theorem ggX3_isWord_J0_length_8abf5 : GoodIn wsX3_isWord wsJ0_length_8abf5 := goodIn_r _ [8, 9, 10, 11, 12, 7, 13, 14, 15] (by decide +kernel) (by decide +kernel)
set_option maxRecDepth 20000 in
theorem gX3_isWord_J0_length_8abf5 : GoodIn wsX3_isWord (wsV RX3 83 RJ0 yJ0_length_8abf5 wsJ0_length_8abf5) := goodIn_app (goodIn_of _ (by decide +kernel)) ggX3_isWord_J0_length_8abf5
set_option maxRecDepth 20000 in
theorem ggX3_isWord_J0_charAt_5068e : GoodIn wsX3_isWord wsJ0_charAt_5068e := goodIn_r _ [19, 9, 20, 21, 22, 7, 23, 14, 15, 24, 25, 26, 27, 28, 29, 30, 31, 32, 33, 34, 35, 36, 37, 38, 39, 40, 41, 42, 43, 44, 45, 46, 47, 48, 49, 50, 51, 52] (by decide +kernel) (by decide +kernel)
set_option maxRecDepth 20000 in
theorem gX3_isWord_J0_charAt_5068e : GoodIn wsX3_isWord (wsV RX3 91 RJ0 yJ0_charAt_5068e wsJ0_charAt_5068e) := goodIn_app (goodIn_of _ (by decide +kernel)) ggX3_isWord_J0_charAt_5068e
set_option maxRecDepth 20000 in
theorem ggX3_isWord_X8_valueAt : GoodIn wsX3_isWord wsX8_valueAt := goodIn_r _ [55] (by decide +kernel) (by decide +kernel)
set_option maxRecDepth 20000 in
theorem gX3_isWord_X8_valueAt_n58 : GoodIn wsX3_isWord (wsX8_valueAt) := ggX3_isWord_X8_valueAt
theorem dX3_isWord_0 : decode cX3_isWord 0 = .ok (.aload_n 1, 1) := by decide +kernel
theorem dX3_isWord_1 : decode cX3_isWord 1 = .ok (.invokevirtual 83, 3) := by decide +kernel
theorem dX3_isWord_4 : decode cX3_isWord 4 = .ok (.aload_n 0, 1) := by decide +kernel
theorem dX3_isWord_5 : decode cX3_isWord 5 = .ok (.getfield 36, 3) := by decide +kernel
theorem dX3_isWord_8 : decode cX3_isWord 8 = .ok (.aload_n 0, 1) := by decide +kernel
theorem dX3_isWord_9 : decode cX3_isWord 9 = .ok (.getfield 88, 3) := by decide +kernel
theorem dX3_isWord_12 : decode cX3_isWord 12 = .ok (.isub, 1) := by decide +kernel
theorem dX3_isWord_13 : decode cX3_isWord 13 = .ok (.if_icmp .eq 5, 3) := by decide +kernel
theorem dX3_isWord_16 : decode cX3_isWord 16 = .ok (.iconst 0, 1) := by decide +kernel
theorem dX3_isWord_17 : decode cX3_isWord 17 = .ok (.ireturn, 1) := by decide +kernel
theorem dX3_isWord_18 : decode cX3_isWord 18 = .ok (.iconst 0, 1) := by decide +kernel
theorem dX3_isWord_19 : decode cX3_isWord 19 = .ok (.istore_n 2, 1) := by decide +kernel
theorem dX3_isWord_20 : decode cX3_isWord 20 = .ok (.iload_n 2, 1) := by decide +kernel
theorem dX3_isWord_21 : decode cX3_isWord 21 = .ok (.aload_n 1, 1) := by decide +kernel
theorem dX3_isWord_22 : decode cX3_isWord 22 = .ok (.invokevirtual 83, 3) := by decide +kernel
theorem dX3_isWord_25 : decode cX3_isWord 25 = .ok (.if_icmp .ge 32, 3) := by decide +kernel
theorem dX3_isWord_28 : decode cX3_isWord 28 = .ok (.aload_n 1, 1) := by decide +kernel
theorem dX3_isWord_29 : decode cX3_isWord 29 = .ok (.iload_n 2, 1) := by decide +kernel
theorem dX3_isWord_30 : decode cX3_isWord 30 = .ok (.invokevirtual 91, 3) := by decide +kernel
theorem dX3_isWord_33 : decode cX3_isWord 33 = .ok (.aload_n 0, 1) := by decide +kernel
theorem dX3_isWord_34 : decode cX3_isWord 34 = .ok (.getfield 9, 3) := by decide +kernel
theorem dX3_isWord_37 : decode cX3_isWord 37 = .ok (.aload_n 0, 1) := by decide +kernel
theorem dX3_isWord_38 : decode cX3_isWord 38 = .ok (.getfield 88, 3) := by decide +kernel
theorem dX3_isWord_41 : decode cX3_isWord 41 = .ok (.iload_n 2, 1) := by decide +kernel
theorem dX3_isWord_42 : decode cX3_isWord 42 = .ok (.iadd, 1) := by decide +kernel
theorem dX3_isWord_43 : decode cX3_isWord 43 = .ok (.invokestatic 58, 3) := by decide +kernel
theorem dX3_isWord_46 : decode cX3_isWord 46 = .ok (.if_icmp .eq 5, 3) := by decide +kernel
theorem dX3_isWord_49 : decode cX3_isWord 49 = .ok (.iconst 0, 1) := by decide +kernel
theorem dX3_isWord_50 : decode cX3_isWord 50 = .ok (.ireturn, 1) := by decide +kernel
theorem dX3_isWord_51 : decode cX3_isWord 51 = .ok (.iinc 2 1, 3) := by decide +kernel
theorem dX3_isWord_54 : decode cX3_isWord 54 = .ok (.goto (-34), 3) := by decide +kernel
theorem dX3_isWord_57 : decode cX3_isWord 57 = .ok (.iconst 1, 1) := by decide +kernel
theorem dX3_isWord_58 : decode cX3_isWord 58 = .ok (.ireturn, 1) := by decide +kernel
set_option maxRecDepth 20000 in
theorem ggX3_readToken_X8_valueAt : GoodIn wsX3_readToken wsX8_valueAt := goodIn_r _ [8] (by decide +kernel) (by decide +kernel)
set_option maxRecDepth 20000 in
theorem gX3_readToken_X8_valueAt_n58 : GoodIn wsX3_readToken (wsX8_valueAt) := ggX3_readToken_X8_valueAt
set_option maxRecDepth 20000 in
theorem ggX3_readToken_X3_isSeparator : GoodIn wsX3_readToken wsX3_isSeparator := goodIn_r _ [12] (by decide +kernel) (by decide +kernel)
set_option maxRecDepth 20000 in
theorem gX3_readToken_X3_isSeparator : GoodIn wsX3_readToken (va_wsS RX3 95 yX3_isSeparator wsX3_isSeparator) := goodIn_app (goodIn_of _ (by decide +kernel)) ggX3_readToken_X3_isSeparator
set_option maxRecDepth 20000 in
theorem ggX3_readToken_X3_isLetter : GoodIn wsX3_readToken wsX3_isLetter := goodIn_r _ [15] (by decide +kernel) (by decide +kernel)
set_option maxRecDepth 20000 in
theorem gX3_readToken_X3_isLetter : GoodIn wsX3_readToken (va_wsS RX3 99 yX3_isLetter wsX3_isLetter) := goodIn_app (goodIn_of _ (by decide +kernel)) ggX3_readToken_X3_isLetter
set_option maxRecDepth 20000 in
theorem ggX3_readToken_X3_readLetters : GoodIn wsX3_readToken wsX3_readLetters := goodIn_r _ [19, 1, 3, 4, 2, 5, 6, 7, 8, 13, 14, 11, 15, 28, 29, 30, 31, 32, 33, 34, 35, 36] (by decide +kernel) (by decide +kernel)
set_option maxRecDepth 20000 in
theorem gX3_readToken_X3_readLetters : GoodIn wsX3_readToken (wsV RX3 102 RX3 yX3_readLetters wsX3_readLetters) := goodIn_app (goodIn_of _ (by decide +kernel)) ggX3_readToken_X3_readLetters
set_option maxRecDepth 20000 in
theorem ggX3_readToken_X3_isDigit : GoodIn wsX3_readToken wsX3_isDigit := goodIn_r _ [22] (by decide +kernel) (by decide +kernel)
set_option maxRecDepth 20000 in
theorem gX3_readToken_X3_isDigit : GoodIn wsX3_readToken (va_wsS RX3 105 yX3_isDigit wsX3_isDigit) := goodIn_app (goodIn_of _ (by decide +kernel)) ggX3_readToken_X3_isDigit
set_option maxRecDepth 20000 in
theorem ggX3_readToken_X3_readDigits : GoodIn wsX3_readToken wsX3_readDigits := goodIn_r _ [26, 27, 1, 3, 4, 2, 5, 6, 7, 8, 20, 21, 11, 22, 28, 29, 30, 31, 32, 33, 34, 35, 36] (by decide +kernel) (by decide +kernel)
set_option maxRecDepth 20000 in
theorem gX3_readToken_X3_readDigits : GoodIn wsX3_readToken (wsV RX3 108 RX3 yX3_readDigits wsX3_readDigits) := goodIn_app (goodIn_of _ (by decide +kernel)) ggX3_readToken_X3_readDigits
theorem dX3_readToken_0 : decode cX3_readToken 0 = .ok (.aload_n 0, 1) := by decide +kernel
theorem dX3_readToken_1 : decode cX3_readToken 1 = .ok (.aload_n 0, 1) := by decide +kernel
theorem dX3_readToken_2 : decode cX3_readToken 2 = .ok (.getfield 36, 3) := by decide +kernel
theorem dX3_readToken_5 : decode cX3_readToken 5 = .ok (.putfield 88, 3) := by decide +kernel
theorem dX3_readToken_8 : decode cX3_readToken 8 = .ok (.aload_n 0, 1) := by decide +kernel
theorem dX3_readToken_9 : decode cX3_readToken 9 = .ok (.getfield 88, 3) := by decide +kernel
theorem dX3_readToken_12 : decode cX3_readToken 12 = .ok (.aload_n 0, 1) := by decide +kernel
theorem dX3_readToken_13 : decode cX3_readToken 13 = .ok (.getfield 33, 3) := by decide +kernel
theorem dX3_readToken_16 : decode cX3_readToken 16 = .ok (.if_icmp .ge 33, 3) := by decide +kernel
theorem dX3_readToken_19 : decode cX3_readToken 19 = .ok (.aload_n 0, 1) := by decide +kernel
theorem dX3_readToken_20 : decode cX3_readToken 20 = .ok (.getfield 9, 3) := by decide +kernel
theorem dX3_readToken_23 : decode cX3_readToken 23 = .ok (.aload_n 0, 1) := by decide +kernel
theorem dX3_readToken_24 : decode cX3_readToken 24 = .ok (.getfield 88, 3) := by decide +kernel
theorem dX3_readToken_27 : decode cX3_readToken 27 = .ok (.invokestatic 58, 3) := by decide +kernel
theorem dX3_readToken_30 : decode cX3_readToken 30 = .ok (.invokestatic 95, 3) := by decide +kernel
theorem dX3_readToken_33 : decode cX3_readToken 33 = .ok (.ifCond .eq 16, 3) := by decide +kernel
theorem dX3_readToken_36 : decode cX3_readToken 36 = .ok (.aload_n 0, 1) := by decide +kernel
theorem dX3_readToken_37 : decode cX3_readToken 37 = .ok (.dup, 1) := by decide +kernel
theorem dX3_readToken_38 : decode cX3_readToken 38 = .ok (.getfield 88, 3) := by decide +kernel
theorem dX3_readToken_41 : decode cX3_readToken 41 = .ok (.iconst 1, 1) := by decide +kernel
theorem dX3_readToken_42 : decode cX3_readToken 42 = .ok (.iadd, 1) := by decide +kernel
theorem dX3_readToken_43 : decode cX3_readToken 43 = .ok (.putfield 88, 3) := by decide +kernel
theorem dX3_readToken_46 : decode cX3_readToken 46 = .ok (.goto (-38), 3) := by decide +kernel
theorem dX3_readToken_49 : decode cX3_readToken 49 = .ok (.aload_n 0, 1) := by decide +kernel
theorem dX3_readToken_50 : decode cX3_readToken 50 = .ok (.aload_n 0, 1) := by decide +kernel
theorem dX3_readToken_51 : decode cX3_readToken 51 = .ok (.getfield 88, 3) := by decide +kernel
theorem dX3_readToken_54 : decode cX3_readToken 54 = .ok (.putfield 36, 3) := by decide +kernel
theorem dX3_readToken_57 : decode cX3_readToken 57 = .ok (.aload_n 0, 1) := by decide +kernel
theorem dX3_readToken_58 : decode cX3_readToken 58 = .ok (.getfield 88, 3) := by decide +kernel
theorem dX3_readToken_61 : decode cX3_readToken 61 = .ok (.aload_n 0, 1) := by decide +kernel
theorem dX3_readToken_62 : decode cX3_readToken 62 = .ok (.getfield 33, 3) := by decide +kernel
theorem dX3_readToken_65 : decode cX3_readToken 65 = .ok (.if_icmp .lt 9, 3) := by decide +kernel
theorem dX3_readToken_68 : decode cX3_readToken 68 = .ok (.aload_n 0, 1) := by decide +kernel
theorem dX3_readToken_69 : decode cX3_readToken 69 = .ok (.iconst 0, 1) := by decide +kernel
theorem dX3_readToken_70 : decode cX3_readToken 70 = .ok (.putfield 45, 3) := by decide +kernel
theorem dX3_readToken_73 : decode cX3_readToken 73 = .ok (.return_, 1) := by decide +kernel
theorem dX3_readToken_74 : decode cX3_readToken 74 = .ok (.aload_n 0, 1) := by decide +kernel
theorem dX3_readToken_75 : decode cX3_readToken 75 = .ok (.getfield 9, 3) := by decide +kernel
theorem dX3_readToken_78 : decode cX3_readToken 78 = .ok (.aload_n 0, 1) := by decide +kernel
theorem dX3_readToken_79 : decode cX3_readToken 79 = .ok (.getfield 88, 3) := by decide +kernel
theorem dX3_readToken_82 : decode cX3_readToken 82 = .ok (.invokestatic 58, 3) := by decide +kernel
theorem dX3_readToken_85 : decode cX3_readToken 85 = .ok (.istore_n 1, 1) := by decide +kernel
theorem dX3_readToken_86 : decode cX3_readToken 86 = .ok (.iload_n 1, 1) := by decide +kernel
theorem dX3_readToken_87 : decode cX3_readToken 87 = .ok (.invokestatic 99, 3) := by decide +kernel
theorem dX3_readToken_90 : decode cX3_readToken 90 = .ok (.ifCond .eq 10, 3) := by decide +kernel
theorem dX3_readToken_93 : decode cX3_readToken 93 = .ok (.aload_n 0, 1) := by decide +kernel
theorem dX3_readToken_94 : decode cX3_readToken 94 = .ok (.invokevirtual 102, 3) := by decide +kernel
theorem dX3_readToken_97 : decode cX3_readToken 97 = .ok (.goto 42, 3) := by decide +kernel
theorem dX3_readToken_100 : decode cX3_readToken 100 = .ok (.iload_n 1, 1) := by decide +kernel
theorem dX3_readToken_101 : decode cX3_readToken 101 = .ok (.invokestatic 105, 3) := by decide +kernel
theorem dX3_readToken_104 : decode cX3_readToken 104 = .ok (.ifCond .eq 10, 3) := by decide +kernel
theorem dX3_readToken_107 : decode cX3_readToken 107 = .ok (.aload_n 0, 1) := by decide +kernel
theorem dX3_readToken_108 : decode cX3_readToken 108 = .ok (.invokevirtual 108, 3) := by decide +kernel
theorem dX3_readToken_111 : decode cX3_readToken 111 = .ok (.goto 28, 3) := by decide +kernel
theorem dX3_readToken_114 : decode cX3_readToken 114 = .ok (.aload_n 0, 1) := by decide +kernel
theorem dX3_readToken_115 : decode cX3_readToken 115 = .ok (.dup, 1) := by decide +kernel
theorem dX3_readToken_116 : decode cX3_readToken 116 = .ok (.getfield 36, 3) := by decide +kernel
theorem dX3_readToken_119 : decode cX3_readToken 119 = .ok (.iconst 1, 1) := by decide +kernel
theorem dX3_readToken_120 : decode cX3_readToken 120 = .ok (.iadd, 1) := by decide +kernel
theorem dX3_readToken_121 : decode cX3_readToken 121 = .ok (.putfield 36, 3) := by decide +kernel
theorem dX3_readToken_124 : decode cX3_readToken 124 = .ok (.aload_n 0, 1) := by decide +kernel
theorem dX3_readToken_125 : decode cX3_readToken 125 = .ok (.iload_n 1, 1) := by decide +kernel
theorem dX3_readToken_126 : decode cX3_readToken 126 = .ok (.bipush 59, 2) := by decide +kernel
theorem dX3_readToken_128 : decode cX3_readToken 128 = .ok (.if_icmp .ne 7, 3) := by decide +kernel
theorem dX3_readToken_131 : decode cX3_readToken 131 = .ok (.iconst 3, 1) := by decide +kernel
theorem dX3_readToken_132 : decode cX3_readToken 132 = .ok (.goto 4, 3) := by decide +kernel
theorem dX3_readToken_135 : decode cX3_readToken 135 = .ok (.iconst 4, 1) := by decide +kernel
theorem dX3_readToken_136 : decode cX3_readToken 136 = .ok (.putfield 45, 3) := by decide +kernel
theorem dX3_readToken_139 : decode cX3_readToken 139 = .ok (.return_, 1) := by decide +kernel
set_option maxRecDepth 20000 in
theorem ggX3_readLetters_X8_valueAt : GoodIn wsX3_readLetters wsX8_valueAt := goodIn_r _ [8] (by decide +kernel) (by decide +kernel)
set_option maxRecDepth 20000 in
theorem gX3_readLetters_X8_valueAt_n58 : GoodIn wsX3_readLetters (wsX8_valueAt) := ggX3_readLetters_X8_valueAt
set_option maxRecDepth 20000 in
theorem ggX3_readLetters_X3_isLetter : GoodIn wsX3_readLetters wsX3_isLetter := goodIn_r _ [12] (by decide +kernel) (by decide +kernel)
set_option maxRecDepth 20000 in
theorem gX3_readLetters_X3_isLetter : GoodIn wsX3_readLetters (va_wsS RX3 99 yX3_isLetter wsX3_isLetter) := goodIn_app (goodIn_of _ (by decide +kernel)) ggX3_readLetters_X3_isLetter
theorem dX3_readLetters_0 : decode cX3_readLetters 0 = .ok (.aload_n 0, 1) := by decide +kernel
theorem dX3_readLetters_1 : decode cX3_readLetters 1 = .ok (.getfield 36, 3) := by decide +kernel
theorem dX3_readLetters_4 : decode cX3_readLetters 4 = .ok (.aload_n 0, 1) := by decide +kernel
theorem dX3_readLetters_5 : decode cX3_readLetters 5 = .ok (.getfield 33, 3) := by decide +kernel
theorem dX3_readLetters_8 : decode cX3_readLetters 8 = .ok (.if_icmp .ge 33, 3) := by decide +kernel
theorem dX3_readLetters_11 : decode cX3_readLetters 11 = .ok (.aload_n 0, 1) := by decide +kernel
theorem dX3_readLetters_12 : decode cX3_readLetters 12 = .ok (.getfield 9, 3) := by decide +kernel
theorem dX3_readLetters_15 : decode cX3_readLetters 15 = .ok (.aload_n 0, 1) := by decide +kernel
theorem dX3_readLetters_16 : decode cX3_readLetters 16 = .ok (.getfield 36, 3) := by decide +kernel
theorem dX3_readLetters_19 : decode cX3_readLetters 19 = .ok (.invokestatic 58, 3) := by decide +kernel
theorem dX3_readLetters_22 : decode cX3_readLetters 22 = .ok (.invokestatic 99, 3) := by decide +kernel
theorem dX3_readLetters_25 : decode cX3_readLetters 25 = .ok (.ifCond .eq 16, 3) := by decide +kernel
theorem dX3_readLetters_28 : decode cX3_readLetters 28 = .ok (.aload_n 0, 1) := by decide +kernel
theorem dX3_readLetters_29 : decode cX3_readLetters 29 = .ok (.dup, 1) := by decide +kernel
theorem dX3_readLetters_30 : decode cX3_readLetters 30 = .ok (.getfield 36, 3) := by decide +kernel
theorem dX3_readLetters_33 : decode cX3_readLetters 33 = .ok (.iconst 1, 1) := by decide +kernel
theorem dX3_readLetters_34 : decode cX3_readLetters 34 = .ok (.iadd, 1) := by decide +kernel
theorem dX3_readLetters_35 : decode cX3_readLetters 35 = .ok (.putfield 36, 3) := by decide +kernel
theorem dX3_readLetters_38 : decode cX3_readLetters 38 = .ok (.goto (-38), 3) := by decide +kernel
theorem dX3_readLetters_41 : decode cX3_readLetters 41 = .ok (.aload_n 0, 1) := by decide +kernel
theorem dX3_readLetters_42 : decode cX3_readLetters 42 = .ok (.aload_n 0, 1) := by decide +kernel
theorem dX3_readLetters_43 : decode cX3_readLetters 43 = .ok (.getfield 36, 3) := by decide +kernel
theorem dX3_readLetters_46 : decode cX3_readLetters 46 = .ok (.aload_n 0, 1) := by decide +kernel
theorem dX3_readLetters_47 : decode cX3_readLetters 47 = .ok (.getfield 88, 3) := by decide +kernel
theorem dX3_readLetters_50 : decode cX3_readLetters 50 = .ok (.isub, 1) := by decide +kernel
theorem dX3_readLetters_51 : decode cX3_readLetters 51 = .ok (.bipush 8, 2) := by decide +kernel
theorem dX3_readLetters_53 : decode cX3_readLetters 53 = .ok (.if_icmp .gt 7, 3) := by decide +kernel
theorem dX3_readLetters_56 : decode cX3_readLetters 56 = .ok (.iconst 1, 1) := by decide +kernel
theorem dX3_readLetters_57 : decode cX3_readLetters 57 = .ok (.goto 4, 3) := by decide +kernel
theorem dX3_readLetters_60 : decode cX3_readLetters 60 = .ok (.iconst 4, 1) := by decide +kernel
theorem dX3_readLetters_61 : decode cX3_readLetters 61 = .ok (.putfield 45, 3) := by decide +kernel
theorem dX3_readLetters_64 : decode cX3_readLetters 64 = .ok (.return_, 1) := by decide +kernel
set_option maxRecDepth 20000 in
theorem ggX3_readDigits_X8_valueAt : GoodIn wsX3_readDigits wsX8_valueAt := goodIn_r _ [9] (by decide +kernel) (by decide +kernel)
set_option maxRecDepth 20000 in
theorem gX3_readDigits_X8_valueAt_n58 : GoodIn wsX3_readDigits (wsX8_valueAt) := ggX3_readDigits_X8_valueAt
set_option maxRecDepth 20000 in
theorem ggX3_readDigits_X3_isDigit : GoodIn wsX3_readDigits wsX3_isDigit := goodIn_r _ [13] (by decide +kernel) (by decide +kernel)
set_option maxRecDepth 20000 in
theorem gX3_readDigits_X3_isDigit : GoodIn wsX3_readDigits (va_wsS RX3 105 yX3_isDigit wsX3_isDigit) := goodIn_app (goodIn_of _ (by decide +kernel)) ggX3_readDigits_X3_isDigit
theorem dX3_readDigits_0 : decode cX3_readDigits 0 = .ok (.aload_n 0, 1) := by decide +kernel
theorem dX3_readDigits_1 : decode cX3_readDigits 1 = .ok (.iconst 0, 1) := by decide +kernel
theorem dX3_readDigits_2 : decode cX3_readDigits 2 = .ok (.putfield 66, 3) := by decide +kernel
theorem dX3_readDigits_5 : decode cX3_readDigits 5 = .ok (.aload_n 0, 1) := by decide +kernel
theorem dX3_readDigits_6 : decode cX3_readDigits 6 = .ok (.getfield 36, 3) := by decide +kernel
theorem dX3_readDigits_9 : decode cX3_readDigits 9 = .ok (.aload_n 0, 1) := by decide +kernel
theorem dX3_readDigits_10 : decode cX3_readDigits 10 = .ok (.getfield 33, 3) := by decide +kernel
theorem dX3_readDigits_13 : decode cX3_readDigits 13 = .ok (.if_icmp .ge 59, 3) := by decide +kernel
theorem dX3_readDigits_16 : decode cX3_readDigits 16 = .ok (.aload_n 0, 1) := by decide +kernel
theorem dX3_readDigits_17 : decode cX3_readDigits 17 = .ok (.getfield 9, 3) := by decide +kernel
theorem dX3_readDigits_20 : decode cX3_readDigits 20 = .ok (.aload_n 0, 1) := by decide +kernel
theorem dX3_readDigits_21 : decode cX3_readDigits 21 = .ok (.getfield 36, 3) := by decide +kernel
theorem dX3_readDigits_24 : decode cX3_readDigits 24 = .ok (.invokestatic 58, 3) := by decide +kernel
theorem dX3_readDigits_27 : decode cX3_readDigits 27 = .ok (.invokestatic 105, 3) := by decide +kernel
theorem dX3_readDigits_30 : decode cX3_readDigits 30 = .ok (.ifCond .eq 42, 3) := by decide +kernel
theorem dX3_readDigits_33 : decode cX3_readDigits 33 = .ok (.aload_n 0, 1) := by decide +kernel
theorem dX3_readDigits_34 : decode cX3_readDigits 34 = .ok (.aload_n 0, 1) := by decide +kernel
theorem dX3_readDigits_35 : decode cX3_readDigits 35 = .ok (.getfield 66, 3) := by decide +kernel
theorem dX3_readDigits_38 : decode cX3_readDigits 38 = .ok (.bipush 10, 2) := by decide +kernel
theorem dX3_readDigits_40 : decode cX3_readDigits 40 = .ok (.imul, 1) := by decide +kernel
theorem dX3_readDigits_41 : decode cX3_readDigits 41 = .ok (.aload_n 0, 1) := by decide +kernel
theorem dX3_readDigits_42 : decode cX3_readDigits 42 = .ok (.getfield 9, 3) := by decide +kernel
theorem dX3_readDigits_45 : decode cX3_readDigits 45 = .ok (.aload_n 0, 1) := by decide +kernel
theorem dX3_readDigits_46 : decode cX3_readDigits 46 = .ok (.getfield 36, 3) := by decide +kernel
theorem dX3_readDigits_49 : decode cX3_readDigits 49 = .ok (.invokestatic 58, 3) := by decide +kernel
theorem dX3_readDigits_52 : decode cX3_readDigits 52 = .ok (.iadd, 1) := by decide +kernel
theorem dX3_readDigits_53 : decode cX3_readDigits 53 = .ok (.bipush 48, 2) := by decide +kernel
theorem dX3_readDigits_55 : decode cX3_readDigits 55 = .ok (.isub, 1) := by decide +kernel
theorem dX3_readDigits_56 : decode cX3_readDigits 56 = .ok (.putfield 66, 3) := by decide +kernel
theorem dX3_readDigits_59 : decode cX3_readDigits 59 = .ok (.aload_n 0, 1) := by decide +kernel
theorem dX3_readDigits_60 : decode cX3_readDigits 60 = .ok (.dup, 1) := by decide +kernel
theorem dX3_readDigits_61 : decode cX3_readDigits 61 = .ok (.getfield 36, 3) := by decide +kernel
theorem dX3_readDigits_64 : decode cX3_readDigits 64 = .ok (.iconst 1, 1) := by decide +kernel
theorem dX3_readDigits_65 : decode cX3_readDigits 65 = .ok (.iadd, 1) := by decide +kernel
theorem dX3_readDigits_66 : decode cX3_readDigits 66 = .ok (.putfield 36, 3) := by decide +kernel
theorem dX3_readDigits_69 : decode cX3_readDigits 69 = .ok (.goto (-64), 3) := by decide +kernel
theorem dX3_readDigits_72 : decode cX3_readDigits 72 = .ok (.aload_n 0, 1) := by decide +kernel
theorem dX3_readDigits_73 : decode cX3_readDigits 73 = .ok (.aload_n 0, 1) := by decide +kernel
theorem dX3_readDigits_74 : decode cX3_readDigits 74 = .ok (.getfield 36, 3) := by decide +kernel
theorem dX3_readDigits_77 : decode cX3_readDigits 77 = .ok (.aload_n 0, 1) := by decide +kernel
theorem dX3_readDigits_78 : decode cX3_readDigits 78 = .ok (.getfield 88, 3) := by decide +kernel
theorem dX3_readDigits_81 : decode cX3_readDigits 81 = .ok (.isub, 1) := by decide +kernel
theorem dX3_readDigits_82 : decode cX3_readDigits 82 = .ok (.iconst 4, 1) := by decide +kernel
theorem dX3_readDigits_83 : decode cX3_readDigits 83 = .ok (.if_icmp .gt 7, 3) := by decide +kernel
theorem dX3_readDigits_86 : decode cX3_readDigits 86 = .ok (.iconst 2, 1) := by decide +kernel
theorem dX3_readDigits_87 : decode cX3_readDigits 87 = .ok (.goto 4, 3) := by decide +kernel
theorem dX3_readDigits_90 : decode cX3_readDigits 90 = .ok (.iconst 4, 1) := by decide +kernel
theorem dX3_readDigits_91 : decode cX3_readDigits 91 = .ok (.putfield 45, 3) := by decide +kernel
theorem dX3_readDigits_94 : decode cX3_readDigits 94 = .ok (.return_, 1) := by decide +kernel
theorem dX3_isSeparator_0 : decode cX3_isSeparator 0 = .ok (.iload_n 0, 1) := by decide +kernel
theorem dX3_isSeparator_1 : decode cX3_isSeparator 1 = .ok (.bipush 32, 2) := by decide +kernel
theorem dX3_isSeparator_3 : decode cX3_isSeparator 3 = .ok (.if_icmp .eq 9, 3) := by decide +kernel
theorem dX3_isSeparator_6 : decode cX3_isSeparator 6 = .ok (.iload_n 0, 1) := by decide +kernel
theorem dX3_isSeparator_7 : decode cX3_isSeparator 7 = .ok (.bipush 10, 2) := by decide +kernel
theorem dX3_isSeparator_9 : decode cX3_isSeparator 9 = .ok (.if_icmp .ne 7, 3) := by decide +kernel
theorem dX3_isSeparator_12 : decode cX3_isSeparator 12 = .ok (.iconst 1, 1) := by decide +kernel
theorem dX3_isSeparator_13 : decode cX3_isSeparator 13 = .ok (.goto 4, 3) := by decide +kernel
theorem dX3_isSeparator_16 : decode cX3_isSeparator 16 = .ok (.iconst 0, 1) := by decide +kernel
theorem dX3_isSeparator_17 : decode cX3_isSeparator 17 = .ok (.ireturn, 1) := by decide +kernel
theorem dX3_isLetter_0 : decode cX3_isLetter 0 = .ok (.iload_n 0, 1) := by decide +kernel
theorem dX3_isLetter_1 : decode cX3_isLetter 1 = .ok (.bipush 97, 2) := by decide +kernel
theorem dX3_isLetter_3 : decode cX3_isLetter 3 = .ok (.if_icmp .lt 13, 3) := by decide +kernel
theorem dX3_isLetter_6 : decode cX3_isLetter 6 = .ok (.iload_n 0, 1) := by decide +kernel
theorem dX3_isLetter_7 : decode cX3_isLetter 7 = .ok (.bipush 122, 2) := by decide +kernel
theorem dX3_isLetter_9 : decode cX3_isLetter 9 = .ok (.if_icmp .gt 7, 3) := by decide +kernel
theorem dX3_isLetter_12 : decode cX3_isLetter 12 = .ok (.iconst 1, 1) := by decide +kernel
theorem dX3_isLetter_13 : decode cX3_isLetter 13 = .ok (.goto 4, 3) := by decide +kernel
theorem dX3_isLetter_16 : decode cX3_isLetter 16 = .ok (.iconst 0, 1) := by decide +kernel
theorem dX3_isLetter_17 : decode cX3_isLetter 17 = .ok (.ireturn, 1) := by decide +kernel
theorem dX3_isDigit_0 : decode cX3_isDigit 0 = .ok (.iload_n 0, 1) := by decide +kernel
theorem dX3_isDigit_1 : decode cX3_isDigit 1 = .ok (.bipush 48, 2) := by decide +kernel
theorem dX3_isDigit_3 : decode cX3_isDigit 3 = .ok (.if_icmp .lt 13, 3) := by decide +kernel
theorem dX3_isDigit_6 : decode cX3_isDigit 6 = .ok (.iload_n 0, 1) := by decide +kernel
theorem dX3_isDigit_7 : decode cX3_isDigit 7 = .ok (.bipush 57, 2) := by decide +kernel
theorem dX3_isDigit_9 : decode cX3_isDigit 9 = .ok (.if_icmp .gt 7, 3) := by decide +kernel
theorem dX3_isDigit_12 : decode cX3_isDigit 12 = .ok (.iconst 1, 1) := by decide +kernel
theorem dX3_isDigit_13 : decode cX3_isDigit 13 = .ok (.goto 4, 3) := by decide +kernel
theorem dX3_isDigit_16 : decode cX3_isDigit 16 = .ok (.iconst 0, 1) := by decide +kernel
theorem dX3_isDigit_17 : decode cX3_isDigit 17 = .ok (.ireturn, 1) := by decide +kernel
theorem dX4_init_0 : decode cX4_init 0 = .ok (.aload_n 0, 1) := by decide +kernel
theorem dX4_init_1 : decode cX4_init 1 = .ok (.invokespecial 1, 3) := by decide +kernel
theorem dX4_init_4 : decode cX4_init 4 = .ok (.return_, 1) := by decide +kernel
theorem dX4_passTick_0 : decode cX4_passTick 0 = .ok (.aload_n 0, 1) := by decide +kernel
theorem dX4_passTick_1 : decode cX4_passTick 1 = .ok (.aload_n 0, 1) := by decide +kernel
theorem dX4_passTick_2 : decode cX4_passTick 2 = .ok (.getfield 7, 3) := by decide +kernel
theorem dX4_passTick_5 : decode cX4_passTick 5 = .ok (.iconst 1, 1) := by decide +kernel
theorem dX4_passTick_6 : decode cX4_passTick 6 = .ok (.lshl, 1) := by decide +kernel
theorem dX4_passTick_7 : decode cX4_passTick 7 = .ok (.aload_n 0, 1) := by decide +kernel
theorem dX4_passTick_8 : decode cX4_passTick 8 = .ok (.getfield 13, 3) := by decide +kernel
theorem dX4_passTick_11 : decode cX4_passTick 11 = .ok (.bipush 63, 2) := by decide +kernel
theorem dX4_passTick_13 : decode cX4_passTick 13 = .ok (.lushr, 1) := by decide +kernel
theorem dX4_passTick_14 : decode cX4_passTick 14 = .ok (.lor, 1) := by decide +kernel
theorem dX4_passTick_15 : decode cX4_passTick 15 = .ok (.putfield 7, 3) := by decide +kernel
theorem dX4_passTick_18 : decode cX4_passTick 18 = .ok (.aload_n 0, 1) := by decide +kernel
theorem dX4_passTick_19 : decode cX4_passTick 19 = .ok (.aload_n 0, 1) := by decide +kernel
theorem dX4_passTick_20 : decode cX4_passTick 20 = .ok (.getfield 13, 3) := by decide +kernel
theorem dX4_passTick_23 : decode cX4_passTick 23 = .ok (.iconst 1, 1) := by decide +kernel
theorem dX4_passTick_24 : decode cX4_passTick 24 = .ok (.lshl, 1) := by decide +kernel
theorem dX4_passTick_25 : decode cX4_passTick 25 = .ok (.aload_n 0, 1) := by decide +kernel
theorem dX4_passTick_26 : decode cX4_passTick 26 = .ok (.getfield 16, 3) := by decide +kernel
theorem dX4_passTick_29 : decode cX4_passTick 29 = .ok (.bipush 63, 2) := by decide +kernel
theorem dX4_passTick_31 : decode cX4_passTick 31 = .ok (.lushr, 1) := by decide +kernel
theorem dX4_passTick_32 : decode cX4_passTick 32 = .ok (.lor, 1) := by decide +kernel
theorem dX4_passTick_33 : decode cX4_passTick 33 = .ok (.putfield 13, 3) := by decide +kernel
theorem dX4_passTick_36 : decode cX4_passTick 36 = .ok (.aload_n 0, 1) := by decide +kernel
theorem dX4_passTick_37 : decode cX4_passTick 37 = .ok (.aload_n 0, 1) := by decide +kernel
theorem dX4_passTick_38 : decode cX4_passTick 38 = .ok (.getfield 16, 3) := by decide +kernel
theorem dX4_passTick_41 : decode cX4_passTick 41 = .ok (.iconst 1, 1) := by decide +kernel
theorem dX4_passTick_42 : decode cX4_passTick 42 = .ok (.lshl, 1) := by decide +kernel
theorem dX4_passTick_43 : decode cX4_passTick 43 = .ok (.aload_n 0, 1) := by decide +kernel
theorem dX4_passTick_44 : decode cX4_passTick 44 = .ok (.getfield 19, 3) := by decide +kernel
theorem dX4_passTick_47 : decode cX4_passTick 47 = .ok (.bipush 63, 2) := by decide +kernel
theorem dX4_passTick_49 : decode cX4_passTick 49 = .ok (.lushr, 1) := by decide +kernel
theorem dX4_passTick_50 : decode cX4_passTick 50 = .ok (.lor, 1) := by decide +kernel
theorem dX4_passTick_51 : decode cX4_passTick 51 = .ok (.putfield 16, 3) := by decide +kernel
theorem dX4_passTick_54 : decode cX4_passTick 54 = .ok (.aload_n 0, 1) := by decide +kernel
theorem dX4_passTick_55 : decode cX4_passTick 55 = .ok (.aload_n 0, 1) := by decide +kernel
theorem dX4_passTick_56 : decode cX4_passTick 56 = .ok (.getfield 19, 3) := by decide +kernel
theorem dX4_passTick_59 : decode cX4_passTick 59 = .ok (.iconst 1, 1) := by decide +kernel
theorem dX4_passTick_60 : decode cX4_passTick 60 = .ok (.lshl, 1) := by decide +kernel
theorem dX4_passTick_61 : decode cX4_passTick 61 = .ok (.putfield 19, 3) := by decide +kernel
theorem dX4_passTick_64 : decode cX4_passTick 64 = .ok (.return_, 1) := by decide +kernel
theorem dX4_markTick_0 : decode cX4_markTick 0 = .ok (.aload_n 0, 1) := by decide +kernel
theorem dX4_markTick_1 : decode cX4_markTick 1 = .ok (.dup, 1) := by decide +kernel
theorem dX4_markTick_2 : decode cX4_markTick 2 = .ok (.getfield 19, 3) := by decide +kernel
theorem dX4_markTick_5 : decode cX4_markTick 5 = .ok (.lconst 1, 1) := by decide +kernel
theorem dX4_markTick_6 : decode cX4_markTick 6 = .ok (.lor, 1) := by decide +kernel
theorem dX4_markTick_7 : decode cX4_markTick 7 = .ok (.putfield 19, 3) := by decide +kernel
theorem dX4_markTick_10 : decode cX4_markTick 10 = .ok (.return_, 1) := by decide +kernel
set_option maxRecDepth 20000 in
theorem ggX4_countIn_X4_lowBits : GoodIn wsX4_countIn wsX4_lowBits := goodIn_r _ [8, 9] (by decide +kernel) (by decide +kernel)
set_option maxRecDepth 20000 in
theorem gX4_countIn_X4_lowBits : GoodIn wsX4_countIn (va_wsS RX4 22 yX4_lowBits wsX4_lowBits) := goodIn_app (goodIn_of _ (by decide +kernel)) ggX4_countIn_X4_lowBits
set_option maxRecDepth 20000 in
theorem ggX4_countIn_J13_bitCount_95d88 : GoodIn wsX4_countIn wsJ13_bitCount_95d88 := goodIn_r _ [13, 14, 15, 16] (by decide +kernel) (by decide +kernel)
set_option maxRecDepth 20000 in
theorem gX4_countIn_J13_bitCount_95d88 : GoodIn wsX4_countIn (va_wsS RX4 26 yJ13_bitCount_95d88 wsJ13_bitCount_95d88) := goodIn_app (goodIn_of _ (by decide +kernel)) ggX4_countIn_J13_bitCount_95d88
theorem dX4_countIn_0 : decode cX4_countIn 0 = .ok (.aload_n 0, 1) := by decide +kernel
theorem dX4_countIn_1 : decode cX4_countIn 1 = .ok (.getfield 19, 3) := by decide +kernel
theorem dX4_countIn_4 : decode cX4_countIn 4 = .ok (.iload_n 1, 1) := by decide +kernel
theorem dX4_countIn_5 : decode cX4_countIn 5 = .ok (.invokestatic 22, 3) := by decide +kernel
theorem dX4_countIn_8 : decode cX4_countIn 8 = .ok (.land, 1) := by decide +kernel
theorem dX4_countIn_9 : decode cX4_countIn 9 = .ok (.invokestatic 26, 3) := by decide +kernel
theorem dX4_countIn_12 : decode cX4_countIn 12 = .ok (.aload_n 0, 1) := by decide +kernel
theorem dX4_countIn_13 : decode cX4_countIn 13 = .ok (.getfield 16, 3) := by decide +kernel
theorem dX4_countIn_16 : decode cX4_countIn 16 = .ok (.iload_n 1, 1) := by decide +kernel
theorem dX4_countIn_17 : decode cX4_countIn 17 = .ok (.bipush 64, 2) := by decide +kernel
theorem dX4_countIn_19 : decode cX4_countIn 19 = .ok (.isub, 1) := by decide +kernel
theorem dX4_countIn_20 : decode cX4_countIn 20 = .ok (.invokestatic 22, 3) := by decide +kernel
theorem dX4_countIn_23 : decode cX4_countIn 23 = .ok (.land, 1) := by decide +kernel
theorem dX4_countIn_24 : decode cX4_countIn 24 = .ok (.invokestatic 26, 3) := by decide +kernel
theorem dX4_countIn_27 : decode cX4_countIn 27 = .ok (.iadd, 1) := by decide +kernel
theorem dX4_countIn_28 : decode cX4_countIn 28 = .ok (.aload_n 0, 1) := by decide +kernel
theorem dX4_countIn_29 : decode cX4_countIn 29 = .ok (.getfield 13, 3) := by decide +kernel
theorem dX4_countIn_32 : decode cX4_countIn 32 = .ok (.iload_n 1, 1) := by decide +kernel
theorem dX4_countIn_33 : decode cX4_countIn 33 = .ok (.sipush 128, 3) := by decide +kernel
theorem dX4_countIn_36 : decode cX4_countIn 36 = .ok (.isub, 1) := by decide +kernel
theorem dX4_countIn_37 : decode cX4_countIn 37 = .ok (.invokestatic 22, 3) := by decide +kernel
theorem dX4_countIn_40 : decode cX4_countIn 40 = .ok (.land, 1) := by decide +kernel
theorem dX4_countIn_41 : decode cX4_countIn 41 = .ok (.invokestatic 26, 3) := by decide +kernel
theorem dX4_countIn_44 : decode cX4_countIn 44 = .ok (.iadd, 1) := by decide +kernel
theorem dX4_countIn_45 : decode cX4_countIn 45 = .ok (.aload_n 0, 1) := by decide +kernel
theorem dX4_countIn_46 : decode cX4_countIn 46 = .ok (.getfield 7, 3) := by decide +kernel
theorem dX4_countIn_49 : decode cX4_countIn 49 = .ok (.iload_n 1, 1) := by decide +kernel
theorem dX4_countIn_50 : decode cX4_countIn 50 = .ok (.sipush 192, 3) := by decide +kernel
theorem dX4_countIn_53 : decode cX4_countIn 53 = .ok (.isub, 1) := by decide +kernel
theorem dX4_countIn_54 : decode cX4_countIn 54 = .ok (.invokestatic 22, 3) := by decide +kernel
theorem dX4_countIn_57 : decode cX4_countIn 57 = .ok (.land, 1) := by decide +kernel
theorem dX4_countIn_58 : decode cX4_countIn 58 = .ok (.invokestatic 26, 3) := by decide +kernel
theorem dX4_countIn_61 : decode cX4_countIn 61 = .ok (.iadd, 1) := by decide +kernel
theorem dX4_countIn_62 : decode cX4_countIn 62 = .ok (.ireturn, 1) := by decide +kernel
theorem dX4_lowBits_0 : decode cX4_lowBits 0 = .ok (.iload_n 0, 1) := by decide +kernel
theorem dX4_lowBits_1 : decode cX4_lowBits 1 = .ok (.ifCond .gt 5, 3) := by decide +kernel
theorem dX4_lowBits_4 : decode cX4_lowBits 4 = .ok (.lconst 0, 1) := by decide +kernel
theorem dX4_lowBits_5 : decode cX4_lowBits 5 = .ok (.lreturn, 1) := by decide +kernel
theorem dX4_lowBits_6 : decode cX4_lowBits 6 = .ok (.iload_n 0, 1) := by decide +kernel
theorem dX4_lowBits_7 : decode cX4_lowBits 7 = .ok (.bipush 64, 2) := by decide +kernel
theorem dX4_lowBits_9 : decode cX4_lowBits 9 = .ok (.if_icmp .lt 9, 3) := by decide +kernel
theorem dX4_lowBits_12 : decode cX4_lowBits 12 = .ok (.ldc2_w 32, 3) := by decide +kernel
theorem dX4_lowBits_15 : decode cX4_lowBits 15 = .ok (.goto 8, 3) := by decide +kernel
theorem dX4_lowBits_18 : decode cX4_lowBits 18 = .ok (.lconst 1, 1) := by decide +kernel
theorem dX4_lowBits_19 : decode cX4_lowBits 19 = .ok (.iload_n 0, 1) := by decide +kernel
theorem dX4_lowBits_20 : decode cX4_lowBits 20 = .ok (.lshl, 1) := by decide +kernel
theorem dX4_lowBits_21 : decode cX4_lowBits 21 = .ok (.lconst 1, 1) := by decide +kernel
theorem dX4_lowBits_22 : decode cX4_lowBits 22 = .ok (.lsub, 1) := by decide +kernel
theorem dX4_lowBits_23 : decode cX4_lowBits 23 = .ok (.lreturn, 1) := by decide +kernel
theorem dX4_clearAll_0 : decode cX4_clearAll 0 = .ok (.aload_n 0, 1) := by decide +kernel
theorem dX4_clearAll_1 : decode cX4_clearAll 1 = .ok (.lconst 0, 1) := by decide +kernel
theorem dX4_clearAll_2 : decode cX4_clearAll 2 = .ok (.putfield 19, 3) := by decide +kernel
theorem dX4_clearAll_5 : decode cX4_clearAll 5 = .ok (.aload_n 0, 1) := by decide +kernel
theorem dX4_clearAll_6 : decode cX4_clearAll 6 = .ok (.lconst 0, 1) := by decide +kernel
theorem dX4_clearAll_7 : decode cX4_clearAll 7 = .ok (.putfield 16, 3) := by decide +kernel
theorem dX4_clearAll_10 : decode cX4_clearAll 10 = .ok (.aload_n 0, 1) := by decide +kernel
theorem dX4_clearAll_11 : decode cX4_clearAll 11 = .ok (.lconst 0, 1) := by decide +kernel
theorem dX4_clearAll_12 : decode cX4_clearAll 12 = .ok (.putfield 13, 3) := by decide +kernel
theorem dX4_clearAll_15 : decode cX4_clearAll 15 = .ok (.aload_n 0, 1) := by decide +kernel
theorem dX4_clearAll_16 : decode cX4_clearAll 16 = .ok (.lconst 0, 1) := by decide +kernel
theorem dX4_clearAll_17 : decode cX4_clearAll 17 = .ok (.putfield 7, 3) := by decide +kernel
theorem dX4_clearAll_20 : decode cX4_clearAll 20 = .ok (.return_, 1) := by decide +kernel
theorem dX4_copyFrom_0 : decode cX4_copyFrom 0 = .ok (.aload_n 0, 1) := by decide +kernel
theorem dX4_copyFrom_1 : decode cX4_copyFrom 1 = .ok (.aload_n 1, 1) := by decide +kernel
theorem dX4_copyFrom_2 : decode cX4_copyFrom 2 = .ok (.getfield 19, 3) := by decide +kernel
theorem dX4_copyFrom_5 : decode cX4_copyFrom 5 = .ok (.putfield 19, 3) := by decide +kernel
theorem dX4_copyFrom_8 : decode cX4_copyFrom 8 = .ok (.aload_n 0, 1) := by decide +kernel
theorem dX4_copyFrom_9 : decode cX4_copyFrom 9 = .ok (.aload_n 1, 1) := by decide +kernel
theorem dX4_copyFrom_10 : decode cX4_copyFrom 10 = .ok (.getfield 16, 3) := by decide +kernel
theorem dX4_copyFrom_13 : decode cX4_copyFrom 13 = .ok (.putfield 16, 3) := by decide +kernel
theorem dX4_copyFrom_16 : decode cX4_copyFrom 16 = .ok (.aload_n 0, 1) := by decide +kernel
theorem dX4_copyFrom_17 : decode cX4_copyFrom 17 = .ok (.aload_n 1, 1) := by decide +kernel
theorem dX4_copyFrom_18 : decode cX4_copyFrom 18 = .ok (.getfield 13, 3) := by decide +kernel
theorem dX4_copyFrom_21 : decode cX4_copyFrom 21 = .ok (.putfield 13, 3) := by decide +kernel
theorem dX4_copyFrom_24 : decode cX4_copyFrom 24 = .ok (.aload_n 0, 1) := by decide +kernel
theorem dX4_copyFrom_25 : decode cX4_copyFrom 25 = .ok (.aload_n 1, 1) := by decide +kernel
theorem dX4_copyFrom_26 : decode cX4_copyFrom 26 = .ok (.getfield 7, 3) := by decide +kernel
theorem dX4_copyFrom_29 : decode cX4_copyFrom 29 = .ok (.putfield 7, 3) := by decide +kernel
theorem dX4_copyFrom_32 : decode cX4_copyFrom 32 = .ok (.return_, 1) := by decide +kernel
theorem dX5_init_0 : decode cX5_init 0 = .ok (.aload_n 0, 1) := by decide +kernel
theorem dX5_init_1 : decode cX5_init 1 = .ok (.invokespecial 5, 3) := by decide +kernel
theorem dX5_init_4 : decode cX5_init 4 = .ok (.aload_n 0, 1) := by decide +kernel
theorem dX5_init_5 : decode cX5_init 5 = .ok (.bipush 49, 2) := by decide +kernel
theorem dX5_init_7 : decode cX5_init 7 = .ok (.newarray .int, 2) := by decide +kernel
theorem dX5_init_9 : decode cX5_init 9 = .ok (.putfield 11, 3) := by decide +kernel
theorem dX5_init_12 : decode cX5_init 12 = .ok (.aload_n 0, 1) := by decide +kernel
theorem dX5_init_13 : decode cX5_init 13 = .ok (.bipush 49, 2) := by decide +kernel
theorem dX5_init_15 : decode cX5_init 15 = .ok (.newarray .int, 2) := by decide +kernel
theorem dX5_init_17 : decode cX5_init 17 = .ok (.putfield 15, 3) := by decide +kernel
theorem dX5_init_20 : decode cX5_init 20 = .ok (.return_, 1) := by decide +kernel
theorem dX5_placeOf_0 : decode cX5_placeOf 0 = .ok (.iload_n 0, 1) := by decide +kernel
theorem dX5_placeOf_1 : decode cX5_placeOf 1 = .ok (.iconst 3, 1) := by decide +kernel
theorem dX5_placeOf_2 : decode cX5_placeOf 2 = .ok (.iadd, 1) := by decide +kernel
theorem dX5_placeOf_3 : decode cX5_placeOf 3 = .ok (.bipush 7, 2) := by decide +kernel
theorem dX5_placeOf_5 : decode cX5_placeOf 5 = .ok (.imul, 1) := by decide +kernel
theorem dX5_placeOf_6 : decode cX5_placeOf 6 = .ok (.iload_n 1, 1) := by decide +kernel
theorem dX5_placeOf_7 : decode cX5_placeOf 7 = .ok (.iadd, 1) := by decide +kernel
theorem dX5_placeOf_8 : decode cX5_placeOf 8 = .ok (.iconst 3, 1) := by decide +kernel
theorem dX5_placeOf_9 : decode cX5_placeOf 9 = .ok (.iadd, 1) := by decide +kernel
theorem dX5_placeOf_10 : decode cX5_placeOf 10 = .ok (.ireturn, 1) := by decide +kernel
set_option maxRecDepth 20000 in
theorem ggX5_reasonAt_X5_placeOf : GoodIn wsX5_reasonAt wsX5_placeOf := goodIn_r _ [5] (by decide +kernel) (by decide +kernel)
set_option maxRecDepth 20000 in
theorem gX5_reasonAt_X5_placeOf : GoodIn wsX5_reasonAt (va_wsS RX5 18 yX5_placeOf wsX5_placeOf) := goodIn_app (goodIn_of _ (by decide +kernel)) ggX5_reasonAt_X5_placeOf
set_option maxRecDepth 20000 in
theorem ggX5_reasonAt_X8_valueAt : GoodIn wsX5_reasonAt wsX8_valueAt := goodIn_r _ [8] (by decide +kernel) (by decide +kernel)
set_option maxRecDepth 20000 in
theorem gX5_reasonAt_X8_valueAt_n22 : GoodIn wsX5_reasonAt (wsX8_valueAt) := ggX5_reasonAt_X8_valueAt
theorem dX5_reasonAt_0 : decode cX5_reasonAt 0 = .ok (.aload_n 0, 1) := by decide +kernel
theorem dX5_reasonAt_1 : decode cX5_reasonAt 1 = .ok (.getfield 11, 3) := by decide +kernel
theorem dX5_reasonAt_4 : decode cX5_reasonAt 4 = .ok (.iload_n 1, 1) := by decide +kernel
theorem dX5_reasonAt_5 : decode cX5_reasonAt 5 = .ok (.iload_n 2, 1) := by decide +kernel
theorem dX5_reasonAt_6 : decode cX5_reasonAt 6 = .ok (.invokestatic 18, 3) := by decide +kernel
theorem dX5_reasonAt_9 : decode cX5_reasonAt 9 = .ok (.invokestatic 22, 3) := by decide +kernel
theorem dX5_reasonAt_12 : decode cX5_reasonAt 12 = .ok (.ireturn, 1) := by decide +kernel
set_option maxRecDepth 20000 in
theorem ggX5_failedStepAt_X5_placeOf : GoodIn wsX5_failedStepAt wsX5_placeOf := goodIn_r _ [5] (by decide +kernel) (by decide +kernel)
set_option maxRecDepth 20000 in
theorem gX5_failedStepAt_X5_placeOf : GoodIn wsX5_failedStepAt (va_wsS RX5 18 yX5_placeOf wsX5_placeOf) := goodIn_app (goodIn_of _ (by decide +kernel)) ggX5_failedStepAt_X5_placeOf
set_option maxRecDepth 20000 in
theorem ggX5_failedStepAt_X8_valueAt : GoodIn wsX5_failedStepAt wsX8_valueAt := goodIn_r _ [8] (by decide +kernel) (by decide +kernel)
set_option maxRecDepth 20000 in
theorem gX5_failedStepAt_X8_valueAt_n22 : GoodIn wsX5_failedStepAt (wsX8_valueAt) := ggX5_failedStepAt_X8_valueAt
theorem dX5_failedStepAt_0 : decode cX5_failedStepAt 0 = .ok (.aload_n 0, 1) := by decide +kernel
theorem dX5_failedStepAt_1 : decode cX5_failedStepAt 1 = .ok (.getfield 15, 3) := by decide +kernel
theorem dX5_failedStepAt_4 : decode cX5_failedStepAt 4 = .ok (.iload_n 1, 1) := by decide +kernel
theorem dX5_failedStepAt_5 : decode cX5_failedStepAt 5 = .ok (.iload_n 2, 1) := by decide +kernel
theorem dX5_failedStepAt_6 : decode cX5_failedStepAt 6 = .ok (.invokestatic 18, 3) := by decide +kernel
theorem dX5_failedStepAt_9 : decode cX5_failedStepAt 9 = .ok (.invokestatic 22, 3) := by decide +kernel
theorem dX5_failedStepAt_12 : decode cX5_failedStepAt 12 = .ok (.ireturn, 1) := by decide +kernel
set_option maxRecDepth 20000 in
theorem ggX5_countOf_X5_reasonAt : GoodIn wsX5_countOf wsX5_reasonAt := goodIn_r _ [5, 6, 7, 8, 4, 9, 10, 11, 12, 13, 14] (by decide +kernel) (by decide +kernel)
set_option maxRecDepth 20000 in
theorem gX5_countOf_X5_reasonAt : GoodIn wsX5_countOf (wsV RX5 26 RX5 yX5_reasonAt wsX5_reasonAt) := goodIn_app (goodIn_of _ (by decide +kernel)) ggX5_countOf_X5_reasonAt
theorem dX5_countOf_0 : decode cX5_countOf 0 = .ok (.iconst 0, 1) := by decide +kernel
theorem dX5_countOf_1 : decode cX5_countOf 1 = .ok (.istore_n 3, 1) := by decide +kernel
theorem dX5_countOf_2 : decode cX5_countOf 2 = .ok (.iload_n 2, 1) := by decide +kernel
theorem dX5_countOf_3 : decode cX5_countOf 3 = .ok (.ineg, 1) := by decide +kernel
theorem dX5_countOf_4 : decode cX5_countOf 4 = .ok (.istore 4, 2) := by decide +kernel
theorem dX5_countOf_6 : decode cX5_countOf 6 = .ok (.iload 4, 2) := by decide +kernel
theorem dX5_countOf_8 : decode cX5_countOf 8 = .ok (.iload_n 2, 1) := by decide +kernel
theorem dX5_countOf_9 : decode cX5_countOf 9 = .ok (.if_icmp .gt 45, 3) := by decide +kernel
theorem dX5_countOf_12 : decode cX5_countOf 12 = .ok (.iload_n 2, 1) := by decide +kernel
theorem dX5_countOf_13 : decode cX5_countOf 13 = .ok (.ineg, 1) := by decide +kernel
theorem dX5_countOf_14 : decode cX5_countOf 14 = .ok (.istore 5, 2) := by decide +kernel
theorem dX5_countOf_16 : decode cX5_countOf 16 = .ok (.iload 5, 2) := by decide +kernel
theorem dX5_countOf_18 : decode cX5_countOf 18 = .ok (.iload_n 2, 1) := by decide +kernel
theorem dX5_countOf_19 : decode cX5_countOf 19 = .ok (.if_icmp .gt 29, 3) := by decide +kernel
theorem dX5_countOf_22 : decode cX5_countOf 22 = .ok (.iload_n 3, 1) := by decide +kernel
theorem dX5_countOf_23 : decode cX5_countOf 23 = .ok (.aload_n 0, 1) := by decide +kernel
theorem dX5_countOf_24 : decode cX5_countOf 24 = .ok (.iload 4, 2) := by decide +kernel
theorem dX5_countOf_26 : decode cX5_countOf 26 = .ok (.iload 5, 2) := by decide +kernel
theorem dX5_countOf_28 : decode cX5_countOf 28 = .ok (.invokevirtual 26, 3) := by decide +kernel
theorem dX5_countOf_31 : decode cX5_countOf 31 = .ok (.iload_n 1, 1) := by decide +kernel
theorem dX5_countOf_32 : decode cX5_countOf 32 = .ok (.if_icmp .ne 7, 3) := by decide +kernel
theorem dX5_countOf_35 : decode cX5_countOf 35 = .ok (.iconst 1, 1) := by decide +kernel
theorem dX5_countOf_36 : decode cX5_countOf 36 = .ok (.goto 4, 3) := by decide +kernel
theorem dX5_countOf_39 : decode cX5_countOf 39 = .ok (.iconst 0, 1) := by decide +kernel
theorem dX5_countOf_40 : decode cX5_countOf 40 = .ok (.iadd, 1) := by decide +kernel
theorem dX5_countOf_41 : decode cX5_countOf 41 = .ok (.istore_n 3, 1) := by decide +kernel
theorem dX5_countOf_42 : decode cX5_countOf 42 = .ok (.iinc 5 1, 3) := by decide +kernel
theorem dX5_countOf_45 : decode cX5_countOf 45 = .ok (.goto (-29), 3) := by decide +kernel
theorem dX5_countOf_48 : decode cX5_countOf 48 = .ok (.iinc 4 1, 3) := by decide +kernel
theorem dX5_countOf_51 : decode cX5_countOf 51 = .ok (.goto (-45), 3) := by decide +kernel
theorem dX5_countOf_54 : decode cX5_countOf 54 = .ok (.iload_n 3, 1) := by decide +kernel
theorem dX5_countOf_55 : decode cX5_countOf 55 = .ok (.ireturn, 1) := by decide +kernel
set_option maxRecDepth 20000 in
theorem ggX5_tryAll_X2_number : GoodIn wsX5_tryAll wsX2_number := goodIn_r _ [5, 6, 84] (by decide +kernel) (by decide +kernel)
set_option maxRecDepth 20000 in
theorem gX5_tryAll_X2_number : GoodIn wsX5_tryAll (wsV RX5 29 RX2 yX2_number wsX2_number) := goodIn_app (goodIn_of _ (by decide +kernel)) ggX5_tryAll_X2_number
set_option maxRecDepth 20000 in
theorem ggX5_tryAll_X8_wrapped : GoodIn wsX5_tryAll wsX8_wrapped := goodIn_r _ [9] (by decide +kernel) (by decide +kernel)
set_option maxRecDepth 20000 in
theorem gX5_tryAll_X8_wrapped_n35 : GoodIn wsX5_tryAll (wsX8_wrapped) := ggX5_tryAll_X8_wrapped
set_option maxRecDepth 20000 in
theorem ggX5_tryAll_X1_restAt : GoodIn wsX5_tryAll wsX1_restAt := goodIn_r _ [14, 15, 16, 17, 18, 19, 20, 78, 79, 80, 81, 82, 83] (by decide +kernel) (by decide +kernel)
set_option maxRecDepth 20000 in
theorem gX5_tryAll_X1_restAt : GoodIn wsX5_tryAll (wsV RX5 38 RX1 yX1_restAt wsX1_restAt) := goodIn_app (goodIn_of _ (by decide +kernel)) ggX5_tryAll_X1_restAt
set_option maxRecDepth 20000 in
theorem ggX5_tryAll_X5_placeOf : GoodIn wsX5_tryAll wsX5_placeOf := goodIn_r _ [24] (by decide +kernel) (by decide +kernel)
set_option maxRecDepth 20000 in
theorem gX5_tryAll_X5_placeOf : GoodIn wsX5_tryAll (va_wsS RX5 18 yX5_placeOf wsX5_placeOf) := goodIn_app (goodIn_of _ (by decide +kernel)) ggX5_tryAll_X5_placeOf
set_option maxRecDepth 20000 in
theorem ggX5_tryAll_X5_tryCell : GoodIn wsX5_tryAll wsX5_tryCell := goodIn_r _ [28, 29, 30, 1, 2, 3, 4, 5, 6, 31, 32, 33, 34, 35, 36, 37, 38, 39, 40, 41, 42, 43, 8, 44, 45, 46, 47, 48, 49, 50, 51, 52, 53, 54, 55, 56, 57, 58, 59, 60, 13, 61, 17, 18, 62, 63, 64, 65, 19, 20, 7, 9, 66, 67, 68, 69, 70, 71, 72, 73, 74, 75, 76, 77, 85, 86, 84, 78, 79, 80, 81, 82, 83] (by decide +kernel) (by decide +kernel)
set_option maxRecDepth 20000 in
theorem gX5_tryAll_X5_tryCell : GoodIn wsX5_tryAll (wsV RX5 51 RX5 yX5_tryCell wsX5_tryCell) := goodIn_app (goodIn_of _ (by decide +kernel)) ggX5_tryAll_X5_tryCell
theorem dX5_tryAll_0 : decode cX5_tryAll 0 = .ok (.aload_n 1, 1) := by decide +kernel
theorem dX5_tryAll_1 : decode cX5_tryAll 1 = .ok (.bipush 17, 2) := by decide +kernel
theorem dX5_tryAll_3 : decode cX5_tryAll 3 = .ok (.invokevirtual 29, 3) := by decide +kernel
theorem dX5_tryAll_6 : decode cX5_tryAll 6 = .ok (.istore 4, 2) := by decide +kernel
theorem dX5_tryAll_8 : decode cX5_tryAll 8 = .ok (.iload 4, 2) := by decide +kernel
theorem dX5_tryAll_10 : decode cX5_tryAll 10 = .ok (.ineg, 1) := by decide +kernel
theorem dX5_tryAll_11 : decode cX5_tryAll 11 = .ok (.istore 5, 2) := by decide +kernel
theorem dX5_tryAll_13 : decode cX5_tryAll 13 = .ok (.iload 5, 2) := by decide +kernel
theorem dX5_tryAll_15 : decode cX5_tryAll 15 = .ok (.iload 4, 2) := by decide +kernel
theorem dX5_tryAll_17 : decode cX5_tryAll 17 = .ok (.if_icmp .gt 84, 3) := by decide +kernel
theorem dX5_tryAll_20 : decode cX5_tryAll 20 = .ok (.iload 4, 2) := by decide +kernel
theorem dX5_tryAll_22 : decode cX5_tryAll 22 = .ok (.ineg, 1) := by decide +kernel
theorem dX5_tryAll_23 : decode cX5_tryAll 23 = .ok (.istore 6, 2) := by decide +kernel
theorem dX5_tryAll_25 : decode cX5_tryAll 25 = .ok (.iload 6, 2) := by decide +kernel
theorem dX5_tryAll_27 : decode cX5_tryAll 27 = .ok (.iload 4, 2) := by decide +kernel
theorem dX5_tryAll_29 : decode cX5_tryAll 29 = .ok (.if_icmp .gt 66, 3) := by decide +kernel
theorem dX5_tryAll_32 : decode cX5_tryAll 32 = .ok (.iload 5, 2) := by decide +kernel
theorem dX5_tryAll_34 : decode cX5_tryAll 34 = .ok (.aload_n 1, 1) := by decide +kernel
theorem dX5_tryAll_35 : decode cX5_tryAll 35 = .ok (.bipush 15, 2) := by decide +kernel
theorem dX5_tryAll_37 : decode cX5_tryAll 37 = .ok (.invokevirtual 29, 3) := by decide +kernel
theorem dX5_tryAll_40 : decode cX5_tryAll 40 = .ok (.imul, 1) := by decide +kernel
theorem dX5_tryAll_41 : decode cX5_tryAll 41 = .ok (.invokestatic 35, 3) := by decide +kernel
theorem dX5_tryAll_44 : decode cX5_tryAll 44 = .ok (.istore 7, 2) := by decide +kernel
theorem dX5_tryAll_46 : decode cX5_tryAll 46 = .ok (.aload_n 3, 1) := by decide +kernel
theorem dX5_tryAll_47 : decode cX5_tryAll 47 = .ok (.iload 7, 2) := by decide +kernel
theorem dX5_tryAll_49 : decode cX5_tryAll 49 = .ok (.iload 7, 2) := by decide +kernel
theorem dX5_tryAll_51 : decode cX5_tryAll 51 = .ok (.invokevirtual 38, 3) := by decide +kernel
theorem dX5_tryAll_54 : decode cX5_tryAll 54 = .ok (.aload_n 3, 1) := by decide +kernel
theorem dX5_tryAll_55 : decode cX5_tryAll 55 = .ok (.iload 6, 2) := by decide +kernel
theorem dX5_tryAll_57 : decode cX5_tryAll 57 = .ok (.aload_n 1, 1) := by decide +kernel
theorem dX5_tryAll_58 : decode cX5_tryAll 58 = .ok (.bipush 16, 2) := by decide +kernel
theorem dX5_tryAll_60 : decode cX5_tryAll 60 = .ok (.invokevirtual 29, 3) := by decide +kernel
theorem dX5_tryAll_63 : decode cX5_tryAll 63 = .ok (.imul, 1) := by decide +kernel
theorem dX5_tryAll_64 : decode cX5_tryAll 64 = .ok (.putfield 44, 3) := by decide +kernel
theorem dX5_tryAll_67 : decode cX5_tryAll 67 = .ok (.aload_n 3, 1) := by decide +kernel
theorem dX5_tryAll_68 : decode cX5_tryAll 68 = .ok (.aload_n 3, 1) := by decide +kernel
theorem dX5_tryAll_69 : decode cX5_tryAll 69 = .ok (.getfield 44, 3) := by decide +kernel
theorem dX5_tryAll_72 : decode cX5_tryAll 72 = .ok (.putfield 48, 3) := by decide +kernel
theorem dX5_tryAll_75 : decode cX5_tryAll 75 = .ok (.aload_n 0, 1) := by decide +kernel
theorem dX5_tryAll_76 : decode cX5_tryAll 76 = .ok (.iload 5, 2) := by decide +kernel
theorem dX5_tryAll_78 : decode cX5_tryAll 78 = .ok (.iload 6, 2) := by decide +kernel
theorem dX5_tryAll_80 : decode cX5_tryAll 80 = .ok (.invokestatic 18, 3) := by decide +kernel
theorem dX5_tryAll_83 : decode cX5_tryAll 83 = .ok (.aload_n 1, 1) := by decide +kernel
theorem dX5_tryAll_84 : decode cX5_tryAll 84 = .ok (.iload_n 2, 1) := by decide +kernel
theorem dX5_tryAll_85 : decode cX5_tryAll 85 = .ok (.aload_n 3, 1) := by decide +kernel
theorem dX5_tryAll_86 : decode cX5_tryAll 86 = .ok (.invokevirtual 51, 3) := by decide +kernel
theorem dX5_tryAll_89 : decode cX5_tryAll 89 = .ok (.iinc 6 1, 3) := by decide +kernel
theorem dX5_tryAll_92 : decode cX5_tryAll 92 = .ok (.goto (-67), 3) := by decide +kernel
theorem dX5_tryAll_95 : decode cX5_tryAll 95 = .ok (.iinc 5 1, 3) := by decide +kernel
theorem dX5_tryAll_98 : decode cX5_tryAll 98 = .ok (.goto (-85), 3) := by decide +kernel
theorem dX5_tryAll_101 : decode cX5_tryAll 101 = .ok (.return_, 1) := by decide +kernel
set_option maxRecDepth 20000 in
theorem ggX5_tryCell_X2_number : GoodIn wsX5_tryCell wsX2_number := goodIn_r _ [7, 8, 66] (by decide +kernel) (by decide +kernel)
set_option maxRecDepth 20000 in
theorem gX5_tryCell_X2_number : GoodIn wsX5_tryCell (wsV RX5 29 RX2 yX2_number wsX2_number) := goodIn_app (goodIn_of _ (by decide +kernel)) ggX5_tryCell_X2_number
set_option maxRecDepth 20000 in
theorem ggX5_tryCell_X2_balancingPush : GoodIn wsX5_tryCell wsX2_balancingPush := goodIn_r _ [12, 13, 14, 15, 16, 17, 18, 19, 20, 4, 5, 6, 7, 8, 21, 22, 23, 67, 68, 69, 70, 71, 72, 66] (by decide +kernel) (by decide +kernel)
set_option maxRecDepth 20000 in
theorem gX5_tryCell_X2_balancingPush : GoodIn wsX5_tryCell (wsV RX5 55 RX2 yX2_balancingPush wsX2_balancingPush) := goodIn_app (goodIn_of _ (by decide +kernel)) ggX5_tryCell_X2_balancingPush
set_option maxRecDepth 20000 in
theorem ggX5_tryCell_X2_makeStep : GoodIn wsX5_tryCell wsX2_makeStep := goodIn_r _ [27, 20, 4, 5, 6, 7, 8, 28, 22, 29, 30, 31, 32, 33, 34, 35, 36, 37, 38, 39, 40, 41, 42, 43, 44, 45, 46, 47, 48, 49, 50, 51, 52, 53, 54, 55, 56, 57, 67, 68, 69, 70, 71, 72, 66] (by decide +kernel) (by decide +kernel)
set_option maxRecDepth 20000 in
theorem gX5_tryCell_X2_makeStep : GoodIn wsX5_tryCell (wsV RX5 59 RX2 yX2_makeStep wsX2_makeStep) := goodIn_app (goodIn_of _ (by decide +kernel)) ggX5_tryCell_X2_makeStep
set_option maxRecDepth 20000 in
theorem ggX5_tryCell_X2_leansBeyond : GoodIn wsX5_tryCell wsX2_leansBeyond := goodIn_r _ [61, 20, 4, 5, 6, 7, 8, 21, 22, 23, 56, 57, 67, 68, 69, 70, 71, 72, 66] (by decide +kernel) (by decide +kernel)
set_option maxRecDepth 20000 in
theorem gX5_tryCell_X2_leansBeyond : GoodIn wsX5_tryCell (wsV RX5 62 RX2 yX2_leansBeyond wsX2_leansBeyond) := goodIn_app (goodIn_of _ (by decide +kernel)) ggX5_tryCell_X2_leansBeyond
set_option maxRecDepth 20000 in
theorem ggX5_tryCell_X8_putAt : GoodIn wsX5_tryCell wsX8_putAt := goodIn_r _ [63] (by decide +kernel) (by decide +kernel)
set_option maxRecDepth 20000 in
theorem gX5_tryCell_X8_putAt_n66 : GoodIn wsX5_tryCell (wsX8_putAt) := ggX5_tryCell_X8_putAt
theorem dX5_tryCell_0 : decode cX5_tryCell 0 = .ok (.aload_n 2, 1) := by decide +kernel
theorem dX5_tryCell_1 : decode cX5_tryCell 1 = .ok (.bipush 18, 2) := by decide +kernel
theorem dX5_tryCell_3 : decode cX5_tryCell 3 = .ok (.invokevirtual 29, 3) := by decide +kernel
theorem dX5_tryCell_6 : decode cX5_tryCell 6 = .ok (.istore 5, 2) := by decide +kernel
theorem dX5_tryCell_8 : decode cX5_tryCell 8 = .ok (.iconst 0, 1) := by decide +kernel
theorem dX5_tryCell_9 : decode cX5_tryCell 9 = .ok (.istore 6, 2) := by decide +kernel
theorem dX5_tryCell_11 : decode cX5_tryCell 11 = .ok (.iconst 0, 1) := by decide +kernel
theorem dX5_tryCell_12 : decode cX5_tryCell 12 = .ok (.istore 7, 2) := by decide +kernel
theorem dX5_tryCell_14 : decode cX5_tryCell 14 = .ok (.iload 7, 2) := by decide +kernel
theorem dX5_tryCell_16 : decode cX5_tryCell 16 = .ok (.iload 5, 2) := by decide +kernel
theorem dX5_tryCell_18 : decode cX5_tryCell 18 = .ok (.if_icmp .ge 48, 3) := by decide +kernel
theorem dX5_tryCell_21 : decode cX5_tryCell 21 = .ok (.iload 6, 2) := by decide +kernel
theorem dX5_tryCell_23 : decode cX5_tryCell 23 = .ok (.ifCond .ne 43, 3) := by decide +kernel
theorem dX5_tryCell_26 : decode cX5_tryCell 26 = .ok (.aload_n 2, 1) := by decide +kernel
theorem dX5_tryCell_27 : decode cX5_tryCell 27 = .ok (.aload 4, 2) := by decide +kernel
theorem dX5_tryCell_29 : decode cX5_tryCell 29 = .ok (.aload_n 2, 1) := by decide +kernel
theorem dX5_tryCell_30 : decode cX5_tryCell 30 = .ok (.aload 4, 2) := by decide +kernel
theorem dX5_tryCell_32 : decode cX5_tryCell 32 = .ok (.iload_n 3, 1) := by decide +kernel
theorem dX5_tryCell_33 : decode cX5_tryCell 33 = .ok (.invokevirtual 55, 3) := by decide +kernel
theorem dX5_tryCell_36 : decode cX5_tryCell 36 = .ok (.invokevirtual 59, 3) := by decide +kernel
theorem dX5_tryCell_39 : decode cX5_tryCell 39 = .ok (.istore 6, 2) := by decide +kernel
theorem dX5_tryCell_41 : decode cX5_tryCell 41 = .ok (.iload 6, 2) := by decide +kernel
theorem dX5_tryCell_43 : decode cX5_tryCell 43 = .ok (.ifCond .ne 17, 3) := by decide +kernel
theorem dX5_tryCell_46 : decode cX5_tryCell 46 = .ok (.aload_n 2, 1) := by decide +kernel
theorem dX5_tryCell_47 : decode cX5_tryCell 47 = .ok (.aload 4, 2) := by decide +kernel
theorem dX5_tryCell_49 : decode cX5_tryCell 49 = .ok (.bipush 19, 2) := by decide +kernel
theorem dX5_tryCell_51 : decode cX5_tryCell 51 = .ok (.invokevirtual 62, 3) := by decide +kernel
theorem dX5_tryCell_54 : decode cX5_tryCell 54 = .ok (.ifCond .eq 6, 3) := by decide +kernel
theorem dX5_tryCell_57 : decode cX5_tryCell 57 = .ok (.iconst 3, 1) := by decide +kernel
theorem dX5_tryCell_58 : decode cX5_tryCell 58 = .ok (.istore 6, 2) := by decide +kernel
theorem dX5_tryCell_60 : decode cX5_tryCell 60 = .ok (.iinc 7 1, 3) := by decide +kernel
theorem dX5_tryCell_63 : decode cX5_tryCell 63 = .ok (.goto (-49), 3) := by decide +kernel
theorem dX5_tryCell_66 : decode cX5_tryCell 66 = .ok (.iload 6, 2) := by decide +kernel
theorem dX5_tryCell_68 : decode cX5_tryCell 68 = .ok (.ifCond .ne 7, 3) := by decide +kernel
theorem dX5_tryCell_71 : decode cX5_tryCell 71 = .ok (.iconst (-1), 1) := by decide +kernel
theorem dX5_tryCell_72 : decode cX5_tryCell 72 = .ok (.goto 5, 3) := by decide +kernel
theorem dX5_tryCell_75 : decode cX5_tryCell 75 = .ok (.iload 7, 2) := by decide +kernel
theorem dX5_tryCell_77 : decode cX5_tryCell 77 = .ok (.istore 8, 2) := by decide +kernel
theorem dX5_tryCell_79 : decode cX5_tryCell 79 = .ok (.iload 6, 2) := by decide +kernel
theorem dX5_tryCell_81 : decode cX5_tryCell 81 = .ok (.ifCond .ne 17, 3) := by decide +kernel
theorem dX5_tryCell_84 : decode cX5_tryCell 84 = .ok (.aload_n 2, 1) := by decide +kernel
theorem dX5_tryCell_85 : decode cX5_tryCell 85 = .ok (.aload 4, 2) := by decide +kernel
theorem dX5_tryCell_87 : decode cX5_tryCell 87 = .ok (.bipush 15, 2) := by decide +kernel
theorem dX5_tryCell_89 : decode cX5_tryCell 89 = .ok (.invokevirtual 62, 3) := by decide +kernel
theorem dX5_tryCell_92 : decode cX5_tryCell 92 = .ok (.ifCond .eq 6, 3) := by decide +kernel
theorem dX5_tryCell_95 : decode cX5_tryCell 95 = .ok (.iconst 4, 1) := by decide +kernel
theorem dX5_tryCell_96 : decode cX5_tryCell 96 = .ok (.istore 6, 2) := by decide +kernel
theorem dX5_tryCell_98 : decode cX5_tryCell 98 = .ok (.aload_n 0, 1) := by decide +kernel
theorem dX5_tryCell_99 : decode cX5_tryCell 99 = .ok (.getfield 11, 3) := by decide +kernel
theorem dX5_tryCell_102 : decode cX5_tryCell 102 = .ok (.iload_n 1, 1) := by decide +kernel
theorem dX5_tryCell_103 : decode cX5_tryCell 103 = .ok (.iload 6, 2) := by decide +kernel
theorem dX5_tryCell_105 : decode cX5_tryCell 105 = .ok (.invokestatic 66, 3) := by decide +kernel
theorem dX5_tryCell_108 : decode cX5_tryCell 108 = .ok (.aload_n 0, 1) := by decide +kernel
theorem dX5_tryCell_109 : decode cX5_tryCell 109 = .ok (.getfield 15, 3) := by decide +kernel
theorem dX5_tryCell_112 : decode cX5_tryCell 112 = .ok (.iload_n 1, 1) := by decide +kernel
theorem dX5_tryCell_113 : decode cX5_tryCell 113 = .ok (.iload 8, 2) := by decide +kernel
theorem dX5_tryCell_115 : decode cX5_tryCell 115 = .ok (.invokestatic 66, 3) := by decide +kernel
theorem dX5_tryCell_118 : decode cX5_tryCell 118 = .ok (.return_, 1) := by decide +kernel
set_option maxRecDepth 20000 in
theorem ggX5_copyFrom_X8_copyRow : GoodIn wsX5_copyFrom wsX8_copyRow := goodIn_r _ [5, 6, 7, 8, 9, 10, 11, 12, 13] (by decide +kernel) (by decide +kernel)
set_option maxRecDepth 20000 in
theorem gX5_copyFrom_X8_copyRow_n70 : GoodIn wsX5_copyFrom (wsX8_copyRow) := ggX5_copyFrom_X8_copyRow
theorem dX5_copyFrom_0 : decode cX5_copyFrom 0 = .ok (.aload_n 1, 1) := by decide +kernel
theorem dX5_copyFrom_1 : decode cX5_copyFrom 1 = .ok (.getfield 11, 3) := by decide +kernel
theorem dX5_copyFrom_4 : decode cX5_copyFrom 4 = .ok (.aload_n 0, 1) := by decide +kernel
theorem dX5_copyFrom_5 : decode cX5_copyFrom 5 = .ok (.getfield 11, 3) := by decide +kernel
theorem dX5_copyFrom_8 : decode cX5_copyFrom 8 = .ok (.invokestatic 70, 3) := by decide +kernel
theorem dX5_copyFrom_11 : decode cX5_copyFrom 11 = .ok (.aload_n 1, 1) := by decide +kernel
theorem dX5_copyFrom_12 : decode cX5_copyFrom 12 = .ok (.getfield 15, 3) := by decide +kernel
theorem dX5_copyFrom_15 : decode cX5_copyFrom 15 = .ok (.aload_n 0, 1) := by decide +kernel
theorem dX5_copyFrom_16 : decode cX5_copyFrom 16 = .ok (.getfield 15, 3) := by decide +kernel
theorem dX5_copyFrom_19 : decode cX5_copyFrom 19 = .ok (.invokestatic 70, 3) := by decide +kernel
theorem dX5_copyFrom_22 : decode cX5_copyFrom 22 = .ok (.return_, 1) := by decide +kernel
set_option maxRecDepth 20000 in
theorem ggX6_init_X1_init : GoodIn wsX6_init wsX1_init := goodIn_r _ [17, 18, 2, 3] (by decide +kernel) (by decide +kernel)
set_option maxRecDepth 20000 in
theorem gX6_init_X1_init_n11 : GoodIn wsX6_init (wsX1_init) := ggX6_init_X1_init
set_option maxRecDepth 20000 in
theorem ggX6_init_X5_init : GoodIn wsX6_init wsX5_init := goodIn_r _ [20, 21, 2, 3, 22, 23, 24, 45, 46] (by decide +kernel) (by decide +kernel)
set_option maxRecDepth 20000 in
theorem gX6_init_X5_init_n20 : GoodIn wsX6_init (wsX5_init) := ggX6_init_X5_init
set_option maxRecDepth 20000 in
theorem ggX6_init_X4_init : GoodIn wsX6_init wsX4_init := goodIn_r _ [26, 27, 2, 3] (by decide +kernel) (by decide +kernel)
set_option maxRecDepth 20000 in
theorem gX6_init_X4_init_n27 : GoodIn wsX6_init (wsX4_init) := ggX6_init_X4_init
theorem dX6_init_0 : decode cX6_init 0 = .ok (.aload_n 0, 1) := by decide +kernel
theorem dX6_init_1 : decode cX6_init 1 = .ok (.invokespecial 3, 3) := by decide +kernel
theorem dX6_init_4 : decode cX6_init 4 = .ok (.aload_n 0, 1) := by decide +kernel
theorem dX6_init_5 : decode cX6_init 5 = .ok (.new 9, 3) := by decide +kernel
theorem dX6_init_8 : decode cX6_init 8 = .ok (.dup, 1) := by decide +kernel
theorem dX6_init_9 : decode cX6_init 9 = .ok (.invokespecial 11, 3) := by decide +kernel
theorem dX6_init_12 : decode cX6_init 12 = .ok (.putfield 12, 3) := by decide +kernel
theorem dX6_init_15 : decode cX6_init 15 = .ok (.aload_n 0, 1) := by decide +kernel
theorem dX6_init_16 : decode cX6_init 16 = .ok (.new 18, 3) := by decide +kernel
theorem dX6_init_19 : decode cX6_init 19 = .ok (.dup, 1) := by decide +kernel
theorem dX6_init_20 : decode cX6_init 20 = .ok (.invokespecial 20, 3) := by decide +kernel
theorem dX6_init_23 : decode cX6_init 23 = .ok (.putfield 21, 3) := by decide +kernel
theorem dX6_init_26 : decode cX6_init 26 = .ok (.aload_n 0, 1) := by decide +kernel
theorem dX6_init_27 : decode cX6_init 27 = .ok (.new 25, 3) := by decide +kernel
theorem dX6_init_30 : decode cX6_init 30 = .ok (.dup, 1) := by decide +kernel
theorem dX6_init_31 : decode cX6_init 31 = .ok (.invokespecial 27, 3) := by decide +kernel
theorem dX6_init_34 : decode cX6_init 34 = .ok (.putfield 28, 3) := by decide +kernel
theorem dX6_init_37 : decode cX6_init 37 = .ok (.return_, 1) := by decide +kernel
set_option maxRecDepth 20000 in
theorem ggX6_begin_X1_restAt : GoodIn wsX6_begin wsX1_restAt := goodIn_r _ [15, 16, 17, 18, 19, 20, 21, 42, 43, 44, 45, 46, 47] (by decide +kernel) (by decide +kernel)
set_option maxRecDepth 20000 in
theorem gX6_begin_X1_restAt : GoodIn wsX6_begin (wsV RX6 32 RX1 yX1_restAt wsX1_restAt) := goodIn_app (goodIn_of _ (by decide +kernel)) ggX6_begin_X1_restAt
set_option maxRecDepth 20000 in
theorem ggX6_begin_X4_clearAll : GoodIn wsX6_begin wsX4_clearAll := goodIn_r _ [26, 27, 28, 29, 30, 48, 49, 50, 51] (by decide +kernel) (by decide +kernel)
set_option maxRecDepth 20000 in
theorem gX6_begin_X4_clearAll : GoodIn wsX6_begin (wsV RX6 36 RX4 yX4_clearAll wsX4_clearAll) := goodIn_app (goodIn_of _ (by decide +kernel)) ggX6_begin_X4_clearAll
theorem dX6_begin_0 : decode cX6_begin 0 = .ok (.aload_n 0, 1) := by decide +kernel
theorem dX6_begin_1 : decode cX6_begin 1 = .ok (.getfield 12, 3) := by decide +kernel
theorem dX6_begin_4 : decode cX6_begin 4 = .ok (.sipush 2048, 3) := by decide +kernel
theorem dX6_begin_7 : decode cX6_begin 7 = .ok (.sipush 2048, 3) := by decide +kernel
theorem dX6_begin_10 : decode cX6_begin 10 = .ok (.invokevirtual 32, 3) := by decide +kernel
theorem dX6_begin_13 : decode cX6_begin 13 = .ok (.aload_n 0, 1) := by decide +kernel
theorem dX6_begin_14 : decode cX6_begin 14 = .ok (.getfield 28, 3) := by decide +kernel
theorem dX6_begin_17 : decode cX6_begin 17 = .ok (.invokevirtual 36, 3) := by decide +kernel
theorem dX6_begin_20 : decode cX6_begin 20 = .ok (.aload_n 0, 1) := by decide +kernel
theorem dX6_begin_21 : decode cX6_begin 21 = .ok (.iconst 0, 1) := by decide +kernel
theorem dX6_begin_22 : decode cX6_begin 22 = .ok (.putfield 39, 3) := by decide +kernel
theorem dX6_begin_25 : decode cX6_begin 25 = .ok (.aload_n 0, 1) := by decide +kernel
theorem dX6_begin_26 : decode cX6_begin 26 = .ok (.iconst 0, 1) := by decide +kernel
theorem dX6_begin_27 : decode cX6_begin 27 = .ok (.putfield 43, 3) := by decide +kernel
theorem dX6_begin_30 : decode cX6_begin 30 = .ok (.aload_n 0, 1) := by decide +kernel
theorem dX6_begin_31 : decode cX6_begin 31 = .ok (.iconst 0, 1) := by decide +kernel
theorem dX6_begin_32 : decode cX6_begin 32 = .ok (.putfield 46, 3) := by decide +kernel
theorem dX6_begin_35 : decode cX6_begin 35 = .ok (.aload_n 0, 1) := by decide +kernel
theorem dX6_begin_36 : decode cX6_begin 36 = .ok (.iload_n 1, 1) := by decide +kernel
theorem dX6_begin_37 : decode cX6_begin 37 = .ok (.putfield 49, 3) := by decide +kernel
theorem dX6_begin_40 : decode cX6_begin 40 = .ok (.aload_n 0, 1) := by decide +kernel
theorem dX6_begin_41 : decode cX6_begin 41 = .ok (.iconst 0, 1) := by decide +kernel
theorem dX6_begin_42 : decode cX6_begin 42 = .ok (.putfield 52, 3) := by decide +kernel
theorem dX6_begin_45 : decode cX6_begin 45 = .ok (.aload_n 0, 1) := by decide +kernel
theorem dX6_begin_46 : decode cX6_begin 46 = .ok (.iconst 0, 1) := by decide +kernel
theorem dX6_begin_47 : decode cX6_begin 47 = .ok (.putfield 55, 3) := by decide +kernel
theorem dX6_begin_50 : decode cX6_begin 50 = .ok (.aload_n 0, 1) := by decide +kernel
theorem dX6_begin_51 : decode cX6_begin 51 = .ok (.iconst 0, 1) := by decide +kernel
theorem dX6_begin_52 : decode cX6_begin 52 = .ok (.putfield 58, 3) := by decide +kernel
theorem dX6_begin_55 : decode cX6_begin 55 = .ok (.aload_n 0, 1) := by decide +kernel
theorem dX6_begin_56 : decode cX6_begin 56 = .ok (.iconst 0, 1) := by decide +kernel
theorem dX6_begin_57 : decode cX6_begin 57 = .ok (.putfield 61, 3) := by decide +kernel
theorem dX6_begin_60 : decode cX6_begin 60 = .ok (.return_, 1) := by decide +kernel
theorem dX6_partOf_0 : decode cX6_partOf 0 = .ok (.iload_n 1, 1) := by decide +kernel
theorem dX6_partOf_1 : decode cX6_partOf 1 = .ok (.tableswitch 93 0 7 #[47, 52, 57, 65, 73, 78, 83, 88], 47) := by decide +kernel
theorem dX6_partOf_48 : decode cX6_partOf 48 = .ok (.aload_n 0, 1) := by decide +kernel
theorem dX6_partOf_49 : decode cX6_partOf 49 = .ok (.getfield 39, 3) := by decide +kernel
theorem dX6_partOf_52 : decode cX6_partOf 52 = .ok (.ireturn, 1) := by decide +kernel
theorem dX6_partOf_53 : decode cX6_partOf 53 = .ok (.aload_n 0, 1) := by decide +kernel
theorem dX6_partOf_54 : decode cX6_partOf 54 = .ok (.getfield 43, 3) := by decide +kernel
theorem dX6_partOf_57 : decode cX6_partOf 57 = .ok (.ireturn, 1) := by decide +kernel
theorem dX6_partOf_58 : decode cX6_partOf 58 = .ok (.aload_n 0, 1) := by decide +kernel
theorem dX6_partOf_59 : decode cX6_partOf 59 = .ok (.getfield 12, 3) := by decide +kernel
theorem dX6_partOf_62 : decode cX6_partOf 62 = .ok (.getfield 64, 3) := by decide +kernel
theorem dX6_partOf_65 : decode cX6_partOf 65 = .ok (.ireturn, 1) := by decide +kernel
theorem dX6_partOf_66 : decode cX6_partOf 66 = .ok (.aload_n 0, 1) := by decide +kernel
theorem dX6_partOf_67 : decode cX6_partOf 67 = .ok (.getfield 12, 3) := by decide +kernel
theorem dX6_partOf_70 : decode cX6_partOf 70 = .ok (.getfield 67, 3) := by decide +kernel
theorem dX6_partOf_73 : decode cX6_partOf 73 = .ok (.ireturn, 1) := by decide +kernel
theorem dX6_partOf_74 : decode cX6_partOf 74 = .ok (.aload_n 0, 1) := by decide +kernel
theorem dX6_partOf_75 : decode cX6_partOf 75 = .ok (.getfield 46, 3) := by decide +kernel
theorem dX6_partOf_78 : decode cX6_partOf 78 = .ok (.ireturn, 1) := by decide +kernel
theorem dX6_partOf_79 : decode cX6_partOf 79 = .ok (.aload_n 0, 1) := by decide +kernel
theorem dX6_partOf_80 : decode cX6_partOf 80 = .ok (.getfield 49, 3) := by decide +kernel
theorem dX6_partOf_83 : decode cX6_partOf 83 = .ok (.ireturn, 1) := by decide +kernel
theorem dX6_partOf_84 : decode cX6_partOf 84 = .ok (.aload_n 0, 1) := by decide +kernel
theorem dX6_partOf_85 : decode cX6_partOf 85 = .ok (.getfield 52, 3) := by decide +kernel
theorem dX6_partOf_88 : decode cX6_partOf 88 = .ok (.ireturn, 1) := by decide +kernel
theorem dX6_partOf_89 : decode cX6_partOf 89 = .ok (.aload_n 0, 1) := by decide +kernel
theorem dX6_partOf_90 : decode cX6_partOf 90 = .ok (.getfield 55, 3) := by decide +kernel
theorem dX6_partOf_93 : decode cX6_partOf 93 = .ok (.ireturn, 1) := by decide +kernel
theorem dX6_partOf_94 : decode cX6_partOf 94 = .ok (.aload_n 0, 1) := by decide +kernel
theorem dX6_partOf_95 : decode cX6_partOf 95 = .ok (.getfield 58, 3) := by decide +kernel
theorem dX6_partOf_98 : decode cX6_partOf 98 = .ok (.ireturn, 1) := by decide +kernel
set_option maxRecDepth 20000 in
theorem ggX6_takeOver_X1_copyFrom : GoodIn wsX6_takeOver wsX1_copyFrom := goodIn_r _ [16, 17, 18, 19, 20, 21, 22, 61, 62, 63, 64, 65, 66] (by decide +kernel) (by decide +kernel)
set_option maxRecDepth 20000 in
theorem gX6_takeOver_X1_copyFrom : GoodIn wsX6_takeOver (wsV RX6 70 RX1 yX1_copyFrom wsX1_copyFrom) := goodIn_app (goodIn_of _ (by decide +kernel)) ggX6_takeOver_X1_copyFrom
set_option maxRecDepth 20000 in
theorem ggX6_takeOver_X5_copyFrom : GoodIn wsX6_takeOver wsX5_copyFrom := goodIn_r _ [27, 28, 29, 30, 31, 32, 33, 34, 35, 36, 37, 38, 39, 40, 67, 68] (by decide +kernel) (by decide +kernel)
set_option maxRecDepth 20000 in
theorem gX6_takeOver_X5_copyFrom : GoodIn wsX6_takeOver (wsV RX6 74 RX5 yX5_copyFrom wsX5_copyFrom) := goodIn_app (goodIn_of _ (by decide +kernel)) ggX6_takeOver_X5_copyFrom
set_option maxRecDepth 20000 in
theorem ggX6_takeOver_X4_copyFrom : GoodIn wsX6_takeOver wsX4_copyFrom := goodIn_r _ [45, 46, 47, 48, 49, 69, 70, 71, 72] (by decide +kernel) (by decide +kernel)
set_option maxRecDepth 20000 in
theorem gX6_takeOver_X4_copyFrom : GoodIn wsX6_takeOver (wsV RX6 77 RX4 yX4_copyFrom wsX4_copyFrom) := goodIn_app (goodIn_of _ (by decide +kernel)) ggX6_takeOver_X4_copyFrom
theorem dX6_takeOver_0 : decode cX6_takeOver 0 = .ok (.aload_n 0, 1) := by decide +kernel
theorem dX6_takeOver_1 : decode cX6_takeOver 1 = .ok (.getfield 12, 3) := by decide +kernel
theorem dX6_takeOver_4 : decode cX6_takeOver 4 = .ok (.aload_n 1, 1) := by decide +kernel
theorem dX6_takeOver_5 : decode cX6_takeOver 5 = .ok (.getfield 12, 3) := by decide +kernel
theorem dX6_takeOver_8 : decode cX6_takeOver 8 = .ok (.invokevirtual 70, 3) := by decide +kernel
theorem dX6_takeOver_11 : decode cX6_takeOver 11 = .ok (.aload_n 0, 1) := by decide +kernel
theorem dX6_takeOver_12 : decode cX6_takeOver 12 = .ok (.getfield 21, 3) := by decide +kernel
theorem dX6_takeOver_15 : decode cX6_takeOver 15 = .ok (.aload_n 1, 1) := by decide +kernel
theorem dX6_takeOver_16 : decode cX6_takeOver 16 = .ok (.getfield 21, 3) := by decide +kernel
theorem dX6_takeOver_19 : decode cX6_takeOver 19 = .ok (.invokevirtual 74, 3) := by decide +kernel
theorem dX6_takeOver_22 : decode cX6_takeOver 22 = .ok (.aload_n 0, 1) := by decide +kernel
theorem dX6_takeOver_23 : decode cX6_takeOver 23 = .ok (.getfield 28, 3) := by decide +kernel
theorem dX6_takeOver_26 : decode cX6_takeOver 26 = .ok (.aload_n 1, 1) := by decide +kernel
theorem dX6_takeOver_27 : decode cX6_takeOver 27 = .ok (.getfield 28, 3) := by decide +kernel
theorem dX6_takeOver_30 : decode cX6_takeOver 30 = .ok (.invokevirtual 77, 3) := by decide +kernel
theorem dX6_takeOver_33 : decode cX6_takeOver 33 = .ok (.aload_n 0, 1) := by decide +kernel
theorem dX6_takeOver_34 : decode cX6_takeOver 34 = .ok (.aload_n 1, 1) := by decide +kernel
theorem dX6_takeOver_35 : decode cX6_takeOver 35 = .ok (.getfield 39, 3) := by decide +kernel
theorem dX6_takeOver_38 : decode cX6_takeOver 38 = .ok (.putfield 39, 3) := by decide +kernel
theorem dX6_takeOver_41 : decode cX6_takeOver 41 = .ok (.aload_n 0, 1) := by decide +kernel
theorem dX6_takeOver_42 : decode cX6_takeOver 42 = .ok (.aload_n 1, 1) := by decide +kernel
theorem dX6_takeOver_43 : decode cX6_takeOver 43 = .ok (.getfield 43, 3) := by decide +kernel
theorem dX6_takeOver_46 : decode cX6_takeOver 46 = .ok (.putfield 43, 3) := by decide +kernel
theorem dX6_takeOver_49 : decode cX6_takeOver 49 = .ok (.aload_n 0, 1) := by decide +kernel
theorem dX6_takeOver_50 : decode cX6_takeOver 50 = .ok (.aload_n 1, 1) := by decide +kernel
theorem dX6_takeOver_51 : decode cX6_takeOver 51 = .ok (.getfield 46, 3) := by decide +kernel
theorem dX6_takeOver_54 : decode cX6_takeOver 54 = .ok (.putfield 46, 3) := by decide +kernel
theorem dX6_takeOver_57 : decode cX6_takeOver 57 = .ok (.aload_n 0, 1) := by decide +kernel
theorem dX6_takeOver_58 : decode cX6_takeOver 58 = .ok (.aload_n 1, 1) := by decide +kernel
theorem dX6_takeOver_59 : decode cX6_takeOver 59 = .ok (.getfield 49, 3) := by decide +kernel
theorem dX6_takeOver_62 : decode cX6_takeOver 62 = .ok (.putfield 49, 3) := by decide +kernel
theorem dX6_takeOver_65 : decode cX6_takeOver 65 = .ok (.aload_n 0, 1) := by decide +kernel
theorem dX6_takeOver_66 : decode cX6_takeOver 66 = .ok (.aload_n 1, 1) := by decide +kernel
theorem dX6_takeOver_67 : decode cX6_takeOver 67 = .ok (.getfield 52, 3) := by decide +kernel
theorem dX6_takeOver_70 : decode cX6_takeOver 70 = .ok (.putfield 52, 3) := by decide +kernel
theorem dX6_takeOver_73 : decode cX6_takeOver 73 = .ok (.aload_n 0, 1) := by decide +kernel
theorem dX6_takeOver_74 : decode cX6_takeOver 74 = .ok (.aload_n 1, 1) := by decide +kernel
theorem dX6_takeOver_75 : decode cX6_takeOver 75 = .ok (.getfield 55, 3) := by decide +kernel
theorem dX6_takeOver_78 : decode cX6_takeOver 78 = .ok (.putfield 55, 3) := by decide +kernel
theorem dX6_takeOver_81 : decode cX6_takeOver 81 = .ok (.aload_n 0, 1) := by decide +kernel
theorem dX6_takeOver_82 : decode cX6_takeOver 82 = .ok (.aload_n 1, 1) := by decide +kernel
theorem dX6_takeOver_83 : decode cX6_takeOver 83 = .ok (.getfield 58, 3) := by decide +kernel
theorem dX6_takeOver_86 : decode cX6_takeOver 86 = .ok (.putfield 58, 3) := by decide +kernel
theorem dX6_takeOver_89 : decode cX6_takeOver 89 = .ok (.aload_n 0, 1) := by decide +kernel
theorem dX6_takeOver_90 : decode cX6_takeOver 90 = .ok (.aload_n 1, 1) := by decide +kernel
theorem dX6_takeOver_91 : decode cX6_takeOver 91 = .ok (.getfield 61, 3) := by decide +kernel
theorem dX6_takeOver_94 : decode cX6_takeOver 94 = .ok (.putfield 61, 3) := by decide +kernel
theorem dX6_takeOver_97 : decode cX6_takeOver 97 = .ok (.return_, 1) := by decide +kernel
set_option maxRecDepth 20000 in
theorem ggX7_init_X6_init : GoodIn wsX7_init wsX6_init := goodIn_r _ [9, 10, 2, 3, 11, 12, 13, 14, 15, 16, 17, 18, 19, 20, 21, 22, 23, 24, 25, 26, 27, 28, 29, 30, 31, 32, 33, 34, 48, 49, 50, 51, 52, 53, 35, 36, 37, 38, 39, 40, 41, 42, 43, 44, 45, 54, 55, 56, 57, 58, 59] (by decide +kernel) (by decide +kernel)
set_option maxRecDepth 20000 in
theorem gX7_init_X6_init_n9 : GoodIn wsX7_init (wsX6_init) := ggX7_init_X6_init
theorem dX7_init_0 : decode cX7_init 0 = .ok (.aload_n 0, 1) := by decide +kernel
theorem dX7_init_1 : decode cX7_init 1 = .ok (.invokespecial 1, 3) := by decide +kernel
theorem dX7_init_4 : decode cX7_init 4 = .ok (.aload_n 0, 1) := by decide +kernel
theorem dX7_init_5 : decode cX7_init 5 = .ok (.new 7, 3) := by decide +kernel
theorem dX7_init_8 : decode cX7_init 8 = .ok (.dup, 1) := by decide +kernel
theorem dX7_init_9 : decode cX7_init 9 = .ok (.invokespecial 9, 3) := by decide +kernel
theorem dX7_init_12 : decode cX7_init 12 = .ok (.putfield 10, 3) := by decide +kernel
theorem dX7_init_15 : decode cX7_init 15 = .ok (.return_, 1) := by decide +kernel
set_option maxRecDepth 20000 in
theorem ggX8_init_X2_init : GoodIn wsX8_init wsX2_init := goodIn_r _ [33, 34, 2, 3, 35, 36, 194] (by decide +kernel) (by decide +kernel)
set_option maxRecDepth 20000 in
theorem gX8_init_X2_init_n9 : GoodIn wsX8_init (wsX2_init) := ggX8_init_X2_init
set_option maxRecDepth 20000 in
theorem ggX8_init_X3_init : GoodIn wsX8_init wsX3_init := goodIn_r _ [38, 39, 2, 3, 35, 40, 41, 204, 205, 206, 207, 208, 209, 210, 211, 212] (by decide +kernel) (by decide +kernel)
set_option maxRecDepth 20000 in
theorem gX8_init_X3_init_n18 : GoodIn wsX8_init (wsX3_init) := ggX8_init_X3_init
set_option maxRecDepth 20000 in
theorem ggX8_init_X6_init : GoodIn wsX8_init wsX6_init := goodIn_r _ [43, 44, 2, 3, 45, 18, 19, 46, 47, 48, 49, 50, 51, 52, 53, 54, 55, 56, 57, 58, 59, 60, 35, 61, 62, 63, 64, 65, 224, 225, 226, 227, 228, 229, 213, 214, 215, 216, 217, 218, 219, 220, 221, 222, 223, 235, 236, 237, 238, 239, 240] (by decide +kernel) (by decide +kernel)
set_option maxRecDepth 20000 in
theorem gX8_init_X6_init_n25 : GoodIn wsX8_init (wsX6_init) := ggX8_init_X6_init
set_option maxRecDepth 20000 in
theorem ggX8_init_X1_init : GoodIn wsX8_init wsX1_init := goodIn_r _ [56, 57, 2, 3] (by decide +kernel) (by decide +kernel)
set_option maxRecDepth 20000 in
theorem gX8_init_X1_init_n35 : GoodIn wsX8_init (wsX1_init) := ggX8_init_X1_init
set_option maxRecDepth 20000 in
theorem ggX8_init_X0_init : GoodIn wsX8_init wsX0_init := goodIn_r _ [68, 69, 2, 3, 70, 71, 13, 14, 42, 43, 44, 45, 18, 19, 46, 47, 48, 49, 50, 51, 52, 53, 54, 55, 56, 57, 58, 59, 60, 35, 61, 62, 63, 64, 65, 230, 231, 232, 213, 214, 215, 216, 217, 218, 219, 220, 221, 222, 223, 224, 225, 226, 227, 228, 229, 235, 236, 237, 238, 239, 240] (by decide +kernel) (by decide +kernel)
set_option maxRecDepth 20000 in
theorem gX8_init_X0_init : GoodIn wsX8_init (wsX0_init) := ggX8_init_X0_init
set_option maxRecDepth 20000 in
theorem ggX8_init_X7_init : GoodIn wsX8_init wsX7_init := goodIn_r _ [73, 74, 2, 3, 75, 13, 14, 76, 42, 43, 44, 45, 18, 19, 46, 47, 48, 49, 50, 51, 52, 53, 54, 55, 56, 57, 58, 59, 60, 35, 61, 62, 63, 64, 65, 213, 214, 215, 216, 217, 218, 219, 220, 221, 222, 223, 233, 234, 224, 225, 226, 227, 228, 229, 235, 236, 237, 238, 239, 240] (by decide +kernel) (by decide +kernel)
set_option maxRecDepth 20000 in
theorem gX8_init_X7_init_n49 : GoodIn wsX8_init (wsX7_init) := ggX8_init_X7_init
set_option maxRecDepth 20000 in
theorem ggX8_init_X2_takeNumbers : GoodIn wsX8_init wsX2_takeNumbers := goodIn_r _ [80, 36, 81, 82, 83, 84, 85, 86, 87, 88, 89, 90, 91, 194] (by decide +kernel) (by decide +kernel)
set_option maxRecDepth 20000 in
theorem gX8_init_X2_takeNumbers : GoodIn wsX8_init (wsV RX8 65 RX2 yX2_takeNumbers wsX2_takeNumbers) := goodIn_app (goodIn_of _ (by decide +kernel)) ggX8_init_X2_takeNumbers
set_option maxRecDepth 20000 in
theorem ggX8_init_X8_startAnew : GoodIn wsX8_init wsX8_startAnew := goodIn_r _ [95, 15, 7, 20, 24, 28, 29, 96, 97, 98, 6, 99, 36, 100, 101, 102, 14, 103, 46, 54, 104, 105, 106, 107, 108, 109, 110, 111, 112, 113, 114, 19, 115, 116, 117, 118, 119, 120, 121, 122, 123, 124, 53, 125, 126, 127, 128, 129, 130, 131, 132, 49, 133, 134, 135, 82, 136, 137, 138, 139, 140, 141, 142, 143, 144, 61, 62, 145, 146, 147, 148, 149, 85, 86, 87, 150, 151, 152, 153, 154, 155, 156, 157, 158, 159, 160, 161, 162, 163, 164, 165, 166, 167, 168, 169, 170, 171, 172, 173, 174, 175, 176, 177, 178, 179, 180, 181, 182, 183, 184, 185, 186, 187, 188, 189, 190, 191, 23, 192, 193, 195, 196, 197, 198, 199, 200, 201, 202, 203, 213, 214, 215, 216, 217, 218, 219, 220, 221, 222, 223, 233, 234, 194, 224, 225, 226, 227, 228, 229, 237, 238, 239, 240, 235, 236, 230, 231, 232] (by decide +kernel) (by decide +kernel)
set_option maxRecDepth 20000 in
theorem gX8_init_X8_startAnew : GoodIn wsX8_init (wsV RX8 69 RX8 yX8_startAnew wsX8_startAnew) := goodIn_app (goodIn_of _ (by decide +kernel)) ggX8_init_X8_startAnew
theorem dX8_init_0 : decode cX8_init 0 = .ok (.aload_n 0, 1) := by decide +kernel
theorem dX8_init_1 : decode cX8_init 1 = .ok (.invokespecial 1, 3) := by decide +kernel
theorem dX8_init_4 : decode cX8_init 4 = .ok (.aload_n 0, 1) := by decide +kernel
theorem dX8_init_5 : decode cX8_init 5 = .ok (.new 7, 3) := by decide +kernel
theorem dX8_init_8 : decode cX8_init 8 = .ok (.dup, 1) := by decide +kernel
theorem dX8_init_9 : decode cX8_init 9 = .ok (.invokespecial 9, 3) := by decide +kernel
theorem dX8_init_12 : decode cX8_init 12 = .ok (.putfield 10, 3) := by decide +kernel
theorem dX8_init_15 : decode cX8_init 15 = .ok (.aload_n 0, 1) := by decide +kernel
theorem dX8_init_16 : decode cX8_init 16 = .ok (.new 16, 3) := by decide +kernel
theorem dX8_init_19 : decode cX8_init 19 = .ok (.dup, 1) := by decide +kernel
theorem dX8_init_20 : decode cX8_init 20 = .ok (.invokespecial 18, 3) := by decide +kernel
theorem dX8_init_23 : decode cX8_init 23 = .ok (.putfield 19, 3) := by decide +kernel
theorem dX8_init_26 : decode cX8_init 26 = .ok (.aload_n 0, 1) := by decide +kernel
theorem dX8_init_27 : decode cX8_init 27 = .ok (.new 23, 3) := by decide +kernel
theorem dX8_init_30 : decode cX8_init 30 = .ok (.dup, 1) := by decide +kernel
theorem dX8_init_31 : decode cX8_init 31 = .ok (.invokespecial 25, 3) := by decide +kernel
theorem dX8_init_34 : decode cX8_init 34 = .ok (.putfield 26, 3) := by decide +kernel
theorem dX8_init_37 : decode cX8_init 37 = .ok (.aload_n 0, 1) := by decide +kernel
theorem dX8_init_38 : decode cX8_init 38 = .ok (.new 23, 3) := by decide +kernel
theorem dX8_init_41 : decode cX8_init 41 = .ok (.dup, 1) := by decide +kernel
theorem dX8_init_42 : decode cX8_init 42 = .ok (.invokespecial 25, 3) := by decide +kernel
theorem dX8_init_45 : decode cX8_init 45 = .ok (.putfield 30, 3) := by decide +kernel
theorem dX8_init_48 : decode cX8_init 48 = .ok (.aload_n 0, 1) := by decide +kernel
theorem dX8_init_49 : decode cX8_init 49 = .ok (.new 33, 3) := by decide +kernel
theorem dX8_init_52 : decode cX8_init 52 = .ok (.dup, 1) := by decide +kernel
theorem dX8_init_53 : decode cX8_init 53 = .ok (.invokespecial 35, 3) := by decide +kernel
theorem dX8_init_56 : decode cX8_init 56 = .ok (.putfield 36, 3) := by decide +kernel
theorem dX8_init_59 : decode cX8_init 59 = .ok (.aload_n 0, 1) := by decide +kernel
theorem dX8_init_60 : decode cX8_init 60 = .ok (.new 40, 3) := by decide +kernel
theorem dX8_init_63 : decode cX8_init 63 = .ok (.dup, 1) := by decide +kernel
theorem dX8_init_64 : decode cX8_init 64 = .ok (.invokespecial 42, 3) := by decide +kernel
theorem dX8_init_67 : decode cX8_init 67 = .ok (.putfield 43, 3) := by decide +kernel
theorem dX8_init_70 : decode cX8_init 70 = .ok (.aload_n 0, 1) := by decide +kernel
theorem dX8_init_71 : decode cX8_init 71 = .ok (.new 47, 3) := by decide +kernel
theorem dX8_init_74 : decode cX8_init 74 = .ok (.dup, 1) := by decide +kernel
theorem dX8_init_75 : decode cX8_init 75 = .ok (.invokespecial 49, 3) := by decide +kernel
theorem dX8_init_78 : decode cX8_init 78 = .ok (.putfield 50, 3) := by decide +kernel
theorem dX8_init_81 : decode cX8_init 81 = .ok (.aload_n 0, 1) := by decide +kernel
theorem dX8_init_82 : decode cX8_init 82 = .ok (.new 47, 3) := by decide +kernel
theorem dX8_init_85 : decode cX8_init 85 = .ok (.dup, 1) := by decide +kernel
theorem dX8_init_86 : decode cX8_init 86 = .ok (.invokespecial 49, 3) := by decide +kernel
theorem dX8_init_89 : decode cX8_init 89 = .ok (.putfield 54, 3) := by decide +kernel
theorem dX8_init_92 : decode cX8_init 92 = .ok (.aload_n 0, 1) := by decide +kernel
theorem dX8_init_93 : decode cX8_init 93 = .ok (.iconst (-1), 1) := by decide +kernel
theorem dX8_init_94 : decode cX8_init 94 = .ok (.putfield 57, 3) := by decide +kernel
theorem dX8_init_97 : decode cX8_init 97 = .ok (.aload_n 0, 1) := by decide +kernel
theorem dX8_init_98 : decode cX8_init 98 = .ok (.getfield 10, 3) := by decide +kernel
theorem dX8_init_101 : decode cX8_init 101 = .ok (.getstatic 61, 3) := by decide +kernel
theorem dX8_init_104 : decode cX8_init 104 = .ok (.invokevirtual 65, 3) := by decide +kernel
theorem dX8_init_107 : decode cX8_init 107 = .ok (.aload_n 0, 1) := by decide +kernel
theorem dX8_init_108 : decode cX8_init 108 = .ok (.invokevirtual 69, 3) := by decide +kernel
theorem dX8_init_111 : decode cX8_init 111 = .ok (.return_, 1) := by decide +kernel
set_option maxRecDepth 20000 in
theorem ggX8_append_X3_hasRoomFor : GoodIn wsX8_append wsX3_hasRoomFor := goodIn_r _ [6, 7, 25, 26, 27, 28, 29, 30, 31, 32, 33] (by decide +kernel) (by decide +kernel)
set_option maxRecDepth 20000 in
theorem gX8_append_X3_hasRoomFor : GoodIn wsX8_append (wsV RX8 72 RX3 yX3_hasRoomFor wsX3_hasRoomFor) := goodIn_app (goodIn_of _ (by decide +kernel)) ggX8_append_X3_hasRoomFor
set_option maxRecDepth 20000 in
theorem ggX8_append_X3_addBytesOf : GoodIn wsX8_append wsX3_addBytesOf := goodIn_r _ [11, 12, 7, 13, 14, 15, 25, 26, 27, 28, 29, 30, 31, 32, 33] (by decide +kernel) (by decide +kernel)
set_option maxRecDepth 20000 in
theorem gX8_append_X3_addBytesOf : GoodIn wsX8_append (wsV RX8 76 RX3 yX3_addBytesOf wsX3_addBytesOf) := goodIn_app (goodIn_of _ (by decide +kernel)) ggX8_append_X3_addBytesOf
theorem dX8_append_0 : decode cX8_append 0 = .ok (.aload_n 0, 1) := by decide +kernel
theorem dX8_append_1 : decode cX8_append 1 = .ok (.getfield 19, 3) := by decide +kernel
theorem dX8_append_4 : decode cX8_append 4 = .ok (.bipush 20, 2) := by decide +kernel
theorem dX8_append_6 : decode cX8_append 6 = .ok (.invokevirtual 72, 3) := by decide +kernel
theorem dX8_append_9 : decode cX8_append 9 = .ok (.ifCond .ne 5, 3) := by decide +kernel
theorem dX8_append_12 : decode cX8_append 12 = .ok (.iconst (-1), 1) := by decide +kernel
theorem dX8_append_13 : decode cX8_append 13 = .ok (.ireturn, 1) := by decide +kernel
theorem dX8_append_14 : decode cX8_append 14 = .ok (.aload_n 0, 1) := by decide +kernel
theorem dX8_append_15 : decode cX8_append 15 = .ok (.getfield 19, 3) := by decide +kernel
theorem dX8_append_18 : decode cX8_append 18 = .ok (.iload_n 1, 1) := by decide +kernel
theorem dX8_append_19 : decode cX8_append 19 = .ok (.invokevirtual 76, 3) := by decide +kernel
theorem dX8_append_22 : decode cX8_append 22 = .ok (.aload_n 0, 1) := by decide +kernel
theorem dX8_append_23 : decode cX8_append 23 = .ok (.getfield 19, 3) := by decide +kernel
theorem dX8_append_26 : decode cX8_append 26 = .ok (.iload_n 2, 1) := by decide +kernel
theorem dX8_append_27 : decode cX8_append 27 = .ok (.invokevirtual 76, 3) := by decide +kernel
theorem dX8_append_30 : decode cX8_append 30 = .ok (.aload_n 0, 1) := by decide +kernel
theorem dX8_append_31 : decode cX8_append 31 = .ok (.getfield 19, 3) := by decide +kernel
theorem dX8_append_34 : decode cX8_append 34 = .ok (.iload_n 3, 1) := by decide +kernel
theorem dX8_append_35 : decode cX8_append 35 = .ok (.invokevirtual 76, 3) := by decide +kernel
theorem dX8_append_38 : decode cX8_append 38 = .ok (.aload_n 0, 1) := by decide +kernel
theorem dX8_append_39 : decode cX8_append 39 = .ok (.getfield 19, 3) := by decide +kernel
theorem dX8_append_42 : decode cX8_append 42 = .ok (.iload 4, 2) := by decide +kernel
theorem dX8_append_44 : decode cX8_append 44 = .ok (.invokevirtual 76, 3) := by decide +kernel
theorem dX8_append_47 : decode cX8_append 47 = .ok (.aload_n 0, 1) := by decide +kernel
theorem dX8_append_48 : decode cX8_append 48 = .ok (.getfield 19, 3) := by decide +kernel
theorem dX8_append_51 : decode cX8_append 51 = .ok (.iload 5, 2) := by decide +kernel
theorem dX8_append_53 : decode cX8_append 53 = .ok (.invokevirtual 76, 3) := by decide +kernel
theorem dX8_append_56 : decode cX8_append 56 = .ok (.aload_n 0, 1) := by decide +kernel
theorem dX8_append_57 : decode cX8_append 57 = .ok (.getfield 19, 3) := by decide +kernel
theorem dX8_append_60 : decode cX8_append 60 = .ok (.getfield 80, 3) := by decide +kernel
theorem dX8_append_63 : decode cX8_append 63 = .ok (.ireturn, 1) := by decide +kernel
set_option maxRecDepth 20000 in
theorem ggX8_parse_X8_requireRange : GoodIn wsX8_parse wsX8_requireRange := goodIn_ca (goodIn_r _ [7, 8, 9] (by decide +kernel) (by decide +kernel)) (goodIn_sub (fun _ h => List.mem_cons_of_mem _ (List.mem_append_right _ h)) (by decide +kernel))
set_option maxRecDepth 20000 in
theorem gX8_parse_X8_requireRange : GoodIn wsX8_parse (va_wsS RX8 83 yX8_requireRange wsX8_requireRange) := goodIn_app (goodIn_of _ (by decide +kernel)) ggX8_parse_X8_requireRange
set_option maxRecDepth 20000 in
theorem ggX8_parse_X3_readText : GoodIn wsX8_parse wsX3_readText := goodIn_r _ [14, 15, 16, 17, 18, 19, 20, 21, 6, 22, 23, 24, 25, 26, 27, 28, 29, 30, 31, 32, 33, 13, 34, 35, 36, 37, 38, 39, 40, 41, 42, 43, 44, 45, 46, 47, 48, 49, 50, 51, 52, 53, 54, 55, 56, 57, 58, 59, 60, 61, 62, 63, 64, 65, 66, 67, 68, 69, 70, 71, 72, 73, 74, 75, 76, 77, 78, 79, 80, 81, 82, 83, 84, 85, 86, 87, 88, 89, 90, 91, 92, 93, 94, 95, 96, 97, 98, 99, 100, 101, 102, 103, 104, 105, 106, 107, 108, 109, 110, 111, 112, 113, 114, 115, 116, 117, 118, 119, 120, 121, 122, 123, 124, 125, 255, 256, 257, 258, 259, 260, 261, 262, 263] (by decide +kernel) (by decide +kernel)
set_option maxRecDepth 20000 in
theorem gX8_parse_X3_readText : GoodIn wsX8_parse (wsV RX8 87 RX3 yX3_readText wsX3_readText) := goodIn_app (goodIn_of _ (by decide +kernel)) ggX8_parse_X3_readText
set_option maxRecDepth 20000 in
theorem ggX8_parse_X2_takeNumbers : GoodIn wsX8_parse wsX2_takeNumbers := goodIn_r _ [130, 131, 21, 6, 22, 23, 24, 25, 26, 27, 28, 29, 30, 264] (by decide +kernel) (by decide +kernel)
set_option maxRecDepth 20000 in
theorem gX8_parse_X2_takeNumbers : GoodIn wsX8_parse (wsV RX8 65 RX2 yX2_takeNumbers wsX2_takeNumbers) := goodIn_app (goodIn_of _ (by decide +kernel)) ggX8_parse_X2_takeNumbers
set_option maxRecDepth 20000 in
theorem ggX8_parse_X8_startAnew : GoodIn wsX8_parse wsX8_startAnew := goodIn_r _ [135, 136, 3, 137, 138, 139, 140, 141, 142, 143, 129, 144, 131, 145, 146, 147, 148, 149, 150, 151, 152, 153, 154, 155, 156, 157, 158, 159, 160, 161, 162, 163, 164, 165, 166, 167, 168, 169, 170, 171, 172, 173, 174, 175, 176, 177, 178, 179, 180, 181, 182, 183, 184, 185, 186, 6, 187, 188, 189, 190, 191, 192, 193, 194, 195, 196, 197, 198, 199, 200, 201, 202, 24, 25, 26, 203, 204, 205, 206, 207, 208, 209, 210, 211, 212, 213, 214, 215, 216, 217, 218, 219, 220, 221, 222, 223, 224, 225, 226, 227, 228, 229, 230, 231, 232, 233, 234, 235, 236, 237, 238, 239, 124, 125, 240, 241, 242, 243, 244, 245, 246, 247, 248, 249, 250, 251, 252, 253, 254, 265, 266, 267, 268, 269, 270, 271, 272, 273, 274, 275, 276, 277, 264, 278, 279, 280, 281, 282, 283, 284, 285, 286, 287, 288, 289, 290, 291, 292] (by decide +kernel) (by decide +kernel)
set_option maxRecDepth 20000 in
theorem gX8_parse_X8_startAnew : GoodIn wsX8_parse (wsV RX8 69 RX8 yX8_startAnew wsX8_startAnew) := goodIn_app (goodIn_of _ (by decide +kernel)) ggX8_parse_X8_startAnew
theorem dX8_parse_0 : decode cX8_parse 0 = .ok (.iload_n 1, 1) := by decide +kernel
theorem dX8_parse_1 : decode cX8_parse 1 = .ok (.iconst 0, 1) := by decide +kernel
theorem dX8_parse_2 : decode cX8_parse 2 = .ok (.aload_n 0, 1) := by decide +kernel
theorem dX8_parse_3 : decode cX8_parse 3 = .ok (.getfield 19, 3) := by decide +kernel
theorem dX8_parse_6 : decode cX8_parse 6 = .ok (.getfield 80, 3) := by decide +kernel
theorem dX8_parse_9 : decode cX8_parse 9 = .ok (.invokestatic 83, 3) := by decide +kernel
theorem dX8_parse_12 : decode cX8_parse 12 = .ok (.aload_n 0, 1) := by decide +kernel
theorem dX8_parse_13 : decode cX8_parse 13 = .ok (.getfield 19, 3) := by decide +kernel
theorem dX8_parse_16 : decode cX8_parse 16 = .ok (.iload_n 1, 1) := by decide +kernel
theorem dX8_parse_17 : decode cX8_parse 17 = .ok (.invokevirtual 87, 3) := by decide +kernel
theorem dX8_parse_20 : decode cX8_parse 20 = .ok (.istore_n 2, 1) := by decide +kernel
theorem dX8_parse_21 : decode cX8_parse 21 = .ok (.iload_n 2, 1) := by decide +kernel
theorem dX8_parse_22 : decode cX8_parse 22 = .ok (.ifCond .eq 16, 3) := by decide +kernel
theorem dX8_parse_25 : decode cX8_parse 25 = .ok (.aload_n 0, 1) := by decide +kernel
theorem dX8_parse_26 : decode cX8_parse 26 = .ok (.aload_n 0, 1) := by decide +kernel
theorem dX8_parse_27 : decode cX8_parse 27 = .ok (.getfield 19, 3) := by decide +kernel
theorem dX8_parse_30 : decode cX8_parse 30 = .ok (.getfield 91, 3) := by decide +kernel
theorem dX8_parse_33 : decode cX8_parse 33 = .ok (.putfield 57, 3) := by decide +kernel
theorem dX8_parse_36 : decode cX8_parse 36 = .ok (.iload_n 2, 1) := by decide +kernel
theorem dX8_parse_37 : decode cX8_parse 37 = .ok (.ireturn, 1) := by decide +kernel
theorem dX8_parse_38 : decode cX8_parse 38 = .ok (.aload_n 0, 1) := by decide +kernel
theorem dX8_parse_39 : decode cX8_parse 39 = .ok (.iconst (-1), 1) := by decide +kernel
theorem dX8_parse_40 : decode cX8_parse 40 = .ok (.putfield 57, 3) := by decide +kernel
theorem dX8_parse_43 : decode cX8_parse 43 = .ok (.aload_n 0, 1) := by decide +kernel
theorem dX8_parse_44 : decode cX8_parse 44 = .ok (.getfield 10, 3) := by decide +kernel
theorem dX8_parse_47 : decode cX8_parse 47 = .ok (.aload_n 0, 1) := by decide +kernel
theorem dX8_parse_48 : decode cX8_parse 48 = .ok (.getfield 19, 3) := by decide +kernel
theorem dX8_parse_51 : decode cX8_parse 51 = .ok (.getfield 94, 3) := by decide +kernel
theorem dX8_parse_54 : decode cX8_parse 54 = .ok (.invokevirtual 65, 3) := by decide +kernel
theorem dX8_parse_57 : decode cX8_parse 57 = .ok (.aload_n 0, 1) := by decide +kernel
theorem dX8_parse_58 : decode cX8_parse 58 = .ok (.invokevirtual 69, 3) := by decide +kernel
theorem dX8_parse_61 : decode cX8_parse 61 = .ok (.iconst 0, 1) := by decide +kernel
theorem dX8_parse_62 : decode cX8_parse 62 = .ok (.ireturn, 1) := by decide +kernel
theorem dX8_errorPosition_0 : decode cX8_errorPosition 0 = .ok (.aload_n 0, 1) := by decide +kernel
theorem dX8_errorPosition_1 : decode cX8_errorPosition 1 = .ok (.getfield 57, 3) := by decide +kernel
theorem dX8_errorPosition_4 : decode cX8_errorPosition 4 = .ok (.ireturn, 1) := by decide +kernel
set_option maxRecDepth 20000 in
theorem ggX8_sine_X8_requireRange : GoodIn wsX8_sine wsX8_requireRange := goodIn_ca (goodIn_r _ [4, 5, 6] (by decide +kernel) (by decide +kernel)) (goodIn_sub (fun _ h => List.mem_cons_of_mem _ (List.mem_append_right _ h)) (by decide +kernel))
set_option maxRecDepth 20000 in
theorem gX8_sine_X8_requireRange : GoodIn wsX8_sine (va_wsS RX8 83 yX8_requireRange wsX8_requireRange) := goodIn_app (goodIn_of _ (by decide +kernel)) ggX8_sine_X8_requireRange
set_option maxRecDepth 20000 in
theorem ggX8_sine_X8_sineOf : GoodIn wsX8_sine wsX8_sineOf := goodIn_r _ [9, 10, 11, 12] (by decide +kernel) (by decide +kernel)
set_option maxRecDepth 20000 in
theorem gX8_sine_X8_sineOf : GoodIn wsX8_sine (va_wsS RX8 97 yX8_sineOf wsX8_sineOf) := goodIn_app (goodIn_of _ (by decide +kernel)) ggX8_sine_X8_sineOf
theorem dX8_sine_0 : decode cX8_sine 0 = .ok (.iload_n 1, 1) := by decide +kernel
theorem dX8_sine_1 : decode cX8_sine 1 = .ok (.iconst 0, 1) := by decide +kernel
theorem dX8_sine_2 : decode cX8_sine 2 = .ok (.sipush 4095, 3) := by decide +kernel
theorem dX8_sine_5 : decode cX8_sine 5 = .ok (.invokestatic 83, 3) := by decide +kernel
theorem dX8_sine_8 : decode cX8_sine 8 = .ok (.iload_n 1, 1) := by decide +kernel
theorem dX8_sine_9 : decode cX8_sine 9 = .ok (.invokestatic 97, 3) := by decide +kernel
theorem dX8_sine_12 : decode cX8_sine 12 = .ok (.ireturn, 1) := by decide +kernel
set_option maxRecDepth 20000 in
theorem ggX8_lean_X8_requireRange : GoodIn wsX8_lean wsX8_requireRange := goodIn_ca (goodIn_r _ [4, 5, 6] (by decide +kernel) (by decide +kernel)) (goodIn_sub (fun _ h => List.mem_cons_of_mem _ (List.mem_append_right _ h)) (by decide +kernel))
set_option maxRecDepth 20000 in
theorem gX8_lean_X8_requireRange : GoodIn wsX8_lean (va_wsS RX8 83 yX8_requireRange wsX8_requireRange) := goodIn_app (goodIn_of _ (by decide +kernel)) ggX8_lean_X8_requireRange
set_option maxRecDepth 20000 in
theorem ggX8_lean_X8_leanOf : GoodIn wsX8_lean wsX8_leanOf := goodIn_r _ [9] (by decide +kernel) (by decide +kernel)
set_option maxRecDepth 20000 in
theorem gX8_lean_X8_leanOf : GoodIn wsX8_lean (va_wsS RX8 100 yX8_leanOf wsX8_leanOf) := goodIn_app (goodIn_of _ (by decide +kernel)) ggX8_lean_X8_leanOf
theorem dX8_lean_0 : decode cX8_lean 0 = .ok (.iload_n 1, 1) := by decide +kernel
theorem dX8_lean_1 : decode cX8_lean 1 = .ok (.iconst 0, 1) := by decide +kernel
theorem dX8_lean_2 : decode cX8_lean 2 = .ok (.sipush 4095, 3) := by decide +kernel
theorem dX8_lean_5 : decode cX8_lean 5 = .ok (.invokestatic 83, 3) := by decide +kernel
theorem dX8_lean_8 : decode cX8_lean 8 = .ok (.iload_n 1, 1) := by decide +kernel
theorem dX8_lean_9 : decode cX8_lean 9 = .ok (.invokestatic 100, 3) := by decide +kernel
theorem dX8_lean_12 : decode cX8_lean 12 = .ok (.ireturn, 1) := by decide +kernel
set_option maxRecDepth 20000 in
theorem ggX8_state_X8_requireRange : GoodIn wsX8_state wsX8_requireRange := goodIn_ca (goodIn_r _ [5, 6, 7] (by decide +kernel) (by decide +kernel)) (goodIn_sub (fun _ h => List.mem_cons_of_mem _ (List.mem_append_right _ h)) (by decide +kernel))
set_option maxRecDepth 20000 in
theorem gX8_state_X8_requireRange : GoodIn wsX8_state (va_wsS RX8 83 yX8_requireRange wsX8_requireRange) := goodIn_app (goodIn_of _ (by decide +kernel)) ggX8_state_X8_requireRange
set_option maxRecDepth 20000 in
theorem ggX8_state_X6_partOf : GoodIn wsX8_state wsX6_partOf := goodIn_r _ [12, 13, 14, 15, 16, 17, 18, 19, 20, 30, 31, 32, 33, 34, 35, 36, 37, 38, 39, 40, 41, 42, 43, 44, 45, 46] (by decide +kernel) (by decide +kernel)
set_option maxRecDepth 20000 in
theorem gX8_state_X6_partOf : GoodIn wsX8_state (wsV RX8 103 RX6 yX6_partOf wsX6_partOf) := goodIn_app (goodIn_of _ (by decide +kernel)) ggX8_state_X6_partOf
theorem dX8_state_0 : decode cX8_state 0 = .ok (.iload_n 1, 1) := by decide +kernel
theorem dX8_state_1 : decode cX8_state 1 = .ok (.iconst 0, 1) := by decide +kernel
theorem dX8_state_2 : decode cX8_state 2 = .ok (.bipush 8, 2) := by decide +kernel
theorem dX8_state_4 : decode cX8_state 4 = .ok (.invokestatic 83, 3) := by decide +kernel
theorem dX8_state_7 : decode cX8_state 7 = .ok (.aload_n 0, 1) := by decide +kernel
theorem dX8_state_8 : decode cX8_state 8 = .ok (.getfield 26, 3) := by decide +kernel
theorem dX8_state_11 : decode cX8_state 11 = .ok (.iload_n 1, 1) := by decide +kernel
theorem dX8_state_12 : decode cX8_state 12 = .ok (.invokevirtual 103, 3) := by decide +kernel
theorem dX8_state_15 : decode cX8_state 15 = .ok (.ireturn, 1) := by decide +kernel
set_option maxRecDepth 20000 in
theorem ggX8_link_X8_requireLink : GoodIn wsX8_link wsX8_requireLink := goodIn_ca (goodIn_r _ [5, 6, 7] (by decide +kernel) (by decide +kernel)) (goodIn_sub (fun _ h => List.mem_cons_of_mem _ (List.mem_append_left _ (List.mem_append_right _ h))) (by decide +kernel))
set_option maxRecDepth 20000 in
theorem gX8_link_X8_requireLink : GoodIn wsX8_link (va_wsS RX8 106 yX8_requireLink wsX8_requireLink) := goodIn_app (goodIn_of _ (by decide +kernel)) ggX8_link_X8_requireLink
set_option maxRecDepth 20000 in
theorem ggX8_link_X8_requireRange : GoodIn wsX8_link wsX8_requireRange := goodIn_ca (goodIn_r _ [10, 11, 12] (by decide +kernel) (by decide +kernel)) (goodIn_sub (fun _ h => List.mem_cons_of_mem _ (List.mem_append_right _ h)) (by decide +kernel))
set_option maxRecDepth 20000 in
theorem gX8_link_X8_requireRange : GoodIn wsX8_link (va_wsS RX8 83 yX8_requireRange wsX8_requireRange) := goodIn_app (goodIn_of _ (by decide +kernel)) ggX8_link_X8_requireRange
set_option maxRecDepth 20000 in
theorem ggX8_link_X1_partOfLink : GoodIn wsX8_link wsX1_partOfLink := goodIn_r _ [17, 18, 19, 20, 16, 21, 22, 23, 24, 25, 26, 27, 28, 29, 30, 4, 31, 52, 53, 54, 55, 56, 57] (by decide +kernel) (by decide +kernel)
set_option maxRecDepth 20000 in
theorem gX8_link_X1_partOfLink : GoodIn wsX8_link (wsV RX8 112 RX1 yX1_partOfLink wsX1_partOfLink) := goodIn_app (goodIn_of _ (by decide +kernel)) ggX8_link_X1_partOfLink
theorem dX8_link_0 : decode cX8_link 0 = .ok (.iload_n 1, 1) := by decide +kernel
theorem dX8_link_1 : decode cX8_link 1 = .ok (.invokestatic 106, 3) := by decide +kernel
theorem dX8_link_4 : decode cX8_link 4 = .ok (.iload_n 2, 1) := by decide +kernel
theorem dX8_link_5 : decode cX8_link 5 = .ok (.iconst 0, 1) := by decide +kernel
theorem dX8_link_6 : decode cX8_link 6 = .ok (.iconst 2, 1) := by decide +kernel
theorem dX8_link_7 : decode cX8_link 7 = .ok (.invokestatic 83, 3) := by decide +kernel
theorem dX8_link_10 : decode cX8_link 10 = .ok (.aload_n 0, 1) := by decide +kernel
theorem dX8_link_11 : decode cX8_link 11 = .ok (.getfield 26, 3) := by decide +kernel
theorem dX8_link_14 : decode cX8_link 14 = .ok (.getfield 109, 3) := by decide +kernel
theorem dX8_link_17 : decode cX8_link 17 = .ok (.iload_n 1, 1) := by decide +kernel
theorem dX8_link_18 : decode cX8_link 18 = .ok (.iload_n 2, 1) := by decide +kernel
theorem dX8_link_19 : decode cX8_link 19 = .ok (.invokevirtual 112, 3) := by decide +kernel
theorem dX8_link_22 : decode cX8_link 22 = .ok (.ireturn, 1) := by decide +kernel
set_option maxRecDepth 20000 in
theorem ggX8_energy_X8_requireLink : GoodIn wsX8_energy wsX8_requireLink := goodIn_ca (goodIn_r _ [6, 7, 8] (by decide +kernel) (by decide +kernel)) (goodIn_sub (fun _ h => List.mem_cons_of_mem _ (List.mem_append_right _ h)) (by decide +kernel))
set_option maxRecDepth 20000 in
theorem gX8_energy_X8_requireLink : GoodIn wsX8_energy (va_wsS RX8 106 yX8_requireLink wsX8_requireLink) := goodIn_app (goodIn_of _ (by decide +kernel)) ggX8_energy_X8_requireLink
set_option maxRecDepth 20000 in
theorem ggX8_energy_X2_energyOf : GoodIn wsX8_energy wsX2_energyOf := goodIn_r _ [13, 14, 15, 16, 17, 18, 19, 20, 21, 22, 23, 24, 25, 26, 12, 27, 28, 29, 30, 31, 32, 33, 34, 35, 5, 36, 37, 38, 39, 60, 61, 62, 63, 64, 65, 66] (by decide +kernel) (by decide +kernel)
set_option maxRecDepth 20000 in
theorem gX8_energy_X2_energyOf : GoodIn wsX8_energy (wsV RX8 116 RX2 yX2_energyOf wsX2_energyOf) := goodIn_app (goodIn_of _ (by decide +kernel)) ggX8_energy_X2_energyOf
theorem dX8_energy_0 : decode cX8_energy 0 = .ok (.iload_n 1, 1) := by decide +kernel
theorem dX8_energy_1 : decode cX8_energy 1 = .ok (.invokestatic 106, 3) := by decide +kernel
theorem dX8_energy_4 : decode cX8_energy 4 = .ok (.aload_n 0, 1) := by decide +kernel
theorem dX8_energy_5 : decode cX8_energy 5 = .ok (.getfield 10, 3) := by decide +kernel
theorem dX8_energy_8 : decode cX8_energy 8 = .ok (.iload_n 1, 1) := by decide +kernel
theorem dX8_energy_9 : decode cX8_energy 9 = .ok (.aload_n 0, 1) := by decide +kernel
theorem dX8_energy_10 : decode cX8_energy 10 = .ok (.getfield 26, 3) := by decide +kernel
theorem dX8_energy_13 : decode cX8_energy 13 = .ok (.getfield 109, 3) := by decide +kernel
theorem dX8_energy_16 : decode cX8_energy 16 = .ok (.invokevirtual 116, 3) := by decide +kernel
theorem dX8_energy_19 : decode cX8_energy 19 = .ok (.lreturn, 1) := by decide +kernel
set_option maxRecDepth 20000 in
theorem ggX8_target_X8_requireLink : GoodIn wsX8_target wsX8_requireLink := goodIn_ca (goodIn_r _ [5, 6, 7] (by decide +kernel) (by decide +kernel)) (goodIn_sub (fun _ h => List.mem_cons_of_mem _ (List.mem_append_right _ h)) (by decide +kernel))
set_option maxRecDepth 20000 in
theorem gX8_target_X8_requireLink : GoodIn wsX8_target (va_wsS RX8 106 yX8_requireLink wsX8_requireLink) := goodIn_app (goodIn_of _ (by decide +kernel)) ggX8_target_X8_requireLink
set_option maxRecDepth 20000 in
theorem ggX8_target_X2_targetOf : GoodIn wsX8_target wsX2_targetOf := goodIn_r _ [12, 13, 14, 15, 11, 16, 17, 27] (by decide +kernel) (by decide +kernel)
set_option maxRecDepth 20000 in
theorem gX8_target_X2_targetOf : GoodIn wsX8_target (wsV RX8 120 RX2 yX2_targetOf wsX2_targetOf) := goodIn_app (goodIn_of _ (by decide +kernel)) ggX8_target_X2_targetOf
theorem dX8_target_0 : decode cX8_target 0 = .ok (.iload_n 1, 1) := by decide +kernel
theorem dX8_target_1 : decode cX8_target 1 = .ok (.invokestatic 106, 3) := by decide +kernel
theorem dX8_target_4 : decode cX8_target 4 = .ok (.aload_n 0, 1) := by decide +kernel
theorem dX8_target_5 : decode cX8_target 5 = .ok (.getfield 10, 3) := by decide +kernel
theorem dX8_target_8 : decode cX8_target 8 = .ok (.iload_n 1, 1) := by decide +kernel
theorem dX8_target_9 : decode cX8_target 9 = .ok (.invokevirtual 120, 3) := by decide +kernel
theorem dX8_target_12 : decode cX8_target 12 = .ok (.ireturn, 1) := by decide +kernel
set_option maxRecDepth 20000 in
theorem ggX8_push_X8_pushIn : GoodIn wsX8_push wsX8_pushIn := goodIn_r _ [6, 7, 8, 9, 10, 11, 12, 13, 5, 14, 15, 16, 17, 18, 19, 20, 21, 22, 23, 24, 25, 26, 27, 28, 29, 30, 31, 32, 33, 34, 35, 36, 37, 38, 39, 40, 41, 42, 43, 44, 45, 46, 47, 48, 49, 50, 51, 52, 53, 54, 55, 56, 57, 58, 59, 69, 70, 71, 72, 73, 74, 75, 76, 77, 78, 79, 60, 61, 62, 63, 64, 65, 66, 67, 68, 80, 81, 82, 83, 84, 85, 86] (by decide +kernel) (by decide +kernel)
set_option maxRecDepth 20000 in
theorem gX8_push_X8_pushIn : GoodIn wsX8_push (wsV RX8 123 RX8 yX8_pushIn wsX8_pushIn) := goodIn_app (goodIn_of _ (by decide +kernel)) ggX8_push_X8_pushIn
theorem dX8_push_0 : decode cX8_push 0 = .ok (.aload_n 0, 1) := by decide +kernel
theorem dX8_push_1 : decode cX8_push 1 = .ok (.aload_n 0, 1) := by decide +kernel
theorem dX8_push_2 : decode cX8_push 2 = .ok (.getfield 26, 3) := by decide +kernel
theorem dX8_push_5 : decode cX8_push 5 = .ok (.invokevirtual 123, 3) := by decide +kernel
theorem dX8_push_8 : decode cX8_push 8 = .ok (.ireturn, 1) := by decide +kernel
theorem dX8_stopReason_0 : decode cX8_stopReason 0 = .ok (.aload_n 0, 1) := by decide +kernel
theorem dX8_stopReason_1 : decode cX8_stopReason 1 = .ok (.getfield 26, 3) := by decide +kernel
theorem dX8_stopReason_4 : decode cX8_stopReason 4 = .ok (.getfield 127, 3) := by decide +kernel
theorem dX8_stopReason_7 : decode cX8_stopReason 7 = .ok (.ireturn, 1) := by decide +kernel
set_option maxRecDepth 20000 in
theorem ggX8_switchesIn_X8_requireRange : GoodIn wsX8_switchesIn wsX8_requireRange := goodIn_ca (goodIn_r _ [5, 6, 7] (by decide +kernel) (by decide +kernel)) (goodIn_sub (fun _ h => List.mem_cons_of_mem _ (List.mem_append_right _ h)) (by decide +kernel))
set_option maxRecDepth 20000 in
theorem gX8_switchesIn_X8_requireRange : GoodIn wsX8_switchesIn (va_wsS RX8 83 yX8_requireRange wsX8_requireRange) := goodIn_app (goodIn_of _ (by decide +kernel)) ggX8_switchesIn_X8_requireRange
set_option maxRecDepth 20000 in
theorem ggX8_switchesIn_X4_countIn : GoodIn wsX8_switchesIn wsX4_countIn := goodIn_r _ [12, 13, 14, 15, 16, 17, 18, 11, 19, 20, 21, 22, 23, 24, 25, 26, 27, 48, 49, 50, 51] (by decide +kernel) (by decide +kernel)
set_option maxRecDepth 20000 in
theorem gX8_switchesIn_X4_countIn : GoodIn wsX8_switchesIn (wsV RX8 134 RX4 yX4_countIn wsX4_countIn) := goodIn_app (goodIn_of _ (by decide +kernel)) ggX8_switchesIn_X4_countIn
theorem dX8_switchesIn_0 : decode cX8_switchesIn 0 = .ok (.iload_n 1, 1) := by decide +kernel
theorem dX8_switchesIn_1 : decode cX8_switchesIn 1 = .ok (.iconst 1, 1) := by decide +kernel
theorem dX8_switchesIn_2 : decode cX8_switchesIn 2 = .ok (.sipush 200, 3) := by decide +kernel
theorem dX8_switchesIn_5 : decode cX8_switchesIn 5 = .ok (.invokestatic 83, 3) := by decide +kernel
theorem dX8_switchesIn_8 : decode cX8_switchesIn 8 = .ok (.aload_n 0, 1) := by decide +kernel
theorem dX8_switchesIn_9 : decode cX8_switchesIn 9 = .ok (.getfield 26, 3) := by decide +kernel
theorem dX8_switchesIn_12 : decode cX8_switchesIn 12 = .ok (.getfield 130, 3) := by decide +kernel
theorem dX8_switchesIn_15 : decode cX8_switchesIn 15 = .ok (.iload_n 1, 1) := by decide +kernel
theorem dX8_switchesIn_16 : decode cX8_switchesIn 16 = .ok (.invokevirtual 134, 3) := by decide +kernel
theorem dX8_switchesIn_19 : decode cX8_switchesIn 19 = .ok (.ireturn, 1) := by decide +kernel
set_option maxRecDepth 20000 in
theorem ggX8_reason_X8_requireCell : GoodIn wsX8_reason wsX8_requireCell := goodIn_ca (goodIn_r _ [6, 7, 8, 9, 10, 11, 12, 13, 14, 15, 16, 17, 18, 19, 20, 5, 21, 33, 34, 35, 36, 37, 38, 39, 40, 41, 53] (by decide +kernel) (by decide +kernel)) (goodIn_sub (fun _ h => List.mem_cons_of_mem _ (List.mem_append_right _ h)) (by decide +kernel))
set_option maxRecDepth 20000 in
theorem gX8_reason_X8_requireCell : GoodIn wsX8_reason (wsV RX8 139 RX8 yX8_requireCell wsX8_requireCell) := goodIn_app (goodIn_of _ (by decide +kernel)) ggX8_reason_X8_requireCell
set_option maxRecDepth 20000 in
theorem ggX8_reason_X5_reasonAt : GoodIn wsX8_reason wsX5_reasonAt := goodIn_r _ [26, 27, 28, 29, 25, 30, 31, 5, 32, 54, 55] (by decide +kernel) (by decide +kernel)
set_option maxRecDepth 20000 in
theorem gX8_reason_X5_reasonAt : GoodIn wsX8_reason (wsV RX8 147 RX5 yX5_reasonAt wsX5_reasonAt) := goodIn_app (goodIn_of _ (by decide +kernel)) ggX8_reason_X5_reasonAt
theorem dX8_reason_0 : decode cX8_reason 0 = .ok (.aload_n 0, 1) := by decide +kernel
theorem dX8_reason_1 : decode cX8_reason 1 = .ok (.iload_n 1, 1) := by decide +kernel
theorem dX8_reason_2 : decode cX8_reason 2 = .ok (.iload_n 2, 1) := by decide +kernel
theorem dX8_reason_3 : decode cX8_reason 3 = .ok (.invokevirtual 139, 3) := by decide +kernel
theorem dX8_reason_6 : decode cX8_reason 6 = .ok (.aload_n 0, 1) := by decide +kernel
theorem dX8_reason_7 : decode cX8_reason 7 = .ok (.getfield 26, 3) := by decide +kernel
theorem dX8_reason_10 : decode cX8_reason 10 = .ok (.getfield 143, 3) := by decide +kernel
theorem dX8_reason_13 : decode cX8_reason 13 = .ok (.iload_n 1, 1) := by decide +kernel
theorem dX8_reason_14 : decode cX8_reason 14 = .ok (.iload_n 2, 1) := by decide +kernel
theorem dX8_reason_15 : decode cX8_reason 15 = .ok (.invokevirtual 147, 3) := by decide +kernel
theorem dX8_reason_18 : decode cX8_reason 18 = .ok (.ireturn, 1) := by decide +kernel
set_option maxRecDepth 20000 in
theorem ggX8_failedStep_X8_requireCell : GoodIn wsX8_failedStep wsX8_requireCell := goodIn_ca (goodIn_r _ [6, 7, 8, 9, 10, 11, 12, 13, 14, 15, 16, 17, 18, 19, 20, 5, 21, 33, 34, 35, 36, 37, 38, 39, 40, 41, 53] (by decide +kernel) (by decide +kernel)) (goodIn_sub (fun _ h => List.mem_cons_of_mem _ (List.mem_append_right _ h)) (by decide +kernel))
set_option maxRecDepth 20000 in
theorem gX8_failedStep_X8_requireCell : GoodIn wsX8_failedStep (wsV RX8 139 RX8 yX8_requireCell wsX8_requireCell) := goodIn_app (goodIn_of _ (by decide +kernel)) ggX8_failedStep_X8_requireCell
set_option maxRecDepth 20000 in
theorem ggX8_failedStep_X5_failedStepAt : GoodIn wsX8_failedStep wsX5_failedStepAt := goodIn_r _ [26, 27, 28, 29, 25, 30, 31, 5, 32, 54, 55] (by decide +kernel) (by decide +kernel)
set_option maxRecDepth 20000 in
theorem gX8_failedStep_X5_failedStepAt : GoodIn wsX8_failedStep (wsV RX8 152 RX5 yX5_failedStepAt wsX5_failedStepAt) := goodIn_app (goodIn_of _ (by decide +kernel)) ggX8_failedStep_X5_failedStepAt
theorem dX8_failedStep_0 : decode cX8_failedStep 0 = .ok (.aload_n 0, 1) := by decide +kernel
theorem dX8_failedStep_1 : decode cX8_failedStep 1 = .ok (.iload_n 1, 1) := by decide +kernel
theorem dX8_failedStep_2 : decode cX8_failedStep 2 = .ok (.iload_n 2, 1) := by decide +kernel
theorem dX8_failedStep_3 : decode cX8_failedStep 3 = .ok (.invokevirtual 139, 3) := by decide +kernel
theorem dX8_failedStep_6 : decode cX8_failedStep 6 = .ok (.aload_n 0, 1) := by decide +kernel
theorem dX8_failedStep_7 : decode cX8_failedStep 7 = .ok (.getfield 26, 3) := by decide +kernel
theorem dX8_failedStep_10 : decode cX8_failedStep 10 = .ok (.getfield 143, 3) := by decide +kernel
theorem dX8_failedStep_13 : decode cX8_failedStep 13 = .ok (.iload_n 1, 1) := by decide +kernel
theorem dX8_failedStep_14 : decode cX8_failedStep 14 = .ok (.iload_n 2, 1) := by decide +kernel
theorem dX8_failedStep_15 : decode cX8_failedStep 15 = .ok (.invokevirtual 152, 3) := by decide +kernel
theorem dX8_failedStep_18 : decode cX8_failedStep 18 = .ok (.ireturn, 1) := by decide +kernel
set_option maxRecDepth 20000 in
theorem ggX8_regionSize_X2_number : GoodIn wsX8_regionSize wsX2_number := goodIn_r _ [7, 8, 45] (by decide +kernel) (by decide +kernel)
set_option maxRecDepth 20000 in
theorem gX8_regionSize_X2_number : GoodIn wsX8_regionSize (wsV RX8 155 RX2 yX2_number wsX2_number) := goodIn_app (goodIn_of _ (by decide +kernel)) ggX8_regionSize_X2_number
set_option maxRecDepth 20000 in
theorem ggX8_regionSize_X5_countOf : GoodIn wsX8_regionSize wsX5_countOf := goodIn_r _ [13, 14, 15, 16, 12, 17, 18, 19, 20, 21, 22, 23, 24, 46, 47] (by decide +kernel) (by decide +kernel)
set_option maxRecDepth 20000 in
theorem gX8_regionSize_X5_countOf : GoodIn wsX8_regionSize (wsV RX8 158 RX5 yX5_countOf wsX5_countOf) := goodIn_app (goodIn_of _ (by decide +kernel)) ggX8_regionSize_X5_countOf
theorem dX8_regionSize_0 : decode cX8_regionSize 0 = .ok (.aload_n 0, 1) := by decide +kernel
theorem dX8_regionSize_1 : decode cX8_regionSize 1 = .ok (.getfield 26, 3) := by decide +kernel
theorem dX8_regionSize_4 : decode cX8_regionSize 4 = .ok (.getfield 143, 3) := by decide +kernel
theorem dX8_regionSize_7 : decode cX8_regionSize 7 = .ok (.iconst 0, 1) := by decide +kernel
theorem dX8_regionSize_8 : decode cX8_regionSize 8 = .ok (.aload_n 0, 1) := by decide +kernel
theorem dX8_regionSize_9 : decode cX8_regionSize 9 = .ok (.getfield 10, 3) := by decide +kernel
theorem dX8_regionSize_12 : decode cX8_regionSize 12 = .ok (.bipush 17, 2) := by decide +kernel
theorem dX8_regionSize_14 : decode cX8_regionSize 14 = .ok (.invokevirtual 155, 3) := by decide +kernel
theorem dX8_regionSize_17 : decode cX8_regionSize 17 = .ok (.invokevirtual 158, 3) := by decide +kernel
theorem dX8_regionSize_20 : decode cX8_regionSize 20 = .ok (.ireturn, 1) := by decide +kernel
set_option maxRecDepth 20000 in
theorem ggX8_cellsWith_X2_number : GoodIn wsX8_cellsWith wsX2_number := goodIn_r _ [7, 8, 45] (by decide +kernel) (by decide +kernel)
set_option maxRecDepth 20000 in
theorem gX8_cellsWith_X2_number : GoodIn wsX8_cellsWith (wsV RX8 155 RX2 yX2_number wsX2_number) := goodIn_app (goodIn_of _ (by decide +kernel)) ggX8_cellsWith_X2_number
set_option maxRecDepth 20000 in
theorem ggX8_cellsWith_X5_countOf : GoodIn wsX8_cellsWith wsX5_countOf := goodIn_r _ [13, 14, 15, 16, 12, 17, 18, 19, 20, 21, 22, 23, 24, 46, 47] (by decide +kernel) (by decide +kernel)
set_option maxRecDepth 20000 in
theorem gX8_cellsWith_X5_countOf : GoodIn wsX8_cellsWith (wsV RX8 158 RX5 yX5_countOf wsX5_countOf) := goodIn_app (goodIn_of _ (by decide +kernel)) ggX8_cellsWith_X5_countOf
theorem dX8_cellsWith_0 : decode cX8_cellsWith 0 = .ok (.aload_n 0, 1) := by decide +kernel
theorem dX8_cellsWith_1 : decode cX8_cellsWith 1 = .ok (.getfield 26, 3) := by decide +kernel
theorem dX8_cellsWith_4 : decode cX8_cellsWith 4 = .ok (.getfield 143, 3) := by decide +kernel
theorem dX8_cellsWith_7 : decode cX8_cellsWith 7 = .ok (.iload_n 1, 1) := by decide +kernel
theorem dX8_cellsWith_8 : decode cX8_cellsWith 8 = .ok (.aload_n 0, 1) := by decide +kernel
theorem dX8_cellsWith_9 : decode cX8_cellsWith 9 = .ok (.getfield 10, 3) := by decide +kernel
theorem dX8_cellsWith_12 : decode cX8_cellsWith 12 = .ok (.bipush 17, 2) := by decide +kernel
theorem dX8_cellsWith_14 : decode cX8_cellsWith 14 = .ok (.invokevirtual 155, 3) := by decide +kernel
theorem dX8_cellsWith_17 : decode cX8_cellsWith 17 = .ok (.invokevirtual 158, 3) := by decide +kernel
theorem dX8_cellsWith_20 : decode cX8_cellsWith 20 = .ok (.ireturn, 1) := by decide +kernel
set_option maxRecDepth 20000 in
theorem ggX8_cellOf_X8_requireLink : GoodIn wsX8_cellOf wsX8_requireLink := goodIn_ca (goodIn_r _ [6, 7, 8] (by decide +kernel) (by decide +kernel)) (goodIn_sub (fun _ h => List.mem_cons_of_mem _ (List.mem_append_left _ (List.mem_append_right _ h))) (by decide +kernel))
set_option maxRecDepth 20000 in
theorem gX8_cellOf_X8_requireLink : GoodIn wsX8_cellOf (va_wsS RX8 106 yX8_requireLink wsX8_requireLink) := goodIn_app (goodIn_of _ (by decide +kernel)) ggX8_cellOf_X8_requireLink
set_option maxRecDepth 20000 in
theorem ggX8_cellOf_X8_requireRange : GoodIn wsX8_cellOf wsX8_requireRange := goodIn_ca (goodIn_r _ [11, 12, 13] (by decide +kernel) (by decide +kernel)) (goodIn_sub (fun _ h => List.mem_cons_of_mem _ (List.mem_append_right _ h)) (by decide +kernel))
set_option maxRecDepth 20000 in
theorem gX8_cellOf_X8_requireRange : GoodIn wsX8_cellOf (va_wsS RX8 83 yX8_requireRange wsX8_requireRange) := goodIn_app (goodIn_of _ (by decide +kernel)) ggX8_cellOf_X8_requireRange
set_option maxRecDepth 20000 in
theorem ggX8_cellOf_X2_cellPart : GoodIn wsX8_cellOf wsX2_cellPart := goodIn_r _ [18, 19, 20, 21, 22, 23, 24, 25, 26, 5, 27, 28, 29, 30, 31, 32, 33, 34, 35, 36, 17, 37, 38, 39, 40, 41, 42, 63, 64, 65, 66, 67, 68, 69] (by decide +kernel) (by decide +kernel)
set_option maxRecDepth 20000 in
theorem gX8_cellOf_X2_cellPart : GoodIn wsX8_cellOf (wsV RX8 161 RX2 yX2_cellPart wsX2_cellPart) := goodIn_app (goodIn_of _ (by decide +kernel)) ggX8_cellOf_X2_cellPart
theorem dX8_cellOf_0 : decode cX8_cellOf 0 = .ok (.iload_n 1, 1) := by decide +kernel
theorem dX8_cellOf_1 : decode cX8_cellOf 1 = .ok (.invokestatic 106, 3) := by decide +kernel
theorem dX8_cellOf_4 : decode cX8_cellOf 4 = .ok (.iload_n 2, 1) := by decide +kernel
theorem dX8_cellOf_5 : decode cX8_cellOf 5 = .ok (.iconst 0, 1) := by decide +kernel
theorem dX8_cellOf_6 : decode cX8_cellOf 6 = .ok (.iconst 1, 1) := by decide +kernel
theorem dX8_cellOf_7 : decode cX8_cellOf 7 = .ok (.invokestatic 83, 3) := by decide +kernel
theorem dX8_cellOf_10 : decode cX8_cellOf 10 = .ok (.aload_n 0, 1) := by decide +kernel
theorem dX8_cellOf_11 : decode cX8_cellOf 11 = .ok (.getfield 10, 3) := by decide +kernel
theorem dX8_cellOf_14 : decode cX8_cellOf 14 = .ok (.aload_n 0, 1) := by decide +kernel
theorem dX8_cellOf_15 : decode cX8_cellOf 15 = .ok (.getfield 26, 3) := by decide +kernel
theorem dX8_cellOf_18 : decode cX8_cellOf 18 = .ok (.getfield 109, 3) := by decide +kernel
theorem dX8_cellOf_21 : decode cX8_cellOf 21 = .ok (.iload_n 1, 1) := by decide +kernel
theorem dX8_cellOf_22 : decode cX8_cellOf 22 = .ok (.iload_n 2, 1) := by decide +kernel
theorem dX8_cellOf_23 : decode cX8_cellOf 23 = .ok (.invokevirtual 161, 3) := by decide +kernel
theorem dX8_cellOf_26 : decode cX8_cellOf 26 = .ok (.ireturn, 1) := by decide +kernel
set_option maxRecDepth 20000 in
theorem ggX8_isCapturable_X8_canCapture : GoodIn wsX8_isCapturable wsX8_canCapture := goodIn_r _ [6, 7, 8, 9, 5, 10, 11, 12, 13, 14, 15, 16, 17, 18, 19, 20, 21, 22, 23, 24, 25, 26, 27, 28, 29, 30, 31, 32, 33, 34, 35, 36, 37, 38, 39, 40, 41, 42, 43, 44, 45, 46, 47, 48, 49, 50, 51, 52, 53, 54, 55, 56, 57, 58, 59, 60, 61, 62, 63, 64, 65, 66, 67, 68, 69, 70, 71, 72, 73, 74, 75, 76, 77, 78, 79, 80, 81, 82, 83, 84, 85, 86] (by decide +kernel) (by decide +kernel)
set_option maxRecDepth 20000 in
theorem gX8_isCapturable_X8_canCapture : GoodIn wsX8_isCapturable (wsV RX8 165 RX8 yX8_canCapture wsX8_canCapture) := goodIn_app (goodIn_of _ (by decide +kernel)) ggX8_isCapturable_X8_canCapture
theorem dX8_isCapturable_0 : decode cX8_isCapturable 0 = .ok (.aload_n 0, 1) := by decide +kernel
theorem dX8_isCapturable_1 : decode cX8_isCapturable 1 = .ok (.aload_n 0, 1) := by decide +kernel
theorem dX8_isCapturable_2 : decode cX8_isCapturable 2 = .ok (.getfield 26, 3) := by decide +kernel
theorem dX8_isCapturable_5 : decode cX8_isCapturable 5 = .ok (.invokevirtual 165, 3) := by decide +kernel
theorem dX8_isCapturable_8 : decode cX8_isCapturable 8 = .ok (.ireturn, 1) := by decide +kernel
set_option maxRecDepth 20000 in
theorem ggX8_ticksToBalance_X8_requireRange : GoodIn wsX8_ticksToBalance wsX8_requireRange := goodIn_ca (goodIn_r _ [4, 5, 6] (by decide +kernel) (by decide +kernel)) (goodIn_sub (fun _ h => List.mem_cons_of_mem _ (List.mem_append_right _ h)) (by decide +kernel))
set_option maxRecDepth 20000 in
theorem gX8_ticksToBalance_X8_requireRange : GoodIn wsX8_ticksToBalance (va_wsS RX8 83 yX8_requireRange wsX8_requireRange) := goodIn_app (goodIn_of _ (by decide +kernel)) ggX8_ticksToBalance_X8_requireRange
set_option maxRecDepth 20000 in
theorem ggX8_ticksToBalance_X8_ticksUntil : GoodIn wsX8_ticksToBalance wsX8_ticksUntil := goodIn_r _ [10, 11, 12, 13, 14, 15, 16, 17, 18, 19, 20, 21, 22, 23, 24, 25, 26, 27, 28, 29, 30, 31, 32, 33, 34, 35, 36, 37, 38, 39, 40, 41, 42, 43, 44, 45, 46, 47, 3, 48, 49, 50, 51, 52, 53, 54, 55, 56, 57, 58, 59, 60, 61, 62, 63, 64, 65, 66, 67, 68, 69, 70, 71, 72, 73, 74, 75, 76, 77, 78, 79, 80, 81, 82, 83, 84, 85, 86, 87, 88, 89, 90, 91, 92, 93, 94, 95, 96, 97, 98, 99, 100, 101, 102, 103, 104, 105, 106, 107, 108, 109, 110, 111, 112, 113, 114, 115, 116, 117, 118, 119, 120, 121, 122, 123, 124, 125, 126, 127, 128, 129, 130, 131, 132, 133, 134, 135, 136, 137, 138, 139, 140, 141, 142, 143, 144, 145, 146, 147, 148, 149, 150, 151, 152, 153, 154, 155, 156, 157, 158, 159, 160, 161, 162, 163, 164, 165, 166, 167, 168, 169, 170, 171, 172, 173, 174, 175, 176, 177, 178, 179, 180, 181, 182, 183, 184, 185, 186, 187, 188, 189, 190, 191, 192, 193, 194, 195, 196, 197, 198, 199, 200, 201, 202, 203, 204, 205, 206, 207, 208, 209, 210, 211, 212, 213, 214, 215, 216, 217, 218, 219, 220, 221, 222, 223, 224, 225, 226, 227, 228] (by decide +kernel) (by decide +kernel)
set_option maxRecDepth 20000 in
theorem gX8_ticksToBalance_X8_ticksUntil : GoodIn wsX8_ticksToBalance (wsV RX8 169 RX8 yX8_ticksUntil wsX8_ticksUntil) := goodIn_app (goodIn_of _ (by decide +kernel)) ggX8_ticksToBalance_X8_ticksUntil
theorem dX8_ticksToBalance_0 : decode cX8_ticksToBalance 0 = .ok (.iload_n 1, 1) := by decide +kernel
theorem dX8_ticksToBalance_1 : decode cX8_ticksToBalance 1 = .ok (.iconst 0, 1) := by decide +kernel
theorem dX8_ticksToBalance_2 : decode cX8_ticksToBalance 2 = .ok (.sipush 1000, 3) := by decide +kernel
theorem dX8_ticksToBalance_5 : decode cX8_ticksToBalance 5 = .ok (.invokestatic 83, 3) := by decide +kernel
theorem dX8_ticksToBalance_8 : decode cX8_ticksToBalance 8 = .ok (.aload_n 0, 1) := by decide +kernel
theorem dX8_ticksToBalance_9 : decode cX8_ticksToBalance 9 = .ok (.iconst 2, 1) := by decide +kernel
theorem dX8_ticksToBalance_10 : decode cX8_ticksToBalance 10 = .ok (.iload_n 1, 1) := by decide +kernel
theorem dX8_ticksToBalance_11 : decode cX8_ticksToBalance 11 = .ok (.invokevirtual 169, 3) := by decide +kernel
theorem dX8_ticksToBalance_14 : decode cX8_ticksToBalance 14 = .ok (.ireturn, 1) := by decide +kernel
set_option maxRecDepth 20000 in
theorem ggX8_ticksToStop_X8_requireRange : GoodIn wsX8_ticksToStop wsX8_requireRange := goodIn_ca (goodIn_r _ [4, 5, 6] (by decide +kernel) (by decide +kernel)) (goodIn_sub (fun _ h => List.mem_cons_of_mem _ (List.mem_append_right _ h)) (by decide +kernel))
set_option maxRecDepth 20000 in
theorem gX8_ticksToStop_X8_requireRange : GoodIn wsX8_ticksToStop (va_wsS RX8 83 yX8_requireRange wsX8_requireRange) := goodIn_app (goodIn_of _ (by decide +kernel)) ggX8_ticksToStop_X8_requireRange
set_option maxRecDepth 20000 in
theorem ggX8_ticksToStop_X8_ticksUntil : GoodIn wsX8_ticksToStop wsX8_ticksUntil := goodIn_r _ [10, 11, 12, 13, 14, 15, 16, 17, 18, 19, 20, 21, 22, 23, 24, 25, 26, 27, 28, 29, 30, 31, 32, 33, 34, 35, 36, 37, 38, 39, 40, 41, 42, 43, 44, 45, 46, 47, 3, 48, 49, 50, 51, 52, 53, 54, 55, 56, 57, 58, 59, 60, 61, 62, 63, 64, 65, 66, 67, 68, 69, 70, 71, 72, 73, 74, 75, 76, 77, 78, 79, 80, 81, 82, 83, 84, 85, 86, 87, 88, 89, 90, 91, 92, 93, 94, 95, 96, 97, 98, 99, 100, 101, 102, 103, 104, 105, 106, 107, 108, 109, 110, 111, 112, 113, 114, 115, 116, 117, 118, 119, 120, 121, 122, 123, 124, 125, 126, 127, 128, 129, 130, 131, 132, 133, 134, 135, 136, 137, 138, 139, 140, 141, 142, 143, 144, 145, 146, 147, 148, 149, 150, 151, 152, 153, 154, 155, 156, 157, 158, 159, 160, 161, 162, 163, 164, 165, 166, 167, 168, 169, 170, 171, 172, 173, 174, 175, 176, 177, 178, 179, 180, 181, 182, 183, 184, 185, 186, 187, 188, 189, 190, 191, 192, 193, 194, 195, 196, 197, 198, 199, 200, 201, 202, 203, 204, 205, 206, 207, 208, 209, 210, 211, 212, 213, 214, 215, 216, 217, 218, 219, 220, 221, 222, 223, 224, 225, 226, 227, 228] (by decide +kernel) (by decide +kernel)
set_option maxRecDepth 20000 in
theorem gX8_ticksToStop_X8_ticksUntil : GoodIn wsX8_ticksToStop (wsV RX8 169 RX8 yX8_ticksUntil wsX8_ticksUntil) := goodIn_app (goodIn_of _ (by decide +kernel)) ggX8_ticksToStop_X8_ticksUntil
theorem dX8_ticksToStop_0 : decode cX8_ticksToStop 0 = .ok (.iload_n 1, 1) := by decide +kernel
theorem dX8_ticksToStop_1 : decode cX8_ticksToStop 1 = .ok (.iconst 0, 1) := by decide +kernel
theorem dX8_ticksToStop_2 : decode cX8_ticksToStop 2 = .ok (.sipush 1000, 3) := by decide +kernel
theorem dX8_ticksToStop_5 : decode cX8_ticksToStop 5 = .ok (.invokestatic 83, 3) := by decide +kernel
theorem dX8_ticksToStop_8 : decode cX8_ticksToStop 8 = .ok (.aload_n 0, 1) := by decide +kernel
theorem dX8_ticksToStop_9 : decode cX8_ticksToStop 9 = .ok (.iconst 3, 1) := by decide +kernel
theorem dX8_ticksToStop_10 : decode cX8_ticksToStop 10 = .ok (.iload_n 1, 1) := by decide +kernel
theorem dX8_ticksToStop_11 : decode cX8_ticksToStop 11 = .ok (.invokevirtual 169, 3) := by decide +kernel
theorem dX8_ticksToStop_14 : decode cX8_ticksToStop 14 = .ok (.ireturn, 1) := by decide +kernel
set_option maxRecDepth 20000 in
theorem ggX8_farthest_X8_requireRange : GoodIn wsX8_farthest wsX8_requireRange := goodIn_ca (goodIn_r _ [13, 14, 15] (by decide +kernel) (by decide +kernel)) (goodIn_sub (fun _ h => List.mem_cons_of_mem _ (List.mem_append_right _ h)) (by decide +kernel))
set_option maxRecDepth 20000 in
theorem gX8_farthest_X8_requireRange : GoodIn wsX8_farthest (va_wsS RX8 83 yX8_requireRange wsX8_requireRange) := goodIn_app (goodIn_of _ (by decide +kernel)) ggX8_farthest_X8_requireRange
set_option maxRecDepth 20000 in
theorem ggX8_farthest_X6_takeOver : GoodIn wsX8_farthest wsX6_takeOver := goodIn_r _ [20, 21, 22, 23, 24, 25, 26, 27, 28, 29, 30, 31, 32, 33, 34, 35, 36, 37, 38, 39, 40, 41, 42, 43, 44, 45, 46, 47, 48, 49, 50, 12, 51, 52, 53, 5, 54, 55, 56, 57, 58, 59, 60, 61, 62, 63, 64, 65, 66, 67, 205, 206, 207, 208, 209, 210, 211, 212, 213, 214, 215, 216, 217, 218, 219, 220, 221, 222, 223, 224, 225, 226, 227] (by decide +kernel) (by decide +kernel)
set_option maxRecDepth 20000 in
theorem gX8_farthest_X6_takeOver : GoodIn wsX8_farthest (wsV RX8 172 RX6 yX6_takeOver wsX6_takeOver) := goodIn_app (goodIn_of _ (by decide +kernel)) ggX8_farthest_X6_takeOver
set_option maxRecDepth 20000 in
theorem ggX8_farthest_X8_doTick : GoodIn wsX8_farthest wsX8_doTick := goodIn_r _ [71, 72, 73, 74, 75, 62, 76, 67, 66, 65, 64, 77, 78, 79, 12, 80, 81, 82, 83, 84, 85, 86, 87, 88, 89, 90, 91, 92, 93, 94, 95, 96, 35, 97, 39, 40, 98, 99, 100, 101, 102, 103, 41, 42, 104, 105, 106, 107, 108, 109, 110, 111, 112, 113, 114, 115, 116, 117, 118, 119, 120, 121, 46, 122, 48, 123, 124, 125, 126, 127, 128, 129, 130, 131, 132, 133, 134, 135, 136, 137, 138, 139, 140, 141, 142, 143, 144, 145, 146, 147, 148, 149, 150, 151, 152, 153, 154, 155, 156, 157, 158, 159, 160, 161, 162, 163, 164, 165, 166, 167, 168, 169, 170, 171, 172, 173, 174, 175, 176, 177, 178, 179, 180, 53, 5, 54, 181, 8, 9, 182, 183, 184, 185, 186, 187, 188, 189, 190, 191, 192, 193, 194, 195, 205, 206, 207, 208, 209, 210, 211, 212, 213, 214, 215, 196, 197, 198, 199, 200, 201, 202, 203, 204, 224, 225, 226, 227, 216, 217, 218, 219, 220, 221, 228, 222, 223] (by decide +kernel) (by decide +kernel)
set_option maxRecDepth 20000 in
theorem gX8_farthest_X8_doTick : GoodIn wsX8_farthest (wsV RX8 184 RX8 yX8_doTick wsX8_doTick) := goodIn_app (goodIn_of _ (by decide +kernel)) ggX8_farthest_X8_doTick
theorem dX8_farthest_0 : decode cX8_farthest 0 = .ok (.iload_n 1, 1) := by decide +kernel
theorem dX8_farthest_1 : decode cX8_farthest 1 = .ok (.iconst 0, 1) := by decide +kernel
theorem dX8_farthest_2 : decode cX8_farthest 2 = .ok (.sipush 1000, 3) := by decide +kernel
theorem dX8_farthest_5 : decode cX8_farthest 5 = .ok (.invokestatic 83, 3) := by decide +kernel
theorem dX8_farthest_8 : decode cX8_farthest 8 = .ok (.aload_n 0, 1) := by decide +kernel
theorem dX8_farthest_9 : decode cX8_farthest 9 = .ok (.getfield 30, 3) := by decide +kernel
theorem dX8_farthest_12 : decode cX8_farthest 12 = .ok (.aload_n 0, 1) := by decide +kernel
theorem dX8_farthest_13 : decode cX8_farthest 13 = .ok (.getfield 26, 3) := by decide +kernel
theorem dX8_farthest_16 : decode cX8_farthest 16 = .ok (.invokevirtual 172, 3) := by decide +kernel
theorem dX8_farthest_19 : decode cX8_farthest 19 = .ok (.aload_n 0, 1) := by decide +kernel
theorem dX8_farthest_20 : decode cX8_farthest 20 = .ok (.getfield 30, 3) := by decide +kernel
theorem dX8_farthest_23 : decode cX8_farthest 23 = .ok (.getfield 109, 3) := by decide +kernel
theorem dX8_farthest_26 : decode cX8_farthest 26 = .ok (.getfield 176, 3) := by decide +kernel
theorem dX8_farthest_29 : decode cX8_farthest 29 = .ok (.invokestatic 179, 3) := by decide +kernel
theorem dX8_farthest_32 : decode cX8_farthest 32 = .ok (.istore_n 2, 1) := by decide +kernel
theorem dX8_farthest_33 : decode cX8_farthest 33 = .ok (.iconst 0, 1) := by decide +kernel
theorem dX8_farthest_34 : decode cX8_farthest 34 = .ok (.istore_n 3, 1) := by decide +kernel
theorem dX8_farthest_35 : decode cX8_farthest 35 = .ok (.iload_n 3, 1) := by decide +kernel
theorem dX8_farthest_36 : decode cX8_farthest 36 = .ok (.iload_n 1, 1) := by decide +kernel
theorem dX8_farthest_37 : decode cX8_farthest 37 = .ok (.if_icmp .ge 35, 3) := by decide +kernel
theorem dX8_farthest_40 : decode cX8_farthest 40 = .ok (.aload_n 0, 1) := by decide +kernel
theorem dX8_farthest_41 : decode cX8_farthest 41 = .ok (.aload_n 0, 1) := by decide +kernel
theorem dX8_farthest_42 : decode cX8_farthest 42 = .ok (.getfield 30, 3) := by decide +kernel
theorem dX8_farthest_45 : decode cX8_farthest 45 = .ok (.invokevirtual 184, 3) := by decide +kernel
theorem dX8_farthest_48 : decode cX8_farthest 48 = .ok (.iload_n 2, 1) := by decide +kernel
theorem dX8_farthest_49 : decode cX8_farthest 49 = .ok (.aload_n 0, 1) := by decide +kernel
theorem dX8_farthest_50 : decode cX8_farthest 50 = .ok (.getfield 30, 3) := by decide +kernel
theorem dX8_farthest_53 : decode cX8_farthest 53 = .ok (.getfield 109, 3) := by decide +kernel
theorem dX8_farthest_56 : decode cX8_farthest 56 = .ok (.getfield 176, 3) := by decide +kernel
theorem dX8_farthest_59 : decode cX8_farthest 59 = .ok (.invokestatic 179, 3) := by decide +kernel
theorem dX8_farthest_62 : decode cX8_farthest 62 = .ok (.invokestatic 187, 3) := by decide +kernel
theorem dX8_farthest_65 : decode cX8_farthest 65 = .ok (.istore_n 2, 1) := by decide +kernel
theorem dX8_farthest_66 : decode cX8_farthest 66 = .ok (.iinc 3 1, 3) := by decide +kernel
theorem dX8_farthest_69 : decode cX8_farthest 69 = .ok (.goto (-34), 3) := by decide +kernel
theorem dX8_farthest_72 : decode cX8_farthest 72 = .ok (.iload_n 2, 1) := by decide +kernel
theorem dX8_farthest_73 : decode cX8_farthest 73 = .ok (.ireturn, 1) := by decide +kernel
set_option maxRecDepth 20000 in
theorem ggX8_linkAfter_X8_requireLink : GoodIn wsX8_linkAfter wsX8_requireLink := goodIn_ca (goodIn_r _ [6, 7, 8] (by decide +kernel) (by decide +kernel)) (goodIn_sub (fun _ h => List.mem_cons_of_mem _ (List.mem_append_left _ (List.mem_append_right _ h))) (by decide +kernel))
set_option maxRecDepth 20000 in
theorem gX8_linkAfter_X8_requireLink : GoodIn wsX8_linkAfter (va_wsS RX8 106 yX8_requireLink wsX8_requireLink) := goodIn_app (goodIn_of _ (by decide +kernel)) ggX8_linkAfter_X8_requireLink
set_option maxRecDepth 20000 in
theorem ggX8_linkAfter_X8_requireRange : GoodIn wsX8_linkAfter wsX8_requireRange := goodIn_ca (goodIn_r _ [11, 12, 13] (by decide +kernel) (by decide +kernel)) (goodIn_sub (fun _ h => List.mem_cons_of_mem _ (List.mem_append_right _ h)) (by decide +kernel))
set_option maxRecDepth 20000 in
theorem gX8_linkAfter_X8_requireRange : GoodIn wsX8_linkAfter (va_wsS RX8 83 yX8_requireRange wsX8_requireRange) := goodIn_app (goodIn_of _ (by decide +kernel)) ggX8_linkAfter_X8_requireRange
set_option maxRecDepth 20000 in
theorem ggX8_linkAfter_X6_takeOver : GoodIn wsX8_linkAfter wsX6_takeOver := goodIn_r _ [18, 19, 20, 21, 22, 23, 24, 25, 26, 27, 28, 29, 30, 31, 32, 33, 34, 35, 36, 37, 38, 39, 40, 41, 42, 43, 44, 45, 46, 47, 48, 5, 49, 50, 51, 52, 53, 54, 55, 56, 57, 58, 59, 60, 61, 62, 63, 64, 65, 66, 212, 213, 214, 215, 216, 217, 218, 219, 220, 221, 222, 223, 224, 225, 226, 227, 228, 229, 230, 231, 232, 233, 234] (by decide +kernel) (by decide +kernel)
set_option maxRecDepth 20000 in
theorem gX8_linkAfter_X6_takeOver : GoodIn wsX8_linkAfter (wsV RX8 172 RX6 yX6_takeOver wsX6_takeOver) := goodIn_app (goodIn_of _ (by decide +kernel)) ggX8_linkAfter_X6_takeOver
set_option maxRecDepth 20000 in
theorem ggX8_linkAfter_X8_doTick : GoodIn wsX8_linkAfter wsX8_doTick := goodIn_r _ [70, 71, 72, 73, 74, 61, 75, 66, 65, 64, 63, 76, 77, 78, 5, 79, 80, 81, 82, 83, 84, 85, 86, 87, 88, 89, 90, 91, 92, 93, 94, 95, 33, 96, 37, 38, 97, 98, 99, 100, 101, 102, 39, 40, 103, 104, 105, 106, 107, 108, 109, 110, 111, 112, 113, 114, 115, 116, 117, 118, 119, 120, 44, 121, 46, 122, 123, 124, 125, 126, 127, 128, 129, 130, 131, 132, 133, 134, 135, 136, 137, 138, 139, 140, 141, 142, 143, 144, 145, 146, 147, 148, 149, 150, 151, 152, 153, 154, 155, 156, 157, 158, 159, 160, 161, 162, 163, 164, 165, 166, 167, 168, 169, 170, 171, 172, 173, 174, 175, 176, 177, 178, 179, 51, 52, 53, 180, 181, 182, 183, 184, 185, 186, 187, 188, 189, 190, 191, 192, 193, 194, 195, 196, 212, 213, 214, 215, 216, 217, 218, 219, 220, 221, 222, 203, 204, 205, 206, 207, 208, 209, 210, 211, 231, 232, 233, 234, 223, 224, 225, 226, 227, 228, 235, 229, 230] (by decide +kernel) (by decide +kernel)
set_option maxRecDepth 20000 in
theorem gX8_linkAfter_X8_doTick : GoodIn wsX8_linkAfter (wsV RX8 184 RX8 yX8_doTick wsX8_doTick) := goodIn_app (goodIn_of _ (by decide +kernel)) ggX8_linkAfter_X8_doTick
set_option maxRecDepth 20000 in
theorem ggX8_linkAfter_X1_partOfLink : GoodIn wsX8_linkAfter wsX1_partOfLink := goodIn_r _ [200, 201, 100, 101, 33, 102, 39, 40, 202, 94, 95, 96, 37, 38, 97, 5, 98, 223, 224, 225, 226, 227, 228] (by decide +kernel) (by decide +kernel)
set_option maxRecDepth 20000 in
theorem gX8_linkAfter_X1_partOfLink : GoodIn wsX8_linkAfter (wsV RX8 112 RX1 yX1_partOfLink wsX1_partOfLink) := goodIn_app (goodIn_of _ (by decide +kernel)) ggX8_linkAfter_X1_partOfLink
theorem dX8_linkAfter_0 : decode cX8_linkAfter 0 = .ok (.iload_n 1, 1) := by decide +kernel
theorem dX8_linkAfter_1 : decode cX8_linkAfter 1 = .ok (.invokestatic 106, 3) := by decide +kernel
theorem dX8_linkAfter_4 : decode cX8_linkAfter 4 = .ok (.iload_n 2, 1) := by decide +kernel
theorem dX8_linkAfter_5 : decode cX8_linkAfter 5 = .ok (.iconst 0, 1) := by decide +kernel
theorem dX8_linkAfter_6 : decode cX8_linkAfter 6 = .ok (.iconst 2, 1) := by decide +kernel
theorem dX8_linkAfter_7 : decode cX8_linkAfter 7 = .ok (.invokestatic 83, 3) := by decide +kernel
theorem dX8_linkAfter_10 : decode cX8_linkAfter 10 = .ok (.iload_n 3, 1) := by decide +kernel
theorem dX8_linkAfter_11 : decode cX8_linkAfter 11 = .ok (.iconst 0, 1) := by decide +kernel
theorem dX8_linkAfter_12 : decode cX8_linkAfter 12 = .ok (.sipush 1000, 3) := by decide +kernel
theorem dX8_linkAfter_15 : decode cX8_linkAfter 15 = .ok (.invokestatic 83, 3) := by decide +kernel
theorem dX8_linkAfter_18 : decode cX8_linkAfter 18 = .ok (.aload_n 0, 1) := by decide +kernel
theorem dX8_linkAfter_19 : decode cX8_linkAfter 19 = .ok (.getfield 30, 3) := by decide +kernel
theorem dX8_linkAfter_22 : decode cX8_linkAfter 22 = .ok (.aload_n 0, 1) := by decide +kernel
theorem dX8_linkAfter_23 : decode cX8_linkAfter 23 = .ok (.getfield 26, 3) := by decide +kernel
theorem dX8_linkAfter_26 : decode cX8_linkAfter 26 = .ok (.invokevirtual 172, 3) := by decide +kernel
theorem dX8_linkAfter_29 : decode cX8_linkAfter 29 = .ok (.iconst 0, 1) := by decide +kernel
theorem dX8_linkAfter_30 : decode cX8_linkAfter 30 = .ok (.istore 4, 2) := by decide +kernel
theorem dX8_linkAfter_32 : decode cX8_linkAfter 32 = .ok (.iload 4, 2) := by decide +kernel
theorem dX8_linkAfter_34 : decode cX8_linkAfter 34 = .ok (.iload_n 3, 1) := by decide +kernel
theorem dX8_linkAfter_35 : decode cX8_linkAfter 35 = .ok (.if_icmp .ge 17, 3) := by decide +kernel
theorem dX8_linkAfter_38 : decode cX8_linkAfter 38 = .ok (.aload_n 0, 1) := by decide +kernel
theorem dX8_linkAfter_39 : decode cX8_linkAfter 39 = .ok (.aload_n 0, 1) := by decide +kernel
theorem dX8_linkAfter_40 : decode cX8_linkAfter 40 = .ok (.getfield 30, 3) := by decide +kernel
theorem dX8_linkAfter_43 : decode cX8_linkAfter 43 = .ok (.invokevirtual 184, 3) := by decide +kernel
theorem dX8_linkAfter_46 : decode cX8_linkAfter 46 = .ok (.iinc 4 1, 3) := by decide +kernel
theorem dX8_linkAfter_49 : decode cX8_linkAfter 49 = .ok (.goto (-17), 3) := by decide +kernel
theorem dX8_linkAfter_52 : decode cX8_linkAfter 52 = .ok (.aload_n 0, 1) := by decide +kernel
theorem dX8_linkAfter_53 : decode cX8_linkAfter 53 = .ok (.getfield 30, 3) := by decide +kernel
theorem dX8_linkAfter_56 : decode cX8_linkAfter 56 = .ok (.getfield 109, 3) := by decide +kernel
theorem dX8_linkAfter_59 : decode cX8_linkAfter 59 = .ok (.iload_n 1, 1) := by decide +kernel
theorem dX8_linkAfter_60 : decode cX8_linkAfter 60 = .ok (.iload_n 2, 1) := by decide +kernel
theorem dX8_linkAfter_61 : decode cX8_linkAfter 61 = .ok (.invokevirtual 112, 3) := by decide +kernel
theorem dX8_linkAfter_64 : decode cX8_linkAfter 64 = .ok (.ireturn, 1) := by decide +kernel
set_option maxRecDepth 20000 in
theorem ggX8_run_X8_requireRange : GoodIn wsX8_run wsX8_requireRange := goodIn_ca (goodIn_r _ [8, 9, 10] (by decide +kernel) (by decide +kernel)) (goodIn_sub (fun _ h => List.mem_cons_of_mem _ (List.mem_append_right _ h)) (by decide +kernel))
set_option maxRecDepth 20000 in
theorem gX8_run_X8_requireRange : GoodIn wsX8_run (va_wsS RX8 83 yX8_requireRange wsX8_requireRange) := goodIn_app (goodIn_of _ (by decide +kernel)) ggX8_run_X8_requireRange
set_option maxRecDepth 20000 in
theorem ggX8_run_X0_remember : GoodIn wsX8_run wsX0_remember := goodIn_r _ [15, 16, 17, 18, 19, 20, 21, 22, 23, 24, 14, 25, 26, 27, 28, 29, 30, 31, 32, 33, 34, 35, 36, 37, 38, 39, 40, 41, 42, 43, 44, 45, 46, 47, 48, 49, 50, 51, 52, 53, 54, 55, 56, 57, 58, 59, 60, 61, 7, 62, 63, 64, 65, 66, 67, 68, 69, 70, 71, 72, 73, 74, 75, 76, 227, 228, 229, 216, 217, 218, 219, 220, 221, 222, 223, 224, 225, 226, 230, 231, 232, 233, 234, 235, 236, 237, 238, 239, 240, 241] (by decide +kernel) (by decide +kernel)
set_option maxRecDepth 20000 in
theorem gX8_run_X0_remember : GoodIn wsX8_run (wsV RX8 200 RX0 yX0_remember wsX0_remember) := goodIn_app (goodIn_of _ (by decide +kernel)) ggX8_run_X0_remember
set_option maxRecDepth 20000 in
theorem ggX8_run_X8_doTick : GoodIn wsX8_run wsX8_doTick := goodIn_r _ [80, 81, 82, 83, 84, 71, 85, 76, 75, 74, 73, 86, 87, 88, 7, 89, 90, 91, 92, 93, 94, 95, 96, 97, 98, 99, 100, 101, 102, 103, 104, 105, 46, 106, 50, 51, 107, 108, 109, 110, 111, 112, 52, 53, 113, 114, 115, 116, 117, 118, 119, 120, 121, 122, 123, 124, 125, 126, 127, 128, 129, 130, 57, 131, 59, 132, 133, 134, 135, 136, 137, 138, 139, 140, 141, 142, 143, 144, 145, 146, 147, 148, 149, 150, 151, 152, 153, 154, 155, 156, 157, 158, 159, 160, 161, 162, 163, 164, 165, 166, 167, 168, 169, 170, 171, 172, 173, 174, 175, 176, 177, 178, 179, 180, 181, 182, 183, 184, 185, 186, 187, 188, 189, 19, 20, 21, 190, 191, 192, 193, 194, 195, 196, 197, 198, 199, 200, 201, 202, 203, 204, 205, 206, 216, 217, 218, 219, 220, 221, 222, 223, 224, 225, 226, 207, 208, 209, 210, 211, 212, 213, 214, 215, 238, 239, 240, 241, 230, 231, 232, 233, 234, 235, 242, 236, 237] (by decide +kernel) (by decide +kernel)
set_option maxRecDepth 20000 in
theorem gX8_run_X8_doTick : GoodIn wsX8_run (wsV RX8 184 RX8 yX8_doTick wsX8_doTick) := goodIn_app (goodIn_of _ (by decide +kernel)) ggX8_run_X8_doTick
theorem dX8_run_0 : decode cX8_run 0 = .ok (.iload_n 1, 1) := by decide +kernel
theorem dX8_run_1 : decode cX8_run 1 = .ok (.iconst 1, 1) := by decide +kernel
theorem dX8_run_2 : decode cX8_run 2 = .ok (.sipush 1000, 3) := by decide +kernel
theorem dX8_run_5 : decode cX8_run 5 = .ok (.invokestatic 83, 3) := by decide +kernel
theorem dX8_run_8 : decode cX8_run 8 = .ok (.aload_n 0, 1) := by decide +kernel
theorem dX8_run_9 : decode cX8_run 9 = .ok (.getfield 26, 3) := by decide +kernel
theorem dX8_run_12 : decode cX8_run 12 = .ok (.getfield 190, 3) := by decide +kernel
theorem dX8_run_15 : decode cX8_run 15 = .ok (.iload_n 1, 1) := by decide +kernel
theorem dX8_run_16 : decode cX8_run 16 = .ok (.iadd, 1) := by decide +kernel
theorem dX8_run_17 : decode cX8_run 17 = .ok (.sipush 9999, 3) := by decide +kernel
theorem dX8_run_20 : decode cX8_run 20 = .ok (.if_icmp .le 13, 3) := by decide +kernel
theorem dX8_run_23 : decode cX8_run 23 = .ok (.new 193, 3) := by decide +kernel
theorem dX8_run_26 : decode cX8_run 26 = .ok (.dup, 1) := by decide +kernel
theorem dX8_run_27 : decode cX8_run 27 = .ok (.ldc 195, 2) := by decide +kernel
theorem dX8_run_29 : decode cX8_run 29 = .ok (.invokespecial 197, 3) := by decide +kernel
theorem dX8_run_32 : decode cX8_run 32 = .ok (.athrow, 1) := by decide +kernel
theorem dX8_run_33 : decode cX8_run 33 = .ok (.aload_n 0, 1) := by decide +kernel
theorem dX8_run_34 : decode cX8_run 34 = .ok (.getfield 43, 3) := by decide +kernel
theorem dX8_run_37 : decode cX8_run 37 = .ok (.aload_n 0, 1) := by decide +kernel
theorem dX8_run_38 : decode cX8_run 38 = .ok (.getfield 26, 3) := by decide +kernel
theorem dX8_run_41 : decode cX8_run 41 = .ok (.invokevirtual 200, 3) := by decide +kernel
theorem dX8_run_44 : decode cX8_run 44 = .ok (.iconst 0, 1) := by decide +kernel
theorem dX8_run_45 : decode cX8_run 45 = .ok (.istore_n 2, 1) := by decide +kernel
theorem dX8_run_46 : decode cX8_run 46 = .ok (.iload_n 2, 1) := by decide +kernel
theorem dX8_run_47 : decode cX8_run 47 = .ok (.iload_n 1, 1) := by decide +kernel
theorem dX8_run_48 : decode cX8_run 48 = .ok (.if_icmp .ge 17, 3) := by decide +kernel
theorem dX8_run_51 : decode cX8_run 51 = .ok (.aload_n 0, 1) := by decide +kernel
theorem dX8_run_52 : decode cX8_run 52 = .ok (.aload_n 0, 1) := by decide +kernel
theorem dX8_run_53 : decode cX8_run 53 = .ok (.getfield 26, 3) := by decide +kernel
theorem dX8_run_56 : decode cX8_run 56 = .ok (.invokevirtual 184, 3) := by decide +kernel
theorem dX8_run_59 : decode cX8_run 59 = .ok (.iinc 2 1, 3) := by decide +kernel
theorem dX8_run_62 : decode cX8_run 62 = .ok (.goto (-16), 3) := by decide +kernel
theorem dX8_run_65 : decode cX8_run 65 = .ok (.aload_n 0, 1) := by decide +kernel
theorem dX8_run_66 : decode cX8_run 66 = .ok (.getfield 26, 3) := by decide +kernel
theorem dX8_run_69 : decode cX8_run 69 = .ok (.getfield 203, 3) := by decide +kernel
theorem dX8_run_72 : decode cX8_run 72 = .ok (.ireturn, 1) := by decide +kernel
set_option maxRecDepth 20000 in
theorem ggX8_setMode_X8_requireRange : GoodIn wsX8_setMode wsX8_requireRange := goodIn_ca (goodIn_r _ [6, 7, 8] (by decide +kernel) (by decide +kernel)) (goodIn_sub (fun _ h => List.mem_cons_of_mem _ (List.mem_append_left _ (List.mem_append_right _ h))) (by decide +kernel))
set_option maxRecDepth 20000 in
theorem gX8_setMode_X8_requireRange : GoodIn wsX8_setMode (va_wsS RX8 83 yX8_requireRange wsX8_requireRange) := goodIn_app (goodIn_of _ (by decide +kernel)) ggX8_setMode_X8_requireRange
set_option maxRecDepth 20000 in
theorem ggX8_setMode_X8_requireNotStopped : GoodIn wsX8_setMode wsX8_requireNotStopped := goodIn_ca (goodIn_r _ [12, 13, 14, 2, 81, 82, 83, 84, 85, 86, 87, 88, 89, 90, 91, 92, 93, 94, 95, 96, 97, 98, 99, 100] (by decide +kernel) (by decide +kernel)) (goodIn_sub (fun _ h => List.mem_cons_of_mem _ (List.mem_append_right _ h)) (by decide +kernel))
set_option maxRecDepth 20000 in
theorem gX8_setMode_X8_requireNotStopped : GoodIn wsX8_setMode (wsV RX8 206 RX8 yX8_requireNotStopped wsX8_requireNotStopped) := goodIn_app (goodIn_of _ (by decide +kernel)) ggX8_setMode_X8_requireNotStopped
set_option maxRecDepth 20000 in
theorem ggX8_setMode_X0_remember : GoodIn wsX8_setMode wsX0_remember := goodIn_r _ [19, 20, 21, 22, 23, 24, 25, 26, 27, 28, 18, 29, 30, 31, 32, 33, 34, 35, 36, 37, 38, 39, 40, 41, 42, 43, 44, 45, 46, 47, 48, 49, 50, 51, 52, 53, 54, 55, 56, 57, 58, 59, 60, 61, 62, 63, 64, 65, 5, 66, 67, 68, 69, 70, 71, 72, 73, 74, 75, 76, 77, 78, 79, 80, 101, 102, 103, 90, 91, 92, 93, 94, 95, 96, 97, 98, 99, 100, 104, 105, 106, 107, 108, 109, 110, 111, 112, 113, 114, 115] (by decide +kernel) (by decide +kernel)
set_option maxRecDepth 20000 in
theorem gX8_setMode_X0_remember : GoodIn wsX8_setMode (wsV RX8 200 RX0 yX0_remember wsX0_remember) := goodIn_app (goodIn_of _ (by decide +kernel)) ggX8_setMode_X0_remember
theorem dX8_setMode_0 : decode cX8_setMode 0 = .ok (.iload_n 1, 1) := by decide +kernel
theorem dX8_setMode_1 : decode cX8_setMode 1 = .ok (.iconst 0, 1) := by decide +kernel
theorem dX8_setMode_2 : decode cX8_setMode 2 = .ok (.iconst 2, 1) := by decide +kernel
theorem dX8_setMode_3 : decode cX8_setMode 3 = .ok (.invokestatic 83, 3) := by decide +kernel
theorem dX8_setMode_6 : decode cX8_setMode 6 = .ok (.aload_n 0, 1) := by decide +kernel
theorem dX8_setMode_7 : decode cX8_setMode 7 = .ok (.invokevirtual 206, 3) := by decide +kernel
theorem dX8_setMode_10 : decode cX8_setMode 10 = .ok (.aload_n 0, 1) := by decide +kernel
theorem dX8_setMode_11 : decode cX8_setMode 11 = .ok (.getfield 43, 3) := by decide +kernel
theorem dX8_setMode_14 : decode cX8_setMode 14 = .ok (.aload_n 0, 1) := by decide +kernel
theorem dX8_setMode_15 : decode cX8_setMode 15 = .ok (.getfield 26, 3) := by decide +kernel
theorem dX8_setMode_18 : decode cX8_setMode 18 = .ok (.invokevirtual 200, 3) := by decide +kernel
theorem dX8_setMode_21 : decode cX8_setMode 21 = .ok (.aload_n 0, 1) := by decide +kernel
theorem dX8_setMode_22 : decode cX8_setMode 22 = .ok (.getfield 26, 3) := by decide +kernel
theorem dX8_setMode_25 : decode cX8_setMode 25 = .ok (.getfield 203, 3) := by decide +kernel
theorem dX8_setMode_28 : decode cX8_setMode 28 = .ok (.istore_n 2, 1) := by decide +kernel
theorem dX8_setMode_29 : decode cX8_setMode 29 = .ok (.aload_n 0, 1) := by decide +kernel
theorem dX8_setMode_30 : decode cX8_setMode 30 = .ok (.getfield 26, 3) := by decide +kernel
theorem dX8_setMode_33 : decode cX8_setMode 33 = .ok (.iload_n 1, 1) := by decide +kernel
theorem dX8_setMode_34 : decode cX8_setMode 34 = .ok (.putfield 203, 3) := by decide +kernel
theorem dX8_setMode_37 : decode cX8_setMode 37 = .ok (.iload_n 2, 1) := by decide +kernel
theorem dX8_setMode_38 : decode cX8_setMode 38 = .ok (.ireturn, 1) := by decide +kernel
set_option maxRecDepth 20000 in
theorem ggX8_reset_X8_requireRange : GoodIn wsX8_reset wsX8_requireRange := goodIn_ca (goodIn_r _ [6, 7, 8] (by decide +kernel) (by decide +kernel)) (goodIn_sub (fun _ h => List.mem_cons_of_mem _ (List.mem_append_right _ h)) (by decide +kernel))
set_option maxRecDepth 20000 in
theorem gX8_reset_X8_requireRange : GoodIn wsX8_reset (va_wsS RX8 83 yX8_requireRange wsX8_requireRange) := goodIn_app (goodIn_of _ (by decide +kernel)) ggX8_reset_X8_requireRange
set_option maxRecDepth 20000 in
theorem ggX8_reset_X0_remember : GoodIn wsX8_reset wsX0_remember := goodIn_r _ [13, 14, 15, 16, 17, 18, 19, 20, 21, 22, 12, 23, 24, 25, 26, 27, 28, 29, 30, 31, 32, 33, 34, 35, 36, 37, 38, 39, 40, 41, 42, 43, 44, 45, 46, 47, 48, 49, 50, 51, 52, 53, 54, 55, 56, 57, 58, 59, 5, 60, 61, 62, 63, 64, 65, 66, 67, 68, 69, 70, 71, 72, 73, 74, 99, 100, 101, 88, 89, 90, 91, 92, 93, 94, 95, 96, 97, 98, 102, 103, 104, 105, 106, 107, 108, 109, 110, 111, 112, 113] (by decide +kernel) (by decide +kernel)
set_option maxRecDepth 20000 in
theorem gX8_reset_X0_remember : GoodIn wsX8_reset (wsV RX8 200 RX0 yX0_remember wsX0_remember) := goodIn_app (goodIn_of _ (by decide +kernel)) ggX8_reset_X0_remember
set_option maxRecDepth 20000 in
theorem ggX8_reset_X1_restAt : GoodIn wsX8_reset wsX1_restAt := goodIn_r _ [78, 46, 47, 48, 49, 50, 51, 102, 103, 104, 105, 106, 107] (by decide +kernel) (by decide +kernel)
set_option maxRecDepth 20000 in
theorem gX8_reset_X1_restAt : GoodIn wsX8_reset (wsV RX8 209 RX1 yX1_restAt wsX1_restAt) := goodIn_app (goodIn_of _ (by decide +kernel)) ggX8_reset_X1_restAt
theorem dX8_reset_0 : decode cX8_reset 0 = .ok (.iload_n 1, 1) := by decide +kernel
theorem dX8_reset_1 : decode cX8_reset 1 = .ok (.iconst 0, 1) := by decide +kernel
theorem dX8_reset_2 : decode cX8_reset 2 = .ok (.sipush 4095, 3) := by decide +kernel
theorem dX8_reset_5 : decode cX8_reset 5 = .ok (.invokestatic 83, 3) := by decide +kernel
theorem dX8_reset_8 : decode cX8_reset 8 = .ok (.iload_n 2, 1) := by decide +kernel
theorem dX8_reset_9 : decode cX8_reset 9 = .ok (.iconst 0, 1) := by decide +kernel
theorem dX8_reset_10 : decode cX8_reset 10 = .ok (.sipush 4095, 3) := by decide +kernel
theorem dX8_reset_13 : decode cX8_reset 13 = .ok (.invokestatic 83, 3) := by decide +kernel
theorem dX8_reset_16 : decode cX8_reset 16 = .ok (.aload_n 0, 1) := by decide +kernel
theorem dX8_reset_17 : decode cX8_reset 17 = .ok (.getfield 43, 3) := by decide +kernel
theorem dX8_reset_20 : decode cX8_reset 20 = .ok (.aload_n 0, 1) := by decide +kernel
theorem dX8_reset_21 : decode cX8_reset 21 = .ok (.getfield 26, 3) := by decide +kernel
theorem dX8_reset_24 : decode cX8_reset 24 = .ok (.invokevirtual 200, 3) := by decide +kernel
theorem dX8_reset_27 : decode cX8_reset 27 = .ok (.aload_n 0, 1) := by decide +kernel
theorem dX8_reset_28 : decode cX8_reset 28 = .ok (.getfield 26, 3) := by decide +kernel
theorem dX8_reset_31 : decode cX8_reset 31 = .ok (.getfield 203, 3) := by decide +kernel
theorem dX8_reset_34 : decode cX8_reset 34 = .ok (.istore_n 3, 1) := by decide +kernel
theorem dX8_reset_35 : decode cX8_reset 35 = .ok (.aload_n 0, 1) := by decide +kernel
theorem dX8_reset_36 : decode cX8_reset 36 = .ok (.getfield 26, 3) := by decide +kernel
theorem dX8_reset_39 : decode cX8_reset 39 = .ok (.getfield 109, 3) := by decide +kernel
theorem dX8_reset_42 : decode cX8_reset 42 = .ok (.iload_n 1, 1) := by decide +kernel
theorem dX8_reset_43 : decode cX8_reset 43 = .ok (.iload_n 2, 1) := by decide +kernel
theorem dX8_reset_44 : decode cX8_reset 44 = .ok (.invokevirtual 209, 3) := by decide +kernel
theorem dX8_reset_47 : decode cX8_reset 47 = .ok (.aload_n 0, 1) := by decide +kernel
theorem dX8_reset_48 : decode cX8_reset 48 = .ok (.getfield 26, 3) := by decide +kernel
theorem dX8_reset_51 : decode cX8_reset 51 = .ok (.iconst 0, 1) := by decide +kernel
theorem dX8_reset_52 : decode cX8_reset 52 = .ok (.putfield 212, 3) := by decide +kernel
theorem dX8_reset_55 : decode cX8_reset 55 = .ok (.aload_n 0, 1) := by decide +kernel
theorem dX8_reset_56 : decode cX8_reset 56 = .ok (.getfield 26, 3) := by decide +kernel
theorem dX8_reset_59 : decode cX8_reset 59 = .ok (.iconst 0, 1) := by decide +kernel
theorem dX8_reset_60 : decode cX8_reset 60 = .ok (.putfield 203, 3) := by decide +kernel
theorem dX8_reset_63 : decode cX8_reset 63 = .ok (.aload_n 0, 1) := by decide +kernel
theorem dX8_reset_64 : decode cX8_reset 64 = .ok (.getfield 26, 3) := by decide +kernel
theorem dX8_reset_67 : decode cX8_reset 67 = .ok (.dup, 1) := by decide +kernel
theorem dX8_reset_68 : decode cX8_reset 68 = .ok (.getfield 215, 3) := by decide +kernel
theorem dX8_reset_71 : decode cX8_reset 71 = .ok (.iconst 1, 1) := by decide +kernel
theorem dX8_reset_72 : decode cX8_reset 72 = .ok (.iadd, 1) := by decide +kernel
theorem dX8_reset_73 : decode cX8_reset 73 = .ok (.putfield 215, 3) := by decide +kernel
theorem dX8_reset_76 : decode cX8_reset 76 = .ok (.iload_n 3, 1) := by decide +kernel
theorem dX8_reset_77 : decode cX8_reset 77 = .ok (.ireturn, 1) := by decide +kernel
set_option maxRecDepth 20000 in
theorem ggX8_nudge_X8_requireLink : GoodIn wsX8_nudge wsX8_requireLink := goodIn_ca (goodIn_r _ [8, 9, 10] (by decide +kernel) (by decide +kernel)) (goodIn_sub (fun _ h => List.mem_cons_of_mem _ (List.mem_append_left _ (List.mem_append_right _ h))) (by decide +kernel))
set_option maxRecDepth 20000 in
theorem gX8_nudge_X8_requireLink : GoodIn wsX8_nudge (va_wsS RX8 106 yX8_requireLink wsX8_requireLink) := goodIn_app (goodIn_of _ (by decide +kernel)) ggX8_nudge_X8_requireLink
set_option maxRecDepth 20000 in
theorem ggX8_nudge_X8_requireRange : GoodIn wsX8_nudge wsX8_requireRange := goodIn_ca (goodIn_r _ [13, 14, 15] (by decide +kernel) (by decide +kernel)) (goodIn_sub (fun _ h => List.mem_cons_of_mem _ (List.mem_append_right _ h)) (by decide +kernel))
set_option maxRecDepth 20000 in
theorem gX8_nudge_X8_requireRange : GoodIn wsX8_nudge (va_wsS RX8 83 yX8_requireRange wsX8_requireRange) := goodIn_app (goodIn_of _ (by decide +kernel)) ggX8_nudge_X8_requireRange
set_option maxRecDepth 20000 in
theorem ggX8_nudge_X8_requireNotStopped : GoodIn wsX8_nudge wsX8_requireNotStopped := goodIn_ca (goodIn_r _ [19, 1, 2, 3, 94, 95, 96, 97, 98, 99, 100, 101, 102, 103, 104, 105, 106, 107, 108, 109, 110, 111, 112, 113] (by decide +kernel) (by decide +kernel)) (goodIn_sub (fun _ h => List.mem_cons_of_mem _ (List.mem_append_left _ (List.mem_append_left _ (List.mem_append_right _ h)))) (by decide +kernel))
set_option maxRecDepth 20000 in
theorem gX8_nudge_X8_requireNotStopped : GoodIn wsX8_nudge (wsV RX8 206 RX8 yX8_requireNotStopped wsX8_requireNotStopped) := goodIn_app (goodIn_of _ (by decide +kernel)) ggX8_nudge_X8_requireNotStopped
set_option maxRecDepth 20000 in
theorem ggX8_nudge_X1_speedOf : GoodIn wsX8_nudge wsX1_speedOf := goodIn_r _ [24, 25, 26, 114, 115, 116, 117, 118, 119] (by decide +kernel) (by decide +kernel)
set_option maxRecDepth 20000 in
theorem gX8_nudge_X1_speedOf : GoodIn wsX8_nudge (wsV RX8 218 RX1 yX1_speedOf wsX1_speedOf) := goodIn_app (goodIn_of _ (by decide +kernel)) ggX8_nudge_X1_speedOf
set_option maxRecDepth 20000 in
theorem ggX8_nudge_X0_remember : GoodIn wsX8_nudge wsX0_remember := goodIn_r _ [31, 32, 33, 34, 35, 36, 37, 38, 39, 40, 30, 41, 42, 43, 44, 45, 46, 47, 48, 49, 50, 51, 52, 53, 54, 55, 56, 57, 58, 59, 60, 61, 23, 62, 63, 64, 65, 66, 25, 26, 67, 68, 69, 70, 71, 72, 73, 74, 7, 75, 76, 77, 78, 79, 80, 81, 82, 83, 84, 85, 86, 87, 88, 89, 120, 121, 122, 103, 104, 105, 106, 107, 108, 109, 110, 111, 112, 113, 114, 115, 116, 117, 118, 119, 123, 124, 125, 126, 127, 128] (by decide +kernel) (by decide +kernel)
set_option maxRecDepth 20000 in
theorem gX8_nudge_X0_remember : GoodIn wsX8_nudge (wsV RX8 200 RX0 yX0_remember wsX0_remember) := goodIn_app (goodIn_of _ (by decide +kernel)) ggX8_nudge_X0_remember
set_option maxRecDepth 20000 in
theorem ggX8_nudge_X1_setSpeed : GoodIn wsX8_nudge wsX1_setSpeed := goodIn_r _ [93, 25, 26, 114, 115, 116, 117, 118, 119] (by decide +kernel) (by decide +kernel)
set_option maxRecDepth 20000 in
theorem gX8_nudge_X1_setSpeed : GoodIn wsX8_nudge (wsV RX8 223 RX1 yX1_setSpeed wsX1_setSpeed) := goodIn_app (goodIn_of _ (by decide +kernel)) ggX8_nudge_X1_setSpeed
theorem dX8_nudge_0 : decode cX8_nudge 0 = .ok (.iload_n 1, 1) := by decide +kernel
theorem dX8_nudge_1 : decode cX8_nudge 1 = .ok (.invokestatic 106, 3) := by decide +kernel
theorem dX8_nudge_4 : decode cX8_nudge 4 = .ok (.iload_n 2, 1) := by decide +kernel
theorem dX8_nudge_5 : decode cX8_nudge 5 = .ok (.sipush (-500), 3) := by decide +kernel
theorem dX8_nudge_8 : decode cX8_nudge 8 = .ok (.sipush 500, 3) := by decide +kernel
theorem dX8_nudge_11 : decode cX8_nudge 11 = .ok (.invokestatic 83, 3) := by decide +kernel
theorem dX8_nudge_14 : decode cX8_nudge 14 = .ok (.aload_n 0, 1) := by decide +kernel
theorem dX8_nudge_15 : decode cX8_nudge 15 = .ok (.invokevirtual 206, 3) := by decide +kernel
theorem dX8_nudge_18 : decode cX8_nudge 18 = .ok (.aload_n 0, 1) := by decide +kernel
theorem dX8_nudge_19 : decode cX8_nudge 19 = .ok (.getfield 26, 3) := by decide +kernel
theorem dX8_nudge_22 : decode cX8_nudge 22 = .ok (.getfield 109, 3) := by decide +kernel
theorem dX8_nudge_25 : decode cX8_nudge 25 = .ok (.iload_n 1, 1) := by decide +kernel
theorem dX8_nudge_26 : decode cX8_nudge 26 = .ok (.invokevirtual 218, 3) := by decide +kernel
theorem dX8_nudge_29 : decode cX8_nudge 29 = .ok (.iload_n 2, 1) := by decide +kernel
theorem dX8_nudge_30 : decode cX8_nudge 30 = .ok (.iadd, 1) := by decide +kernel
theorem dX8_nudge_31 : decode cX8_nudge 31 = .ok (.istore_n 3, 1) := by decide +kernel
theorem dX8_nudge_32 : decode cX8_nudge 32 = .ok (.iload_n 3, 1) := by decide +kernel
theorem dX8_nudge_33 : decode cX8_nudge 33 = .ok (.sipush 9999, 3) := by decide +kernel
theorem dX8_nudge_36 : decode cX8_nudge 36 = .ok (.if_icmp .gt 10, 3) := by decide +kernel
theorem dX8_nudge_39 : decode cX8_nudge 39 = .ok (.iload_n 3, 1) := by decide +kernel
theorem dX8_nudge_40 : decode cX8_nudge 40 = .ok (.sipush (-9999), 3) := by decide +kernel
theorem dX8_nudge_43 : decode cX8_nudge 43 = .ok (.if_icmp .ge 13, 3) := by decide +kernel
theorem dX8_nudge_46 : decode cX8_nudge 46 = .ok (.new 193, 3) := by decide +kernel
theorem dX8_nudge_49 : decode cX8_nudge 49 = .ok (.dup, 1) := by decide +kernel
theorem dX8_nudge_50 : decode cX8_nudge 50 = .ok (.ldc 221, 2) := by decide +kernel
theorem dX8_nudge_52 : decode cX8_nudge 52 = .ok (.invokespecial 197, 3) := by decide +kernel
theorem dX8_nudge_55 : decode cX8_nudge 55 = .ok (.athrow, 1) := by decide +kernel
theorem dX8_nudge_56 : decode cX8_nudge 56 = .ok (.aload_n 0, 1) := by decide +kernel
theorem dX8_nudge_57 : decode cX8_nudge 57 = .ok (.getfield 43, 3) := by decide +kernel
theorem dX8_nudge_60 : decode cX8_nudge 60 = .ok (.aload_n 0, 1) := by decide +kernel
theorem dX8_nudge_61 : decode cX8_nudge 61 = .ok (.getfield 26, 3) := by decide +kernel
theorem dX8_nudge_64 : decode cX8_nudge 64 = .ok (.invokevirtual 200, 3) := by decide +kernel
theorem dX8_nudge_67 : decode cX8_nudge 67 = .ok (.aload_n 0, 1) := by decide +kernel
theorem dX8_nudge_68 : decode cX8_nudge 68 = .ok (.getfield 26, 3) := by decide +kernel
theorem dX8_nudge_71 : decode cX8_nudge 71 = .ok (.getfield 109, 3) := by decide +kernel
theorem dX8_nudge_74 : decode cX8_nudge 74 = .ok (.iload_n 1, 1) := by decide +kernel
theorem dX8_nudge_75 : decode cX8_nudge 75 = .ok (.iload_n 3, 1) := by decide +kernel
theorem dX8_nudge_76 : decode cX8_nudge 76 = .ok (.invokevirtual 223, 3) := by decide +kernel
theorem dX8_nudge_79 : decode cX8_nudge 79 = .ok (.iload_n 3, 1) := by decide +kernel
theorem dX8_nudge_80 : decode cX8_nudge 80 = .ok (.ireturn, 1) := by decide +kernel
set_option maxRecDepth 20000 in
theorem ggX8_setForce_X8_requireRange : GoodIn wsX8_setForce wsX8_requireRange := goodIn_ca (goodIn_r _ [8, 9, 10] (by decide +kernel) (by decide +kernel)) (goodIn_sub (fun _ h => List.mem_cons_of_mem _ (List.mem_append_right _ h)) (by decide +kernel))
set_option maxRecDepth 20000 in
theorem gX8_setForce_X8_requireRange : GoodIn wsX8_setForce (va_wsS RX8 83 yX8_requireRange wsX8_requireRange) := goodIn_app (goodIn_of _ (by decide +kernel)) ggX8_setForce_X8_requireRange
set_option maxRecDepth 20000 in
theorem ggX8_setForce_X0_remember : GoodIn wsX8_setForce wsX0_remember := goodIn_r _ [15, 16, 17, 18, 19, 20, 21, 22, 23, 24, 14, 25, 26, 27, 28, 29, 30, 31, 32, 33, 34, 35, 36, 37, 38, 39, 40, 41, 42, 43, 44, 45, 46, 47, 48, 49, 50, 51, 52, 53, 54, 55, 56, 57, 58, 59, 60, 61, 7, 62, 63, 64, 65, 66, 67, 68, 69, 70, 71, 72, 73, 74, 75, 76, 179, 180, 181, 168, 169, 170, 171, 172, 173, 174, 175, 176, 177, 178, 182, 183, 184, 185, 186, 187, 188, 189, 190, 191, 192, 193] (by decide +kernel) (by decide +kernel)
set_option maxRecDepth 20000 in
theorem gX8_setForce_X0_remember : GoodIn wsX8_setForce (wsV RX8 200 RX0 yX0_remember wsX0_remember) := goodIn_app (goodIn_of _ (by decide +kernel)) ggX8_setForce_X0_remember
set_option maxRecDepth 20000 in
theorem ggX8_setForce_X5_tryAll : GoodIn wsX8_setForce wsX5_tryAll := goodIn_r _ [80, 81, 82, 83, 84, 85, 86, 87, 7, 88, 89, 90, 91, 46, 92, 48, 49, 50, 51, 52, 53, 93, 94, 57, 95, 96, 97, 98, 99, 59, 60, 100, 101, 102, 103, 104, 19, 20, 21, 105, 106, 107, 108, 109, 110, 111, 112, 113, 114, 115, 116, 117, 118, 119, 120, 121, 122, 123, 124, 125, 126, 127, 128, 129, 130, 131, 132, 133, 134, 135, 136, 137, 138, 139, 140, 141, 142, 143, 182, 183, 184, 185, 186, 187, 194, 188, 189] (by decide +kernel) (by decide +kernel)
set_option maxRecDepth 20000 in
theorem gX8_setForce_X5_tryAll : GoodIn wsX8_setForce (wsV RX8 229 RX5 yX5_tryAll wsX5_tryAll) := goodIn_app (goodIn_of _ (by decide +kernel)) ggX8_setForce_X5_tryAll
set_option maxRecDepth 20000 in
theorem ggX8_setForce_X8_regionSize : GoodIn wsX8_setForce wsX8_regionSize := goodIn_r _ [147, 2, 3, 148, 82, 83, 84, 85, 86, 149, 150, 151, 57, 152, 153, 154, 155, 156, 59, 93, 94, 95, 157, 7, 158, 159, 160, 161, 162, 163, 164, 165, 166, 167, 168, 169, 170, 171, 172, 173, 174, 175, 176, 177, 178, 194, 188, 189] (by decide +kernel) (by decide +kernel)
set_option maxRecDepth 20000 in
theorem gX8_setForce_X8_regionSize : GoodIn wsX8_setForce (wsV RX8 233 RX8 yX8_regionSize wsX8_regionSize) := goodIn_app (goodIn_of _ (by decide +kernel)) ggX8_setForce_X8_regionSize
theorem dX8_setForce_0 : decode cX8_setForce 0 = .ok (.iload_n 1, 1) := by decide +kernel
theorem dX8_setForce_1 : decode cX8_setForce 1 = .ok (.iconst 1, 1) := by decide +kernel
theorem dX8_setForce_2 : decode cX8_setForce 2 = .ok (.sipush 500, 3) := by decide +kernel
theorem dX8_setForce_5 : decode cX8_setForce 5 = .ok (.invokestatic 83, 3) := by decide +kernel
theorem dX8_setForce_8 : decode cX8_setForce 8 = .ok (.aload_n 0, 1) := by decide +kernel
theorem dX8_setForce_9 : decode cX8_setForce 9 = .ok (.getfield 43, 3) := by decide +kernel
theorem dX8_setForce_12 : decode cX8_setForce 12 = .ok (.aload_n 0, 1) := by decide +kernel
theorem dX8_setForce_13 : decode cX8_setForce 13 = .ok (.getfield 26, 3) := by decide +kernel
theorem dX8_setForce_16 : decode cX8_setForce 16 = .ok (.invokevirtual 200, 3) := by decide +kernel
theorem dX8_setForce_19 : decode cX8_setForce 19 = .ok (.aload_n 0, 1) := by decide +kernel
theorem dX8_setForce_20 : decode cX8_setForce 20 = .ok (.getfield 26, 3) := by decide +kernel
theorem dX8_setForce_23 : decode cX8_setForce 23 = .ok (.iload_n 1, 1) := by decide +kernel
theorem dX8_setForce_24 : decode cX8_setForce 24 = .ok (.putfield 226, 3) := by decide +kernel
theorem dX8_setForce_27 : decode cX8_setForce 27 = .ok (.aload_n 0, 1) := by decide +kernel
theorem dX8_setForce_28 : decode cX8_setForce 28 = .ok (.getfield 26, 3) := by decide +kernel
theorem dX8_setForce_31 : decode cX8_setForce 31 = .ok (.getfield 143, 3) := by decide +kernel
theorem dX8_setForce_34 : decode cX8_setForce 34 = .ok (.aload_n 0, 1) := by decide +kernel
theorem dX8_setForce_35 : decode cX8_setForce 35 = .ok (.getfield 10, 3) := by decide +kernel
theorem dX8_setForce_38 : decode cX8_setForce 38 = .ok (.iload_n 1, 1) := by decide +kernel
theorem dX8_setForce_39 : decode cX8_setForce 39 = .ok (.aload_n 0, 1) := by decide +kernel
theorem dX8_setForce_40 : decode cX8_setForce 40 = .ok (.getfield 36, 3) := by decide +kernel
theorem dX8_setForce_43 : decode cX8_setForce 43 = .ok (.invokevirtual 229, 3) := by decide +kernel
theorem dX8_setForce_46 : decode cX8_setForce 46 = .ok (.aload_n 0, 1) := by decide +kernel
theorem dX8_setForce_47 : decode cX8_setForce 47 = .ok (.invokevirtual 233, 3) := by decide +kernel
theorem dX8_setForce_50 : decode cX8_setForce 50 = .ok (.ireturn, 1) := by decide +kernel
set_option maxRecDepth 20000 in
theorem ggX8_undo_X0_giveBackTo : GoodIn wsX8_undo wsX0_giveBackTo := goodIn_r _ [7, 8, 9, 10, 11, 12, 6, 13, 14, 15, 16, 17, 18, 19, 20, 21, 22, 23, 24, 25, 26, 27, 28, 29, 30, 31, 32, 33, 34, 35, 36, 37, 38, 39, 40, 41, 42, 43, 44, 45, 46, 47, 48, 49, 50, 51, 52, 53, 54, 55, 56, 57, 58, 59, 60, 61, 62, 63, 64, 65, 66, 67, 68, 78, 79, 80, 81, 82, 83, 84, 85, 86, 87, 88, 89, 90, 91, 92, 93, 94, 95, 96, 97, 98, 99, 100, 101, 102, 103] (by decide +kernel) (by decide +kernel)
set_option maxRecDepth 20000 in
theorem gX8_undo_X0_giveBackTo : GoodIn wsX8_undo (wsV RX8 237 RX0 yX0_giveBackTo wsX0_giveBackTo) := goodIn_app (goodIn_of _ (by decide +kernel)) ggX8_undo_X0_giveBackTo
theorem dX8_undo_0 : decode cX8_undo 0 = .ok (.aload_n 0, 1) := by decide +kernel
theorem dX8_undo_1 : decode cX8_undo 1 = .ok (.getfield 43, 3) := by decide +kernel
theorem dX8_undo_4 : decode cX8_undo 4 = .ok (.aload_n 0, 1) := by decide +kernel
theorem dX8_undo_5 : decode cX8_undo 5 = .ok (.getfield 26, 3) := by decide +kernel
theorem dX8_undo_8 : decode cX8_undo 8 = .ok (.invokevirtual 237, 3) := by decide +kernel
theorem dX8_undo_11 : decode cX8_undo 11 = .ok (.ifCond .eq 13, 3) := by decide +kernel
theorem dX8_undo_14 : decode cX8_undo 14 = .ok (.aload_n 0, 1) := by decide +kernel
theorem dX8_undo_15 : decode cX8_undo 15 = .ok (.getfield 43, 3) := by decide +kernel
theorem dX8_undo_18 : decode cX8_undo 18 = .ok (.getfield 240, 3) := by decide +kernel
theorem dX8_undo_21 : decode cX8_undo 21 = .ok (.goto 4, 3) := by decide +kernel
theorem dX8_undo_24 : decode cX8_undo 24 = .ok (.iconst (-1), 1) := by decide +kernel
theorem dX8_undo_25 : decode cX8_undo 25 = .ok (.ireturn, 1) := by decide +kernel
set_option maxRecDepth 20000 in
theorem ggX8_saveSnapshot_X8_requireSlot : GoodIn wsX8_saveSnapshot wsX8_requireSlot := goodIn_ca (goodIn_r _ [5, 6, 7] (by decide +kernel) (by decide +kernel)) (goodIn_sub (fun _ h => List.mem_cons_of_mem _ (List.mem_append_right _ h)) (by decide +kernel))
set_option maxRecDepth 20000 in
theorem gX8_saveSnapshot_X8_requireSlot : GoodIn wsX8_saveSnapshot (va_wsS RX8 243 yX8_requireSlot wsX8_requireSlot) := goodIn_app (goodIn_of _ (by decide +kernel)) ggX8_saveSnapshot_X8_requireSlot
set_option maxRecDepth 20000 in
theorem ggX8_saveSnapshot_X8_snapshotIn : GoodIn wsX8_saveSnapshot wsX8_snapshotIn := goodIn_r _ [11, 12, 13, 69, 70, 71, 72, 73, 74, 75, 76, 77] (by decide +kernel) (by decide +kernel)
set_option maxRecDepth 20000 in
theorem gX8_saveSnapshot_X8_snapshotIn : GoodIn wsX8_saveSnapshot (wsV RX8 246 RX8 yX8_snapshotIn wsX8_snapshotIn) := goodIn_app (goodIn_of _ (by decide +kernel)) ggX8_saveSnapshot_X8_snapshotIn
set_option maxRecDepth 20000 in
theorem ggX8_saveSnapshot_X6_takeOver : GoodIn wsX8_saveSnapshot wsX6_takeOver := goodIn_r _ [18, 19, 20, 21, 22, 23, 24, 25, 26, 27, 28, 29, 30, 31, 32, 33, 34, 35, 36, 37, 38, 39, 40, 41, 42, 43, 44, 45, 46, 47, 48, 4, 49, 50, 51, 52, 53, 54, 55, 56, 57, 58, 59, 60, 61, 62, 63, 64, 65, 66, 78, 79, 80, 81, 82, 83, 84, 85, 86, 87, 88, 89, 90, 91, 92, 93, 94, 95, 96, 97, 98, 99, 100] (by decide +kernel) (by decide +kernel)
set_option maxRecDepth 20000 in
theorem gX8_saveSnapshot_X6_takeOver : GoodIn wsX8_saveSnapshot (wsV RX8 172 RX6 yX6_takeOver wsX6_takeOver) := goodIn_app (goodIn_of _ (by decide +kernel)) ggX8_saveSnapshot_X6_takeOver
theorem dX8_saveSnapshot_0 : decode cX8_saveSnapshot 0 = .ok (.iload_n 1, 1) := by decide +kernel
theorem dX8_saveSnapshot_1 : decode cX8_saveSnapshot 1 = .ok (.invokestatic 243, 3) := by decide +kernel
theorem dX8_saveSnapshot_4 : decode cX8_saveSnapshot 4 = .ok (.aload_n 0, 1) := by decide +kernel
theorem dX8_saveSnapshot_5 : decode cX8_saveSnapshot 5 = .ok (.iload_n 1, 1) := by decide +kernel
theorem dX8_saveSnapshot_6 : decode cX8_saveSnapshot 6 = .ok (.invokevirtual 246, 3) := by decide +kernel
theorem dX8_saveSnapshot_9 : decode cX8_saveSnapshot 9 = .ok (.astore_n 2, 1) := by decide +kernel
theorem dX8_saveSnapshot_10 : decode cX8_saveSnapshot 10 = .ok (.aload_n 2, 1) := by decide +kernel
theorem dX8_saveSnapshot_11 : decode cX8_saveSnapshot 11 = .ok (.getfield 250, 3) := by decide +kernel
theorem dX8_saveSnapshot_14 : decode cX8_saveSnapshot 14 = .ok (.istore_n 3, 1) := by decide +kernel
theorem dX8_saveSnapshot_15 : decode cX8_saveSnapshot 15 = .ok (.aload_n 2, 1) := by decide +kernel
theorem dX8_saveSnapshot_16 : decode cX8_saveSnapshot 16 = .ok (.getfield 254, 3) := by decide +kernel
theorem dX8_saveSnapshot_19 : decode cX8_saveSnapshot 19 = .ok (.aload_n 0, 1) := by decide +kernel
theorem dX8_saveSnapshot_20 : decode cX8_saveSnapshot 20 = .ok (.getfield 26, 3) := by decide +kernel
theorem dX8_saveSnapshot_23 : decode cX8_saveSnapshot 23 = .ok (.invokevirtual 172, 3) := by decide +kernel
theorem dX8_saveSnapshot_26 : decode cX8_saveSnapshot 26 = .ok (.aload_n 2, 1) := by decide +kernel
theorem dX8_saveSnapshot_27 : decode cX8_saveSnapshot 27 = .ok (.iconst 1, 1) := by decide +kernel
theorem dX8_saveSnapshot_28 : decode cX8_saveSnapshot 28 = .ok (.putfield 250, 3) := by decide +kernel
theorem dX8_saveSnapshot_31 : decode cX8_saveSnapshot 31 = .ok (.iload_n 3, 1) := by decide +kernel
theorem dX8_saveSnapshot_32 : decode cX8_saveSnapshot 32 = .ok (.ireturn, 1) := by decide +kernel
set_option maxRecDepth 20000 in
theorem ggX8_restoreSnapshot_X8_requireSlot : GoodIn wsX8_restoreSnapshot wsX8_requireSlot := goodIn_ca (goodIn_r _ [8, 9, 10] (by decide +kernel) (by decide +kernel)) (goodIn_sub (fun _ h => List.mem_cons_of_mem _ (List.mem_append_right _ h)) (by decide +kernel))
set_option maxRecDepth 20000 in
theorem gX8_restoreSnapshot_X8_requireSlot : GoodIn wsX8_restoreSnapshot (va_wsS RX8 243 yX8_requireSlot wsX8_requireSlot) := goodIn_app (goodIn_of _ (by decide +kernel)) ggX8_restoreSnapshot_X8_requireSlot
set_option maxRecDepth 20000 in
theorem ggX8_restoreSnapshot_X8_snapshotIn : GoodIn wsX8_restoreSnapshot wsX8_snapshotIn := goodIn_r _ [14, 15, 16, 78, 79, 80, 81, 82, 83, 84, 85, 86] (by decide +kernel) (by decide +kernel)
set_option maxRecDepth 20000 in
theorem gX8_restoreSnapshot_X8_snapshotIn : GoodIn wsX8_restoreSnapshot (wsV RX8 246 RX8 yX8_snapshotIn wsX8_snapshotIn) := goodIn_app (goodIn_of _ (by decide +kernel)) ggX8_restoreSnapshot_X8_snapshotIn
set_option maxRecDepth 20000 in
theorem ggX8_restoreSnapshot_X6_takeOver : GoodIn wsX8_restoreSnapshot wsX6_takeOver := goodIn_r _ [21, 22, 23, 24, 25, 26, 27, 28, 29, 30, 31, 32, 33, 34, 35, 36, 37, 38, 39, 40, 41, 42, 43, 44, 45, 46, 47, 48, 49, 50, 51, 7, 52, 53, 54, 55, 56, 57, 58, 59, 60, 61, 62, 63, 64, 65, 66, 67, 68, 69, 87, 88, 89, 90, 91, 92, 93, 94, 95, 96, 97, 98, 99, 100, 101, 102, 103, 104, 105, 106, 107, 108, 109] (by decide +kernel) (by decide +kernel)
set_option maxRecDepth 20000 in
theorem gX8_restoreSnapshot_X6_takeOver : GoodIn wsX8_restoreSnapshot (wsV RX8 172 RX6 yX6_takeOver wsX6_takeOver) := goodIn_app (goodIn_of _ (by decide +kernel)) ggX8_restoreSnapshot_X6_takeOver
set_option maxRecDepth 20000 in
theorem ggX8_restoreSnapshot_X0_forget : GoodIn wsX8_restoreSnapshot wsX0_forget := goodIn_r _ [74, 75, 110, 111, 112] (by decide +kernel) (by decide +kernel)
set_option maxRecDepth 20000 in
theorem gX8_restoreSnapshot_X0_forget : GoodIn wsX8_restoreSnapshot (wsV RX8 259 RX0 yX0_forget wsX0_forget) := goodIn_app (goodIn_of _ (by decide +kernel)) ggX8_restoreSnapshot_X0_forget
theorem dX8_restoreSnapshot_0 : decode cX8_restoreSnapshot 0 = .ok (.iload_n 1, 1) := by decide +kernel
theorem dX8_restoreSnapshot_1 : decode cX8_restoreSnapshot 1 = .ok (.invokestatic 243, 3) := by decide +kernel
theorem dX8_restoreSnapshot_4 : decode cX8_restoreSnapshot 4 = .ok (.aload_n 0, 1) := by decide +kernel
theorem dX8_restoreSnapshot_5 : decode cX8_restoreSnapshot 5 = .ok (.iload_n 1, 1) := by decide +kernel
theorem dX8_restoreSnapshot_6 : decode cX8_restoreSnapshot 6 = .ok (.invokevirtual 246, 3) := by decide +kernel
theorem dX8_restoreSnapshot_9 : decode cX8_restoreSnapshot 9 = .ok (.astore_n 2, 1) := by decide +kernel
theorem dX8_restoreSnapshot_10 : decode cX8_restoreSnapshot 10 = .ok (.aload_n 2, 1) := by decide +kernel
theorem dX8_restoreSnapshot_11 : decode cX8_restoreSnapshot 11 = .ok (.getfield 250, 3) := by decide +kernel
theorem dX8_restoreSnapshot_14 : decode cX8_restoreSnapshot 14 = .ok (.ifCond .ne 14, 3) := by decide +kernel
theorem dX8_restoreSnapshot_17 : decode cX8_restoreSnapshot 17 = .ok (.new 193, 3) := by decide +kernel
theorem dX8_restoreSnapshot_20 : decode cX8_restoreSnapshot 20 = .ok (.dup, 1) := by decide +kernel
theorem dX8_restoreSnapshot_21 : decode cX8_restoreSnapshot 21 = .ok (.ldc_w 257, 3) := by decide +kernel
theorem dX8_restoreSnapshot_24 : decode cX8_restoreSnapshot 24 = .ok (.invokespecial 197, 3) := by decide +kernel
theorem dX8_restoreSnapshot_27 : decode cX8_restoreSnapshot 27 = .ok (.athrow, 1) := by decide +kernel
theorem dX8_restoreSnapshot_28 : decode cX8_restoreSnapshot 28 = .ok (.aload_n 0, 1) := by decide +kernel
theorem dX8_restoreSnapshot_29 : decode cX8_restoreSnapshot 29 = .ok (.getfield 26, 3) := by decide +kernel
theorem dX8_restoreSnapshot_32 : decode cX8_restoreSnapshot 32 = .ok (.aload_n 2, 1) := by decide +kernel
theorem dX8_restoreSnapshot_33 : decode cX8_restoreSnapshot 33 = .ok (.getfield 254, 3) := by decide +kernel
theorem dX8_restoreSnapshot_36 : decode cX8_restoreSnapshot 36 = .ok (.invokevirtual 172, 3) := by decide +kernel
theorem dX8_restoreSnapshot_39 : decode cX8_restoreSnapshot 39 = .ok (.aload_n 0, 1) := by decide +kernel
theorem dX8_restoreSnapshot_40 : decode cX8_restoreSnapshot 40 = .ok (.getfield 43, 3) := by decide +kernel
theorem dX8_restoreSnapshot_43 : decode cX8_restoreSnapshot 43 = .ok (.invokevirtual 259, 3) := by decide +kernel
theorem dX8_restoreSnapshot_46 : decode cX8_restoreSnapshot 46 = .ok (.aload_n 0, 1) := by decide +kernel
theorem dX8_restoreSnapshot_47 : decode cX8_restoreSnapshot 47 = .ok (.getfield 26, 3) := by decide +kernel
theorem dX8_restoreSnapshot_50 : decode cX8_restoreSnapshot 50 = .ok (.getfield 190, 3) := by decide +kernel
theorem dX8_restoreSnapshot_53 : decode cX8_restoreSnapshot 53 = .ok (.ireturn, 1) := by decide +kernel
set_option maxRecDepth 20000 in
theorem ggX8_startAnew_X2_number : GoodIn wsX8_startAnew wsX2_number := goodIn_r _ [11, 12, 142] (by decide +kernel) (by decide +kernel)
set_option maxRecDepth 20000 in
theorem gX8_startAnew_X2_number : GoodIn wsX8_startAnew (wsV RX8 155 RX2 yX2_number wsX2_number) := goodIn_app (goodIn_of _ (by decide +kernel)) ggX8_startAnew_X2_number
set_option maxRecDepth 20000 in
theorem ggX8_startAnew_X6_begin : GoodIn wsX8_startAnew wsX6_begin := goodIn_r _ [17, 18, 19, 20, 21, 22, 23, 24, 25, 26, 27, 28, 29, 30, 31, 32, 33, 34, 35, 36, 37, 38, 39, 40, 41, 42, 43, 44, 45, 46, 47, 129, 130, 131, 132, 133, 134, 135, 136, 137, 138, 139, 143, 144, 145, 146, 147, 148, 149, 150, 151, 152] (by decide +kernel) (by decide +kernel)
set_option maxRecDepth 20000 in
theorem gX8_startAnew_X6_begin : GoodIn wsX8_startAnew (wsV RX8 262 RX6 yX6_begin wsX6_begin) := goodIn_app (goodIn_of _ (by decide +kernel)) ggX8_startAnew_X6_begin
set_option maxRecDepth 20000 in
theorem ggX8_startAnew_X5_tryAll : GoodIn wsX8_startAnew wsX5_tryAll := goodIn_r _ [52, 53, 8, 9, 10, 11, 12, 54, 55, 56, 57, 29, 30, 31, 32, 33, 34, 35, 36, 37, 38, 58, 59, 51, 60, 61, 62, 63, 64, 65, 66, 67, 68, 69, 70, 71, 72, 73, 74, 75, 76, 77, 78, 79, 80, 81, 82, 83, 84, 85, 86, 87, 88, 89, 90, 91, 92, 93, 94, 95, 96, 97, 98, 99, 100, 101, 102, 103, 104, 105, 106, 107, 108, 109, 110, 111, 112, 113, 143, 144, 145, 146, 147, 148, 142, 153, 154] (by decide +kernel) (by decide +kernel)
set_option maxRecDepth 20000 in
theorem gX8_startAnew_X5_tryAll : GoodIn wsX8_startAnew (wsV RX8 229 RX5 yX5_tryAll wsX5_tryAll) := goodIn_app (goodIn_of _ (by decide +kernel)) ggX8_startAnew_X5_tryAll
set_option maxRecDepth 20000 in
theorem ggX8_startAnew_X0_forget : GoodIn wsX8_startAnew wsX0_forget := goodIn_r _ [118, 119, 155, 156, 157] (by decide +kernel) (by decide +kernel)
set_option maxRecDepth 20000 in
theorem gX8_startAnew_X0_forget : GoodIn wsX8_startAnew (wsV RX8 259 RX0 yX0_forget wsX0_forget) := goodIn_app (goodIn_of _ (by decide +kernel)) ggX8_startAnew_X0_forget
theorem dX8_startAnew_0 : decode cX8_startAnew 0 = .ok (.aload_n 0, 1) := by decide +kernel
theorem dX8_startAnew_1 : decode cX8_startAnew 1 = .ok (.getfield 26, 3) := by decide +kernel
theorem dX8_startAnew_4 : decode cX8_startAnew 4 = .ok (.aload_n 0, 1) := by decide +kernel
theorem dX8_startAnew_5 : decode cX8_startAnew 5 = .ok (.getfield 10, 3) := by decide +kernel
theorem dX8_startAnew_8 : decode cX8_startAnew 8 = .ok (.bipush 7, 2) := by decide +kernel
theorem dX8_startAnew_10 : decode cX8_startAnew 10 = .ok (.invokevirtual 155, 3) := by decide +kernel
theorem dX8_startAnew_13 : decode cX8_startAnew 13 = .ok (.invokevirtual 262, 3) := by decide +kernel
theorem dX8_startAnew_16 : decode cX8_startAnew 16 = .ok (.aload_n 0, 1) := by decide +kernel
theorem dX8_startAnew_17 : decode cX8_startAnew 17 = .ok (.getfield 26, 3) := by decide +kernel
theorem dX8_startAnew_20 : decode cX8_startAnew 20 = .ok (.getfield 143, 3) := by decide +kernel
theorem dX8_startAnew_23 : decode cX8_startAnew 23 = .ok (.aload_n 0, 1) := by decide +kernel
theorem dX8_startAnew_24 : decode cX8_startAnew 24 = .ok (.getfield 10, 3) := by decide +kernel
theorem dX8_startAnew_27 : decode cX8_startAnew 27 = .ok (.aload_n 0, 1) := by decide +kernel
theorem dX8_startAnew_28 : decode cX8_startAnew 28 = .ok (.getfield 26, 3) := by decide +kernel
theorem dX8_startAnew_31 : decode cX8_startAnew 31 = .ok (.getfield 226, 3) := by decide +kernel
theorem dX8_startAnew_34 : decode cX8_startAnew 34 = .ok (.aload_n 0, 1) := by decide +kernel
theorem dX8_startAnew_35 : decode cX8_startAnew 35 = .ok (.getfield 36, 3) := by decide +kernel
theorem dX8_startAnew_38 : decode cX8_startAnew 38 = .ok (.invokevirtual 229, 3) := by decide +kernel
theorem dX8_startAnew_41 : decode cX8_startAnew 41 = .ok (.aload_n 0, 1) := by decide +kernel
theorem dX8_startAnew_42 : decode cX8_startAnew 42 = .ok (.getfield 43, 3) := by decide +kernel
theorem dX8_startAnew_45 : decode cX8_startAnew 45 = .ok (.invokevirtual 259, 3) := by decide +kernel
theorem dX8_startAnew_48 : decode cX8_startAnew 48 = .ok (.aload_n 0, 1) := by decide +kernel
theorem dX8_startAnew_49 : decode cX8_startAnew 49 = .ok (.getfield 50, 3) := by decide +kernel
theorem dX8_startAnew_52 : decode cX8_startAnew 52 = .ok (.iconst 0, 1) := by decide +kernel
theorem dX8_startAnew_53 : decode cX8_startAnew 53 = .ok (.putfield 250, 3) := by decide +kernel
theorem dX8_startAnew_56 : decode cX8_startAnew 56 = .ok (.aload_n 0, 1) := by decide +kernel
theorem dX8_startAnew_57 : decode cX8_startAnew 57 = .ok (.getfield 54, 3) := by decide +kernel
theorem dX8_startAnew_60 : decode cX8_startAnew 60 = .ok (.iconst 0, 1) := by decide +kernel
theorem dX8_startAnew_61 : decode cX8_startAnew 61 = .ok (.putfield 250, 3) := by decide +kernel
theorem dX8_startAnew_64 : decode cX8_startAnew 64 = .ok (.return_, 1) := by decide +kernel
theorem dX8_snapshotIn_0 : decode cX8_snapshotIn 0 = .ok (.iload_n 1, 1) := by decide +kernel
theorem dX8_snapshotIn_1 : decode cX8_snapshotIn 1 = .ok (.ifCond .ne 10, 3) := by decide +kernel
theorem dX8_snapshotIn_4 : decode cX8_snapshotIn 4 = .ok (.aload_n 0, 1) := by decide +kernel
theorem dX8_snapshotIn_5 : decode cX8_snapshotIn 5 = .ok (.getfield 50, 3) := by decide +kernel
theorem dX8_snapshotIn_8 : decode cX8_snapshotIn 8 = .ok (.goto 7, 3) := by decide +kernel
theorem dX8_snapshotIn_11 : decode cX8_snapshotIn 11 = .ok (.aload_n 0, 1) := by decide +kernel
theorem dX8_snapshotIn_12 : decode cX8_snapshotIn 12 = .ok (.getfield 54, 3) := by decide +kernel
theorem dX8_snapshotIn_15 : decode cX8_snapshotIn 15 = .ok (.areturn, 1) := by decide +kernel
set_option maxRecDepth 20000 in
theorem ggX8_ticksUntil_X6_takeOver : GoodIn wsX8_ticksUntil wsX6_takeOver := goodIn_r _ [7, 8, 9, 10, 11, 12, 13, 14, 15, 16, 17, 18, 19, 20, 21, 22, 23, 24, 25, 26, 27, 28, 29, 30, 31, 32, 33, 34, 35, 36, 37, 38, 39, 40, 41, 42, 43, 44, 45, 46, 47, 48, 49, 50, 51, 52, 53, 54, 55, 56, 196, 197, 198, 199, 200, 201, 202, 203, 204, 205, 206, 207, 208, 209, 210, 211, 212, 213, 214, 215, 216, 217, 218] (by decide +kernel) (by decide +kernel)
set_option maxRecDepth 20000 in
theorem gX8_ticksUntil_X6_takeOver : GoodIn wsX8_ticksUntil (wsV RX8 172 RX6 yX6_takeOver wsX6_takeOver) := goodIn_app (goodIn_of _ (by decide +kernel)) ggX8_ticksUntil_X6_takeOver
set_option maxRecDepth 20000 in
theorem ggX8_ticksUntil_X8_doTick : GoodIn wsX8_ticksUntil wsX8_doTick := goodIn_r _ [60, 61, 62, 63, 64, 51, 65, 56, 55, 54, 53, 66, 67, 68, 38, 69, 70, 71, 72, 73, 74, 75, 76, 77, 78, 79, 80, 81, 82, 83, 84, 85, 22, 86, 26, 27, 87, 88, 89, 90, 91, 92, 28, 29, 93, 94, 95, 96, 97, 98, 99, 100, 101, 102, 103, 104, 105, 106, 107, 108, 109, 110, 33, 111, 35, 112, 113, 114, 115, 116, 117, 118, 119, 120, 121, 122, 123, 124, 125, 126, 127, 128, 129, 130, 131, 132, 133, 134, 135, 136, 137, 138, 139, 140, 141, 142, 143, 144, 145, 146, 147, 148, 149, 150, 151, 152, 153, 154, 155, 156, 157, 158, 159, 160, 161, 162, 163, 164, 165, 166, 167, 168, 169, 41, 42, 43, 170, 171, 172, 173, 174, 175, 176, 177, 178, 179, 180, 181, 182, 183, 184, 185, 186, 196, 197, 198, 199, 200, 201, 202, 203, 204, 205, 206, 187, 188, 189, 190, 191, 192, 193, 194, 195, 215, 216, 217, 218, 207, 208, 209, 210, 211, 212, 219, 213, 214] (by decide +kernel) (by decide +kernel)
set_option maxRecDepth 20000 in
theorem gX8_ticksUntil_X8_doTick : GoodIn wsX8_ticksUntil (wsV RX8 184 RX8 yX8_doTick wsX8_doTick) := goodIn_app (goodIn_of _ (by decide +kernel)) ggX8_ticksUntil_X8_doTick
theorem dX8_ticksUntil_0 : decode cX8_ticksUntil 0 = .ok (.aload_n 0, 1) := by decide +kernel
theorem dX8_ticksUntil_1 : decode cX8_ticksUntil 1 = .ok (.getfield 30, 3) := by decide +kernel
theorem dX8_ticksUntil_4 : decode cX8_ticksUntil 4 = .ok (.aload_n 0, 1) := by decide +kernel
theorem dX8_ticksUntil_5 : decode cX8_ticksUntil 5 = .ok (.getfield 26, 3) := by decide +kernel
theorem dX8_ticksUntil_8 : decode cX8_ticksUntil 8 = .ok (.invokevirtual 172, 3) := by decide +kernel
theorem dX8_ticksUntil_11 : decode cX8_ticksUntil 11 = .ok (.iconst 0, 1) := by decide +kernel
theorem dX8_ticksUntil_12 : decode cX8_ticksUntil 12 = .ok (.istore_n 3, 1) := by decide +kernel
theorem dX8_ticksUntil_13 : decode cX8_ticksUntil 13 = .ok (.iload_n 3, 1) := by decide +kernel
theorem dX8_ticksUntil_14 : decode cX8_ticksUntil 14 = .ok (.iload_n 2, 1) := by decide +kernel
theorem dX8_ticksUntil_15 : decode cX8_ticksUntil 15 = .ok (.if_icmp .ge 28, 3) := by decide +kernel
theorem dX8_ticksUntil_18 : decode cX8_ticksUntil 18 = .ok (.aload_n 0, 1) := by decide +kernel
theorem dX8_ticksUntil_19 : decode cX8_ticksUntil 19 = .ok (.getfield 30, 3) := by decide +kernel
theorem dX8_ticksUntil_22 : decode cX8_ticksUntil 22 = .ok (.getfield 203, 3) := by decide +kernel
theorem dX8_ticksUntil_25 : decode cX8_ticksUntil 25 = .ok (.iload_n 1, 1) := by decide +kernel
theorem dX8_ticksUntil_26 : decode cX8_ticksUntil 26 = .ok (.if_icmp .eq 17, 3) := by decide +kernel
theorem dX8_ticksUntil_29 : decode cX8_ticksUntil 29 = .ok (.aload_n 0, 1) := by decide +kernel
theorem dX8_ticksUntil_30 : decode cX8_ticksUntil 30 = .ok (.aload_n 0, 1) := by decide +kernel
theorem dX8_ticksUntil_31 : decode cX8_ticksUntil 31 = .ok (.getfield 30, 3) := by decide +kernel
theorem dX8_ticksUntil_34 : decode cX8_ticksUntil 34 = .ok (.invokevirtual 184, 3) := by decide +kernel
theorem dX8_ticksUntil_37 : decode cX8_ticksUntil 37 = .ok (.iinc 3 1, 3) := by decide +kernel
theorem dX8_ticksUntil_40 : decode cX8_ticksUntil 40 = .ok (.goto (-27), 3) := by decide +kernel
theorem dX8_ticksUntil_43 : decode cX8_ticksUntil 43 = .ok (.aload_n 0, 1) := by decide +kernel
theorem dX8_ticksUntil_44 : decode cX8_ticksUntil 44 = .ok (.getfield 30, 3) := by decide +kernel
theorem dX8_ticksUntil_47 : decode cX8_ticksUntil 47 = .ok (.getfield 203, 3) := by decide +kernel
theorem dX8_ticksUntil_50 : decode cX8_ticksUntil 50 = .ok (.iload_n 1, 1) := by decide +kernel
theorem dX8_ticksUntil_51 : decode cX8_ticksUntil 51 = .ok (.if_icmp .ne 7, 3) := by decide +kernel
theorem dX8_ticksUntil_54 : decode cX8_ticksUntil 54 = .ok (.iload_n 3, 1) := by decide +kernel
theorem dX8_ticksUntil_55 : decode cX8_ticksUntil 55 = .ok (.goto 4, 3) := by decide +kernel
theorem dX8_ticksUntil_58 : decode cX8_ticksUntil 58 = .ok (.iconst (-1), 1) := by decide +kernel
theorem dX8_ticksUntil_59 : decode cX8_ticksUntil 59 = .ok (.ireturn, 1) := by decide +kernel
set_option maxRecDepth 20000 in
theorem ggX8_doTick_X4_passTick : GoodIn wsX8_doTick wsX4_passTick := goodIn_r _ [6, 7, 8, 9, 10, 163, 164, 165, 166] (by decide +kernel) (by decide +kernel)
set_option maxRecDepth 20000 in
theorem gX8_doTick_X4_passTick : GoodIn wsX8_doTick (wsV RX8 265 RX4 yX4_passTick wsX4_passTick) := goodIn_app (goodIn_of _ (by decide +kernel)) ggX8_doTick_X4_passTick
set_option maxRecDepth 20000 in
theorem ggX8_doTick_X8_switchModeIfDue : GoodIn wsX8_doTick wsX8_switchModeIfDue := goodIn_r _ [15, 1, 16, 17, 18, 14, 19, 20, 21, 22, 23, 24, 25, 26, 27, 28, 29, 30, 31, 32, 33, 34, 35, 36, 37, 38, 39, 40, 41, 42, 43, 44, 45, 46, 47, 48, 49, 50, 51, 52, 53, 54, 55, 56, 57, 58, 59, 60, 61, 62, 63, 64, 65, 66, 67, 68, 69, 70, 71, 72, 73, 74, 75, 76, 5, 77, 10, 78, 79, 80, 81, 82, 9, 8, 7, 83, 84, 85, 86, 87, 88, 89, 90, 91, 92, 93, 143, 144, 145, 146, 147, 148, 149, 150, 151, 152, 153, 154, 155, 156, 157, 158, 159, 160, 161, 162, 167, 168, 169, 170, 171, 172, 173, 174, 175, 163, 164, 165, 166] (by decide +kernel) (by decide +kernel)
set_option maxRecDepth 20000 in
theorem gX8_doTick_X8_switchModeIfDue : GoodIn wsX8_doTick (wsV RX8 268 RX8 yX8_switchModeIfDue wsX8_switchModeIfDue) := goodIn_app (goodIn_of _ (by decide +kernel)) ggX8_doTick_X8_switchModeIfDue
set_option maxRecDepth 20000 in
theorem ggX8_doTick_X8_pushIn : GoodIn wsX8_doTick wsX8_pushIn := goodIn_r _ [97, 1, 98, 99, 100, 27, 101, 102, 14, 103, 104, 105, 106, 107, 108, 109, 110, 111, 112, 113, 38, 39, 40, 32, 41, 42, 43, 44, 45, 46, 47, 48, 29, 30, 31, 33, 34, 35, 114, 115, 116, 117, 118, 119, 120, 121, 122, 123, 124, 125, 126, 127, 128, 36, 37, 143, 144, 145, 146, 147, 148, 149, 150, 151, 152, 153, 154, 155, 156, 157, 158, 159, 160, 161, 162, 167, 168, 169, 170, 171, 172, 173] (by decide +kernel) (by decide +kernel)
set_option maxRecDepth 20000 in
theorem gX8_doTick_X8_pushIn : GoodIn wsX8_doTick (wsV RX8 123 RX8 yX8_pushIn wsX8_pushIn) := goodIn_app (goodIn_of _ (by decide +kernel)) ggX8_doTick_X8_pushIn
set_option maxRecDepth 20000 in
theorem ggX8_doTick_X2_makeStep : GoodIn wsX8_doTick wsX2_makeStep := goodIn_r _ [132, 44, 45, 46, 27, 47, 48, 102, 14, 103, 104, 105, 106, 133, 134, 135, 136, 29, 30, 31, 32, 33, 34, 35, 38, 39, 40, 41, 42, 43, 137, 138, 139, 140, 141, 142, 57, 58, 167, 168, 169, 170, 171, 172, 173] (by decide +kernel) (by decide +kernel)
set_option maxRecDepth 20000 in
theorem gX8_doTick_X2_makeStep : GoodIn wsX8_doTick (wsV RX8 271 RX2 yX2_makeStep wsX2_makeStep) := goodIn_app (goodIn_of _ (by decide +kernel)) ggX8_doTick_X2_makeStep
theorem dX8_doTick_0 : decode cX8_doTick 0 = .ok (.aload_n 1, 1) := by decide +kernel
theorem dX8_doTick_1 : decode cX8_doTick 1 = .ok (.dup, 1) := by decide +kernel
theorem dX8_doTick_2 : decode cX8_doTick 2 = .ok (.getfield 190, 3) := by decide +kernel
theorem dX8_doTick_5 : decode cX8_doTick 5 = .ok (.iconst 1, 1) := by decide +kernel
theorem dX8_doTick_6 : decode cX8_doTick 6 = .ok (.iadd, 1) := by decide +kernel
theorem dX8_doTick_7 : decode cX8_doTick 7 = .ok (.putfield 190, 3) := by decide +kernel
theorem dX8_doTick_10 : decode cX8_doTick 10 = .ok (.aload_n 1, 1) := by decide +kernel
theorem dX8_doTick_11 : decode cX8_doTick 11 = .ok (.getfield 130, 3) := by decide +kernel
theorem dX8_doTick_14 : decode cX8_doTick 14 = .ok (.invokevirtual 265, 3) := by decide +kernel
theorem dX8_doTick_17 : decode cX8_doTick 17 = .ok (.aload_n 1, 1) := by decide +kernel
theorem dX8_doTick_18 : decode cX8_doTick 18 = .ok (.getfield 203, 3) := by decide +kernel
theorem dX8_doTick_21 : decode cX8_doTick 21 = .ok (.iconst 3, 1) := by decide +kernel
theorem dX8_doTick_22 : decode cX8_doTick 22 = .ok (.if_icmp .ne 4, 3) := by decide +kernel
theorem dX8_doTick_25 : decode cX8_doTick 25 = .ok (.return_, 1) := by decide +kernel
theorem dX8_doTick_26 : decode cX8_doTick 26 = .ok (.aload_n 1, 1) := by decide +kernel
theorem dX8_doTick_27 : decode cX8_doTick 27 = .ok (.getfield 212, 3) := by decide +kernel
theorem dX8_doTick_30 : decode cX8_doTick 30 = .ok (.ifCond .le 13, 3) := by decide +kernel
theorem dX8_doTick_33 : decode cX8_doTick 33 = .ok (.aload_n 1, 1) := by decide +kernel
theorem dX8_doTick_34 : decode cX8_doTick 34 = .ok (.dup, 1) := by decide +kernel
theorem dX8_doTick_35 : decode cX8_doTick 35 = .ok (.getfield 212, 3) := by decide +kernel
theorem dX8_doTick_38 : decode cX8_doTick 38 = .ok (.iconst 1, 1) := by decide +kernel
theorem dX8_doTick_39 : decode cX8_doTick 39 = .ok (.isub, 1) := by decide +kernel
theorem dX8_doTick_40 : decode cX8_doTick 40 = .ok (.putfield 212, 3) := by decide +kernel
theorem dX8_doTick_43 : decode cX8_doTick 43 = .ok (.aload_n 0, 1) := by decide +kernel
theorem dX8_doTick_44 : decode cX8_doTick 44 = .ok (.aload_n 1, 1) := by decide +kernel
theorem dX8_doTick_45 : decode cX8_doTick 45 = .ok (.invokevirtual 268, 3) := by decide +kernel
theorem dX8_doTick_48 : decode cX8_doTick 48 = .ok (.aload_n 0, 1) := by decide +kernel
theorem dX8_doTick_49 : decode cX8_doTick 49 = .ok (.getfield 10, 3) := by decide +kernel
theorem dX8_doTick_52 : decode cX8_doTick 52 = .ok (.aload_n 1, 1) := by decide +kernel
theorem dX8_doTick_53 : decode cX8_doTick 53 = .ok (.getfield 109, 3) := by decide +kernel
theorem dX8_doTick_56 : decode cX8_doTick 56 = .ok (.aload_n 0, 1) := by decide +kernel
theorem dX8_doTick_57 : decode cX8_doTick 57 = .ok (.aload_n 1, 1) := by decide +kernel
theorem dX8_doTick_58 : decode cX8_doTick 58 = .ok (.invokevirtual 123, 3) := by decide +kernel
theorem dX8_doTick_61 : decode cX8_doTick 61 = .ok (.invokevirtual 271, 3) := by decide +kernel
theorem dX8_doTick_64 : decode cX8_doTick 64 = .ok (.istore_n 2, 1) := by decide +kernel
theorem dX8_doTick_65 : decode cX8_doTick 65 = .ok (.iload_n 2, 1) := by decide +kernel
theorem dX8_doTick_66 : decode cX8_doTick 66 = .ok (.ifCond .eq 23, 3) := by decide +kernel
theorem dX8_doTick_69 : decode cX8_doTick 69 = .ok (.aload_n 1, 1) := by decide +kernel
theorem dX8_doTick_70 : decode cX8_doTick 70 = .ok (.iconst 3, 1) := by decide +kernel
