set_option maxRecDepth 20000 in
theorem ggL_parse_X8_parse : GoodIn wsL_parse wsX8_parse := goodIn_ca (goodIn_r _ [6, 7, 8, 9, 10, 11, 5, 12, 13, 14, 15, 16, 17, 18, 19, 20, 21, 22, 23, 24, 25, 26, 27, 28, 29, 30, 31, 32, 33, 34, 35, 36, 37, 38, 39, 40, 41, 42, 43, 44, 45, 46, 47, 48, 49, 50, 51, 52, 53, 54, 55, 56, 57, 58, 59, 60, 61, 62, 63, 64, 65, 66, 67, 68, 69, 70, 71, 72, 73, 74, 75, 76, 77, 78, 79, 80, 81, 82, 83, 84, 85, 86, 87, 88, 89, 90, 91, 92, 93, 94, 95, 96, 97, 98, 99, 100, 101, 102, 103, 104, 105, 106, 107, 108, 109, 110, 111, 112, 113, 114, 115, 116, 117, 118, 119, 120, 121, 122, 123, 124, 125, 126, 127, 128, 129, 130, 131, 132, 133, 134, 135, 136, 137, 138, 139, 140, 141, 142, 143, 144, 145, 146, 147, 148, 149, 150, 151, 152, 153, 154, 155, 156, 157, 158, 159, 160, 161, 162, 163, 164, 165, 166, 167, 168, 169, 170, 171, 172, 173, 174, 175, 176, 177, 178, 179, 180, 181, 182, 183, 184, 185, 186, 187, 188, 189, 190, 191, 192, 193, 194, 195, 196, 197, 198, 199, 200, 201, 202, 203, 204, 205, 206, 207, 208, 209, 210, 211, 212, 213, 214, 215, 216, 217, 218, 219, 220, 221, 222, 223, 224, 225, 226, 227, 228, 229, 230, 231, 232, 233, 234, 235, 236, 237, 238, 239, 240, 241, 242, 243, 244, 245, 246, 247, 248, 249, 250, 251, 252, 253, 254, 255, 256, 257, 258, 259, 260, 261, 262, 263, 264, 265, 266, 267, 268, 269, 270, 271, 272, 273, 274, 275, 276, 277, 278, 279, 280, 281, 282, 283, 284, 285, 286, 287, 288, 289, 290, 291, 292, 293, 294, 295, 296, 297] (by decide +kernel) (by decide +kernel)) (goodIn_sub (fun _ h => List.mem_cons_of_mem _ (List.mem_append_right _ h)) (by decide +kernel))
set_option maxRecDepth 20000 in
theorem gL_parse_X8_parse : GoodIn wsL_parse (wsV RL 7 RX8 yX8_parse wsX8_parse) := goodIn_app (goodIn_of _ (by decide +kernel)) ggL_parse_X8_parse
theorem dL_parse_0 : decode cL_parse 0 = .ok (.aload_n 2, 1) := by decide +kernel
theorem dL_parse_1 : decode cL_parse 1 = .ok (.iconst 0, 1) := by decide +kernel
theorem dL_parse_2 : decode cL_parse 2 = .ok (.aload_n 0, 1) := by decide +kernel
theorem dL_parse_3 : decode cL_parse 3 = .ok (.iload_n 1, 1) := by decide +kernel
theorem dL_parse_4 : decode cL_parse 4 = .ok (.invokevirtual 7, 3) := by decide +kernel
theorem dL_parse_7 : decode cL_parse 7 = .ok (.i2l, 1) := by decide +kernel
theorem dL_parse_8 : decode cL_parse 8 = .ok (.lastore, 1) := by decide +kernel
theorem dL_parse_9 : decode cL_parse 9 = .ok (.goto 6, 3) := by decide +kernel
theorem dL_parse_12 : decode cL_parse 12 = .ok (.astore_n 3, 1) := by decide +kernel
theorem dL_parse_13 : decode cL_parse 13 = .ok (.iconst 1, 1) := by decide +kernel
theorem dL_parse_14 : decode cL_parse 14 = .ok (.ireturn, 1) := by decide +kernel
theorem dL_parse_15 : decode cL_parse 15 = .ok (.iconst 0, 1) := by decide +kernel
theorem dL_parse_16 : decode cL_parse 16 = .ok (.ireturn, 1) := by decide +kernel
set_option maxRecDepth 20000 in
theorem ggL_sine_X8_sine : GoodIn wsL_sine wsX8_sine := goodIn_ca (goodIn_r _ [6, 7, 8, 5, 9, 10, 11, 12, 13, 14, 15, 16, 17] (by decide +kernel) (by decide +kernel)) (goodIn_sub (fun _ h => List.mem_cons_of_mem _ (List.mem_append_right _ h)) (by decide +kernel))
set_option maxRecDepth 20000 in
theorem gL_sine_X8_sine : GoodIn wsL_sine (wsV RL 15 RX8 yX8_sine wsX8_sine) := goodIn_app (goodIn_of _ (by decide +kernel)) ggL_sine_X8_sine
theorem dL_sine_0 : decode cL_sine 0 = .ok (.aload_n 2, 1) := by decide +kernel
theorem dL_sine_1 : decode cL_sine 1 = .ok (.iconst 0, 1) := by decide +kernel
theorem dL_sine_2 : decode cL_sine 2 = .ok (.aload_n 0, 1) := by decide +kernel
theorem dL_sine_3 : decode cL_sine 3 = .ok (.iload_n 1, 1) := by decide +kernel
theorem dL_sine_4 : decode cL_sine 4 = .ok (.invokevirtual 15, 3) := by decide +kernel
theorem dL_sine_7 : decode cL_sine 7 = .ok (.i2l, 1) := by decide +kernel
theorem dL_sine_8 : decode cL_sine 8 = .ok (.lastore, 1) := by decide +kernel
theorem dL_sine_9 : decode cL_sine 9 = .ok (.goto 6, 3) := by decide +kernel
theorem dL_sine_12 : decode cL_sine 12 = .ok (.astore_n 3, 1) := by decide +kernel
theorem dL_sine_13 : decode cL_sine 13 = .ok (.iconst 1, 1) := by decide +kernel
theorem dL_sine_14 : decode cL_sine 14 = .ok (.ireturn, 1) := by decide +kernel
theorem dL_sine_15 : decode cL_sine 15 = .ok (.iconst 0, 1) := by decide +kernel
theorem dL_sine_16 : decode cL_sine 16 = .ok (.ireturn, 1) := by decide +kernel
set_option maxRecDepth 20000 in
theorem ggL_lean_X8_lean : GoodIn wsL_lean wsX8_lean := goodIn_ca (goodIn_r _ [6, 7, 8, 5, 9, 10, 11, 12, 13, 14] (by decide +kernel) (by decide +kernel)) (goodIn_sub (fun _ h => List.mem_cons_of_mem _ (List.mem_append_right _ h)) (by decide +kernel))
set_option maxRecDepth 20000 in
theorem gL_lean_X8_lean : GoodIn wsL_lean (wsV RL 18 RX8 yX8_lean wsX8_lean) := goodIn_app (goodIn_of _ (by decide +kernel)) ggL_lean_X8_lean
theorem dL_lean_0 : decode cL_lean 0 = .ok (.aload_n 2, 1) := by decide +kernel
theorem dL_lean_1 : decode cL_lean 1 = .ok (.iconst 0, 1) := by decide +kernel
theorem dL_lean_2 : decode cL_lean 2 = .ok (.aload_n 0, 1) := by decide +kernel
theorem dL_lean_3 : decode cL_lean 3 = .ok (.iload_n 1, 1) := by decide +kernel
theorem dL_lean_4 : decode cL_lean 4 = .ok (.invokevirtual 18, 3) := by decide +kernel
theorem dL_lean_7 : decode cL_lean 7 = .ok (.i2l, 1) := by decide +kernel
theorem dL_lean_8 : decode cL_lean 8 = .ok (.lastore, 1) := by decide +kernel
theorem dL_lean_9 : decode cL_lean 9 = .ok (.goto 6, 3) := by decide +kernel
theorem dL_lean_12 : decode cL_lean 12 = .ok (.astore_n 3, 1) := by decide +kernel
theorem dL_lean_13 : decode cL_lean 13 = .ok (.iconst 1, 1) := by decide +kernel
theorem dL_lean_14 : decode cL_lean 14 = .ok (.ireturn, 1) := by decide +kernel
theorem dL_lean_15 : decode cL_lean 15 = .ok (.iconst 0, 1) := by decide +kernel
theorem dL_lean_16 : decode cL_lean 16 = .ok (.ireturn, 1) := by decide +kernel
set_option maxRecDepth 20000 in
theorem ggL_state_X8_state : GoodIn wsL_state wsX8_state := goodIn_ca (goodIn_r _ [6, 7, 8, 9, 5, 10, 11, 12, 13, 14, 15, 16, 17, 18, 19, 20, 21, 22, 23, 24, 25, 26, 27, 28, 29, 30, 31, 32, 33, 34, 35, 36, 37, 38, 39, 40, 41, 42, 43, 44, 45, 46, 47, 48, 49, 50, 51] (by decide +kernel) (by decide +kernel)) (goodIn_sub (fun _ h => List.mem_cons_of_mem _ (List.mem_append_right _ h)) (by decide +kernel))
set_option maxRecDepth 20000 in
theorem gL_state_X8_state : GoodIn wsL_state (wsV RL 21 RX8 yX8_state wsX8_state) := goodIn_app (goodIn_of _ (by decide +kernel)) ggL_state_X8_state
theorem dL_state_0 : decode cL_state 0 = .ok (.aload_n 2, 1) := by decide +kernel
theorem dL_state_1 : decode cL_state 1 = .ok (.iconst 0, 1) := by decide +kernel
theorem dL_state_2 : decode cL_state 2 = .ok (.aload_n 0, 1) := by decide +kernel
theorem dL_state_3 : decode cL_state 3 = .ok (.iload_n 1, 1) := by decide +kernel
theorem dL_state_4 : decode cL_state 4 = .ok (.invokevirtual 21, 3) := by decide +kernel
theorem dL_state_7 : decode cL_state 7 = .ok (.i2l, 1) := by decide +kernel
theorem dL_state_8 : decode cL_state 8 = .ok (.lastore, 1) := by decide +kernel
theorem dL_state_9 : decode cL_state 9 = .ok (.goto 6, 3) := by decide +kernel
theorem dL_state_12 : decode cL_state 12 = .ok (.astore_n 3, 1) := by decide +kernel
theorem dL_state_13 : decode cL_state 13 = .ok (.iconst 1, 1) := by decide +kernel
theorem dL_state_14 : decode cL_state 14 = .ok (.ireturn, 1) := by decide +kernel
theorem dL_state_15 : decode cL_state 15 = .ok (.iconst 0, 1) := by decide +kernel
theorem dL_state_16 : decode cL_state 16 = .ok (.ireturn, 1) := by decide +kernel
set_option maxRecDepth 20000 in
theorem ggL_link_X8_link : GoodIn wsL_link wsX8_link := goodIn_ca (goodIn_ca (goodIn_r _ [7, 8, 9, 10, 6, 11, 12, 13, 14, 15, 16, 17, 18, 19, 20, 21, 22, 23, 24, 25, 26, 27, 28, 29, 30, 31, 32, 33, 34, 35, 36, 37, 38, 39, 40, 41, 42, 43, 44, 45, 46, 47, 48, 49, 50, 51, 52, 53, 54, 55, 56, 57, 58, 59, 60, 61, 62, 63] (by decide +kernel) (by decide +kernel)) (goodIn_sub (fun _ h => List.mem_cons_of_mem _ (List.mem_append_left _ (List.mem_append_right _ h))) (by decide +kernel))) (goodIn_sub (fun _ h => List.mem_cons_of_mem _ (List.mem_append_right _ h)) (by decide +kernel))
set_option maxRecDepth 20000 in
theorem gL_link_X8_link : GoodIn wsL_link (wsV RL 24 RX8 yX8_link wsX8_link) := goodIn_app (goodIn_of _ (by decide +kernel)) ggL_link_X8_link
theorem dL_link_0 : decode cL_link 0 = .ok (.aload_n 3, 1) := by decide +kernel
theorem dL_link_1 : decode cL_link 1 = .ok (.iconst 0, 1) := by decide +kernel
theorem dL_link_2 : decode cL_link 2 = .ok (.aload_n 0, 1) := by decide +kernel
theorem dL_link_3 : decode cL_link 3 = .ok (.iload_n 1, 1) := by decide +kernel
theorem dL_link_4 : decode cL_link 4 = .ok (.iload_n 2, 1) := by decide +kernel
theorem dL_link_5 : decode cL_link 5 = .ok (.invokevirtual 24, 3) := by decide +kernel
theorem dL_link_8 : decode cL_link 8 = .ok (.i2l, 1) := by decide +kernel
theorem dL_link_9 : decode cL_link 9 = .ok (.lastore, 1) := by decide +kernel
theorem dL_link_10 : decode cL_link 10 = .ok (.goto 11, 3) := by decide +kernel
theorem dL_link_13 : decode cL_link 13 = .ok (.astore 4, 2) := by decide +kernel
theorem dL_link_15 : decode cL_link 15 = .ok (.iconst 1, 1) := by decide +kernel
theorem dL_link_16 : decode cL_link 16 = .ok (.ireturn, 1) := by decide +kernel
theorem dL_link_17 : decode cL_link 17 = .ok (.astore 4, 2) := by decide +kernel
theorem dL_link_19 : decode cL_link 19 = .ok (.iconst 2, 1) := by decide +kernel
theorem dL_link_20 : decode cL_link 20 = .ok (.ireturn, 1) := by decide +kernel
theorem dL_link_21 : decode cL_link 21 = .ok (.iconst 0, 1) := by decide +kernel
theorem dL_link_22 : decode cL_link 22 = .ok (.ireturn, 1) := by decide +kernel
set_option maxRecDepth 20000 in
theorem ggL_energy_X8_energy : GoodIn wsL_energy wsX8_energy := goodIn_ca (goodIn_r _ [6, 7, 8, 9, 10, 5, 11, 12, 13, 14, 15, 16, 17, 18, 19, 20, 21, 22, 23, 24, 25, 26, 27, 28, 29, 30, 31, 32, 33, 34, 35, 36, 37, 38, 39, 40, 41, 42, 43, 44, 45, 46, 47, 48, 49, 50, 51, 52, 53, 54, 55, 56, 57, 58, 59, 60, 61, 62, 63, 64, 65, 66, 67, 68, 69, 70, 71] (by decide +kernel) (by decide +kernel)) (goodIn_sub (fun _ h => List.mem_cons_of_mem _ (List.mem_append_right _ h)) (by decide +kernel))
set_option maxRecDepth 20000 in
theorem gL_energy_X8_energy : GoodIn wsL_energy (wsV RL 30 RX8 yX8_energy wsX8_energy) := goodIn_app (goodIn_of _ (by decide +kernel)) ggL_energy_X8_energy
theorem dL_energy_0 : decode cL_energy 0 = .ok (.aload_n 2, 1) := by decide +kernel
theorem dL_energy_1 : decode cL_energy 1 = .ok (.iconst 0, 1) := by decide +kernel
theorem dL_energy_2 : decode cL_energy 2 = .ok (.aload_n 0, 1) := by decide +kernel
theorem dL_energy_3 : decode cL_energy 3 = .ok (.iload_n 1, 1) := by decide +kernel
theorem dL_energy_4 : decode cL_energy 4 = .ok (.invokevirtual 30, 3) := by decide +kernel
theorem dL_energy_7 : decode cL_energy 7 = .ok (.lastore, 1) := by decide +kernel
theorem dL_energy_8 : decode cL_energy 8 = .ok (.goto 6, 3) := by decide +kernel
theorem dL_energy_11 : decode cL_energy 11 = .ok (.astore_n 3, 1) := by decide +kernel
theorem dL_energy_12 : decode cL_energy 12 = .ok (.iconst 1, 1) := by decide +kernel
theorem dL_energy_13 : decode cL_energy 13 = .ok (.ireturn, 1) := by decide +kernel
theorem dL_energy_14 : decode cL_energy 14 = .ok (.iconst 0, 1) := by decide +kernel
theorem dL_energy_15 : decode cL_energy 15 = .ok (.ireturn, 1) := by decide +kernel
set_option maxRecDepth 20000 in
theorem ggL_target_X8_target : GoodIn wsL_target wsX8_target := goodIn_ca (goodIn_r _ [6, 7, 8, 9, 5, 10, 11, 12, 13, 14, 15, 16, 17, 18, 19, 20, 21, 22, 23, 24, 25, 26, 27, 28, 29, 30, 31, 32] (by decide +kernel) (by decide +kernel)) (goodIn_sub (fun _ h => List.mem_cons_of_mem _ (List.mem_append_right _ h)) (by decide +kernel))
set_option maxRecDepth 20000 in
theorem gL_target_X8_target : GoodIn wsL_target (wsV RL 34 RX8 yX8_target wsX8_target) := goodIn_app (goodIn_of _ (by decide +kernel)) ggL_target_X8_target
theorem dL_target_0 : decode cL_target 0 = .ok (.aload_n 2, 1) := by decide +kernel
theorem dL_target_1 : decode cL_target 1 = .ok (.iconst 0, 1) := by decide +kernel
theorem dL_target_2 : decode cL_target 2 = .ok (.aload_n 0, 1) := by decide +kernel
theorem dL_target_3 : decode cL_target 3 = .ok (.iload_n 1, 1) := by decide +kernel
theorem dL_target_4 : decode cL_target 4 = .ok (.invokevirtual 34, 3) := by decide +kernel
theorem dL_target_7 : decode cL_target 7 = .ok (.i2l, 1) := by decide +kernel
theorem dL_target_8 : decode cL_target 8 = .ok (.lastore, 1) := by decide +kernel
theorem dL_target_9 : decode cL_target 9 = .ok (.goto 6, 3) := by decide +kernel
theorem dL_target_12 : decode cL_target 12 = .ok (.astore_n 3, 1) := by decide +kernel
theorem dL_target_13 : decode cL_target 13 = .ok (.iconst 1, 1) := by decide +kernel
theorem dL_target_14 : decode cL_target 14 = .ok (.ireturn, 1) := by decide +kernel
theorem dL_target_15 : decode cL_target 15 = .ok (.iconst 0, 1) := by decide +kernel
theorem dL_target_16 : decode cL_target 16 = .ok (.ireturn, 1) := by decide +kernel
set_option maxRecDepth 20000 in
theorem ggL_switchesIn_X8_switchesIn : GoodIn wsL_switchesIn wsX8_switchesIn := goodIn_ca (goodIn_r _ [6, 7, 8, 9, 5, 10, 11, 12, 13, 14, 15, 16, 17, 18, 19, 20, 21, 22, 23, 24, 25, 26, 27, 28, 29, 30, 31, 32, 33, 34, 35, 36, 37, 38, 39, 40, 41, 42, 43, 44, 45, 46, 47, 48, 49, 50, 51, 52, 53, 54, 55, 56] (by decide +kernel) (by decide +kernel)) (goodIn_sub (fun _ h => List.mem_cons_of_mem _ (List.mem_append_right _ h)) (by decide +kernel))
set_option maxRecDepth 20000 in
theorem gL_switchesIn_X8_switchesIn : GoodIn wsL_switchesIn (wsV RL 37 RX8 yX8_switchesIn wsX8_switchesIn) := goodIn_app (goodIn_of _ (by decide +kernel)) ggL_switchesIn_X8_switchesIn
theorem dL_switchesIn_0 : decode cL_switchesIn 0 = .ok (.aload_n 2, 1) := by decide +kernel
theorem dL_switchesIn_1 : decode cL_switchesIn 1 = .ok (.iconst 0, 1) := by decide +kernel
theorem dL_switchesIn_2 : decode cL_switchesIn 2 = .ok (.aload_n 0, 1) := by decide +kernel
theorem dL_switchesIn_3 : decode cL_switchesIn 3 = .ok (.iload_n 1, 1) := by decide +kernel
theorem dL_switchesIn_4 : decode cL_switchesIn 4 = .ok (.invokevirtual 37, 3) := by decide +kernel
theorem dL_switchesIn_7 : decode cL_switchesIn 7 = .ok (.i2l, 1) := by decide +kernel
theorem dL_switchesIn_8 : decode cL_switchesIn 8 = .ok (.lastore, 1) := by decide +kernel
theorem dL_switchesIn_9 : decode cL_switchesIn 9 = .ok (.goto 6, 3) := by decide +kernel
theorem dL_switchesIn_12 : decode cL_switchesIn 12 = .ok (.astore_n 3, 1) := by decide +kernel
theorem dL_switchesIn_13 : decode cL_switchesIn 13 = .ok (.iconst 1, 1) := by decide +kernel
theorem dL_switchesIn_14 : decode cL_switchesIn 14 = .ok (.ireturn, 1) := by decide +kernel
theorem dL_switchesIn_15 : decode cL_switchesIn 15 = .ok (.iconst 0, 1) := by decide +kernel
theorem dL_switchesIn_16 : decode cL_switchesIn 16 = .ok (.ireturn, 1) := by decide +kernel
set_option maxRecDepth 20000 in
theorem ggL_reason_X8_reason : GoodIn wsL_reason wsX8_reason := goodIn_ca (goodIn_r _ [6, 7, 8, 9, 10, 5, 11, 12, 13, 14, 15, 16, 17, 18, 19, 20, 21, 22, 23, 24, 25, 26, 27, 28, 29, 30, 31, 32, 33, 34, 35, 36, 37, 38, 39, 40, 41, 42, 43, 44, 45, 46, 47, 48, 49, 50, 51, 52, 53, 54, 55, 56, 57, 58, 59, 60] (by decide +kernel) (by decide +kernel)) (goodIn_sub (fun _ h => List.mem_cons_of_mem _ (List.mem_append_right _ h)) (by decide +kernel))
set_option maxRecDepth 20000 in
theorem gL_reason_X8_reason : GoodIn wsL_reason (wsV RL 40 RX8 yX8_reason wsX8_reason) := goodIn_app (goodIn_of _ (by decide +kernel)) ggL_reason_X8_reason
theorem dL_reason_0 : decode cL_reason 0 = .ok (.aload_n 3, 1) := by decide +kernel
theorem dL_reason_1 : decode cL_reason 1 = .ok (.iconst 0, 1) := by decide +kernel
theorem dL_reason_2 : decode cL_reason 2 = .ok (.aload_n 0, 1) := by decide +kernel
theorem dL_reason_3 : decode cL_reason 3 = .ok (.iload_n 1, 1) := by decide +kernel
theorem dL_reason_4 : decode cL_reason 4 = .ok (.iload_n 2, 1) := by decide +kernel
theorem dL_reason_5 : decode cL_reason 5 = .ok (.invokevirtual 40, 3) := by decide +kernel
theorem dL_reason_8 : decode cL_reason 8 = .ok (.i2l, 1) := by decide +kernel
theorem dL_reason_9 : decode cL_reason 9 = .ok (.lastore, 1) := by decide +kernel
theorem dL_reason_10 : decode cL_reason 10 = .ok (.goto 7, 3) := by decide +kernel
theorem dL_reason_13 : decode cL_reason 13 = .ok (.astore 4, 2) := by decide +kernel
theorem dL_reason_15 : decode cL_reason 15 = .ok (.iconst 1, 1) := by decide +kernel
theorem dL_reason_16 : decode cL_reason 16 = .ok (.ireturn, 1) := by decide +kernel
theorem dL_reason_17 : decode cL_reason 17 = .ok (.iconst 0, 1) := by decide +kernel
theorem dL_reason_18 : decode cL_reason 18 = .ok (.ireturn, 1) := by decide +kernel
set_option maxRecDepth 20000 in
theorem ggL_failedStep_X8_failedStep : GoodIn wsL_failedStep wsX8_failedStep := goodIn_ca (goodIn_r _ [6, 7, 8, 9, 10, 5, 11, 12, 13, 14, 15, 16, 17, 18, 19, 20, 21, 22, 23, 24, 25, 26, 27, 28, 29, 30, 31, 32, 33, 34, 35, 36, 37, 38, 39, 40, 41, 42, 43, 44, 45, 46, 47, 48, 49, 50, 51, 52, 53, 54, 55, 56, 57, 58, 59, 60] (by decide +kernel) (by decide +kernel)) (goodIn_sub (fun _ h => List.mem_cons_of_mem _ (List.mem_append_right _ h)) (by decide +kernel))
set_option maxRecDepth 20000 in
theorem gL_failedStep_X8_failedStep : GoodIn wsL_failedStep (wsV RL 43 RX8 yX8_failedStep wsX8_failedStep) := goodIn_app (goodIn_of _ (by decide +kernel)) ggL_failedStep_X8_failedStep
theorem dL_failedStep_0 : decode cL_failedStep 0 = .ok (.aload_n 3, 1) := by decide +kernel
theorem dL_failedStep_1 : decode cL_failedStep 1 = .ok (.iconst 0, 1) := by decide +kernel
theorem dL_failedStep_2 : decode cL_failedStep 2 = .ok (.aload_n 0, 1) := by decide +kernel
theorem dL_failedStep_3 : decode cL_failedStep 3 = .ok (.iload_n 1, 1) := by decide +kernel
theorem dL_failedStep_4 : decode cL_failedStep 4 = .ok (.iload_n 2, 1) := by decide +kernel
theorem dL_failedStep_5 : decode cL_failedStep 5 = .ok (.invokevirtual 43, 3) := by decide +kernel
theorem dL_failedStep_8 : decode cL_failedStep 8 = .ok (.i2l, 1) := by decide +kernel
theorem dL_failedStep_9 : decode cL_failedStep 9 = .ok (.lastore, 1) := by decide +kernel
theorem dL_failedStep_10 : decode cL_failedStep 10 = .ok (.goto 7, 3) := by decide +kernel
theorem dL_failedStep_13 : decode cL_failedStep 13 = .ok (.astore 4, 2) := by decide +kernel
theorem dL_failedStep_15 : decode cL_failedStep 15 = .ok (.iconst 1, 1) := by decide +kernel
theorem dL_failedStep_16 : decode cL_failedStep 16 = .ok (.ireturn, 1) := by decide +kernel
theorem dL_failedStep_17 : decode cL_failedStep 17 = .ok (.iconst 0, 1) := by decide +kernel
theorem dL_failedStep_18 : decode cL_failedStep 18 = .ok (.ireturn, 1) := by decide +kernel
set_option maxRecDepth 20000 in
theorem ggL_cellOf_X8_cellOf : GoodIn wsL_cellOf wsX8_cellOf := goodIn_ca (goodIn_ca (goodIn_r _ [7, 8, 9, 10, 11, 6, 12, 13, 14, 15, 16, 17, 18, 19, 20, 21, 22, 23, 24, 25, 26, 27, 28, 29, 30, 31, 32, 33, 34, 35, 36, 37, 38, 39, 40, 41, 42, 43, 44, 45, 46, 47, 48, 49, 50, 51, 52, 53, 54, 55, 56, 57, 58, 59, 60, 61, 62, 63, 64, 65, 66, 67, 68, 69, 70, 71, 72, 73, 74, 75] (by decide +kernel) (by decide +kernel)) (goodIn_sub (fun _ h => List.mem_cons_of_mem _ (List.mem_append_left _ (List.mem_append_right _ h))) (by decide +kernel))) (goodIn_sub (fun _ h => List.mem_cons_of_mem _ (List.mem_append_right _ h)) (by decide +kernel))
set_option maxRecDepth 20000 in
theorem gL_cellOf_X8_cellOf : GoodIn wsL_cellOf (wsV RL 46 RX8 yX8_cellOf wsX8_cellOf) := goodIn_app (goodIn_of _ (by decide +kernel)) ggL_cellOf_X8_cellOf
theorem dL_cellOf_0 : decode cL_cellOf 0 = .ok (.aload_n 3, 1) := by decide +kernel
theorem dL_cellOf_1 : decode cL_cellOf 1 = .ok (.iconst 0, 1) := by decide +kernel
theorem dL_cellOf_2 : decode cL_cellOf 2 = .ok (.aload_n 0, 1) := by decide +kernel
theorem dL_cellOf_3 : decode cL_cellOf 3 = .ok (.iload_n 1, 1) := by decide +kernel
theorem dL_cellOf_4 : decode cL_cellOf 4 = .ok (.iload_n 2, 1) := by decide +kernel
theorem dL_cellOf_5 : decode cL_cellOf 5 = .ok (.invokevirtual 46, 3) := by decide +kernel
theorem dL_cellOf_8 : decode cL_cellOf 8 = .ok (.i2l, 1) := by decide +kernel
theorem dL_cellOf_9 : decode cL_cellOf 9 = .ok (.lastore, 1) := by decide +kernel
theorem dL_cellOf_10 : decode cL_cellOf 10 = .ok (.goto 11, 3) := by decide +kernel
theorem dL_cellOf_13 : decode cL_cellOf 13 = .ok (.astore 4, 2) := by decide +kernel
theorem dL_cellOf_15 : decode cL_cellOf 15 = .ok (.iconst 1, 1) := by decide +kernel
theorem dL_cellOf_16 : decode cL_cellOf 16 = .ok (.ireturn, 1) := by decide +kernel
theorem dL_cellOf_17 : decode cL_cellOf 17 = .ok (.astore 4, 2) := by decide +kernel
theorem dL_cellOf_19 : decode cL_cellOf 19 = .ok (.iconst 2, 1) := by decide +kernel
theorem dL_cellOf_20 : decode cL_cellOf 20 = .ok (.ireturn, 1) := by decide +kernel
theorem dL_cellOf_21 : decode cL_cellOf 21 = .ok (.iconst 0, 1) := by decide +kernel
theorem dL_cellOf_22 : decode cL_cellOf 22 = .ok (.ireturn, 1) := by decide +kernel
set_option maxRecDepth 20000 in
theorem ggL_ticksToBalance_X8_ticksToBalance : GoodIn wsL_ticksToBalance wsX8_ticksToBalance := goodIn_ca (goodIn_r _ [6, 7, 8, 5, 9, 10, 11, 12, 13, 14, 15, 16, 17, 18, 19, 20, 21, 22, 23, 24, 25, 26, 27, 28, 29, 30, 31, 32, 33, 34, 35, 36, 37, 38, 39, 40, 41, 42, 43, 44, 45, 46, 47, 48, 49, 50, 51, 52, 53, 54, 55, 56, 57, 58, 59, 60, 61, 62, 63, 64, 65, 66, 67, 68, 69, 70, 71, 72, 73, 74, 75, 76, 77, 78, 79, 80, 81, 82, 83, 84, 85, 86, 87, 88, 89, 90, 91, 92, 93, 94, 95, 96, 97, 98, 99, 100, 101, 102, 103, 104, 105, 106, 107, 108, 109, 110, 111, 112, 113, 114, 115, 116, 117, 118, 119, 120, 121, 122, 123, 124, 125, 126, 127, 128, 129, 130, 131, 132, 133, 134, 135, 136, 137, 138, 139, 140, 141, 142, 143, 144, 145, 146, 147, 148, 149, 150, 151, 152, 153, 154, 155, 156, 157, 158, 159, 160, 161, 162, 163, 164, 165, 166, 167, 168, 169, 170, 171, 172, 173, 174, 175, 176, 177, 178, 179, 180, 181, 182, 183, 184, 185, 186, 187, 188, 189, 190, 191, 192, 193, 194, 195, 196, 197, 198, 199, 200, 201, 202, 203, 204, 205, 206, 207, 208, 209, 210, 211, 212, 213, 214, 215, 216, 217, 218, 219, 220, 221, 222, 223, 224, 225, 226, 227, 228, 229, 230, 231, 232, 233] (by decide +kernel) (by decide +kernel)) (goodIn_sub (fun _ h => List.mem_cons_of_mem _ (List.mem_append_right _ h)) (by decide +kernel))
set_option maxRecDepth 20000 in
theorem gL_ticksToBalance_X8_ticksToBalance : GoodIn wsL_ticksToBalance (wsV RL 49 RX8 yX8_ticksToBalance wsX8_ticksToBalance) := goodIn_app (goodIn_of _ (by decide +kernel)) ggL_ticksToBalance_X8_ticksToBalance
theorem dL_ticksToBalance_0 : decode cL_ticksToBalance 0 = .ok (.aload_n 2, 1) := by decide +kernel
theorem dL_ticksToBalance_1 : decode cL_ticksToBalance 1 = .ok (.iconst 0, 1) := by decide +kernel
theorem dL_ticksToBalance_2 : decode cL_ticksToBalance 2 = .ok (.aload_n 0, 1) := by decide +kernel
theorem dL_ticksToBalance_3 : decode cL_ticksToBalance 3 = .ok (.iload_n 1, 1) := by decide +kernel
theorem dL_ticksToBalance_4 : decode cL_ticksToBalance 4 = .ok (.invokevirtual 49, 3) := by decide +kernel
theorem dL_ticksToBalance_7 : decode cL_ticksToBalance 7 = .ok (.i2l, 1) := by decide +kernel
theorem dL_ticksToBalance_8 : decode cL_ticksToBalance 8 = .ok (.lastore, 1) := by decide +kernel
theorem dL_ticksToBalance_9 : decode cL_ticksToBalance 9 = .ok (.goto 6, 3) := by decide +kernel
theorem dL_ticksToBalance_12 : decode cL_ticksToBalance 12 = .ok (.astore_n 3, 1) := by decide +kernel
theorem dL_ticksToBalance_13 : decode cL_ticksToBalance 13 = .ok (.iconst 1, 1) := by decide +kernel
theorem dL_ticksToBalance_14 : decode cL_ticksToBalance 14 = .ok (.ireturn, 1) := by decide +kernel
theorem dL_ticksToBalance_15 : decode cL_ticksToBalance 15 = .ok (.iconst 0, 1) := by decide +kernel
theorem dL_ticksToBalance_16 : decode cL_ticksToBalance 16 = .ok (.ireturn, 1) := by decide +kernel
set_option maxRecDepth 20000 in
theorem ggL_ticksToStop_X8_ticksToStop : GoodIn wsL_ticksToStop wsX8_ticksToStop := goodIn_ca (goodIn_r _ [6, 7, 8, 5, 9, 10, 11, 12, 13, 14, 15, 16, 17, 18, 19, 20, 21, 22, 23, 24, 25, 26, 27, 28, 29, 30, 31, 32, 33, 34, 35, 36, 37, 38, 39, 40, 41, 42, 43, 44, 45, 46, 47, 48, 49, 50, 51, 52, 53, 54, 55, 56, 57, 58, 59, 60, 61, 62, 63, 64, 65, 66, 67, 68, 69, 70, 71, 72, 73, 74, 75, 76, 77, 78, 79, 80, 81, 82, 83, 84, 85, 86, 87, 88, 89, 90, 91, 92, 93, 94, 95, 96, 97, 98, 99, 100, 101, 102, 103, 104, 105, 106, 107, 108, 109, 110, 111, 112, 113, 114, 115, 116, 117, 118, 119, 120, 121, 122, 123, 124, 125, 126, 127, 128, 129, 130, 131, 132, 133, 134, 135, 136, 137, 138, 139, 140, 141, 142, 143, 144, 145, 146, 147, 148, 149, 150, 151, 152, 153, 154, 155, 156, 157, 158, 159, 160, 161, 162, 163, 164, 165, 166, 167, 168, 169, 170, 171, 172, 173, 174, 175, 176, 177, 178, 179, 180, 181, 182, 183, 184, 185, 186, 187, 188, 189, 190, 191, 192, 193, 194, 195, 196, 197, 198, 199, 200, 201, 202, 203, 204, 205, 206, 207, 208, 209, 210, 211, 212, 213, 214, 215, 216, 217, 218, 219, 220, 221, 222, 223, 224, 225, 226, 227, 228, 229, 230, 231, 232, 233] (by decide +kernel) (by decide +kernel)) (goodIn_sub (fun _ h => List.mem_cons_of_mem _ (List.mem_append_right _ h)) (by decide +kernel))
set_option maxRecDepth 20000 in
theorem gL_ticksToStop_X8_ticksToStop : GoodIn wsL_ticksToStop (wsV RL 52 RX8 yX8_ticksToStop wsX8_ticksToStop) := goodIn_app (goodIn_of _ (by decide +kernel)) ggL_ticksToStop_X8_ticksToStop
theorem dL_ticksToStop_0 : decode cL_ticksToStop 0 = .ok (.aload_n 2, 1) := by decide +kernel
theorem dL_ticksToStop_1 : decode cL_ticksToStop 1 = .ok (.iconst 0, 1) := by decide +kernel
theorem dL_ticksToStop_2 : decode cL_ticksToStop 2 = .ok (.aload_n 0, 1) := by decide +kernel
theorem dL_ticksToStop_3 : decode cL_ticksToStop 3 = .ok (.iload_n 1, 1) := by decide +kernel
theorem dL_ticksToStop_4 : decode cL_ticksToStop 4 = .ok (.invokevirtual 52, 3) := by decide +kernel
theorem dL_ticksToStop_7 : decode cL_ticksToStop 7 = .ok (.i2l, 1) := by decide +kernel
theorem dL_ticksToStop_8 : decode cL_ticksToStop 8 = .ok (.lastore, 1) := by decide +kernel
theorem dL_ticksToStop_9 : decode cL_ticksToStop 9 = .ok (.goto 6, 3) := by decide +kernel
theorem dL_ticksToStop_12 : decode cL_ticksToStop 12 = .ok (.astore_n 3, 1) := by decide +kernel
theorem dL_ticksToStop_13 : decode cL_ticksToStop 13 = .ok (.iconst 1, 1) := by decide +kernel
theorem dL_ticksToStop_14 : decode cL_ticksToStop 14 = .ok (.ireturn, 1) := by decide +kernel
theorem dL_ticksToStop_15 : decode cL_ticksToStop 15 = .ok (.iconst 0, 1) := by decide +kernel
theorem dL_ticksToStop_16 : decode cL_ticksToStop 16 = .ok (.ireturn, 1) := by decide +kernel
set_option maxRecDepth 20000 in
theorem ggL_farthest_X8_farthest : GoodIn wsL_farthest wsX8_farthest := goodIn_ca (goodIn_r _ [6, 7, 8, 9, 10, 11, 12, 13, 14, 15, 16, 17, 5, 18, 19, 20, 21, 22, 23, 24, 25, 26, 27, 28, 29, 30, 31, 32, 33, 34, 35, 36, 37, 38, 39, 40, 41, 42, 43, 44, 45, 46, 47, 48, 49, 50, 51, 52, 53, 54, 55, 56, 57, 58, 59, 60, 61, 62, 63, 64, 65, 66, 67, 68, 69, 70, 71, 72, 73, 74, 75, 76, 77, 78, 79, 80, 81, 82, 83, 84, 85, 86, 87, 88, 89, 90, 91, 92, 93, 94, 95, 96, 97, 98, 99, 100, 101, 102, 103, 104, 105, 106, 107, 108, 109, 110, 111, 112, 113, 114, 115, 116, 117, 118, 119, 120, 121, 122, 123, 124, 125, 126, 127, 128, 129, 130, 131, 132, 133, 134, 135, 136, 137, 138, 139, 140, 141, 142, 143, 144, 145, 146, 147, 148, 149, 150, 151, 152, 153, 154, 155, 156, 157, 158, 159, 160, 161, 162, 163, 164, 165, 166, 167, 168, 169, 170, 171, 172, 173, 174, 175, 176, 177, 178, 179, 180, 181, 182, 183, 184, 185, 186, 187, 188, 189, 190, 191, 192, 193, 194, 195, 196, 197, 198, 199, 200, 201, 202, 203, 204, 205, 206, 207, 208, 209, 210, 211, 212, 213, 214, 215, 216, 217, 218, 219, 220, 221, 222, 223, 224, 225, 226, 227, 228, 229, 230, 231, 232, 233] (by decide +kernel) (by decide +kernel)) (goodIn_sub (fun _ h => List.mem_cons_of_mem _ (List.mem_append_right _ h)) (by decide +kernel))
set_option maxRecDepth 20000 in
theorem gL_farthest_X8_farthest : GoodIn wsL_farthest (wsV RL 55 RX8 yX8_farthest wsX8_farthest) := goodIn_app (goodIn_of _ (by decide +kernel)) ggL_farthest_X8_farthest
theorem dL_farthest_0 : decode cL_farthest 0 = .ok (.aload_n 2, 1) := by decide +kernel
theorem dL_farthest_1 : decode cL_farthest 1 = .ok (.iconst 0, 1) := by decide +kernel
theorem dL_farthest_2 : decode cL_farthest 2 = .ok (.aload_n 0, 1) := by decide +kernel
theorem dL_farthest_3 : decode cL_farthest 3 = .ok (.iload_n 1, 1) := by decide +kernel
theorem dL_farthest_4 : decode cL_farthest 4 = .ok (.invokevirtual 55, 3) := by decide +kernel
theorem dL_farthest_7 : decode cL_farthest 7 = .ok (.i2l, 1) := by decide +kernel
theorem dL_farthest_8 : decode cL_farthest 8 = .ok (.lastore, 1) := by decide +kernel
theorem dL_farthest_9 : decode cL_farthest 9 = .ok (.goto 6, 3) := by decide +kernel
theorem dL_farthest_12 : decode cL_farthest 12 = .ok (.astore_n 3, 1) := by decide +kernel
theorem dL_farthest_13 : decode cL_farthest 13 = .ok (.iconst 1, 1) := by decide +kernel
theorem dL_farthest_14 : decode cL_farthest 14 = .ok (.ireturn, 1) := by decide +kernel
theorem dL_farthest_15 : decode cL_farthest 15 = .ok (.iconst 0, 1) := by decide +kernel
theorem dL_farthest_16 : decode cL_farthest 16 = .ok (.ireturn, 1) := by decide +kernel
set_option maxRecDepth 20000 in
theorem ggL_linkAfter_X8_linkAfter : GoodIn wsL_linkAfter wsX8_linkAfter := goodIn_ca (goodIn_ca (goodIn_r _ [7, 8, 9, 10, 11, 6, 12, 13, 14, 15, 16, 17, 18, 19, 20, 21, 22, 23, 24, 25, 26, 27, 28, 29, 30, 31, 32, 33, 34, 35, 36, 37, 38, 39, 40, 41, 42, 43, 44, 45, 46, 47, 48, 49, 50, 51, 52, 53, 54, 55, 56, 57, 58, 59, 60, 61, 62, 63, 64, 65, 66, 67, 68, 69, 70, 71, 72, 73, 74, 75, 76, 77, 78, 79, 80, 81, 82, 83, 84, 85, 86, 87, 88, 89, 90, 91, 92, 93, 94, 95, 96, 97, 98, 99, 100, 101, 102, 103, 104, 105, 106, 107, 108, 109, 110, 111, 112, 113, 114, 115, 116, 117, 118, 119, 120, 121, 122, 123, 124, 125, 126, 127, 128, 129, 130, 131, 132, 133, 134, 135, 136, 137, 138, 139, 140, 141, 142, 143, 144, 145, 146, 147, 148, 149, 150, 151, 152, 153, 154, 155, 156, 157, 158, 159, 160, 161, 162, 163, 164, 165, 166, 167, 168, 169, 170, 171, 172, 173, 174, 175, 176, 177, 178, 179, 180, 181, 182, 183, 184, 185, 186, 187, 188, 189, 190, 191, 192, 193, 194, 195, 196, 197, 198, 199, 200, 201, 202, 203, 204, 205, 206, 207, 208, 209, 210, 211, 212, 213, 214, 215, 216, 217, 218, 219, 220, 221, 222, 223, 224, 225, 226, 227, 228, 229, 230, 231, 232, 233, 234, 235, 236, 237, 238, 239, 240, 241] (by decide +kernel) (by decide +kernel)) (goodIn_sub (fun _ h => List.mem_cons_of_mem _ (List.mem_append_left _ (List.mem_append_right _ h))) (by decide +kernel))) (goodIn_sub (fun _ h => List.mem_cons_of_mem _ (List.mem_append_right _ h)) (by decide +kernel))
set_option maxRecDepth 20000 in
theorem gL_linkAfter_X8_linkAfter : GoodIn wsL_linkAfter (wsV RL 58 RX8 yX8_linkAfter wsX8_linkAfter) := goodIn_app (goodIn_of _ (by decide +kernel)) ggL_linkAfter_X8_linkAfter
theorem dL_linkAfter_0 : decode cL_linkAfter 0 = .ok (.aload 4, 2) := by decide +kernel
theorem dL_linkAfter_2 : decode cL_linkAfter 2 = .ok (.iconst 0, 1) := by decide +kernel
theorem dL_linkAfter_3 : decode cL_linkAfter 3 = .ok (.aload_n 0, 1) := by decide +kernel
theorem dL_linkAfter_4 : decode cL_linkAfter 4 = .ok (.iload_n 1, 1) := by decide +kernel
theorem dL_linkAfter_5 : decode cL_linkAfter 5 = .ok (.iload_n 2, 1) := by decide +kernel
theorem dL_linkAfter_6 : decode cL_linkAfter 6 = .ok (.iload_n 3, 1) := by decide +kernel
theorem dL_linkAfter_7 : decode cL_linkAfter 7 = .ok (.invokevirtual 58, 3) := by decide +kernel
theorem dL_linkAfter_10 : decode cL_linkAfter 10 = .ok (.i2l, 1) := by decide +kernel
theorem dL_linkAfter_11 : decode cL_linkAfter 11 = .ok (.lastore, 1) := by decide +kernel
theorem dL_linkAfter_12 : decode cL_linkAfter 12 = .ok (.goto 11, 3) := by decide +kernel
theorem dL_linkAfter_15 : decode cL_linkAfter 15 = .ok (.astore 5, 2) := by decide +kernel
theorem dL_linkAfter_17 : decode cL_linkAfter 17 = .ok (.iconst 1, 1) := by decide +kernel
theorem dL_linkAfter_18 : decode cL_linkAfter 18 = .ok (.ireturn, 1) := by decide +kernel
theorem dL_linkAfter_19 : decode cL_linkAfter 19 = .ok (.astore 5, 2) := by decide +kernel
theorem dL_linkAfter_21 : decode cL_linkAfter 21 = .ok (.iconst 2, 1) := by decide +kernel
theorem dL_linkAfter_22 : decode cL_linkAfter 22 = .ok (.ireturn, 1) := by decide +kernel
theorem dL_linkAfter_23 : decode cL_linkAfter 23 = .ok (.iconst 0, 1) := by decide +kernel
theorem dL_linkAfter_24 : decode cL_linkAfter 24 = .ok (.ireturn, 1) := by decide +kernel
set_option maxRecDepth 20000 in
theorem ggL_run_X8_run : GoodIn wsL_run wsX8_run := goodIn_ca (goodIn_ca (goodIn_r _ [7, 8, 9, 10, 11, 12, 13, 6, 14, 15, 16, 17, 18, 19, 20, 21, 22, 23, 24, 25, 26, 27, 28, 29, 30, 31, 32, 33, 34, 35, 36, 37, 38, 39, 40, 41, 42, 43, 44, 45, 46, 47, 48, 49, 50, 51, 52, 53, 54, 55, 56, 57, 58, 59, 60, 61, 62, 63, 64, 65, 66, 67, 68, 69, 70, 71, 72, 73, 74, 75, 76, 77, 78, 79, 80, 81, 82, 83, 84, 85, 86, 87, 88, 89, 90, 91, 92, 93, 94, 95, 96, 97, 98, 99, 100, 101, 102, 103, 104, 105, 106, 107, 108, 109, 110, 111, 112, 113, 114, 115, 116, 117, 118, 119, 120, 121, 122, 123, 124, 125, 126, 127, 128, 129, 130, 131, 132, 133, 134, 135, 136, 137, 138, 139, 140, 141, 142, 143, 144, 145, 146, 147, 148, 149, 150, 151, 152, 153, 154, 155, 156, 157, 158, 159, 160, 161, 162, 163, 164, 165, 166, 167, 168, 169, 170, 171, 172, 173, 174, 175, 176, 177, 178, 179, 180, 181, 182, 183, 184, 185, 186, 187, 188, 189, 190, 191, 192, 193, 194, 195, 196, 197, 198, 199, 200, 201, 202, 203, 204, 205, 206, 207, 208, 209, 210, 211, 212, 213, 214, 215, 216, 217, 218, 219, 220, 221, 222, 223, 224, 225, 226, 227, 228, 229, 230, 231, 232, 233, 234, 235, 236, 237, 238, 239, 240, 241, 242, 243, 244, 245, 246, 247, 248] (by decide +kernel) (by decide +kernel)) (goodIn_sub (fun _ h => List.mem_cons_of_mem _ (List.mem_append_left _ (List.mem_append_right _ h))) (by decide +kernel))) (goodIn_sub (fun _ h => List.mem_cons_of_mem _ (List.mem_append_right _ h)) (by decide +kernel))
set_option maxRecDepth 20000 in
theorem gL_run_X8_run : GoodIn wsL_run (wsV RL 62 RX8 yX8_run wsX8_run) := goodIn_app (goodIn_of _ (by decide +kernel)) ggL_run_X8_run
theorem dL_run_0 : decode cL_run 0 = .ok (.aload_n 2, 1) := by decide +kernel
theorem dL_run_1 : decode cL_run 1 = .ok (.iconst 0, 1) := by decide +kernel
theorem dL_run_2 : decode cL_run 2 = .ok (.aload_n 0, 1) := by decide +kernel
theorem dL_run_3 : decode cL_run 3 = .ok (.iload_n 1, 1) := by decide +kernel
theorem dL_run_4 : decode cL_run 4 = .ok (.invokevirtual 62, 3) := by decide +kernel
theorem dL_run_7 : decode cL_run 7 = .ok (.i2l, 1) := by decide +kernel
theorem dL_run_8 : decode cL_run 8 = .ok (.lastore, 1) := by decide +kernel
theorem dL_run_9 : decode cL_run 9 = .ok (.goto 9, 3) := by decide +kernel
theorem dL_run_12 : decode cL_run 12 = .ok (.astore_n 3, 1) := by decide +kernel
theorem dL_run_13 : decode cL_run 13 = .ok (.iconst 1, 1) := by decide +kernel
theorem dL_run_14 : decode cL_run 14 = .ok (.ireturn, 1) := by decide +kernel
theorem dL_run_15 : decode cL_run 15 = .ok (.astore_n 3, 1) := by decide +kernel
theorem dL_run_16 : decode cL_run 16 = .ok (.iconst 2, 1) := by decide +kernel
theorem dL_run_17 : decode cL_run 17 = .ok (.ireturn, 1) := by decide +kernel
theorem dL_run_18 : decode cL_run 18 = .ok (.iconst 0, 1) := by decide +kernel
theorem dL_run_19 : decode cL_run 19 = .ok (.ireturn, 1) := by decide +kernel
set_option maxRecDepth 20000 in
theorem ggL_setMode_X8_setMode : GoodIn wsL_setMode wsX8_setMode := goodIn_ca (goodIn_ca (goodIn_r _ [7, 8, 9, 10, 11, 6, 12, 13, 14, 15, 16, 17, 18, 19, 20, 21, 22, 23, 24, 25, 26, 27, 28, 29, 30, 31, 32, 33, 34, 35, 36, 37, 38, 39, 40, 41, 42, 43, 44, 45, 46, 47, 48, 49, 50, 51, 52, 53, 54, 55, 56, 57, 58, 59, 60, 61, 62, 63, 64, 65, 66, 67, 68, 69, 70, 71, 72, 73, 74, 75, 76, 77, 78, 79, 80, 81, 82, 83, 84, 85, 86, 87, 88, 89, 90, 91, 92, 93, 94, 95, 96, 97, 98, 99, 100, 101, 102, 103, 104, 105, 106, 107, 108, 109, 110, 111, 112, 113, 114, 115, 116, 117, 118, 119, 120, 121] (by decide +kernel) (by decide +kernel)) (goodIn_sub (fun _ h => List.mem_cons_of_mem _ (List.mem_append_left _ (List.mem_append_right _ h))) (by decide +kernel))) (goodIn_sub (fun _ h => List.mem_cons_of_mem _ (List.mem_append_right _ h)) (by decide +kernel))
set_option maxRecDepth 20000 in
theorem gL_setMode_X8_setMode : GoodIn wsL_setMode (wsV RL 67 RX8 yX8_setMode wsX8_setMode) := goodIn_app (goodIn_of _ (by decide +kernel)) ggL_setMode_X8_setMode
theorem dL_setMode_0 : decode cL_setMode 0 = .ok (.aload_n 2, 1) := by decide +kernel
theorem dL_setMode_1 : decode cL_setMode 1 = .ok (.iconst 0, 1) := by decide +kernel
theorem dL_setMode_2 : decode cL_setMode 2 = .ok (.aload_n 0, 1) := by decide +kernel
theorem dL_setMode_3 : decode cL_setMode 3 = .ok (.iload_n 1, 1) := by decide +kernel
theorem dL_setMode_4 : decode cL_setMode 4 = .ok (.invokevirtual 67, 3) := by decide +kernel
theorem dL_setMode_7 : decode cL_setMode 7 = .ok (.i2l, 1) := by decide +kernel
theorem dL_setMode_8 : decode cL_setMode 8 = .ok (.lastore, 1) := by decide +kernel
theorem dL_setMode_9 : decode cL_setMode 9 = .ok (.goto 9, 3) := by decide +kernel
theorem dL_setMode_12 : decode cL_setMode 12 = .ok (.astore_n 3, 1) := by decide +kernel
theorem dL_setMode_13 : decode cL_setMode 13 = .ok (.iconst 1, 1) := by decide +kernel
theorem dL_setMode_14 : decode cL_setMode 14 = .ok (.ireturn, 1) := by decide +kernel
theorem dL_setMode_15 : decode cL_setMode 15 = .ok (.astore_n 3, 1) := by decide +kernel
theorem dL_setMode_16 : decode cL_setMode 16 = .ok (.iconst 2, 1) := by decide +kernel
theorem dL_setMode_17 : decode cL_setMode 17 = .ok (.ireturn, 1) := by decide +kernel
theorem dL_setMode_18 : decode cL_setMode 18 = .ok (.iconst 0, 1) := by decide +kernel
theorem dL_setMode_19 : decode cL_setMode 19 = .ok (.ireturn, 1) := by decide +kernel
set_option maxRecDepth 20000 in
theorem ggL_reset_X8_reset : GoodIn wsL_reset wsX8_reset := goodIn_ca (goodIn_r _ [6, 7, 8, 9, 10, 5, 11, 12, 13, 14, 15, 16, 17, 18, 19, 20, 21, 22, 23, 24, 25, 26, 27, 28, 29, 30, 31, 32, 33, 34, 35, 36, 37, 38, 39, 40, 41, 42, 43, 44, 45, 46, 47, 48, 49, 50, 51, 52, 53, 54, 55, 56, 57, 58, 59, 60, 61, 62, 63, 64, 65, 66, 67, 68, 69, 70, 71, 72, 73, 74, 75, 76, 77, 78, 79, 80, 81, 82, 83, 84, 85, 86, 87, 88, 89, 90, 91, 92, 93, 94, 95, 96, 97, 98, 99, 100, 101, 102, 103, 104, 105, 106, 107, 108, 109, 110, 111, 112, 113, 114, 115, 116, 117, 118] (by decide +kernel) (by decide +kernel)) (goodIn_sub (fun _ h => List.mem_cons_of_mem _ (List.mem_append_right _ h)) (by decide +kernel))
set_option maxRecDepth 20000 in
theorem gL_reset_X8_reset : GoodIn wsL_reset (wsV RL 70 RX8 yX8_reset wsX8_reset) := goodIn_app (goodIn_of _ (by decide +kernel)) ggL_reset_X8_reset
theorem dL_reset_0 : decode cL_reset 0 = .ok (.aload_n 3, 1) := by decide +kernel
theorem dL_reset_1 : decode cL_reset 1 = .ok (.iconst 0, 1) := by decide +kernel
theorem dL_reset_2 : decode cL_reset 2 = .ok (.aload_n 0, 1) := by decide +kernel
theorem dL_reset_3 : decode cL_reset 3 = .ok (.iload_n 1, 1) := by decide +kernel
theorem dL_reset_4 : decode cL_reset 4 = .ok (.iload_n 2, 1) := by decide +kernel
theorem dL_reset_5 : decode cL_reset 5 = .ok (.invokevirtual 70, 3) := by decide +kernel
theorem dL_reset_8 : decode cL_reset 8 = .ok (.i2l, 1) := by decide +kernel
theorem dL_reset_9 : decode cL_reset 9 = .ok (.lastore, 1) := by decide +kernel
theorem dL_reset_10 : decode cL_reset 10 = .ok (.goto 7, 3) := by decide +kernel
theorem dL_reset_13 : decode cL_reset 13 = .ok (.astore 4, 2) := by decide +kernel
theorem dL_reset_15 : decode cL_reset 15 = .ok (.iconst 1, 1) := by decide +kernel
theorem dL_reset_16 : decode cL_reset 16 = .ok (.ireturn, 1) := by decide +kernel
theorem dL_reset_17 : decode cL_reset 17 = .ok (.iconst 0, 1) := by decide +kernel
theorem dL_reset_18 : decode cL_reset 18 = .ok (.ireturn, 1) := by decide +kernel
set_option maxRecDepth 20000 in
theorem ggL_nudge_X8_nudge : GoodIn wsL_nudge wsX8_nudge := goodIn_ca (goodIn_ca (goodIn_ca (goodIn_r _ [8, 9, 10, 11, 12, 13, 14, 7, 15, 16, 17, 18, 19, 20, 21, 22, 23, 24, 25, 26, 27, 28, 29, 30, 31, 32, 33, 34, 35, 36, 37, 38, 39, 40, 41, 42, 43, 44, 45, 46, 47, 48, 49, 50, 51, 52, 53, 54, 55, 56, 57, 58, 59, 60, 61, 62, 63, 64, 65, 66, 67, 68, 69, 70, 71, 72, 73, 74, 75, 76, 77, 78, 79, 80, 81, 82, 83, 84, 85, 86, 87, 88, 89, 90, 91, 92, 93, 94, 95, 96, 97, 98, 99, 100, 101, 102, 103, 104, 105, 106, 107, 108, 109, 110, 111, 112, 113, 114, 115, 116, 117, 118, 119, 120, 121, 122, 123, 124, 125, 126, 127, 128, 129, 130, 131, 132, 133, 134, 135] (by decide +kernel) (by decide +kernel)) (goodIn_sub (fun _ h => List.mem_cons_of_mem _ (List.mem_append_left _ (List.mem_append_left _ (List.mem_append_right _ h)))) (by decide +kernel))) (goodIn_sub (fun _ h => List.mem_cons_of_mem _ (List.mem_append_left _ (List.mem_append_right _ h))) (by decide +kernel))) (goodIn_sub (fun _ h => List.mem_cons_of_mem _ (List.mem_append_right _ h)) (by decide +kernel))
set_option maxRecDepth 20000 in
theorem gL_nudge_X8_nudge : GoodIn wsL_nudge (wsV RL 73 RX8 yX8_nudge wsX8_nudge) := goodIn_app (goodIn_of _ (by decide +kernel)) ggL_nudge_X8_nudge
theorem dL_nudge_0 : decode cL_nudge 0 = .ok (.aload_n 3, 1) := by decide +kernel
theorem dL_nudge_1 : decode cL_nudge 1 = .ok (.iconst 0, 1) := by decide +kernel
theorem dL_nudge_2 : decode cL_nudge 2 = .ok (.aload_n 0, 1) := by decide +kernel
theorem dL_nudge_3 : decode cL_nudge 3 = .ok (.iload_n 1, 1) := by decide +kernel
theorem dL_nudge_4 : decode cL_nudge 4 = .ok (.iload_n 2, 1) := by decide +kernel
theorem dL_nudge_5 : decode cL_nudge 5 = .ok (.invokevirtual 73, 3) := by decide +kernel
theorem dL_nudge_8 : decode cL_nudge 8 = .ok (.i2l, 1) := by decide +kernel
theorem dL_nudge_9 : decode cL_nudge 9 = .ok (.lastore, 1) := by decide +kernel
theorem dL_nudge_10 : decode cL_nudge 10 = .ok (.goto 15, 3) := by decide +kernel
theorem dL_nudge_13 : decode cL_nudge 13 = .ok (.astore 4, 2) := by decide +kernel
theorem dL_nudge_15 : decode cL_nudge 15 = .ok (.iconst 1, 1) := by decide +kernel
theorem dL_nudge_16 : decode cL_nudge 16 = .ok (.ireturn, 1) := by decide +kernel
theorem dL_nudge_17 : decode cL_nudge 17 = .ok (.astore 4, 2) := by decide +kernel
theorem dL_nudge_19 : decode cL_nudge 19 = .ok (.iconst 2, 1) := by decide +kernel
theorem dL_nudge_20 : decode cL_nudge 20 = .ok (.ireturn, 1) := by decide +kernel
theorem dL_nudge_21 : decode cL_nudge 21 = .ok (.astore 4, 2) := by decide +kernel
theorem dL_nudge_23 : decode cL_nudge 23 = .ok (.iconst 3, 1) := by decide +kernel
theorem dL_nudge_24 : decode cL_nudge 24 = .ok (.ireturn, 1) := by decide +kernel
theorem dL_nudge_25 : decode cL_nudge 25 = .ok (.iconst 0, 1) := by decide +kernel
theorem dL_nudge_26 : decode cL_nudge 26 = .ok (.ireturn, 1) := by decide +kernel
set_option maxRecDepth 20000 in
theorem ggL_setForce_X8_setForce : GoodIn wsL_setForce wsX8_setForce := goodIn_ca (goodIn_r _ [6, 7, 8, 9, 10, 11, 12, 5, 13, 14, 15, 16, 17, 18, 19, 20, 21, 22, 23, 24, 25, 26, 27, 28, 29, 30, 31, 32, 33, 34, 35, 36, 37, 38, 39, 40, 41, 42, 43, 44, 45, 46, 47, 48, 49, 50, 51, 52, 53, 54, 55, 56, 57, 58, 59, 60, 61, 62, 63, 64, 65, 66, 67, 68, 69, 70, 71, 72, 73, 74, 75, 76, 77, 78, 79, 80, 81, 82, 83, 84, 85, 86, 87, 88, 89, 90, 91, 92, 93, 94, 95, 96, 97, 98, 99, 100, 101, 102, 103, 104, 105, 106, 107, 108, 109, 110, 111, 112, 113, 114, 115, 116, 117, 118, 119, 120, 121, 122, 123, 124, 125, 126, 127, 128, 129, 130, 131, 132, 133, 134, 135, 136, 137, 138, 139, 140, 141, 142, 143, 144, 145, 146, 147, 148, 149, 150, 151, 152, 153, 154, 155, 156, 157, 158, 159, 160, 161, 162, 163, 164, 165, 166, 167, 168, 169, 170, 171, 172, 173, 174, 175, 176, 177, 178, 179, 180, 181, 182, 183, 184, 185, 186, 187, 188, 189, 190, 191, 192, 193, 194, 195, 196, 197, 198, 199] (by decide +kernel) (by decide +kernel)) (goodIn_sub (fun _ h => List.mem_cons_of_mem _ (List.mem_append_right _ h)) (by decide +kernel))
set_option maxRecDepth 20000 in
theorem gL_setForce_X8_setForce : GoodIn wsL_setForce (wsV RL 76 RX8 yX8_setForce wsX8_setForce) := goodIn_app (goodIn_of _ (by decide +kernel)) ggL_setForce_X8_setForce
theorem dL_setForce_0 : decode cL_setForce 0 = .ok (.aload_n 2, 1) := by decide +kernel
theorem dL_setForce_1 : decode cL_setForce 1 = .ok (.iconst 0, 1) := by decide +kernel
theorem dL_setForce_2 : decode cL_setForce 2 = .ok (.aload_n 0, 1) := by decide +kernel
theorem dL_setForce_3 : decode cL_setForce 3 = .ok (.iload_n 1, 1) := by decide +kernel
theorem dL_setForce_4 : decode cL_setForce 4 = .ok (.invokevirtual 76, 3) := by decide +kernel
theorem dL_setForce_7 : decode cL_setForce 7 = .ok (.i2l, 1) := by decide +kernel
theorem dL_setForce_8 : decode cL_setForce 8 = .ok (.lastore, 1) := by decide +kernel
theorem dL_setForce_9 : decode cL_setForce 9 = .ok (.goto 6, 3) := by decide +kernel
theorem dL_setForce_12 : decode cL_setForce 12 = .ok (.astore_n 3, 1) := by decide +kernel
theorem dL_setForce_13 : decode cL_setForce 13 = .ok (.iconst 1, 1) := by decide +kernel
theorem dL_setForce_14 : decode cL_setForce 14 = .ok (.ireturn, 1) := by decide +kernel
theorem dL_setForce_15 : decode cL_setForce 15 = .ok (.iconst 0, 1) := by decide +kernel
theorem dL_setForce_16 : decode cL_setForce 16 = .ok (.ireturn, 1) := by decide +kernel
set_option maxRecDepth 20000 in
theorem ggL_saveSnapshot_X8_saveSnapshot : GoodIn wsL_saveSnapshot wsX8_saveSnapshot := goodIn_ca (goodIn_r _ [6, 7, 8, 9, 5, 10, 11, 12, 13, 14, 15, 16, 17, 18, 19, 20, 21, 22, 23, 24, 25, 26, 27, 28, 29, 30, 31, 32, 33, 34, 35, 36, 37, 38, 39, 40, 41, 42, 43, 44, 45, 46, 47, 48, 49, 50, 51, 52, 53, 54, 55, 56, 57, 58, 59, 60, 61, 62, 63, 64, 65, 66, 67, 68, 69, 70, 71, 72, 73, 74, 75, 76, 77, 78, 79, 80, 81, 82, 83, 84, 85, 86, 87, 88, 89, 90, 91, 92, 93, 94, 95, 96, 97, 98, 99, 100, 101, 102, 103, 104, 105] (by decide +kernel) (by decide +kernel)) (goodIn_sub (fun _ h => List.mem_cons_of_mem _ (List.mem_append_right _ h)) (by decide +kernel))
set_option maxRecDepth 20000 in
theorem gL_saveSnapshot_X8_saveSnapshot : GoodIn wsL_saveSnapshot (wsV RL 79 RX8 yX8_saveSnapshot wsX8_saveSnapshot) := goodIn_app (goodIn_of _ (by decide +kernel)) ggL_saveSnapshot_X8_saveSnapshot
theorem dL_saveSnapshot_0 : decode cL_saveSnapshot 0 = .ok (.aload_n 2, 1) := by decide +kernel
theorem dL_saveSnapshot_1 : decode cL_saveSnapshot 1 = .ok (.iconst 0, 1) := by decide +kernel
theorem dL_saveSnapshot_2 : decode cL_saveSnapshot 2 = .ok (.aload_n 0, 1) := by decide +kernel
theorem dL_saveSnapshot_3 : decode cL_saveSnapshot 3 = .ok (.iload_n 1, 1) := by decide +kernel
theorem dL_saveSnapshot_4 : decode cL_saveSnapshot 4 = .ok (.invokevirtual 79, 3) := by decide +kernel
theorem dL_saveSnapshot_7 : decode cL_saveSnapshot 7 = .ok (.ifCond .eq 7, 3) := by decide +kernel
theorem dL_saveSnapshot_10 : decode cL_saveSnapshot 10 = .ok (.lconst 1, 1) := by decide +kernel
theorem dL_saveSnapshot_11 : decode cL_saveSnapshot 11 = .ok (.goto 4, 3) := by decide +kernel
theorem dL_saveSnapshot_14 : decode cL_saveSnapshot 14 = .ok (.lconst 0, 1) := by decide +kernel
theorem dL_saveSnapshot_15 : decode cL_saveSnapshot 15 = .ok (.lastore, 1) := by decide +kernel
theorem dL_saveSnapshot_16 : decode cL_saveSnapshot 16 = .ok (.goto 6, 3) := by decide +kernel
theorem dL_saveSnapshot_19 : decode cL_saveSnapshot 19 = .ok (.astore_n 3, 1) := by decide +kernel
theorem dL_saveSnapshot_20 : decode cL_saveSnapshot 20 = .ok (.iconst 1, 1) := by decide +kernel
theorem dL_saveSnapshot_21 : decode cL_saveSnapshot 21 = .ok (.ireturn, 1) := by decide +kernel
theorem dL_saveSnapshot_22 : decode cL_saveSnapshot 22 = .ok (.iconst 0, 1) := by decide +kernel
theorem dL_saveSnapshot_23 : decode cL_saveSnapshot 23 = .ok (.ireturn, 1) := by decide +kernel
set_option maxRecDepth 20000 in
theorem ggL_restoreSnapshot_X8_restoreSnapshot : GoodIn wsL_restoreSnapshot wsX8_restoreSnapshot := goodIn_ca (goodIn_ca (goodIn_r _ [7, 8, 9, 10, 11, 12, 13, 6, 14, 15, 16, 17, 18, 19, 20, 21, 22, 23, 24, 25, 26, 27, 28, 29, 30, 31, 32, 33, 34, 35, 36, 37, 38, 39, 40, 41, 42, 43, 44, 45, 46, 47, 48, 49, 50, 51, 52, 53, 54, 55, 56, 57, 58, 59, 60, 61, 62, 63, 64, 65, 66, 67, 68, 69, 70, 71, 72, 73, 74, 75, 76, 77, 78, 79, 80, 81, 82, 83, 84, 85, 86, 87, 88, 89, 90, 91, 92, 93, 94, 95, 96, 97, 98, 99, 100, 101, 102, 103, 104, 105, 106, 107, 108, 109, 110, 111, 112, 113, 114, 115, 116, 117, 118] (by decide +kernel) (by decide +kernel)) (goodIn_sub (fun _ h => List.mem_cons_of_mem _ (List.mem_append_left _ (List.mem_append_right _ h))) (by decide +kernel))) (goodIn_sub (fun _ h => List.mem_cons_of_mem _ (List.mem_append_right _ h)) (by decide +kernel))
set_option maxRecDepth 20000 in
theorem gL_restoreSnapshot_X8_restoreSnapshot : GoodIn wsL_restoreSnapshot (wsV RL 83 RX8 yX8_restoreSnapshot wsX8_restoreSnapshot) := goodIn_app (goodIn_of _ (by decide +kernel)) ggL_restoreSnapshot_X8_restoreSnapshot
theorem dL_restoreSnapshot_0 : decode cL_restoreSnapshot 0 = .ok (.aload_n 2, 1) := by decide +kernel
theorem dL_restoreSnapshot_1 : decode cL_restoreSnapshot 1 = .ok (.iconst 0, 1) := by decide +kernel
theorem dL_restoreSnapshot_2 : decode cL_restoreSnapshot 2 = .ok (.aload_n 0, 1) := by decide +kernel
theorem dL_restoreSnapshot_3 : decode cL_restoreSnapshot 3 = .ok (.iload_n 1, 1) := by decide +kernel
theorem dL_restoreSnapshot_4 : decode cL_restoreSnapshot 4 = .ok (.invokevirtual 83, 3) := by decide +kernel
theorem dL_restoreSnapshot_7 : decode cL_restoreSnapshot 7 = .ok (.i2l, 1) := by decide +kernel
theorem dL_restoreSnapshot_8 : decode cL_restoreSnapshot 8 = .ok (.lastore, 1) := by decide +kernel
theorem dL_restoreSnapshot_9 : decode cL_restoreSnapshot 9 = .ok (.goto 9, 3) := by decide +kernel
theorem dL_restoreSnapshot_12 : decode cL_restoreSnapshot 12 = .ok (.astore_n 3, 1) := by decide +kernel
theorem dL_restoreSnapshot_13 : decode cL_restoreSnapshot 13 = .ok (.iconst 1, 1) := by decide +kernel
theorem dL_restoreSnapshot_14 : decode cL_restoreSnapshot 14 = .ok (.ireturn, 1) := by decide +kernel
theorem dL_restoreSnapshot_15 : decode cL_restoreSnapshot 15 = .ok (.astore_n 3, 1) := by decide +kernel
theorem dL_restoreSnapshot_16 : decode cL_restoreSnapshot 16 = .ok (.iconst 2, 1) := by decide +kernel
theorem dL_restoreSnapshot_17 : decode cL_restoreSnapshot 17 = .ok (.ireturn, 1) := by decide +kernel
theorem dL_restoreSnapshot_18 : decode cL_restoreSnapshot 18 = .ok (.iconst 0, 1) := by decide +kernel
theorem dL_restoreSnapshot_19 : decode cL_restoreSnapshot 19 = .ok (.ireturn, 1) := by decide +kernel
