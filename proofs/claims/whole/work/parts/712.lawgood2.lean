/-! the words of what the law calls stand among its own (2) -/
set_option maxRecDepth 20000 in
theorem ggL_law_L_state : GoodIn wsL_law wsL_state := goodIn_ca (goodIn_r _ [485, 264, 486, 487, 488, 2, 489, 24, 269, 270, 271, 272, 273, 490, 491, 492, 23, 493, 112, 113, 55, 114, 115, 116, 117, 118, 1012, 1013, 1014, 1015, 1016, 1017, 1018, 1019, 1020, 1053, 1054, 1055, 1056, 1057, 1058, 1059, 1060, 1061, 1062, 1063, 1064, 1065, 1066, 1067, 1068, 1069] (by decide +kernel) (by decide +kernel)) (goodIn_sub (fun _ h => List.mem_append_left _ (List.mem_append_left _ (List.mem_append_right _ h))) (by decide +kernel))
set_option maxRecDepth 20000 in
theorem gL_law_L_state : GoodIn wsL_law (va_wsS RL 115 yL_state wsL_state) := goodIn_app (goodIn_of _ (by decide +kernel)) ggL_law_L_state
set_option maxRecDepth 20000 in
theorem ggL_law_X9_state : GoodIn wsL_law wsX9_state := goodIn_r _ [497, 254, 206, 383, 384, 5, 385, 386, 387, 388, 389, 1021, 1022, 1023, 1024, 1025, 1026, 1027, 1028, 1029, 1030, 1031, 1032, 1033, 1034, 1035, 1036, 1037, 1038, 1039, 1040, 1041, 1042] (by decide +kernel) (by decide +kernel)
set_option maxRecDepth 20000 in
theorem gL_law_X9_state : GoodIn wsL_law (wsV RL 117 RX9 yX9_state wsX9_state) := goodIn_app (goodIn_of _ (by decide +kernel)) ggL_law_X9_state
set_option maxRecDepth 20000 in
theorem ggL_law_L_link : GoodIn wsL_law wsL_link := goodIn_ca (goodIn_ca (goodIn_r _ [500, 501, 264, 502, 503, 504, 2, 505, 24, 506, 507, 508, 509, 510, 269, 270, 271, 272, 273, 511, 512, 513, 28, 514, 515, 182, 183, 184, 128, 129, 516, 178, 179, 180, 126, 127, 162, 163, 1012, 1013, 1014, 1015, 1016, 1017, 1018, 1019, 1020, 1053, 1054, 1055, 1056, 1057, 1058, 1059, 1060, 1061, 1062, 1063, 1064, 1065, 1066, 1067, 1068, 1069] (by decide +kernel) (by decide +kernel)) (goodIn_sub (fun _ h => List.mem_append_left _ (List.mem_append_right _ h)) (by decide +kernel))) (goodIn_sub (fun _ h => List.mem_append_left _ (List.mem_append_left _ (List.mem_append_right _ h))) (by decide +kernel))
set_option maxRecDepth 20000 in
theorem gL_law_L_link : GoodIn wsL_law (va_wsS RL 118 yL_link wsL_link) := goodIn_app (goodIn_of _ (by decide +kernel)) ggL_law_L_link
set_option maxRecDepth 20000 in
theorem ggL_law_X9_link : GoodIn wsL_law wsX9_link := goodIn_r _ [520, 521, 522, 523, 5, 524, 254, 383, 384, 385, 386, 387, 388, 389, 525, 526, 527, 528, 206, 480, 481, 482, 1021, 1022, 1023, 1024, 1025, 1026, 1027, 1028, 1029, 1030, 1031, 1032, 1033, 1034, 1035, 1036, 1037, 1038, 1039, 1040, 1041, 1042] (by decide +kernel) (by decide +kernel)
set_option maxRecDepth 20000 in
theorem gL_law_X9_link : GoodIn wsL_law (wsV RL 121 RX9 yX9_link wsX9_link) := goodIn_app (goodIn_of _ (by decide +kernel)) ggL_law_X9_link
set_option maxRecDepth 20000 in
theorem ggL_law_L_energy : GoodIn wsL_law wsL_energy := goodIn_ca (goodIn_r _ [531, 501, 532, 533, 534, 2, 535, 16, 24, 506, 507, 508, 509, 510, 536, 537, 538, 15, 539, 540, 541, 542, 181, 182, 183, 28, 184, 128, 129, 161, 105, 106, 107, 45, 177, 178, 179, 180, 126, 127, 168, 169, 170, 171, 172, 1012, 1013, 1014, 1015, 1016, 1017, 1018, 1019, 1020, 1053, 1054, 1055, 1056, 1057, 1058, 1059, 1060, 1061, 1062, 1063, 1064, 1065, 1066, 1067, 1068, 1069, 1043] (by decide +kernel) (by decide +kernel)) (goodIn_sub (fun _ h => List.mem_append_left _ (List.mem_append_right _ h)) (by decide +kernel))
set_option maxRecDepth 20000 in
theorem gL_law_L_energy : GoodIn wsL_law (va_wsS RL 122 yL_energy wsL_energy) := goodIn_app (goodIn_of _ (by decide +kernel)) ggL_law_L_energy
set_option maxRecDepth 20000 in
theorem ggL_law_X9_energy : GoodIn wsL_law wsX9_energy := goodIn_r _ [546, 521, 522, 523, 5, 524, 254, 383, 384, 385, 386, 387, 388, 389, 547, 548, 549, 550, 206, 551, 207, 552, 553, 554, 555, 556, 557, 558, 559, 462, 463, 464, 465, 466, 467, 1021, 1022, 1023, 1024, 1025, 1026, 1027, 1028, 1029, 1030, 1031, 1032, 1033, 1034, 1035, 1036, 1037, 1038, 1039, 1040, 1041, 1042] (by decide +kernel) (by decide +kernel)
set_option maxRecDepth 20000 in
theorem gL_law_X9_energy : GoodIn wsL_law (wsV RL 124 RX9 yX9_energy wsX9_energy) := goodIn_app (goodIn_of _ (by decide +kernel)) ggL_law_X9_energy
set_option maxRecDepth 20000 in
theorem ggL_law_L_target : GoodIn wsL_law wsL_target := goodIn_ca (goodIn_r _ [562, 501, 563, 564, 565, 2, 566, 16, 506, 507, 508, 509, 510, 567, 568, 569, 15, 570, 161, 105, 106, 107, 45, 1012, 1013, 1014, 1015, 1016, 1017, 1018, 1019, 1020, 1043] (by decide +kernel) (by decide +kernel)) (goodIn_sub (fun _ h => List.mem_append_left _ (List.mem_append_right _ h)) (by decide +kernel))
set_option maxRecDepth 20000 in
theorem gL_law_L_target : GoodIn wsL_law (va_wsS RL 125 yL_target wsL_target) := goodIn_app (goodIn_of _ (by decide +kernel)) ggL_law_L_target
set_option maxRecDepth 20000 in
theorem ggL_law_X9_target : GoodIn wsL_law wsX9_target := goodIn_r _ [574, 207, 521, 522, 523, 5, 524, 254, 383, 384, 385, 386, 387, 388, 389, 1021, 1022, 1023, 1024, 1025, 1026, 1027, 1028, 1029, 1030, 1031, 1032, 1033, 1034, 1035, 1036, 1037, 1038, 1039, 1040, 1041, 1042] (by decide +kernel) (by decide +kernel)
set_option maxRecDepth 20000 in
theorem gL_law_X9_target : GoodIn wsL_law (wsV RL 127 RX9 yX9_target wsX9_target) := goodIn_app (goodIn_of _ (by decide +kernel)) ggL_law_X9_target
set_option maxRecDepth 20000 in
theorem ggL_law_X8_push : GoodIn wsL_law wsX8_push := goodIn_r _ [578, 24, 579, 580, 581, 2, 582, 16, 583, 584, 585, 15, 586, 168, 169, 170, 171, 172, 587, 537, 538, 539, 540, 541, 542, 181, 182, 183, 28, 184, 128, 129, 161, 105, 106, 107, 45, 177, 178, 179, 180, 126, 127, 588, 568, 569, 570, 589, 154, 155, 156, 157, 93, 94, 95, 158, 159, 160, 162, 163, 1012, 1013, 1014, 1015, 1016, 1017, 1018, 1019, 1020, 1053, 1054, 1055, 1056, 1057, 1058, 1059, 1060, 1061, 1062, 1063, 1064, 1065, 1066, 1067, 1068, 1069, 1043] (by decide +kernel) (by decide +kernel)
set_option maxRecDepth 20000 in
theorem gL_law_X8_push : GoodIn wsL_law (wsV RL 128 RX8 yX8_push wsX8_push) := goodIn_app (goodIn_of _ (by decide +kernel)) ggL_law_X8_push
set_option maxRecDepth 20000 in
theorem ggL_law_X9_push : GoodIn wsL_law wsX9_push := goodIn_r _ [593, 254, 594, 595, 596, 5, 597, 206, 207, 552, 598, 599, 600, 601, 480, 481, 482, 554, 555, 556, 557, 558, 559, 462, 463, 464, 465, 466, 467, 547, 548, 549, 550, 551, 553, 1021, 1022, 1023, 1024, 1025, 1026, 1027, 1028, 1029, 1030, 1031, 1032, 1033, 1034, 1035, 1036, 1037, 1038, 1039, 1040, 1041, 1042] (by decide +kernel) (by decide +kernel)
set_option maxRecDepth 20000 in
theorem gL_law_X9_push : GoodIn wsL_law (wsV RL 131 RX9 yX9_push wsX9_push) := goodIn_app (goodIn_of _ (by decide +kernel)) ggL_law_X9_push
set_option maxRecDepth 20000 in
theorem ggL_law_X8_stopReason : GoodIn wsL_law wsX8_stopReason := goodIn_r _ [605, 24, 1012, 1013, 1014, 1015, 1016, 1017, 1018, 1019, 1020, 1053, 1054, 1055, 1056, 1057, 1058, 1059, 1060, 1061, 1062, 1063] (by decide +kernel) (by decide +kernel)
set_option maxRecDepth 20000 in
theorem gL_law_X8_stopReason : GoodIn wsL_law (wsV RL 132 RX8 yX8_stopReason wsX8_stopReason) := goodIn_app (goodIn_of _ (by decide +kernel)) ggL_law_X8_stopReason
set_option maxRecDepth 20000 in
theorem ggL_law_X9_stopReason : GoodIn wsL_law wsX9_stopReason := goodIn_r _ [609, 254, 206, 1021, 1022, 1023, 1024, 1025, 1026, 1027, 1028, 1029, 1030, 1031, 1032, 1033, 1034, 1035, 1036, 1037, 1038, 1039, 1040, 1041, 1042] (by decide +kernel) (by decide +kernel)
set_option maxRecDepth 20000 in
theorem gL_law_X9_stopReason : GoodIn wsL_law (wsV RL 135 RX9 yX9_stopReason wsX9_stopReason) := goodIn_app (goodIn_of _ (by decide +kernel)) ggL_law_X9_stopReason
set_option maxRecDepth 20000 in
theorem ggL_law_L_switchesIn : GoodIn wsL_law wsL_switchesIn := goodIn_ca (goodIn_r _ [612, 264, 613, 614, 615, 2, 616, 24, 269, 270, 271, 272, 273, 617, 618, 619, 62, 620, 134, 135, 136, 137, 621, 622, 623, 624, 625, 626, 627, 628, 629, 630, 631, 1012, 1013, 1014, 1015, 1016, 1017, 1018, 1019, 1020, 1053, 1054, 1055, 1056, 1057, 1058, 1059, 1060, 1061, 1062, 1063, 1077, 1078, 1079, 1080] (by decide +kernel) (by decide +kernel)) (goodIn_sub (fun _ h => List.mem_append_left _ (List.mem_append_left _ (List.mem_append_right _ h))) (by decide +kernel))
set_option maxRecDepth 20000 in
theorem gL_law_L_switchesIn : GoodIn wsL_law (va_wsS RL 136 yL_switchesIn wsL_switchesIn) := goodIn_app (goodIn_of _ (by decide +kernel)) ggL_law_L_switchesIn
