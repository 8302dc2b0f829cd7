/-! the words of what the law calls stand among its own (3) -/
set_option maxRecDepth 20000 in
theorem ggL_law_X9_switchesIn : GoodIn wsL_law wsX9_switchesIn := goodIn_r _ [635, 254, 383, 384, 5, 385, 386, 387, 388, 389, 636, 637, 638, 639, 206, 1021, 1022, 1023, 1024, 1025, 1026, 1027, 1028, 1029, 1030, 1031, 1032, 1033, 1034, 1035, 1036, 1037, 1038, 1039, 1040, 1041, 1042] (by decide +kernel) (by decide +kernel)
set_option maxRecDepth 20000 in
theorem gL_law_X9_switchesIn : GoodIn wsL_law (wsV RL 138 RX9 yX9_switchesIn wsX9_switchesIn) := goodIn_app (goodIn_of _ (by decide +kernel)) ggL_law_X9_switchesIn
set_option maxRecDepth 20000 in
theorem ggL_law_L_reason : GoodIn wsL_law wsL_reason := goodIn_ca (goodIn_r _ [642, 501, 643, 644, 645, 2, 646, 24, 647, 648, 649, 650, 509, 510, 16, 651, 652, 653, 15, 654, 161, 105, 106, 107, 45, 189, 190, 655, 656, 657, 58, 658, 70, 146, 147, 148, 287, 288, 1012, 1013, 1014, 1015, 1016, 1017, 1018, 1019, 1020, 1053, 1054, 1055, 1056, 1057, 1058, 1059, 1060, 1061, 1062, 1063, 1043, 1075, 1076] (by decide +kernel) (by decide +kernel)) (goodIn_sub (fun _ h => List.mem_append_left _ (List.mem_append_right _ h)) (by decide +kernel))
set_option maxRecDepth 20000 in
theorem gL_law_L_reason : GoodIn wsL_law (va_wsS RL 139 yL_reason wsL_reason) := goodIn_app (goodIn_of _ (by decide +kernel)) ggL_law_L_reason
set_option maxRecDepth 20000 in
theorem ggL_law_X9_reason : GoodIn wsL_law wsX9_reason := goodIn_r _ [662, 254, 211, 663, 664, 665, 5, 666, 207, 383, 384, 385, 386, 387, 388, 389, 667, 668, 669, 670, 236, 206, 671, 672, 673, 674, 213, 212, 557, 558, 559, 598, 599, 600, 601, 480, 481, 482, 675, 676, 677, 678, 462, 463, 464, 465, 466, 467, 679, 680, 681, 682, 554, 555, 556, 683, 684, 685, 686, 687, 688, 689, 690, 691, 1021, 1022, 1023, 1024, 1025, 1026, 1027, 1028, 1029, 1030, 1031, 1032, 1033, 1034, 1035, 1036, 1037, 1038, 1039, 1040, 1041, 1042] (by decide +kernel) (by decide +kernel)
set_option maxRecDepth 20000 in
theorem gL_law_X9_reason : GoodIn wsL_law (wsV RL 141 RX9 yX9_reason wsX9_reason) := goodIn_app (goodIn_of _ (by decide +kernel)) ggL_law_X9_reason
set_option maxRecDepth 20000 in
theorem ggL_law_L_failedStep : GoodIn wsL_law wsL_failedStep := goodIn_ca (goodIn_r _ [694, 501, 695, 696, 697, 2, 698, 24, 647, 648, 649, 650, 509, 510, 16, 651, 652, 653, 15, 654, 161, 105, 106, 107, 45, 189, 190, 699, 700, 701, 58, 702, 71, 146, 147, 148, 287, 288, 1012, 1013, 1014, 1015, 1016, 1017, 1018, 1019, 1020, 1053, 1054, 1055, 1056, 1057, 1058, 1059, 1060, 1061, 1062, 1063, 1043, 1075, 1076] (by decide +kernel) (by decide +kernel)) (goodIn_sub (fun _ h => List.mem_append_left _ (List.mem_append_right _ h)) (by decide +kernel))
set_option maxRecDepth 20000 in
theorem gL_law_L_failedStep : GoodIn wsL_law (va_wsS RL 142 yL_failedStep wsL_failedStep) := goodIn_app (goodIn_of _ (by decide +kernel)) ggL_law_L_failedStep
set_option maxRecDepth 20000 in
theorem ggL_law_X9_failedStep : GoodIn wsL_law wsX9_failedStep := goodIn_r _ [706, 254, 212, 663, 664, 665, 5, 666, 207, 383, 384, 385, 386, 387, 388, 389, 667, 668, 669, 670, 236, 206, 671, 672, 673, 674, 213, 211, 557, 558, 559, 598, 599, 600, 601, 480, 481, 482, 675, 676, 677, 678, 462, 463, 464, 465, 466, 467, 679, 680, 681, 682, 554, 555, 556, 683, 684, 685, 686, 687, 688, 689, 690, 691, 1021, 1022, 1023, 1024, 1025, 1026, 1027, 1028, 1029, 1030, 1031, 1032, 1033, 1034, 1035, 1036, 1037, 1038, 1039, 1040, 1041, 1042] (by decide +kernel) (by decide +kernel)
set_option maxRecDepth 20000 in
theorem gL_law_X9_failedStep : GoodIn wsL_law (wsV RL 144 RX9 yX9_failedStep wsX9_failedStep) := goodIn_app (goodIn_of _ (by decide +kernel)) ggL_law_X9_failedStep
set_option maxRecDepth 20000 in
theorem ggL_law_X8_regionSize : GoodIn wsL_law wsX8_regionSize := goodIn_r _ [710, 24, 16, 104, 105, 106, 15, 107, 45, 711, 712, 713, 58, 714, 715, 656, 657, 658, 70, 146, 147, 148, 287, 2, 288, 1012, 1013, 1014, 1015, 1016, 1017, 1018, 1019, 1020, 1053, 1054, 1055, 1056, 1057, 1058, 1059, 1060, 1061, 1062, 1063, 1043, 1075, 1076] (by decide +kernel) (by decide +kernel)
set_option maxRecDepth 20000 in
theorem gL_law_X8_regionSize : GoodIn wsL_law (wsV RL 145 RX8 yX8_regionSize wsX8_regionSize) := goodIn_app (goodIn_of _ (by decide +kernel)) ggL_law_X8_regionSize
set_option maxRecDepth 20000 in
theorem ggL_law_X9_regionSize : GoodIn wsL_law wsX9_regionSize := goodIn_r _ [719, 254, 720, 721, 722, 5, 723, 207, 211, 667, 668, 669, 670, 236, 206, 671, 672, 673, 674, 213, 212, 557, 558, 559, 598, 599, 600, 601, 480, 481, 482, 675, 676, 677, 678, 462, 463, 464, 465, 466, 467, 679, 680, 681, 682, 554, 555, 556, 683, 684, 685, 686, 687, 688, 689, 690, 691, 1021, 1022, 1023, 1024, 1025, 1026, 1027, 1028, 1029, 1030, 1031, 1032, 1033, 1034, 1035, 1036, 1037, 1038, 1039, 1040, 1041, 1042] (by decide +kernel) (by decide +kernel)
set_option maxRecDepth 20000 in
theorem gL_law_X9_regionSize : GoodIn wsL_law (wsV RL 148 RX9 yX9_regionSize wsX9_regionSize) := goodIn_app (goodIn_of _ (by decide +kernel)) ggL_law_X9_regionSize
set_option maxRecDepth 20000 in
theorem ggL_law_X8_cellsWith : GoodIn wsL_law wsX8_cellsWith := goodIn_r _ [727, 24, 16, 104, 105, 106, 15, 107, 45, 711, 712, 713, 58, 714, 715, 656, 657, 658, 70, 146, 147, 148, 287, 2, 288, 1012, 1013, 1014, 1015, 1016, 1017, 1018, 1019, 1020, 1053, 1054, 1055, 1056, 1057, 1058, 1059, 1060, 1061, 1062, 1063, 1043, 1075, 1076] (by decide +kernel) (by decide +kernel)
set_option maxRecDepth 20000 in
theorem gL_law_X8_cellsWith : GoodIn wsL_law (wsV RL 149 RX8 yX8_cellsWith wsX8_cellsWith) := goodIn_app (goodIn_of _ (by decide +kernel)) ggL_law_X8_cellsWith
set_option maxRecDepth 20000 in
theorem ggL_law_X9_cellsWith : GoodIn wsL_law wsX9_cellsWith := goodIn_r _ [731, 254, 383, 384, 5, 385, 720, 721, 722, 723, 207, 211, 667, 668, 669, 670, 236, 206, 671, 672, 673, 674, 213, 212, 557, 558, 559, 598, 599, 600, 601, 480, 481, 482, 675, 676, 677, 678, 462, 463, 464, 465, 466, 467, 679, 680, 681, 682, 554, 555, 556, 683, 684, 685, 686, 687, 688, 689, 690, 691, 1021, 1022, 1023, 1024, 1025, 1026, 1027, 1028, 1029, 1030, 1031, 1032, 1033, 1034, 1035, 1036, 1037, 1038, 1039, 1040, 1041, 1042] (by decide +kernel) (by decide +kernel)
set_option maxRecDepth 20000 in
theorem gL_law_X9_cellsWith : GoodIn wsL_law (wsV RL 152 RX9 yX9_cellsWith wsX9_cellsWith) := goodIn_app (goodIn_of _ (by decide +kernel)) ggL_law_X9_cellsWith
set_option maxRecDepth 20000 in
theorem ggL_law_L_cellOf : GoodIn wsL_law wsL_cellOf := goodIn_ca (goodIn_ca (goodIn_r _ [734, 501, 264, 735, 736, 737, 2, 738, 16, 24, 506, 507, 508, 509, 510, 269, 270, 271, 272, 273, 739, 740, 741, 15, 742, 177, 178, 179, 28, 180, 126, 127, 162, 163, 181, 182, 183, 184, 128, 129, 161, 105, 106, 107, 45, 743, 744, 745, 746, 1012, 1013, 1014, 1015, 1016, 1017, 1018, 1019, 1020, 1053, 1054, 1055, 1056, 1057, 1058, 1059, 1060, 1061, 1062, 1063, 1064, 1065, 1066, 1067, 1068, 1069, 1043] (by decide +kernel) (by decide +kernel)) (goodIn_sub (fun _ h => List.mem_append_left _ (List.mem_append_right _ h)) (by decide +kernel))) (goodIn_sub (fun _ h => List.mem_append_left _ (List.mem_append_left _ (List.mem_append_right _ h))) (by decide +kernel))
set_option maxRecDepth 20000 in
theorem gL_law_L_cellOf : GoodIn wsL_law (va_wsS RL 153 yL_cellOf wsL_cellOf) := goodIn_app (goodIn_of _ (by decide +kernel)) ggL_law_L_cellOf
set_option maxRecDepth 20000 in
theorem ggL_law_X9_cellOf : GoodIn wsL_law wsX9_cellOf := goodIn_r _ [750, 521, 522, 523, 5, 524, 254, 383, 384, 385, 386, 387, 388, 389, 751, 752, 753, 754, 206, 207, 480, 481, 482, 755, 756, 757, 1021, 1022, 1023, 1024, 1025, 1026, 1027, 1028, 1029, 1030, 1031, 1032, 1033, 1034, 1035, 1036, 1037, 1038, 1039, 1040, 1041, 1042] (by decide +kernel) (by decide +kernel)
set_option maxRecDepth 20000 in
theorem gL_law_X9_cellOf : GoodIn wsL_law (wsV RL 155 RX9 yX9_cellOf wsX9_cellOf) := goodIn_app (goodIn_of _ (by decide +kernel)) ggL_law_X9_cellOf
set_option maxRecDepth 20000 in
theorem ggL_law_X8_isCapturable : GoodIn wsL_law wsX8_isCapturable := goodIn_r _ [761, 24, 762, 763, 764, 2, 765, 766, 767, 768, 769, 16, 739, 740, 741, 15, 742, 177, 178, 179, 28, 180, 126, 127, 162, 163, 181, 182, 183, 184, 128, 129, 161, 105, 106, 107, 45, 743, 744, 745, 746, 651, 652, 653, 654, 189, 190, 655, 656, 657, 58, 658, 70, 146, 147, 148, 287, 288, 1012, 1013, 1014, 1015, 1016, 1017, 1018, 1019, 1020, 1053, 1054, 1055, 1056, 1057, 1058, 1059, 1060, 1061, 1062, 1063, 1064, 1065, 1066, 1067, 1068, 1069, 1043, 1075, 1076] (by decide +kernel) (by decide +kernel)
set_option maxRecDepth 20000 in
theorem gL_law_X8_isCapturable : GoodIn wsL_law (wsV RL 156 RX8 yX8_isCapturable wsX8_isCapturable) := goodIn_app (goodIn_of _ (by decide +kernel)) ggL_law_X8_isCapturable
set_option maxRecDepth 20000 in
theorem ggL_law_X9_isCapturable : GoodIn wsL_law wsX9_isCapturable := goodIn_r _ [773, 254, 774, 775, 776, 5, 777, 667, 668, 669, 670, 236, 206, 207, 671, 672, 673, 674, 213, 212, 211, 557, 558, 559, 598, 599, 600, 601, 480, 481, 482, 675, 676, 677, 678, 462, 463, 464, 465, 466, 467, 679, 680, 681, 682, 554, 555, 556, 683, 684, 685, 686, 687, 688, 689, 690, 691, 778, 779, 780, 781, 751, 752, 753, 754, 755, 756, 757, 663, 664, 665, 666, 383, 384, 385, 1021, 1022, 1023, 1024, 1025, 1026, 1027, 1028, 1029, 1030, 1031, 1032, 1033, 1034, 1035, 1036, 1037, 1038, 1039, 1040, 1041, 1042] (by decide +kernel) (by decide +kernel)
set_option maxRecDepth 20000 in
theorem gL_law_X9_isCapturable : GoodIn wsL_law (wsV RL 160 RX9 yX9_isCapturable wsX9_isCapturable) := goodIn_app (goodIn_of _ (by decide +kernel)) ggL_law_X9_isCapturable
