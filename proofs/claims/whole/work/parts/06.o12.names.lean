set_option maxRecDepth 20000 in
theorem gL_law_L_addStep : GoodIn wsL_law (va_wsS RL 157 yL_addStep wsL_addStep) := goodIn_app (goodIn_of _ (by decide +kernel)) ggL_law_L_addStep
set_option maxRecDepth 20000 in
theorem ggL_law_X9_addStep : GoodIn wsL_law wsX9_addStep := goodIn_r _ [633, 144, 140, 137, 138, 589, 590, 5, 591, 290, 291, 292, 822, 823, 824, 825, 826, 827, 828, 829, 830, 831, 832, 833, 834, 835, 836, 837, 838, 839, 840, 841, 842] (by decide +kernel) (by decide +kernel)
set_option maxRecDepth 20000 in
theorem gL_law_X9_addStep : GoodIn wsL_law (wsV RL 159 RX9 yX9_addStep wsX9_addStep) := goodIn_app (goodIn_of _ (by decide +kernel)) ggL_law_X9_addStep
set_option maxRecDepth 20000 in
theorem ggL_law_X8_clearStorm : GoodIn wsL_law wsX8_clearStorm := goodIn_r _ [637, 36, 815, 816, 817, 818, 819, 820, 821, 865, 866, 867] (by decide +kernel) (by decide +kernel)
set_option maxRecDepth 20000 in
theorem gL_law_X8_clearStorm : GoodIn wsL_law (wsV RL 160 RX8 yX8_clearStorm wsX8_clearStorm) := goodIn_app (goodIn_of _ (by decide +kernel)) ggL_law_X8_clearStorm
set_option maxRecDepth 20000 in
theorem ggL_law_X9_clearStorm : GoodIn wsL_law wsX9_clearStorm := goodIn_r _ [641, 144, 642, 643, 644, 5, 645, 140, 822, 823, 824, 825, 826, 827, 828, 829, 830, 831, 832, 833, 834, 835, 836, 837, 838, 839, 840, 841, 842] (by decide +kernel) (by decide +kernel)
set_option maxRecDepth 20000 in
theorem gL_law_X9_clearStorm : GoodIn wsL_law (wsV RL 163 RX9 yX9_clearStorm wsX9_clearStorm) := goodIn_app (goodIn_of _ (by decide +kernel)) ggL_law_X9_clearStorm
set_option maxRecDepth 20000 in
theorem ggL_law_L_storm : GoodIn wsL_law wsL_storm := goodIn_ca (goodIn_ca (goodIn_r _ [648, 152, 415, 649, 650, 651, 2, 652, 168, 169, 420, 421, 36, 28, 32, 336, 197, 198, 19, 199, 52, 559, 560, 561, 31, 562, 563, 564, 565, 102, 566, 567, 568, 569, 100, 163, 164, 570, 453, 454, 15, 455, 249, 250, 251, 252, 46, 53, 54, 253, 571, 572, 573, 574, 575, 101, 576, 577, 578, 579, 580, 176, 177, 27, 178, 89, 90, 179, 180, 181, 182, 581, 582, 583, 584, 183, 184, 185, 186, 94, 91, 187, 188, 189, 190, 23, 191, 68, 69, 192, 193, 194, 195, 196, 200, 201, 202, 203, 204, 205, 206, 207, 73, 208, 209, 210, 211, 72, 212, 82, 213, 214, 215, 216, 217, 218, 219, 220, 221, 222, 223, 224, 75, 225, 226, 227, 228, 81, 229, 230, 231, 232, 59, 60, 61, 233, 234, 235, 236, 237, 238, 239, 240, 241, 242, 243, 244, 74, 245, 246, 247, 248, 254, 255, 256, 257, 258, 259, 260, 261, 262, 263, 264, 265, 266, 267, 268, 269, 270, 271, 272, 93, 92, 273, 274, 275, 276, 277, 278, 815, 816, 817, 818, 819, 820, 821, 865, 866, 867, 851, 852, 853, 854, 855, 856, 857, 858, 845, 859, 860, 861, 862, 863, 864, 843, 844, 846, 847, 848, 849, 850, 872, 873, 874, 875] (by decide +kernel) (by decide +kernel)) (goodIn_sub (fun _ h => List.mem_append_left _ (List.mem_append_left _ (List.mem_append_left _ (List.mem_append_right _ h)))) (by decide +kernel))) (goodIn_sub (fun _ h => List.mem_append_left _ (List.mem_append_right _ h)) (by decide +kernel))
set_option maxRecDepth 20000 in
theorem gL_law_L_storm : GoodIn wsL_law (va_wsS RL 164 yL_storm wsL_storm) := goodIn_app (goodIn_of _ (by decide +kernel)) ggL_law_L_storm
set_option maxRecDepth 20000 in
theorem ggL_law_X9_storm : GoodIn wsL_law wsX9_storm := goodIn_r _ [656, 144, 140, 141, 137, 138, 290, 291, 5, 292, 592, 593, 594, 595, 125, 134, 126, 293, 294, 295, 312, 313, 314, 315, 135, 316, 317, 318, 596, 597, 598, 599, 300, 301, 302, 303, 145, 304, 305, 306, 307, 308, 309, 310, 311, 128, 127, 319, 320, 321, 822, 823, 824, 825, 826, 827, 828, 829, 830, 831, 832, 833, 834, 835, 836, 837, 838, 839, 840, 841, 842] (by decide +kernel) (by decide +kernel)
set_option maxRecDepth 20000 in
theorem gL_law_X9_storm : GoodIn wsL_law (wsV RL 166 RX9 yX9_storm wsX9_storm) := goodIn_app (goodIn_of _ (by decide +kernel)) ggL_law_X9_storm
set_option maxRecDepth 20000 in
theorem ggL_law_L_height : GoodIn wsL_law wsL_height := goodIn_ca (goodIn_r _ [659, 151, 660, 661, 662, 2, 663, 28, 157, 158, 159, 160, 161, 162, 163, 164, 336, 197, 198, 19, 199, 52, 815, 816, 817, 818, 819, 820, 821, 851, 852, 853, 854, 855, 856, 857, 858, 845] (by decide +kernel) (by decide +kernel)) (goodIn_sub (fun _ h => List.mem_append_left _ (List.mem_append_left _ (List.mem_append_left _ (List.mem_append_left _ (List.mem_append_right _ h))))) (by decide +kernel))
set_option maxRecDepth 20000 in
theorem gL_law_L_height : GoodIn wsL_law (va_wsS RL 167 yL_height wsL_height) := goodIn_app (goodIn_of _ (by decide +kernel)) ggL_law_L_height
set_option maxRecDepth 20000 in
theorem ggL_law_X9_height : GoodIn wsL_law wsX9_height := goodIn_r _ [667, 125, 287, 288, 5, 289, 290, 291, 292, 542, 543, 544, 545, 140, 293, 294, 295, 822, 823, 824, 825, 826, 827, 828, 829, 830, 831, 832, 833, 834, 835, 836, 837, 838, 839, 840, 841, 842] (by decide +kernel) (by decide +kernel)
set_option maxRecDepth 20000 in
theorem gL_law_X9_height : GoodIn wsL_law (wsV RL 169 RX9 yX9_height wsX9_height) := goodIn_app (goodIn_of _ (by decide +kernel)) ggL_law_X9_height
set_option maxRecDepth 20000 in
theorem ggL_law_L_heightByFlows : GoodIn wsL_law wsL_heightByFlows := goodIn_ca (goodIn_r _ [670, 151, 671, 672, 673, 2, 674, 28, 157, 158, 159, 160, 161, 162, 163, 164, 336, 197, 198, 19, 199, 52, 675, 53, 54, 815, 816, 817, 818, 819, 820, 821, 851, 852, 853, 854, 855, 856, 857, 858, 845] (by decide +kernel) (by decide +kernel)) (goodIn_sub (fun _ h => List.mem_append_left _ (List.mem_append_left _ (List.mem_append_left _ (List.mem_append_left _ (List.mem_append_right _ h))))) (by decide +kernel))
set_option maxRecDepth 20000 in
theorem gL_law_L_heightByFlows : GoodIn wsL_law (va_wsS RL 170 yL_heightByFlows wsL_heightByFlows) := goodIn_app (goodIn_of _ (by decide +kernel)) ggL_law_L_heightByFlows
set_option maxRecDepth 20000 in
theorem ggL_law_X9_heightByFlows : GoodIn wsL_law wsX9_heightByFlows := goodIn_r _ [679, 126, 128, 287, 288, 5, 289, 290, 291, 292, 542, 543, 544, 545, 140, 293, 294, 295, 822, 823, 824, 825, 826, 827, 828, 829, 830, 831, 832, 833, 834, 835, 836, 837, 838, 839, 840, 841, 842] (by decide +kernel) (by decide +kernel)
set_option maxRecDepth 20000 in
theorem gL_law_X9_heightByFlows : GoodIn wsL_law (wsV RL 172 RX9 yX9_heightByFlows wsX9_heightByFlows) := goodIn_app (goodIn_of _ (by decide +kernel)) ggL_law_X9_heightByFlows
set_option maxRecDepth 20000 in
theorem ggL_law_L_flow : GoodIn wsL_law wsL_flow := goodIn_ca (goodIn_ca (goodIn_r _ [682, 151, 152, 683, 684, 685, 2, 686, 28, 157, 158, 159, 160, 161, 162, 163, 164, 449, 450, 451, 168, 169, 675, 53, 54, 336, 197, 198, 19, 199, 52, 815, 816, 817, 818, 819, 820, 821, 851, 852, 853, 854, 855, 856, 857, 858, 845] (by decide +kernel) (by decide +kernel)) (goodIn_sub (fun _ h => List.mem_append_left _ (List.mem_append_left _ (List.mem_append_left _ (List.mem_append_left _ (List.mem_append_right _ h))))) (by decide +kernel))) (goodIn_sub (fun _ h => List.mem_append_left _ (List.mem_append_left _ (List.mem_append_left _ (List.mem_append_right _ h)))) (by decide +kernel))
set_option maxRecDepth 20000 in
theorem gL_law_L_flow : GoodIn wsL_law (va_wsS RL 173 yL_flow wsL_flow) := goodIn_app (goodIn_of _ (by decide +kernel)) ggL_law_L_flow
set_option maxRecDepth 20000 in
theorem ggL_law_X9_flow : GoodIn wsL_law wsX9_flow := goodIn_r _ [690, 140, 128, 489, 490, 491, 5, 492, 287, 288, 289, 290, 291, 292, 493, 494, 495, 293, 294, 295, 822, 823, 824, 825, 826, 827, 828, 829, 830, 831, 832, 833, 834, 835, 836, 837, 838, 839, 840, 841, 842] (by decide +kernel) (by decide +kernel)
set_option maxRecDepth 20000 in
theorem gL_law_X9_flow : GoodIn wsL_law (wsV RL 175 RX9 yX9_flow wsX9_flow) := goodIn_app (goodIn_of _ (by decide +kernel)) ggL_law_X9_flow
set_option maxRecDepth 20000 in
theorem ggL_law_L_topplings : GoodIn wsL_law wsL_topplings := goodIn_ca (goodIn_r _ [693, 151, 694, 695, 696, 2, 697, 28, 157, 158, 159, 160, 161, 162, 163, 164, 336, 197, 198, 19, 199, 52, 815, 816, 817, 818, 819, 820, 821, 851, 852, 853, 854, 855, 856, 857, 858, 845] (by decide +kernel) (by decide +kernel)) (goodIn_sub (fun _ h => List.mem_append_left _ (List.mem_append_left _ (List.mem_append_left _ (List.mem_append_left _ (List.mem_append_right _ h))))) (by decide +kernel))
set_option maxRecDepth 20000 in
theorem gL_law_L_topplings : GoodIn wsL_law (va_wsS RL 176 yL_topplings wsL_topplings) := goodIn_app (goodIn_of _ (by decide +kernel)) ggL_law_L_topplings
set_option maxRecDepth 20000 in
theorem ggL_law_X9_topplings : GoodIn wsL_law wsX9_topplings := goodIn_r _ [701, 127, 287, 288, 5, 289, 290, 291, 292, 542, 543, 544, 545, 140, 293, 294, 295, 822, 823, 824, 825, 826, 827, 828, 829, 830, 831, 832, 833, 834, 835, 836, 837, 838, 839, 840, 841, 842] (by decide +kernel) (by decide +kernel)
set_option maxRecDepth 20000 in
theorem gL_law_X9_topplings : GoodIn wsL_law (wsV RL 178 RX9 yX9_topplings wsX9_topplings) := goodIn_app (goodIn_of _ (by decide +kernel)) ggL_law_X9_topplings
set_option maxRecDepth 20000 in
theorem ggL_law_L_highest : GoodIn wsL_law wsL_highest := goodIn_ca (goodIn_r _ [704, 151, 705, 706, 707, 2, 708, 28, 553, 554, 555, 160, 161, 162, 163, 164, 336, 197, 198, 19, 199, 52, 815, 816, 817, 818, 819, 820, 821, 851, 852, 853, 854, 855, 856, 857, 858, 845] (by decide +kernel) (by decide +kernel)) (goodIn_sub (fun _ h => List.mem_append_left _ (List.mem_append_left _ (List.mem_append_left _ (List.mem_append_left _ (List.mem_append_right _ h))))) (by decide +kernel))
set_option maxRecDepth 20000 in
theorem gL_law_L_highest : GoodIn wsL_law (va_wsS RL 179 yL_highest wsL_highest) := goodIn_app (goodIn_of _ (by decide +kernel)) ggL_law_L_highest
set_option maxRecDepth 20000 in
theorem ggL_law_X9_highest : GoodIn wsL_law wsX9_highest := goodIn_r _ [712, 125, 589, 590, 5, 591, 290, 291, 292, 542, 543, 544, 545, 140, 293, 294, 295, 822, 823, 824, 825, 826, 827, 828, 829, 830, 831, 832, 833, 834, 835, 836, 837, 838, 839, 840, 841, 842] (by decide +kernel) (by decide +kernel)
set_option maxRecDepth 20000 in
theorem gL_law_X9_highest : GoodIn wsL_law (wsV RL 181 RX9 yX9_highest wsX9_highest) := goodIn_app (goodIn_of _ (by decide +kernel)) ggL_law_X9_highest
