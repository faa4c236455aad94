set_option maxRecDepth 20000 in
theorem ggL_law_L_roughness : GoodIn wsL_law wsL_roughness := goodIn_ca (goodIn_r _ [715, 151, 716, 717, 718, 2, 719, 28, 720, 721, 722, 723, 553, 554, 555, 160, 161, 162, 163, 164, 336, 197, 198, 19, 199, 52, 815, 816, 817, 818, 819, 820, 821, 851, 852, 853, 854, 855, 856, 857, 858, 845] (by decide +kernel) (by decide +kernel)) (goodIn_sub (fun _ h => List.mem_append_left _ (List.mem_append_left _ (List.mem_append_left _ (List.mem_append_left _ (List.mem_append_right _ h))))) (by decide +kernel))
set_option maxRecDepth 20000 in
theorem gL_law_L_roughness : GoodIn wsL_law (va_wsS RL 182 yL_roughness wsL_roughness) := goodIn_app (goodIn_of _ (by decide +kernel)) ggL_law_L_roughness
set_option maxRecDepth 20000 in
theorem ggL_law_X9_roughness : GoodIn wsL_law wsX9_roughness := goodIn_r _ [727, 125, 589, 590, 5, 591, 290, 291, 292, 542, 543, 544, 545, 140, 293, 294, 295, 822, 823, 824, 825, 826, 827, 828, 829, 830, 831, 832, 833, 834, 835, 836, 837, 838, 839, 840, 841, 842] (by decide +kernel) (by decide +kernel)
set_option maxRecDepth 20000 in
theorem gL_law_X9_roughness : GoodIn wsL_law (wsV RL 184 RX9 yX9_roughness wsX9_roughness) := goodIn_app (goodIn_of _ (by decide +kernel)) ggL_law_X9_roughness
set_option maxRecDepth 20000 in
theorem ggL_law_L_flooded : GoodIn wsL_law wsL_flooded := goodIn_ca (goodIn_r _ [730, 152, 731, 732, 733, 2, 734, 40, 735, 736, 737, 168, 169, 463, 464, 465, 39, 466, 115, 117, 118, 467, 201, 202, 19, 203, 52, 468, 210, 211, 72, 212, 82, 213, 214, 215, 469, 250, 251, 15, 252, 46, 53, 54, 253, 197, 198, 199, 470, 471, 472, 473, 119, 229, 230, 474, 475, 59, 60, 61, 476, 226, 227, 228, 81, 231, 232, 477, 234, 235, 236, 478, 238, 239, 240, 479, 276, 277, 278, 815, 816, 817, 818, 819, 820, 821, 868, 869, 870, 871, 845, 872, 873, 874, 875, 843, 844] (by decide +kernel) (by decide +kernel)) (goodIn_sub (fun _ h => List.mem_append_left _ (List.mem_append_left _ (List.mem_append_left _ (List.mem_append_right _ h)))) (by decide +kernel))
set_option maxRecDepth 20000 in
theorem gL_law_L_flooded : GoodIn wsL_law (va_wsS RL 185 yL_flooded wsL_flooded) := goodIn_app (goodIn_of _ (by decide +kernel)) ggL_law_L_flooded
set_option maxRecDepth 20000 in
theorem ggL_law_X9_flooded : GoodIn wsL_law wsX9_flooded := goodIn_r _ [741, 290, 291, 5, 292, 542, 543, 544, 545, 140, 500, 501, 502, 503, 136, 125, 312, 313, 314, 315, 135, 316, 317, 318, 822, 823, 824, 825, 826, 827, 828, 829, 830, 831, 832, 833, 834, 835, 836, 837, 838, 839, 840, 841, 842] (by decide +kernel) (by decide +kernel)
set_option maxRecDepth 20000 in
theorem gL_law_X9_flooded : GoodIn wsL_law (wsV RL 187 RX9 yX9_flooded wsX9_flooded) := goodIn_app (goodIn_of _ (by decide +kernel)) ggL_law_X9_flooded
set_option maxRecDepth 20000 in
theorem ggL_law_L_floodedByRounds : GoodIn wsL_law wsL_floodedByRounds := goodIn_ca (goodIn_r _ [744, 152, 745, 746, 747, 2, 748, 40, 735, 736, 737, 168, 169, 749, 750, 751, 39, 752, 115, 467, 201, 202, 19, 203, 52, 753, 754, 755, 756, 119, 474, 197, 198, 199, 757, 758, 759, 760, 118, 469, 250, 251, 15, 252, 46, 53, 54, 253, 475, 59, 60, 61, 479, 276, 277, 278, 815, 816, 817, 818, 819, 820, 821, 868, 869, 870, 871, 845, 843, 844] (by decide +kernel) (by decide +kernel)) (goodIn_sub (fun _ h => List.mem_append_left _ (List.mem_append_left _ (List.mem_append_left _ (List.mem_append_right _ h)))) (by decide +kernel))
set_option maxRecDepth 20000 in
theorem gL_law_L_floodedByRounds : GoodIn wsL_law (va_wsS RL 188 yL_floodedByRounds wsL_floodedByRounds) := goodIn_app (goodIn_of _ (by decide +kernel)) ggL_law_L_floodedByRounds
set_option maxRecDepth 20000 in
theorem ggL_law_X9_floodedByRounds : GoodIn wsL_law wsX9_floodedByRounds := goodIn_r _ [764, 765, 739, 740, 5, 741, 290, 291, 292, 542, 543, 544, 545, 140, 500, 501, 502, 503, 136, 125, 312, 313, 314, 315, 135, 316, 317, 318, 822, 823, 824, 825, 826, 827, 828, 829, 830, 831, 832, 833, 834, 835, 836, 837, 838, 839, 840, 841, 842] (by decide +kernel) (by decide +kernel)
set_option maxRecDepth 20000 in
theorem gL_law_X9_floodedByRounds : GoodIn wsL_law (wsV RL 190 RX9 yX9_floodedByRounds wsX9_floodedByRounds) := goodIn_app (goodIn_of _ (by decide +kernel)) ggL_law_X9_floodedByRounds
set_option maxRecDepth 20000 in
theorem ggL_law_L_isFlooded : GoodIn wsL_law wsL_isFlooded := goodIn_ca (goodIn_ca (goodIn_r _ [768, 151, 152, 769, 770, 771, 2, 772, 40, 157, 158, 159, 160, 161, 162, 163, 164, 735, 736, 737, 168, 169, 463, 464, 465, 39, 466, 115, 117, 118, 467, 201, 202, 19, 203, 52, 468, 210, 211, 72, 212, 82, 213, 214, 215, 469, 250, 251, 15, 252, 46, 53, 54, 253, 197, 198, 199, 470, 471, 472, 473, 119, 229, 230, 474, 475, 59, 60, 61, 476, 226, 227, 228, 81, 231, 232, 477, 234, 235, 236, 478, 238, 239, 240, 479, 276, 277, 278, 336, 815, 816, 817, 818, 819, 820, 821, 868, 869, 870, 871, 845, 872, 873, 874, 875, 843, 844] (by decide +kernel) (by decide +kernel)) (goodIn_sub (fun _ h => List.mem_append_left _ (List.mem_append_left _ (List.mem_append_left _ (List.mem_append_left _ (List.mem_append_right _ h))))) (by decide +kernel))) (goodIn_sub (fun _ h => List.mem_append_left _ (List.mem_append_left _ (List.mem_append_left _ (List.mem_append_right _ h)))) (by decide +kernel))
set_option maxRecDepth 20000 in
theorem gL_law_L_isFlooded : GoodIn wsL_law (va_wsS RL 191 yL_isFlooded wsL_isFlooded) := goodIn_app (goodIn_of _ (by decide +kernel)) ggL_law_L_isFlooded
set_option maxRecDepth 20000 in
theorem ggL_law_X9_isFlooded : GoodIn wsL_law wsX9_isFlooded := goodIn_r _ [776, 140, 136, 287, 288, 5, 289, 290, 291, 292, 500, 501, 502, 503, 125, 312, 313, 314, 315, 135, 316, 317, 318, 293, 294, 295, 822, 823, 824, 825, 826, 827, 828, 829, 830, 831, 832, 833, 834, 835, 836, 837, 838, 839, 840, 841, 842] (by decide +kernel) (by decide +kernel)
set_option maxRecDepth 20000 in
theorem gL_law_X9_isFlooded : GoodIn wsL_law (wsV RL 193 RX9 yX9_isFlooded wsX9_isFlooded) := goodIn_app (goodIn_of _ (by decide +kernel)) ggL_law_X9_isFlooded
set_option maxRecDepth 20000 in
theorem ggL_law_X8_sand : GoodIn wsL_law wsX8_sand := goodIn_r _ [780, 28, 355, 276, 277, 19, 278, 52, 815, 816, 817, 818, 819, 820, 821, 851, 852, 853, 854, 855, 856, 857, 858, 845] (by decide +kernel) (by decide +kernel)
set_option maxRecDepth 20000 in
theorem gL_law_X8_sand : GoodIn wsL_law (wsV RL 194 RX8 yX8_sand wsX8_sand) := goodIn_app (goodIn_of _ (by decide +kernel)) ggL_law_X8_sand
set_option maxRecDepth 20000 in
theorem ggL_law_X9_sand : GoodIn wsL_law wsX9_sand := goodIn_r _ [784, 785, 786, 787, 5, 788, 125, 642, 643, 644, 645, 140, 822, 823, 824, 825, 826, 827, 828, 829, 830, 831, 832, 833, 834, 835, 836, 837, 838, 839, 840, 841, 842] (by decide +kernel) (by decide +kernel)
set_option maxRecDepth 20000 in
theorem gL_law_X9_sand : GoodIn wsL_law (wsV RL 197 RX9 yX9_sand wsX9_sand) := goodIn_app (goodIn_of _ (by decide +kernel)) ggL_law_X9_sand
set_option maxRecDepth 20000 in
theorem ggL_law_X8_sea : GoodIn wsL_law wsX8_sea := goodIn_r _ [792, 28, 815, 816, 817, 818, 819, 820, 821, 851, 852, 853, 854, 855, 856, 857, 858] (by decide +kernel) (by decide +kernel)
set_option maxRecDepth 20000 in
theorem gL_law_X8_sea : GoodIn wsL_law (wsV RL 198 RX8 yX8_sea wsX8_sea) := goodIn_app (goodIn_of _ (by decide +kernel)) ggL_law_X8_sea
set_option maxRecDepth 20000 in
theorem ggL_law_X9_sea : GoodIn wsL_law wsX9_sea := goodIn_r _ [796, 141, 642, 643, 644, 5, 645, 140, 822, 823, 824, 825, 826, 827, 828, 829, 830, 831, 832, 833, 834, 835, 836, 837, 838, 839, 840, 841, 842] (by decide +kernel) (by decide +kernel)
set_option maxRecDepth 20000 in
theorem gL_law_X9_sea : GoodIn wsL_law (wsV RL 201 RX9 yX9_sea wsX9_sea) := goodIn_app (goodIn_of _ (by decide +kernel)) ggL_law_X9_sea
set_option maxRecDepth 20000 in
theorem ggL_law_X8_brought : GoodIn wsL_law wsX8_brought := goodIn_r _ [800, 28, 815, 816, 817, 818, 819, 820, 821, 851, 852, 853, 854, 855, 856, 857, 858] (by decide +kernel) (by decide +kernel)
set_option maxRecDepth 20000 in
theorem gL_law_X8_brought : GoodIn wsL_law (wsV RL 202 RX8 yX8_brought wsX8_brought) := goodIn_app (goodIn_of _ (by decide +kernel)) ggL_law_X8_brought
set_option maxRecDepth 20000 in
theorem ggL_law_X9_brought : GoodIn wsL_law wsX9_brought := goodIn_r _ [804, 142, 642, 643, 644, 5, 645, 140, 822, 823, 824, 825, 826, 827, 828, 829, 830, 831, 832, 833, 834, 835, 836, 837, 838, 839, 840, 841, 842] (by decide +kernel) (by decide +kernel)
set_option maxRecDepth 20000 in
theorem gL_law_X9_brought : GoodIn wsL_law (wsV RL 205 RX9 yX9_brought wsX9_brought) := goodIn_app (goodIn_of _ (by decide +kernel)) ggL_law_X9_brought
set_option maxRecDepth 20000 in
theorem ggL_law_X8_meanHeight : GoodIn wsL_law wsX8_meanHeight := goodIn_r _ [808, 28, 809, 355, 276, 277, 19, 278, 52, 815, 816, 817, 818, 819, 820, 821, 851, 852, 853, 854, 855, 856, 857, 858, 845] (by decide +kernel) (by decide +kernel)
set_option maxRecDepth 20000 in
theorem gL_law_X8_meanHeight : GoodIn wsL_law (wsV RL 206 RX8 yX8_meanHeight wsX8_meanHeight) := goodIn_app (goodIn_of _ (by decide +kernel)) ggL_law_X8_meanHeight
set_option maxRecDepth 20000 in
theorem ggL_law_X9_meanHeight : GoodIn wsL_law wsX9_meanHeight := goodIn_r _ [813, 140, 814, 785, 786, 787, 5, 788, 125, 822, 823, 824, 825, 826, 827, 828, 829, 830, 831, 832, 833, 834, 835, 836, 837, 838, 839, 840, 841, 842] (by decide +kernel) (by decide +kernel)
set_option maxRecDepth 20000 in
theorem gL_law_X9_meanHeight : GoodIn wsL_law (wsV RL 210 RX9 yX9_meanHeight wsX9_meanHeight) := goodIn_app (goodIn_of _ (by decide +kernel)) ggL_law_X9_meanHeight
