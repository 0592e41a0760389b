set_option maxRecDepth 20000 in
theorem ggL_law_L_count : GoodIn wsL_law wsL_count := goodIn_ca (goodIn_ca (goodIn_r _ [187, 188, 129, 189, 190, 191, 2, 192, 16, 138, 193, 194, 195, 196, 197, 198, 137, 140, 141, 142, 143, 144, 145, 155, 156, 157, 158, 39, 42, 37, 159, 160, 161, 36, 162, 84, 796, 797, 798, 799, 800, 801, 802, 803, 804, 805, 806, 807, 808, 809, 852, 853, 854, 855, 872, 873, 874, 875, 876, 877, 878, 879, 880, 881, 882] (by decide +kernel) (by decide +kernel)) (goodIn_sub (fun _ h => List.mem_append_right _ h) (by decide +kernel))) (goodIn_sub (fun _ h => List.mem_append_left _ (List.mem_append_right _ h)) (by decide +kernel))
set_option maxRecDepth 20000 in
theorem gL_law_L_count : GoodIn wsL_law (va_wsS RL 67 yL_count wsL_count) := goodIn_app (goodIn_of _ (by decide +kernel)) ggL_law_L_count
set_option maxRecDepth 20000 in
theorem ggL_law_X8_count : GoodIn wsL_law wsX8_count := goodIn_r _ [202, 96, 203, 204, 205, 5, 206, 168, 167, 170, 171, 172, 177, 178, 179, 180, 810, 811, 812, 813, 814, 815, 816, 817, 818, 819, 820, 821, 822, 823, 824, 825, 826, 827, 828, 829, 830, 831, 832, 833, 834, 835, 836, 837, 838, 839, 840, 841, 842, 843, 844, 845, 846, 847, 848, 849, 850, 851] (by decide +kernel) (by decide +kernel)
set_option maxRecDepth 20000 in
theorem gL_law_X8_count : GoodIn wsL_law (wsV RL 69 RX8 yX8_count wsX8_count) := goodIn_app (goodIn_of _ (by decide +kernel)) ggL_law_X8_count
set_option maxRecDepth 20000 in
theorem ggL_law_L_words : GoodIn wsL_law wsL_words := goodIn_ca (goodIn_ca (goodIn_r _ [209, 188, 129, 210, 211, 212, 2, 213, 16, 139, 193, 194, 195, 196, 197, 198, 137, 146, 147, 148, 149, 144, 145, 150, 796, 797, 798, 799, 800, 801, 802, 803, 804, 805, 806, 807, 808, 809, 852, 853, 854, 855] (by decide +kernel) (by decide +kernel)) (goodIn_sub (fun _ h => List.mem_append_right _ h) (by decide +kernel))) (goodIn_sub (fun _ h => List.mem_append_left _ (List.mem_append_right _ h)) (by decide +kernel))
set_option maxRecDepth 20000 in
theorem gL_law_L_words : GoodIn wsL_law (va_wsS RL 70 yL_words wsL_words) := goodIn_app (goodIn_of _ (by decide +kernel)) ggL_law_L_words
set_option maxRecDepth 20000 in
theorem ggL_law_X8_words : GoodIn wsL_law wsX8_words := goodIn_r _ [217, 97, 203, 204, 205, 5, 206, 168, 167, 173, 174, 175, 176, 177, 178, 179, 180, 810, 811, 812, 813, 814, 815, 816, 817, 818, 819, 820, 821, 822, 823, 824, 825, 826, 827, 828, 829, 830, 831, 832, 833, 834, 835, 836, 837, 838, 839, 840, 841, 842, 843, 844, 845, 846, 847, 848, 849, 850, 851] (by decide +kernel) (by decide +kernel)
set_option maxRecDepth 20000 in
theorem gL_law_X8_words : GoodIn wsL_law (wsV RL 72 RX8 yX8_words wsX8_words) := goodIn_app (goodIn_of _ (by decide +kernel)) ggL_law_X8_words
set_option maxRecDepth 20000 in
theorem ggL_law_L_set : GoodIn wsL_law wsL_set := goodIn_ca (goodIn_r _ [220, 129, 221, 222, 223, 2, 224, 144, 145, 225, 226, 16, 227, 155, 156, 157, 158, 39, 42, 37, 159, 160, 161, 36, 162, 84, 796, 797, 798, 799, 800, 801, 802, 803, 804, 805, 806, 807, 808, 809, 852, 853, 854, 855, 872, 873, 874, 875, 876, 877, 878, 879, 880, 881, 882] (by decide +kernel) (by decide +kernel)) (goodIn_sub (fun _ h => List.mem_append_left _ (List.mem_append_right _ h)) (by decide +kernel))
set_option maxRecDepth 20000 in
theorem gL_law_L_set : GoodIn wsL_law (va_wsS RL 73 yL_set wsL_set) := goodIn_app (goodIn_of _ (by decide +kernel)) ggL_law_L_set
