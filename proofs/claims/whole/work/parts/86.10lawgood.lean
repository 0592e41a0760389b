set_option maxRecDepth 20000 in
theorem ggL_law_X7_init : GoodIn wsL_law wsX7_init := goodIn_r _ [9, 10, 11, 12, 13, 14, 15, 16, 17, 18, 19, 20, 21, 22, 23, 24, 25, 26, 27, 28, 29, 30, 31, 32, 33, 34, 35, 36, 37, 38, 39, 40, 41, 42, 43, 44, 45, 46, 47, 48, 49, 50, 51, 52, 53, 54, 55, 56, 57, 58, 59, 60, 61, 62, 63, 64, 65, 66, 67, 68, 69, 70, 71, 72, 73, 74, 75, 76, 77, 78, 79, 6, 80, 81, 82, 83, 84, 85, 86, 87, 88, 89, 90, 91, 852, 853, 854, 855, 796, 797, 798, 799, 800, 801, 802, 803, 804, 805, 806, 807, 808, 809, 856, 857, 858, 859, 860, 861, 862, 863, 864, 865, 866, 867, 868, 869, 870, 871, 872, 873, 874, 875, 876, 877, 878, 879, 880, 881, 882] (by decide +kernel) (by decide +kernel)
set_option maxRecDepth 20000 in
theorem gL_law_X7_init : GoodIn wsL_law (wsX7_init) := ggL_law_X7_init
set_option maxRecDepth 20000 in
theorem ggL_law_X8_init : GoodIn wsL_law wsX8_init := goodIn_r _ [94, 95, 11, 12, 47, 96, 97, 98, 99, 100, 101, 17, 102, 103, 104, 105, 106, 107, 108, 58, 109, 110, 111, 112, 113, 6, 114, 115, 116, 117, 118, 119, 120, 121, 122, 123, 124, 810, 811, 812, 813, 814, 815, 816, 817, 818, 819, 820, 821, 822, 823, 824, 825, 826, 827, 828, 829, 830, 831, 832, 833, 834, 835, 836, 837, 838, 839, 840, 841, 842, 843, 844, 845, 846, 847, 848, 849, 850, 851] (by decide +kernel) (by decide +kernel)
set_option maxRecDepth 20000 in
theorem gL_law_X8_init : GoodIn wsL_law (wsX8_init) := ggL_law_X8_init
set_option maxRecDepth 20000 in
theorem ggL_law_L_command : GoodIn wsL_law wsL_command := goodIn_ca (goodIn_ca (goodIn_r _ [128, 129, 130, 131, 132, 133, 2, 134, 135, 136, 16, 137, 138, 139, 28, 140, 141, 142, 143, 144, 145, 146, 147, 148, 149, 150, 151, 152, 153, 27, 154, 64, 155, 156, 157, 158, 39, 42, 37, 159, 160, 161, 36, 162, 84, 796, 797, 798, 799, 800, 801, 802, 803, 804, 805, 806, 807, 808, 809, 852, 853, 854, 855, 862, 863, 864, 865, 866, 867, 868, 869, 872, 873, 874, 875, 876, 877, 878, 879, 880, 881, 882] (by decide +kernel) (by decide +kernel)) (goodIn_sub (fun _ h => List.mem_append_left _ (List.mem_append_left _ (List.mem_append_right _ h))) (by decide +kernel))) (goodIn_sub (fun _ h => List.mem_append_left _ (List.mem_append_right _ h)) (by decide +kernel))
set_option maxRecDepth 20000 in
theorem gL_law_L_command : GoodIn wsL_law (va_wsS RL 57 yL_command wsL_command) := goodIn_app (goodIn_of _ (by decide +kernel)) ggL_law_L_command
set_option maxRecDepth 20000 in
theorem ggL_law_X8_command : GoodIn wsL_law wsX8_command := goodIn_r _ [166, 167, 168, 96, 97, 169, 170, 171, 5, 172, 173, 174, 175, 176, 177, 178, 179, 180, 810, 811, 812, 813, 814, 815, 816, 817, 818, 819, 820, 821, 822, 823, 824, 825, 826, 827, 828, 829, 830, 831, 832, 833, 834, 835, 836, 837, 838, 839, 840, 841, 842, 843, 844, 845, 846, 847, 848, 849, 850, 851] (by decide +kernel) (by decide +kernel)
set_option maxRecDepth 20000 in
theorem gL_law_X8_command : GoodIn wsL_law (wsV RL 62 RX8 yX8_command wsX8_command) := goodIn_app (goodIn_of _ (by decide +kernel)) ggL_law_X8_command
set_option maxRecDepth 20000 in
theorem ggL_law_X8_thrown : GoodIn wsL_law wsX8_thrown := goodIn_r _ [184, 167, 810, 811, 812, 813, 814, 815, 816, 817, 818, 819, 820, 821, 822, 823, 824, 825, 826, 827, 828, 829, 830, 831, 832, 833, 834, 835, 836, 837, 838, 839, 840, 841, 842, 843, 844, 845, 846, 847, 848, 849, 850, 851] (by decide +kernel) (by decide +kernel)
set_option maxRecDepth 20000 in
theorem gL_law_X8_thrown : GoodIn wsL_law (wsV RL 63 RX8 yX8_thrown wsX8_thrown) := goodIn_app (goodIn_of _ (by decide +kernel)) ggL_law_X8_thrown
