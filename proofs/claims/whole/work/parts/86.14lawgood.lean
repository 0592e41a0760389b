set_option maxRecDepth 20000 in
theorem ggL_law_X8_cost : GoodIn wsL_law wsX8_cost := goodIn_r _ [472, 167, 169, 451, 473, 474, 475, 5, 476, 168, 96, 477, 478, 479, 480, 99, 481, 98, 112, 482, 483, 484, 485, 105, 104, 111, 810, 811, 812, 813, 814, 815, 816, 817, 818, 819, 820, 821, 822, 823, 824, 825, 826, 827, 828, 829, 830, 831, 832, 833, 834, 835, 836, 837, 838, 839, 840, 841, 842, 843, 844, 845, 846, 847, 848, 849, 850, 851] (by decide +kernel) (by decide +kernel)
set_option maxRecDepth 20000 in
theorem gL_law_X8_cost : GoodIn wsL_law (wsV RL 97 RX8 yX8_cost wsX8_cost) := goodIn_app (goodIn_of _ (by decide +kernel)) ggL_law_X8_cost
set_option maxRecDepth 20000 in
theorem ggL_law_X7_print : GoodIn wsL_law wsX7_print := goodIn_r _ [489, 28, 33, 490, 468, 305, 306, 27, 307, 64, 491, 492, 493, 32, 494, 76, 495, 496, 497, 498, 499, 500, 501, 75, 502, 503, 504, 505, 68, 506, 507, 508, 509, 796, 797, 798, 799, 800, 801, 802, 803, 804, 805, 806, 807, 808, 809, 870, 871, 862, 863, 864, 865, 866, 867, 868, 869] (by decide +kernel) (by decide +kernel)
set_option maxRecDepth 20000 in
theorem gL_law_X7_print : GoodIn wsL_law (wsV RL 98 RX7 yX7_print wsX7_print) := goodIn_app (goodIn_of _ (by decide +kernel)) ggL_law_X7_print
set_option maxRecDepth 20000 in
theorem ggL_law_X8_print : GoodIn wsL_law wsX8_print := goodIn_r _ [513, 167, 169, 514, 515, 516, 517, 5, 518, 105, 104, 519, 520, 521, 522, 103, 810, 811, 812, 813, 814, 815, 816, 817, 818, 819, 820, 821, 822, 823, 824, 825, 826, 827, 828, 829, 830, 831, 832, 833, 834, 835, 836, 837, 838, 839, 840, 841, 842, 843, 844, 845, 846, 847, 848, 849, 850, 851] (by decide +kernel) (by decide +kernel)
set_option maxRecDepth 20000 in
theorem gL_law_X8_print : GoodIn wsL_law (wsV RL 101 RX8 yX8_print wsX8_print) := goodIn_app (goodIn_of _ (by decide +kernel)) ggL_law_X8_print
set_option maxRecDepth 20000 in
theorem ggL_law_X7_octet : GoodIn wsL_law wsX7_octet := goodIn_r _ [526, 33, 490, 527, 796, 797, 798, 799, 800, 801, 802, 803, 804, 805, 806, 807, 808, 809, 870, 871] (by decide +kernel) (by decide +kernel)
set_option maxRecDepth 20000 in
theorem gL_law_X7_octet : GoodIn wsL_law (wsV RL 102 RX7 yX7_octet wsX7_octet) := goodIn_app (goodIn_of _ (by decide +kernel)) ggL_law_X7_octet
set_option maxRecDepth 20000 in
theorem ggL_law_X8_octet : GoodIn wsL_law wsX8_octet := goodIn_r _ [531, 167, 514, 103, 810, 811, 812, 813, 814, 815, 816, 817, 818, 819, 820, 821, 822, 823, 824, 825, 826, 827, 828, 829, 830, 831, 832, 833, 834, 835, 836, 837, 838, 839, 840, 841, 842, 843, 844, 845, 846, 847, 848, 849, 850, 851] (by decide +kernel) (by decide +kernel)
set_option maxRecDepth 20000 in
theorem gL_law_X8_octet : GoodIn wsL_law (wsV RL 105 RX8 yX8_octet wsX8_octet) := goodIn_app (goodIn_of _ (by decide +kernel)) ggL_law_X8_octet
