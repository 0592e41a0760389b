set_option maxRecDepth 20000 in
theorem ggL_law_L_exchange : GoodIn wsL_law wsL_exchange := goodIn_ca (goodIn_r _ [754, 129, 755, 756, 757, 2, 758, 144, 145, 37, 16, 28, 759, 683, 684, 685, 686, 687, 688, 689, 690, 137, 468, 305, 306, 27, 307, 64, 691, 692, 693, 36, 694, 84, 80, 81, 83, 695, 696, 697, 698, 699, 700, 701, 702, 703, 90, 704, 705, 651, 402, 652, 88, 706, 89, 707, 443, 444, 445, 446, 70, 69, 67, 66, 708, 709, 710, 711, 87, 85, 86, 712, 437, 438, 439, 440, 441, 442, 713, 714, 715, 716, 91, 717, 718, 719, 720, 721, 722, 723, 724, 725, 726, 727, 728, 729, 730, 731, 732, 760, 761, 762, 763, 796, 797, 798, 799, 800, 801, 802, 803, 804, 805, 806, 807, 808, 809, 872, 873, 874, 875, 876, 877, 878, 879, 880, 881, 882, 852, 853, 854, 855, 862, 863, 864, 865, 866, 867, 868, 869] (by decide +kernel) (by decide +kernel)) (goodIn_sub (fun _ h => List.mem_append_left _ (List.mem_append_right _ h)) (by decide +kernel))
set_option maxRecDepth 20000 in
theorem gL_law_L_exchange : GoodIn wsL_law (va_wsS RL 122 yL_exchange wsL_exchange) := goodIn_app (goodIn_of _ (by decide +kernel)) ggL_law_L_exchange
set_option maxRecDepth 20000 in
theorem ggL_law_X8_exchange : GoodIn wsL_law wsX8_exchange := goodIn_r _ [767, 167, 743, 121, 124, 122, 177, 178, 179, 5, 180, 738, 739, 740, 741, 169, 168, 120, 742, 737, 477, 478, 479, 480, 99, 481, 98, 112, 482, 483, 484, 485, 105, 104, 111, 473, 474, 475, 476, 96, 744, 745, 746, 747, 123, 101, 748, 749, 750, 751, 810, 811, 812, 813, 814, 815, 816, 817, 818, 819, 820, 821, 822, 823, 824, 825, 826, 827, 828, 829, 830, 831, 832, 833, 834, 835, 836, 837, 838, 839, 840, 841, 842, 843, 844, 845, 846, 847, 848, 849, 850, 851] (by decide +kernel) (by decide +kernel)
set_option maxRecDepth 20000 in
theorem gL_law_X8_exchange : GoodIn wsL_law (wsV RL 125 RX8 yX8_exchange wsX8_exchange) := goodIn_app (goodIn_of _ (by decide +kernel)) ggL_law_X8_exchange
set_option maxRecDepth 20000 in
theorem ggL_law_L_swap : GoodIn wsL_law wsL_swap := goodIn_ca (goodIn_r _ [770, 188, 771, 772, 773, 2, 774, 28, 375, 37, 16, 193, 194, 195, 196, 197, 198, 137, 468, 305, 306, 27, 307, 64, 775, 776, 777, 778, 69, 70, 779, 780, 781, 782, 68, 159, 160, 161, 36, 162, 84, 436, 437, 438, 439, 440, 441, 442, 443, 444, 445, 446, 67, 66, 796, 797, 798, 799, 800, 801, 802, 803, 804, 805, 806, 807, 808, 809, 852, 853, 854, 855, 862, 863, 864, 865, 866, 867, 868, 869, 872, 873, 874, 875, 876, 877, 878, 879, 880, 881, 882] (by decide +kernel) (by decide +kernel)) (goodIn_sub (fun _ h => List.mem_append_right _ h) (by decide +kernel))
set_option maxRecDepth 20000 in
theorem gL_law_L_swap : GoodIn wsL_law (va_wsS RL 126 yL_swap wsL_swap) := goodIn_app (goodIn_of _ (by decide +kernel)) ggL_law_L_swap
set_option maxRecDepth 20000 in
theorem ggL_law_X8_swap : GoodIn wsL_law wsX8_swap := goodIn_r _ [786, 169, 451, 105, 104, 203, 204, 205, 5, 206, 168, 167, 473, 474, 475, 476, 96, 477, 478, 479, 480, 99, 481, 98, 112, 482, 483, 484, 485, 111, 810, 811, 812, 813, 814, 815, 816, 817, 818, 819, 820, 821, 822, 823, 824, 825, 826, 827, 828, 829, 830, 831, 832, 833, 834, 835, 836, 837, 838, 839, 840, 841, 842, 843, 844, 845, 846, 847, 848, 849, 850, 851] (by decide +kernel) (by decide +kernel)
set_option maxRecDepth 20000 in
theorem gL_law_X8_swap : GoodIn wsL_law (wsV RL 128 RX8 yX8_swap wsX8_swap) := goodIn_app (goodIn_of _ (by decide +kernel)) ggL_law_X8_swap
set_option maxRecDepth 20000 in
theorem ggL_law_X7_told : GoodIn wsL_law wsX7_told := goodIn_r _ [790, 16, 137, 28, 791, 19, 33, 490, 468, 305, 306, 27, 307, 64, 796, 797, 798, 799, 800, 801, 802, 803, 804, 805, 806, 807, 808, 809, 852, 853, 854, 855, 862, 863, 864, 865, 866, 867, 868, 869, 870, 871] (by decide +kernel) (by decide +kernel)
set_option maxRecDepth 20000 in
theorem gL_law_X7_told : GoodIn wsL_law (wsV RL 129 RX7 yX7_told wsX7_told) := goodIn_app (goodIn_of _ (by decide +kernel)) ggL_law_X7_told
