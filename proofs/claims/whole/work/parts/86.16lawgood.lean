set_option maxRecDepth 20000 in
theorem ggL_law_X8_misled : GoodIn wsL_law wsX8_misled := goodIn_r _ [612, 169, 481, 111, 97, 104, 112, 105, 203, 204, 205, 5, 206, 168, 167, 482, 483, 484, 485, 613, 614, 615, 616, 113, 617, 618, 619, 620, 621, 622, 623, 810, 811, 812, 813, 814, 815, 816, 817, 818, 819, 820, 821, 822, 823, 824, 825, 826, 827, 828, 829, 830, 831, 832, 833, 834, 835, 836, 837, 838, 839, 840, 841, 842, 843, 844, 845, 846, 847, 848, 849, 850, 851] (by decide +kernel) (by decide +kernel)
set_option maxRecDepth 20000 in
theorem gL_law_X8_misled : GoodIn wsL_law (wsV RL 114 RX8 yX8_misled wsX8_misled) := goodIn_app (goodIn_of _ (by decide +kernel)) ggL_law_X8_misled
set_option maxRecDepth 20000 in
theorem ggL_law_X7_free : GoodIn wsL_law wsX7_free := goodIn_r _ [627, 16, 137, 375, 42, 40, 628, 629, 630, 41, 631, 632, 633, 11, 12, 6, 634, 635, 636, 637, 638, 639, 640, 641, 642, 643, 644, 645, 646, 647, 648, 649, 650, 651, 402, 652, 653, 401, 403, 654, 603, 604, 605, 606, 607, 608, 655, 656, 657, 658, 659, 660, 661, 662, 663, 664, 665, 592, 666, 796, 797, 798, 799, 800, 801, 802, 803, 804, 805, 806, 807, 808, 809, 852, 853, 854, 855, 888, 889, 890, 891] (by decide +kernel) (by decide +kernel)
set_option maxRecDepth 20000 in
theorem gL_law_X7_free : GoodIn wsL_law (wsV RL 115 RX7 yX7_free wsX7_free) := goodIn_app (goodIn_of _ (by decide +kernel)) ggL_law_X7_free
set_option maxRecDepth 20000 in
theorem ggL_law_X8_free : GoodIn wsL_law wsX8_free := goodIn_r _ [670, 167, 168, 451, 119, 96, 100, 118, 671, 672, 673, 5, 674, 456, 98, 99, 810, 811, 812, 813, 814, 815, 816, 817, 818, 819, 820, 821, 822, 823, 824, 825, 826, 827, 828, 829, 830, 831, 832, 833, 834, 835, 836, 837, 838, 839, 840, 841, 842, 843, 844, 845, 846, 847, 848, 849, 850, 851] (by decide +kernel) (by decide +kernel)
set_option maxRecDepth 20000 in
theorem gL_law_X8_free : GoodIn wsL_law (wsV RL 118 RX8 yX8_free wsX8_free) := goodIn_app (goodIn_of _ (by decide +kernel)) ggL_law_X8_free
set_option maxRecDepth 20000 in
theorem ggL_law_L_best : GoodIn wsL_law wsL_best := goodIn_ca (goodIn_r _ [677, 129, 678, 679, 680, 2, 681, 375, 37, 16, 28, 682, 683, 684, 685, 686, 144, 145, 687, 688, 689, 690, 137, 468, 305, 306, 27, 307, 64, 691, 692, 693, 36, 694, 84, 80, 81, 83, 695, 696, 697, 698, 699, 700, 701, 702, 703, 90, 704, 705, 651, 402, 652, 88, 706, 89, 707, 443, 444, 445, 446, 70, 69, 67, 66, 708, 709, 710, 711, 87, 85, 86, 712, 437, 438, 439, 440, 441, 442, 713, 714, 715, 716, 91, 717, 718, 719, 720, 721, 722, 723, 724, 725, 726, 727, 728, 729, 730, 731, 732, 796, 797, 798, 799, 800, 801, 802, 803, 804, 805, 806, 807, 808, 809, 872, 873, 874, 875, 876, 877, 878, 879, 880, 881, 882, 852, 853, 854, 855, 862, 863, 864, 865, 866, 867, 868, 869] (by decide +kernel) (by decide +kernel)) (goodIn_sub (fun _ h => List.mem_append_left _ (List.mem_append_right _ h)) (by decide +kernel))
set_option maxRecDepth 20000 in
theorem gL_law_L_best : GoodIn wsL_law (va_wsS RL 119 yL_best wsL_best) := goodIn_app (goodIn_of _ (by decide +kernel)) ggL_law_L_best
set_option maxRecDepth 20000 in
theorem ggL_law_X8_best : GoodIn wsL_law wsX8_best := goodIn_r _ [736, 167, 737, 451, 177, 178, 179, 5, 180, 738, 739, 740, 741, 169, 168, 120, 742, 121, 122, 743, 477, 478, 479, 480, 99, 481, 98, 112, 482, 483, 484, 485, 105, 104, 111, 473, 474, 475, 476, 96, 744, 745, 746, 747, 124, 123, 101, 748, 749, 750, 751, 810, 811, 812, 813, 814, 815, 816, 817, 818, 819, 820, 821, 822, 823, 824, 825, 826, 827, 828, 829, 830, 831, 832, 833, 834, 835, 836, 837, 838, 839, 840, 841, 842, 843, 844, 845, 846, 847, 848, 849, 850, 851] (by decide +kernel) (by decide +kernel)
set_option maxRecDepth 20000 in
theorem gL_law_X8_best : GoodIn wsL_law (wsV RL 121 RX8 yX8_best wsX8_best) := goodIn_app (goodIn_of _ (by decide +kernel)) ggL_law_X8_best
