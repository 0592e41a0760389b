set_option maxRecDepth 20000 in
theorem ggL_law_L_steps : GoodIn wsL_law wsL_steps := goodIn_ca (goodIn_r _ [534, 188, 535, 536, 537, 2, 538, 28, 16, 193, 194, 195, 196, 197, 198, 137, 468, 305, 306, 27, 307, 64, 539, 443, 444, 445, 446, 70, 69, 67, 66, 796, 797, 798, 799, 800, 801, 802, 803, 804, 805, 806, 807, 808, 809, 852, 853, 854, 855, 862, 863, 864, 865, 866, 867, 868, 869] (by decide +kernel) (by decide +kernel)) (goodIn_sub (fun _ h => List.mem_append_right _ h) (by decide +kernel))
set_option maxRecDepth 20000 in
theorem gL_law_L_steps : GoodIn wsL_law (va_wsS RL 106 yL_steps wsL_steps) := goodIn_app (goodIn_of _ (by decide +kernel)) ggL_law_L_steps
set_option maxRecDepth 20000 in
theorem ggL_law_X8_steps : GoodIn wsL_law wsX8_steps := goodIn_r _ [543, 169, 203, 204, 205, 5, 206, 168, 167, 477, 478, 479, 480, 99, 481, 98, 112, 482, 483, 484, 485, 105, 104, 111, 810, 811, 812, 813, 814, 815, 816, 817, 818, 819, 820, 821, 822, 823, 824, 825, 826, 827, 828, 829, 830, 831, 832, 833, 834, 835, 836, 837, 838, 839, 840, 841, 842, 843, 844, 845, 846, 847, 848, 849, 850, 851] (by decide +kernel) (by decide +kernel)
set_option maxRecDepth 20000 in
theorem gL_law_X8_steps : GoodIn wsL_law (wsV RL 108 RX8 yX8_steps wsX8_steps) := goodIn_app (goodIn_of _ (by decide +kernel)) ggL_law_X8_steps
set_option maxRecDepth 20000 in
theorem ggL_law_L_place : GoodIn wsL_law wsL_place := goodIn_ca (goodIn_r _ [546, 188, 547, 548, 549, 2, 550, 28, 193, 194, 195, 196, 197, 198, 16, 137, 468, 305, 306, 27, 307, 64, 551, 552, 553, 554, 69, 66, 555, 556, 557, 558, 70, 67, 559, 796, 797, 798, 799, 800, 801, 802, 803, 804, 805, 806, 807, 808, 809, 852, 853, 854, 855, 862, 863, 864, 865, 866, 867, 868, 869] (by decide +kernel) (by decide +kernel)) (goodIn_sub (fun _ h => List.mem_append_right _ h) (by decide +kernel))
set_option maxRecDepth 20000 in
theorem gL_law_L_place : GoodIn wsL_law (va_wsS RL 109 yL_place wsL_place) := goodIn_app (goodIn_of _ (by decide +kernel)) ggL_law_L_place
set_option maxRecDepth 20000 in
theorem ggL_law_X8_place : GoodIn wsL_law wsX8_place := goodIn_r _ [563, 169, 481, 112, 203, 204, 205, 5, 206, 168, 167, 482, 483, 484, 485, 105, 104, 111, 810, 811, 812, 813, 814, 815, 816, 817, 818, 819, 820, 821, 822, 823, 824, 825, 826, 827, 828, 829, 830, 831, 832, 833, 834, 835, 836, 837, 838, 839, 840, 841, 842, 843, 844, 845, 846, 847, 848, 849, 850, 851] (by decide +kernel) (by decide +kernel)
set_option maxRecDepth 20000 in
theorem gL_law_X8_place : GoodIn wsL_law (wsV RL 111 RX8 yX8_place wsX8_place) := goodIn_app (goodIn_of _ (by decide +kernel)) ggL_law_X8_place
set_option maxRecDepth 20000 in
theorem ggL_law_L_misled : GoodIn wsL_law wsL_misled := goodIn_ca (goodIn_r _ [566, 188, 567, 568, 569, 2, 570, 28, 16, 193, 194, 195, 196, 197, 198, 137, 468, 305, 306, 27, 307, 64, 551, 552, 553, 554, 69, 66, 571, 572, 573, 574, 65, 575, 576, 577, 578, 559, 579, 556, 557, 558, 70, 67, 580, 503, 504, 505, 68, 581, 582, 583, 584, 585, 586, 587, 588, 589, 71, 440, 590, 591, 592, 593, 594, 595, 596, 597, 598, 599, 600, 601, 602, 603, 604, 605, 606, 607, 608, 796, 797, 798, 799, 800, 801, 802, 803, 804, 805, 806, 807, 808, 809, 852, 853, 854, 855, 862, 863, 864, 865, 866, 867, 868, 869] (by decide +kernel) (by decide +kernel)) (goodIn_sub (fun _ h => List.mem_append_right _ h) (by decide +kernel))
set_option maxRecDepth 20000 in
theorem gL_law_L_misled : GoodIn wsL_law (va_wsS RL 112 yL_misled wsL_misled) := goodIn_app (goodIn_of _ (by decide +kernel)) ggL_law_L_misled
