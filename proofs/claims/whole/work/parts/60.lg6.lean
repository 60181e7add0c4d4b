set_option maxRecDepth 20000 in
theorem gd_1 : GoodIn wsL_law (.code yX4_digest cX4_digest 2 (some .long) :: wsX4_digest_r1) := goodIn_r _ [833, 172, 834, 835, 65, 597, 435, 67, 689, 690, 691, 5, 692, 201, 598, 599, 600, 601, 354, 355, 356, 70, 71, 72, 300] (by decide +kernel) (by decide +kernel)
set_option maxRecDepth 20000 in
theorem gd_2 : GoodIn wsL_law wsX4_digest_r2 := goodIn_r _ [301, 302, 303, 304, 305, 306, 307, 308, 309, 310, 311, 312, 313, 190, 191, 192, 193, 194, 195, 196, 314, 315, 316, 317] (by decide +kernel) (by decide +kernel)
set_option maxRecDepth 20000 in
theorem gd_3 : GoodIn wsL_law wsX4_digest_r3 := goodIn_r _ [357, 358, 359, 360, 361, 529, 530, 531, 532, 693, 694, 695, 696, 836, 837, 838, 839, 840, 841, 842, 843, 844, 577, 578] (by decide +kernel) (by decide +kernel)
set_option maxRecDepth 20000 in
theorem gd_4 : GoodIn wsL_law wsX4_digest_r4 := goodIn_r _ [579, 580, 581, 582, 583, 584, 585, 586, 587, 588, 589, 590, 591, 592, 593, 594, 595, 596, 602, 603, 604, 605, 606, 607] (by decide +kernel) (by decide +kernel)
set_option maxRecDepth 20000 in
theorem gd_5 : GoodIn wsL_law wsX4_digest_r5 := goodIn_r _ [608, 769, 770, 771, 772, 788, 789, 790, 791, 792, 793, 794, 795, 845, 846, 847, 848, 849, 850, 851, 852, 853, 854, 855] (by decide +kernel) (by decide +kernel)
set_option maxRecDepth 20000 in
theorem gd_6 : GoodIn wsL_law wsX4_digest_r6 := goodIn_r _ [856, 632, 633, 634, 635, 636, 637, 638, 639, 655, 656, 657, 658, 395, 396, 401, 394, 397, 398, 399, 400, 670, 671, 672] (by decide +kernel) (by decide +kernel)
set_option maxRecDepth 20000 in
theorem gd_7 : GoodIn wsL_law wsX4_digest_r7 := goodIn_r _ [673, 744, 745, 746, 747, 350, 351, 352, 353] (by decide +kernel) (by decide +kernel)
set_option maxRecDepth 20000 in
theorem gd_x : GoodIn wsL_law wsX40 := goodIn_r _ [865, 866, 867, 868, 869, 870, 871, 872, 873, 874, 875, 876, 877, 878, 879, 880, 881, 882, 883, 884, 885, 886] (by decide +kernel) (by decide +kernel)
theorem ggL_law_X4_digest : GoodIn wsL_law wsX4_digest := goodIn_ca (goodIn_ca gd_1 (goodIn_app gd_2 (goodIn_app gd_3 (goodIn_app gd_4 (goodIn_app gd_5 (goodIn_app gd_6 gd_7)))))) gd_x
set_option maxRecDepth 20000 in
theorem gL_law_X4_digest : GoodIn wsL_law (wsV RL 178 RX4 yX4_digest wsX4_digest) := goodIn_app (goodIn_of _ (by decide +kernel)) ggL_law_X4_digest
