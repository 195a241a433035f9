set_option maxRecDepth 20000 in
theorem ggL_law_X6_rubbish : GoodIn wsL_law wsX6_rubbish := goodIn_r _ [766, 35, 15, 767, 668, 117, 118, 2, 119, 768, 769, 770, 34, 771, 772, 91, 773, 774, 775, 776, 777, 778, 779, 257, 258, 53, 259, 172, 64, 780, 323, 324, 325, 781, 249, 250, 14, 251, 48, 672, 128, 129, 130, 45, 701, 488, 489, 891, 892, 893, 894, 895, 896, 897, 898, 957, 958, 959, 925, 926, 927, 928, 929, 930, 931, 932, 933, 934, 935, 936, 937, 938, 939, 940, 941, 942, 960, 961] (by decide +kernel) (by decide +kernel)
set_option maxRecDepth 20000 in
theorem gL_law_X6_rubbish : GoodIn wsL_law (wsV RL 93 RX6 yX6_rubbish wsX6_rubbish) := goodIn_app (goodIn_of _ (by decide +kernel)) ggL_law_X6_rubbish
set_option maxRecDepth 20000 in
theorem ggL_law_X7_rubbish : GoodIn wsL_law wsX7_rubbish := goodIn_r _ [785, 189, 109, 190, 191, 5, 192, 786, 787, 788, 789, 96, 790, 791, 792, 793, 270, 271, 272, 273, 200, 201, 202, 203, 899, 900, 901, 902, 903, 904, 905, 906, 907, 908, 909, 910, 911, 912, 913, 914, 915, 916, 917, 918, 919, 920, 921, 922, 923, 924] (by decide +kernel) (by decide +kernel)
set_option maxRecDepth 20000 in
theorem gL_law_X7_rubbish : GoodIn wsL_law (wsV RL 96 RX7 yX7_rubbish wsX7_rubbish) := goodIn_app (goodIn_of _ (by decide +kernel)) ggL_law_X7_rubbish
set_option maxRecDepth 20000 in
theorem ggL_law_X6_way : GoodIn wsL_law wsX6_way := goodIn_r _ [797, 15, 35, 798, 117, 118, 2, 119, 672, 128, 129, 14, 130, 45, 799, 800, 801, 34, 802, 89, 803, 66, 67, 68, 804, 805, 806, 807, 808, 781, 249, 250, 251, 48, 809, 810, 811, 812, 813, 814, 815, 816, 774, 817, 818, 819, 820, 821, 822, 823, 824, 825, 826, 827, 828, 829, 154, 155, 156, 891, 892, 893, 894, 895, 896, 897, 898, 957, 958, 959, 925, 926, 927, 928, 929, 930, 931, 932, 933, 934, 935, 936, 937, 938, 939, 940, 941, 942] (by decide +kernel) (by decide +kernel)
set_option maxRecDepth 20000 in
theorem gL_law_X6_way : GoodIn wsL_law (wsV RL 97 RX6 yX6_way wsX6_way) := goodIn_app (goodIn_of _ (by decide +kernel)) ggL_law_X6_way
set_option maxRecDepth 20000 in
theorem ggL_law_X7_way : GoodIn wsL_law wsX7_way := goodIn_r _ [833, 189, 109, 110, 200, 201, 202, 5, 203, 96, 190, 191, 192, 786, 787, 788, 789, 790, 791, 792, 793, 270, 271, 272, 273, 834, 835, 836, 837, 838, 839, 840, 841, 899, 900, 901, 902, 903, 904, 905, 906, 907, 908, 909, 910, 911, 912, 913, 914, 915, 916, 917, 918, 919, 920, 921, 922, 923, 924] (by decide +kernel) (by decide +kernel)
set_option maxRecDepth 20000 in
theorem gL_law_X7_way : GoodIn wsL_law (wsV RL 100 RX7 yX7_way wsX7_way) := goodIn_app (goodIn_of _ (by decide +kernel)) ggL_law_X7_way
set_option maxRecDepth 20000 in
theorem ggL_law_X6_keep : GoodIn wsL_law wsX6_keep := goodIn_r _ [845, 21, 15, 23, 846, 847, 2, 848, 117, 118, 119, 758, 158, 159, 14, 160, 41, 161, 162, 163, 164, 42, 43, 44, 45, 46, 47, 48, 49, 50, 54, 55, 165, 56, 57, 59, 166, 60, 167, 168, 169, 53, 170, 64, 171, 172, 849, 850, 851, 852, 127, 128, 129, 130, 891, 892, 893, 894, 895, 896, 897, 898, 925, 926, 927, 928, 929, 930, 931, 932, 933, 934, 935, 936, 937, 938, 939, 940, 941, 942, 960, 961] (by decide +kernel) (by decide +kernel)
set_option maxRecDepth 20000 in
theorem gL_law_X6_keep : GoodIn wsL_law (wsV RL 101 RX6 yX6_keep wsX6_keep) := goodIn_app (goodIn_of _ (by decide +kernel)) ggL_law_X6_keep
set_option maxRecDepth 20000 in
theorem ggL_law_X7_keep : GoodIn wsL_law wsX7_keep := goodIn_r _ [856, 189, 101, 96, 102, 98, 103, 190, 191, 5, 192, 857, 858, 859, 860, 200, 201, 202, 203, 899, 900, 901, 902, 903, 904, 905, 906, 907, 908, 909, 910, 911, 912, 913, 914, 915, 916, 917, 918, 919, 920, 921, 922, 923, 924] (by decide +kernel) (by decide +kernel)
set_option maxRecDepth 20000 in
theorem gL_law_X7_keep : GoodIn wsL_law (wsV RL 104 RX7 yX7_keep wsX7_keep) := goodIn_app (goodIn_of _ (by decide +kernel)) ggL_law_X7_keep
set_option maxRecDepth 20000 in
theorem ggL_law_X6_back : GoodIn wsL_law wsX6_back := goodIn_r _ [864, 23, 15, 21, 20, 846, 847, 2, 848, 117, 118, 119, 758, 158, 159, 14, 160, 41, 161, 162, 163, 164, 42, 43, 44, 45, 46, 47, 48, 49, 50, 54, 55, 165, 56, 57, 59, 166, 60, 167, 168, 169, 53, 170, 64, 171, 172, 865, 866, 867, 19, 868, 152, 849, 850, 851, 852, 127, 128, 129, 130, 891, 892, 893, 894, 895, 896, 897, 898, 925, 926, 927, 928, 929, 930, 931, 932, 933, 934, 935, 936, 937, 938, 939, 940, 941, 942, 960, 961, 943, 944, 945] (by decide +kernel) (by decide +kernel)
set_option maxRecDepth 20000 in
theorem gL_law_X6_back : GoodIn wsL_law (wsV RL 105 RX6 yX6_back wsX6_back) := goodIn_app (goodIn_of _ (by decide +kernel)) ggL_law_X6_back
set_option maxRecDepth 20000 in
theorem ggL_law_X7_back : GoodIn wsL_law wsX7_back := goodIn_r _ [872, 189, 103, 96, 101, 98, 102, 216, 190, 191, 5, 192, 857, 858, 859, 860, 200, 201, 202, 203, 899, 900, 901, 902, 903, 904, 905, 906, 907, 908, 909, 910, 911, 912, 913, 914, 915, 916, 917, 918, 919, 920, 921, 922, 923, 924] (by decide +kernel) (by decide +kernel)
set_option maxRecDepth 20000 in
theorem gL_law_X7_back : GoodIn wsL_law (wsV RL 108 RX7 yX7_back wsX7_back) := goodIn_app (goodIn_of _ (by decide +kernel)) ggL_law_X7_back
set_option maxRecDepth 20000 in
theorem ggL_law_X6_count : GoodIn wsL_law wsX6_count := goodIn_r _ [876, 15, 315, 316, 361, 360, 877, 878, 20, 647, 849, 850, 851, 14, 852, 127, 128, 129, 130, 45, 879, 880, 881, 882, 41, 891, 892, 893, 894, 895, 896, 897, 898, 925, 926, 927, 928, 929, 930, 931, 932, 933, 934, 935, 936, 937, 938, 939, 940, 941, 942, 960, 961, 943, 944, 945] (by decide +kernel) (by decide +kernel)
set_option maxRecDepth 20000 in
theorem gL_law_X6_count : GoodIn wsL_law (wsV RL 109 RX6 yX6_count wsX6_count) := goodIn_app (goodIn_of _ (by decide +kernel)) ggL_law_X6_count
set_option maxRecDepth 20000 in
theorem ggL_law_X7_count : GoodIn wsL_law wsX7_count := goodIn_r _ [886, 189, 96, 216, 857, 858, 859, 5, 860, 200, 201, 202, 203, 190, 191, 192, 887, 888, 889, 890, 204, 205, 206, 207, 899, 900, 901, 902, 903, 904, 905, 906, 907, 908, 909, 910, 911, 912, 913, 914, 915, 916, 917, 918, 919, 920, 921, 922, 923, 924] (by decide +kernel) (by decide +kernel)
set_option maxRecDepth 20000 in
theorem gL_law_X7_count : GoodIn wsL_law (wsV RL 112 RX7 yX7_count wsX7_count) := goodIn_app (goodIn_of _ (by decide +kernel)) ggL_law_X7_count
