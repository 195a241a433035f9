set_option maxRecDepth 20000 in
theorem ggL_law_X6_rubbish : GoodIn wsL_law wsX6_rubbish := goodIn_r _ [771, 35, 15, 772, 673, 119, 120, 2, 121, 773, 774, 775, 34, 776, 90, 93, 777, 778, 779, 469, 67, 470, 780, 781, 782, 783, 784, 259, 260, 53, 261, 174, 64, 785, 325, 326, 327, 786, 251, 252, 14, 253, 48, 677, 130, 131, 132, 45, 896, 897, 898, 899, 900, 901, 902, 903, 963, 964, 965, 930, 931, 932, 933, 934, 935, 936, 937, 938, 939, 940, 941, 942, 943, 944, 945, 946, 947, 966, 967] (by decide +kernel) (by decide +kernel)
set_option maxRecDepth 20000 in
theorem gL_law_X6_rubbish : GoodIn wsL_law (wsV RL 93 RX6 yX6_rubbish wsX6_rubbish) := goodIn_app (goodIn_of _ (by decide +kernel)) ggL_law_X6_rubbish
set_option maxRecDepth 20000 in
theorem ggL_law_X7_rubbish : GoodIn wsL_law wsX7_rubbish := goodIn_r _ [790, 191, 111, 192, 193, 5, 194, 791, 792, 793, 794, 98, 795, 796, 797, 798, 272, 273, 274, 275, 202, 203, 204, 205, 904, 905, 906, 907, 908, 909, 910, 911, 912, 913, 914, 915, 916, 917, 918, 919, 920, 921, 922, 923, 924, 925, 926, 927, 928, 929] (by decide +kernel) (by decide +kernel)
set_option maxRecDepth 20000 in
theorem gL_law_X7_rubbish : GoodIn wsL_law (wsV RL 96 RX7 yX7_rubbish wsX7_rubbish) := goodIn_app (goodIn_of _ (by decide +kernel)) ggL_law_X7_rubbish
set_option maxRecDepth 20000 in
theorem ggL_law_X6_way : GoodIn wsL_law wsX6_way := goodIn_r _ [802, 15, 35, 803, 119, 120, 2, 121, 677, 130, 131, 14, 132, 45, 804, 805, 806, 34, 807, 91, 808, 66, 67, 68, 809, 810, 811, 812, 813, 786, 251, 252, 253, 48, 814, 815, 816, 817, 818, 819, 820, 821, 778, 822, 823, 824, 825, 826, 827, 828, 829, 830, 831, 832, 833, 834, 156, 157, 158, 896, 897, 898, 899, 900, 901, 902, 903, 963, 964, 965, 930, 931, 932, 933, 934, 935, 936, 937, 938, 939, 940, 941, 942, 943, 944, 945, 946, 947] (by decide +kernel) (by decide +kernel)
set_option maxRecDepth 20000 in
theorem gL_law_X6_way : GoodIn wsL_law (wsV RL 97 RX6 yX6_way wsX6_way) := goodIn_app (goodIn_of _ (by decide +kernel)) ggL_law_X6_way
set_option maxRecDepth 20000 in
theorem ggL_law_X7_way : GoodIn wsL_law wsX7_way := goodIn_r _ [838, 191, 111, 112, 202, 203, 204, 5, 205, 98, 192, 193, 194, 791, 792, 793, 794, 795, 796, 797, 798, 272, 273, 274, 275, 839, 840, 841, 842, 843, 844, 845, 846, 904, 905, 906, 907, 908, 909, 910, 911, 912, 913, 914, 915, 916, 917, 918, 919, 920, 921, 922, 923, 924, 925, 926, 927, 928, 929] (by decide +kernel) (by decide +kernel)
set_option maxRecDepth 20000 in
theorem gL_law_X7_way : GoodIn wsL_law (wsV RL 100 RX7 yX7_way wsX7_way) := goodIn_app (goodIn_of _ (by decide +kernel)) ggL_law_X7_way
set_option maxRecDepth 20000 in
theorem ggL_law_X6_keep : GoodIn wsL_law wsX6_keep := goodIn_r _ [850, 21, 15, 23, 851, 852, 2, 853, 119, 120, 121, 763, 160, 161, 14, 162, 41, 163, 164, 165, 166, 42, 43, 44, 45, 46, 47, 48, 49, 50, 54, 55, 167, 56, 57, 59, 168, 60, 169, 170, 171, 53, 172, 64, 173, 174, 854, 855, 856, 857, 129, 130, 131, 132, 896, 897, 898, 899, 900, 901, 902, 903, 930, 931, 932, 933, 934, 935, 936, 937, 938, 939, 940, 941, 942, 943, 944, 945, 946, 947, 966, 967] (by decide +kernel) (by decide +kernel)
set_option maxRecDepth 20000 in
theorem gL_law_X6_keep : GoodIn wsL_law (wsV RL 101 RX6 yX6_keep wsX6_keep) := goodIn_app (goodIn_of _ (by decide +kernel)) ggL_law_X6_keep
set_option maxRecDepth 20000 in
theorem ggL_law_X7_keep : GoodIn wsL_law wsX7_keep := goodIn_r _ [861, 191, 103, 98, 104, 100, 105, 192, 193, 5, 194, 862, 863, 864, 865, 202, 203, 204, 205, 904, 905, 906, 907, 908, 909, 910, 911, 912, 913, 914, 915, 916, 917, 918, 919, 920, 921, 922, 923, 924, 925, 926, 927, 928, 929] (by decide +kernel) (by decide +kernel)
set_option maxRecDepth 20000 in
theorem gL_law_X7_keep : GoodIn wsL_law (wsV RL 104 RX7 yX7_keep wsX7_keep) := goodIn_app (goodIn_of _ (by decide +kernel)) ggL_law_X7_keep
set_option maxRecDepth 20000 in
theorem ggL_law_X6_back : GoodIn wsL_law wsX6_back := goodIn_r _ [869, 23, 15, 21, 20, 851, 852, 2, 853, 119, 120, 121, 763, 160, 161, 14, 162, 41, 163, 164, 165, 166, 42, 43, 44, 45, 46, 47, 48, 49, 50, 54, 55, 167, 56, 57, 59, 168, 60, 169, 170, 171, 53, 172, 64, 173, 174, 870, 871, 872, 19, 873, 154, 854, 855, 856, 857, 129, 130, 131, 132, 896, 897, 898, 899, 900, 901, 902, 903, 930, 931, 932, 933, 934, 935, 936, 937, 938, 939, 940, 941, 942, 943, 944, 945, 946, 947, 966, 967, 948, 949, 950] (by decide +kernel) (by decide +kernel)
set_option maxRecDepth 20000 in
theorem gL_law_X6_back : GoodIn wsL_law (wsV RL 105 RX6 yX6_back wsX6_back) := goodIn_app (goodIn_of _ (by decide +kernel)) ggL_law_X6_back
set_option maxRecDepth 20000 in
theorem ggL_law_X7_back : GoodIn wsL_law wsX7_back := goodIn_r _ [877, 191, 105, 98, 103, 100, 104, 218, 192, 193, 5, 194, 862, 863, 864, 865, 202, 203, 204, 205, 904, 905, 906, 907, 908, 909, 910, 911, 912, 913, 914, 915, 916, 917, 918, 919, 920, 921, 922, 923, 924, 925, 926, 927, 928, 929] (by decide +kernel) (by decide +kernel)
set_option maxRecDepth 20000 in
theorem gL_law_X7_back : GoodIn wsL_law (wsV RL 108 RX7 yX7_back wsX7_back) := goodIn_app (goodIn_of _ (by decide +kernel)) ggL_law_X7_back
set_option maxRecDepth 20000 in
theorem ggL_law_X6_count : GoodIn wsL_law wsX6_count := goodIn_r _ [881, 15, 317, 318, 363, 362, 882, 883, 20, 652, 854, 855, 856, 14, 857, 129, 130, 131, 132, 45, 884, 885, 886, 887, 41, 896, 897, 898, 899, 900, 901, 902, 903, 930, 931, 932, 933, 934, 935, 936, 937, 938, 939, 940, 941, 942, 943, 944, 945, 946, 947, 966, 967, 948, 949, 950] (by decide +kernel) (by decide +kernel)
set_option maxRecDepth 20000 in
theorem gL_law_X6_count : GoodIn wsL_law (wsV RL 109 RX6 yX6_count wsX6_count) := goodIn_app (goodIn_of _ (by decide +kernel)) ggL_law_X6_count
set_option maxRecDepth 20000 in
theorem ggL_law_X7_count : GoodIn wsL_law wsX7_count := goodIn_r _ [891, 191, 98, 218, 862, 863, 864, 5, 865, 202, 203, 204, 205, 192, 193, 194, 892, 893, 894, 895, 206, 207, 208, 209, 904, 905, 906, 907, 908, 909, 910, 911, 912, 913, 914, 915, 916, 917, 918, 919, 920, 921, 922, 923, 924, 925, 926, 927, 928, 929] (by decide +kernel) (by decide +kernel)
set_option maxRecDepth 20000 in
theorem gL_law_X7_count : GoodIn wsL_law (wsV RL 112 RX7 yX7_count wsX7_count) := goodIn_app (goodIn_of _ (by decide +kernel)) ggL_law_X7_count
