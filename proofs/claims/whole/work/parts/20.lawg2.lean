set_option maxRecDepth 20000 in
theorem ggL_law_X6_root : GoodIn wsL_law wsX6_root := goodIn_r _ [664, 15, 118, 122, 123, 2, 124, 119, 120, 121, 896, 897, 898, 899, 900, 901, 902, 903, 930, 931, 932, 933, 934, 935, 936, 937, 938, 939, 940, 941, 942, 943, 944, 945, 946, 947] (by decide +kernel) (by decide +kernel)
set_option maxRecDepth 20000 in
theorem gL_law_X6_root : GoodIn wsL_law (wsV RL 53 RX6 yX6_root wsX6_root) := goodIn_app (goodIn_of _ (by decide +kernel)) ggL_law_X6_root
set_option maxRecDepth 20000 in
theorem ggL_law_X7_root : GoodIn wsL_law wsX7_root := goodIn_r _ [668, 191, 98, 195, 196, 5, 197, 192, 193, 194, 904, 905, 906, 907, 908, 909, 910, 911, 912, 913, 914, 915, 916, 917, 918, 919, 920, 921, 922, 923, 924, 925, 926, 927, 928, 929] (by decide +kernel) (by decide +kernel)
set_option maxRecDepth 20000 in
theorem gL_law_X7_root : GoodIn wsL_law (wsV RL 56 RX7 yX7_root wsX7_root) := goodIn_app (goodIn_of _ (by decide +kernel)) ggL_law_X7_root
set_option maxRecDepth 20000 in
theorem ggL_law_X6_thing : GoodIn wsL_law wsX6_thing := goodIn_r _ [672, 15, 673, 674, 675, 362, 676, 119, 120, 2, 121, 677, 130, 131, 14, 132, 45, 300, 251, 252, 253, 48, 896, 897, 898, 899, 900, 901, 902, 903, 930, 931, 932, 933, 934, 935, 936, 937, 938, 939, 940, 941, 942, 943, 944, 945, 946, 947] (by decide +kernel) (by decide +kernel)
set_option maxRecDepth 20000 in
theorem gL_law_X6_thing : GoodIn wsL_law (wsV RL 57 RX6 yX6_thing wsX6_thing) := goodIn_app (goodIn_of _ (by decide +kernel)) ggL_law_X6_thing
set_option maxRecDepth 20000 in
theorem ggL_law_X7_thing : GoodIn wsL_law wsX7_thing := goodIn_r _ [681, 191, 98, 192, 193, 5, 194, 202, 203, 204, 205, 272, 273, 274, 275, 904, 905, 906, 907, 908, 909, 910, 911, 912, 913, 914, 915, 916, 917, 918, 919, 920, 921, 922, 923, 924, 925, 926, 927, 928, 929] (by decide +kernel) (by decide +kernel)
set_option maxRecDepth 20000 in
theorem gL_law_X7_thing : GoodIn wsL_law (wsV RL 60 RX7 yX7_thing wsX7_thing) := goodIn_app (goodIn_of _ (by decide +kernel)) ggL_law_X7_thing
set_option maxRecDepth 20000 in
theorem ggL_law_X6_region : GoodIn wsL_law wsX6_region := goodIn_r _ [685, 15, 686, 687, 688, 689, 690, 691, 2, 692, 119, 120, 121, 693, 559, 560, 14, 561, 376, 377, 378, 379, 46, 129, 130, 131, 132, 45, 694, 575, 576, 577, 578, 579, 580, 896, 897, 898, 899, 900, 901, 902, 903, 930, 931, 932, 933, 934, 935, 936, 937, 938, 939, 940, 941, 942, 943, 944, 945, 946, 947] (by decide +kernel) (by decide +kernel)
set_option maxRecDepth 20000 in
theorem gL_law_X6_region : GoodIn wsL_law (wsV RL 61 RX6 yX6_region wsX6_region) := goodIn_app (goodIn_of _ (by decide +kernel)) ggL_law_X6_region
set_option maxRecDepth 20000 in
theorem ggL_law_X7_region : GoodIn wsL_law wsX7_region := goodIn_r _ [698, 191, 699, 700, 5, 701, 192, 193, 194, 202, 203, 204, 205, 98, 272, 273, 274, 275, 206, 207, 208, 209, 639, 640, 641, 904, 905, 906, 907, 908, 909, 910, 911, 912, 913, 914, 915, 916, 917, 918, 919, 920, 921, 922, 923, 924, 925, 926, 927, 928, 929] (by decide +kernel) (by decide +kernel)
set_option maxRecDepth 20000 in
theorem gL_law_X7_region : GoodIn wsL_law (wsV RL 64 RX7 yX7_region wsX7_region) := goodIn_app (goodIn_of _ (by decide +kernel)) ggL_law_X7_region
set_option maxRecDepth 20000 in
theorem ggL_law_X6_remembers : GoodIn wsL_law wsX6_remembers := goodIn_r _ [705, 15, 689, 690, 691, 2, 692, 119, 120, 121, 706, 493, 494, 896, 897, 898, 899, 900, 901, 902, 903, 930, 931, 932, 933, 934, 935, 936, 937, 938, 939, 940, 941, 942, 943, 944, 945, 946, 947] (by decide +kernel) (by decide +kernel)
set_option maxRecDepth 20000 in
theorem gL_law_X6_remembers : GoodIn wsL_law (wsV RL 65 RX6 yX6_remembers wsX6_remembers) := goodIn_app (goodIn_of _ (by decide +kernel)) ggL_law_X6_remembers
set_option maxRecDepth 20000 in
theorem ggL_law_X7_remembers : GoodIn wsL_law wsX7_remembers := goodIn_r _ [710, 191, 699, 700, 5, 701, 192, 193, 194, 206, 207, 208, 209, 98, 904, 905, 906, 907, 908, 909, 910, 911, 912, 913, 914, 915, 916, 917, 918, 919, 920, 921, 922, 923, 924, 925, 926, 927, 928, 929] (by decide +kernel) (by decide +kernel)
set_option maxRecDepth 20000 in
theorem gL_law_X7_remembers : GoodIn wsL_law (wsV RL 68 RX7 yX7_remembers wsX7_remembers) := goodIn_app (goodIn_of _ (by decide +kernel)) ggL_law_X7_remembers
set_option maxRecDepth 20000 in
theorem ggL_law_X6_dirty : GoodIn wsL_law wsX6_dirty := goodIn_r _ [714, 15, 317, 715, 325, 326, 53, 327, 174, 64, 896, 897, 898, 899, 900, 901, 902, 903, 930, 931, 932, 933, 934, 935, 936, 937, 938, 939, 940, 941, 942, 943, 944, 945, 946, 947, 966, 967] (by decide +kernel) (by decide +kernel)
set_option maxRecDepth 20000 in
theorem gL_law_X6_dirty : GoodIn wsL_law (wsV RL 69 RX6 yX6_dirty wsX6_dirty) := goodIn_app (goodIn_of _ (by decide +kernel)) ggL_law_X6_dirty
set_option maxRecDepth 20000 in
theorem ggL_law_X7_dirty : GoodIn wsL_law wsX7_dirty := goodIn_r _ [719, 191, 98, 904, 905, 906, 907, 908, 909, 910, 911, 912, 913, 914, 915, 916, 917, 918, 919, 920, 921, 922, 923, 924, 925, 926, 927, 928, 929] (by decide +kernel) (by decide +kernel)
set_option maxRecDepth 20000 in
theorem gL_law_X7_dirty : GoodIn wsL_law (wsV RL 72 RX7 yX7_dirty wsX7_dirty) := goodIn_app (goodIn_of _ (by decide +kernel)) ggL_law_X7_dirty
