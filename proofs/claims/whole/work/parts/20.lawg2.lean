set_option maxRecDepth 20000 in
theorem ggL_law_X6_root : GoodIn wsL_law wsX6_root := goodIn_r _ [659, 15, 116, 120, 121, 2, 122, 117, 118, 119, 891, 892, 893, 894, 895, 896, 897, 898, 925, 926, 927, 928, 929, 930, 931, 932, 933, 934, 935, 936, 937, 938, 939, 940, 941, 942] (by decide +kernel) (by decide +kernel)
set_option maxRecDepth 20000 in
theorem gL_law_X6_root : GoodIn wsL_law (wsV RL 53 RX6 yX6_root wsX6_root) := goodIn_app (goodIn_of _ (by decide +kernel)) ggL_law_X6_root
set_option maxRecDepth 20000 in
theorem ggL_law_X7_root : GoodIn wsL_law wsX7_root := goodIn_r _ [663, 189, 96, 193, 194, 5, 195, 190, 191, 192, 899, 900, 901, 902, 903, 904, 905, 906, 907, 908, 909, 910, 911, 912, 913, 914, 915, 916, 917, 918, 919, 920, 921, 922, 923, 924] (by decide +kernel) (by decide +kernel)
set_option maxRecDepth 20000 in
theorem gL_law_X7_root : GoodIn wsL_law (wsV RL 56 RX7 yX7_root wsX7_root) := goodIn_app (goodIn_of _ (by decide +kernel)) ggL_law_X7_root
set_option maxRecDepth 20000 in
theorem ggL_law_X6_thing : GoodIn wsL_law wsX6_thing := goodIn_r _ [667, 15, 668, 669, 670, 360, 671, 117, 118, 2, 119, 672, 128, 129, 14, 130, 45, 298, 249, 250, 251, 48, 891, 892, 893, 894, 895, 896, 897, 898, 925, 926, 927, 928, 929, 930, 931, 932, 933, 934, 935, 936, 937, 938, 939, 940, 941, 942] (by decide +kernel) (by decide +kernel)
set_option maxRecDepth 20000 in
theorem gL_law_X6_thing : GoodIn wsL_law (wsV RL 57 RX6 yX6_thing wsX6_thing) := goodIn_app (goodIn_of _ (by decide +kernel)) ggL_law_X6_thing
set_option maxRecDepth 20000 in
theorem ggL_law_X7_thing : GoodIn wsL_law wsX7_thing := goodIn_r _ [676, 189, 96, 190, 191, 5, 192, 200, 201, 202, 203, 270, 271, 272, 273, 899, 900, 901, 902, 903, 904, 905, 906, 907, 908, 909, 910, 911, 912, 913, 914, 915, 916, 917, 918, 919, 920, 921, 922, 923, 924] (by decide +kernel) (by decide +kernel)
set_option maxRecDepth 20000 in
theorem gL_law_X7_thing : GoodIn wsL_law (wsV RL 60 RX7 yX7_thing wsX7_thing) := goodIn_app (goodIn_of _ (by decide +kernel)) ggL_law_X7_thing
set_option maxRecDepth 20000 in
theorem ggL_law_X6_region : GoodIn wsL_law wsX6_region := goodIn_r _ [680, 15, 681, 682, 683, 684, 685, 686, 2, 687, 117, 118, 119, 688, 554, 555, 14, 556, 374, 375, 376, 377, 46, 127, 128, 129, 130, 45, 689, 570, 571, 572, 573, 574, 575, 891, 892, 893, 894, 895, 896, 897, 898, 925, 926, 927, 928, 929, 930, 931, 932, 933, 934, 935, 936, 937, 938, 939, 940, 941, 942] (by decide +kernel) (by decide +kernel)
set_option maxRecDepth 20000 in
theorem gL_law_X6_region : GoodIn wsL_law (wsV RL 61 RX6 yX6_region wsX6_region) := goodIn_app (goodIn_of _ (by decide +kernel)) ggL_law_X6_region
set_option maxRecDepth 20000 in
theorem ggL_law_X7_region : GoodIn wsL_law wsX7_region := goodIn_r _ [693, 189, 694, 695, 5, 696, 190, 191, 192, 200, 201, 202, 203, 96, 270, 271, 272, 273, 204, 205, 206, 207, 634, 635, 636, 899, 900, 901, 902, 903, 904, 905, 906, 907, 908, 909, 910, 911, 912, 913, 914, 915, 916, 917, 918, 919, 920, 921, 922, 923, 924] (by decide +kernel) (by decide +kernel)
set_option maxRecDepth 20000 in
theorem gL_law_X7_region : GoodIn wsL_law (wsV RL 64 RX7 yX7_region wsX7_region) := goodIn_app (goodIn_of _ (by decide +kernel)) ggL_law_X7_region
set_option maxRecDepth 20000 in
theorem ggL_law_X6_remembers : GoodIn wsL_law wsX6_remembers := goodIn_r _ [700, 15, 684, 685, 686, 2, 687, 117, 118, 119, 701, 488, 489, 891, 892, 893, 894, 895, 896, 897, 898, 925, 926, 927, 928, 929, 930, 931, 932, 933, 934, 935, 936, 937, 938, 939, 940, 941, 942] (by decide +kernel) (by decide +kernel)
set_option maxRecDepth 20000 in
theorem gL_law_X6_remembers : GoodIn wsL_law (wsV RL 65 RX6 yX6_remembers wsX6_remembers) := goodIn_app (goodIn_of _ (by decide +kernel)) ggL_law_X6_remembers
set_option maxRecDepth 20000 in
theorem ggL_law_X7_remembers : GoodIn wsL_law wsX7_remembers := goodIn_r _ [705, 189, 694, 695, 5, 696, 190, 191, 192, 204, 205, 206, 207, 96, 899, 900, 901, 902, 903, 904, 905, 906, 907, 908, 909, 910, 911, 912, 913, 914, 915, 916, 917, 918, 919, 920, 921, 922, 923, 924] (by decide +kernel) (by decide +kernel)
set_option maxRecDepth 20000 in
theorem gL_law_X7_remembers : GoodIn wsL_law (wsV RL 68 RX7 yX7_remembers wsX7_remembers) := goodIn_app (goodIn_of _ (by decide +kernel)) ggL_law_X7_remembers
set_option maxRecDepth 20000 in
theorem ggL_law_X6_dirty : GoodIn wsL_law wsX6_dirty := goodIn_r _ [709, 15, 315, 710, 323, 324, 53, 325, 172, 64, 891, 892, 893, 894, 895, 896, 897, 898, 925, 926, 927, 928, 929, 930, 931, 932, 933, 934, 935, 936, 937, 938, 939, 940, 941, 942, 960, 961] (by decide +kernel) (by decide +kernel)
set_option maxRecDepth 20000 in
theorem gL_law_X6_dirty : GoodIn wsL_law (wsV RL 69 RX6 yX6_dirty wsX6_dirty) := goodIn_app (goodIn_of _ (by decide +kernel)) ggL_law_X6_dirty
set_option maxRecDepth 20000 in
theorem ggL_law_X7_dirty : GoodIn wsL_law wsX7_dirty := goodIn_r _ [714, 189, 96, 899, 900, 901, 902, 903, 904, 905, 906, 907, 908, 909, 910, 911, 912, 913, 914, 915, 916, 917, 918, 919, 920, 921, 922, 923, 924] (by decide +kernel) (by decide +kernel)
set_option maxRecDepth 20000 in
theorem gL_law_X7_dirty : GoodIn wsL_law (wsV RL 72 RX7 yX7_dirty wsX7_dirty) := goodIn_app (goodIn_of _ (by decide +kernel)) ggL_law_X7_dirty
