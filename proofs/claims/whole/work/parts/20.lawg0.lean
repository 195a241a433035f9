set_option maxRecDepth 20000 in
theorem ggL_law_X6_init : GoodIn wsL_law wsX6_init := goodIn_r _ [8, 9, 10, 11, 12, 13, 14, 15, 16, 17, 18, 19, 20, 21, 22, 23, 24, 25, 26, 27, 28, 29, 30, 31, 32, 33, 34, 35, 36, 37, 38, 39, 40, 41, 42, 43, 44, 45, 46, 47, 48, 49, 50, 51, 52, 53, 54, 55, 56, 57, 58, 59, 60, 61, 62, 63, 64, 65, 66, 67, 68, 69, 70, 71, 72, 73, 74, 75, 76, 77, 78, 79, 80, 81, 82, 83, 84, 85, 86, 87, 88, 89, 90, 91, 92, 93, 930, 931, 932, 933, 934, 935, 936, 937, 938, 939, 940, 941, 942, 943, 944, 945, 946, 947, 896, 897, 898, 899, 900, 901, 902, 903, 948, 949, 950, 951, 952, 953, 954, 955, 956, 957, 958, 959, 960, 961, 962, 963, 964, 965, 966, 967] (by decide +kernel) (by decide +kernel)
set_option maxRecDepth 20000 in
theorem gL_law_X6_init : GoodIn wsL_law (wsX6_init) := ggL_law_X6_init
set_option maxRecDepth 20000 in
theorem ggL_law_X7_init : GoodIn wsL_law wsX7_init := goodIn_r _ [96, 97, 10, 11, 40, 98, 99, 100, 101, 102, 103, 104, 22, 105, 106, 107, 108, 109, 110, 111, 112, 113, 904, 905, 906, 907, 908, 909, 910, 911, 912, 913, 914, 915, 916, 917, 918, 919, 920, 921, 922, 923, 924, 925, 926, 927, 928, 929] (by decide +kernel) (by decide +kernel)
set_option maxRecDepth 20000 in
theorem gL_law_X7_init : GoodIn wsL_law (wsX7_init) := ggL_law_X7_init
set_option maxRecDepth 20000 in
theorem ggL_law_X6_makes : GoodIn wsL_law wsX6_makes := goodIn_r _ [117, 15, 20, 118, 119, 120, 2, 121, 122, 123, 124, 125, 126, 127, 14, 128, 129, 130, 131, 132, 45, 133, 134, 135, 136, 56, 137, 138, 139, 140, 141, 142, 143, 144, 41, 145, 146, 147, 148, 42, 149, 150, 151, 19, 152, 74, 153, 154, 155, 156, 157, 158, 159, 160, 161, 162, 163, 164, 165, 166, 43, 44, 46, 47, 48, 49, 50, 54, 55, 167, 57, 59, 168, 60, 169, 170, 171, 53, 172, 64, 173, 174, 175, 176, 177, 178, 179, 180, 181, 182, 183, 184, 185, 186, 896, 897, 898, 899, 900, 901, 902, 903, 930, 931, 932, 933, 934, 935, 936, 937, 938, 939, 940, 941, 942, 943, 944, 945, 946, 947, 948, 949, 950, 966, 967] (by decide +kernel) (by decide +kernel)
set_option maxRecDepth 20000 in
theorem gL_law_X6_makes : GoodIn wsL_law (wsV RL 13 RX6 yX6_makes wsX6_makes) := goodIn_app (goodIn_of _ (by decide +kernel)) ggL_law_X6_makes
set_option maxRecDepth 20000 in
theorem ggL_law_X7_makes : GoodIn wsL_law wsX7_makes := goodIn_r _ [190, 191, 98, 192, 193, 5, 194, 195, 196, 197, 198, 199, 200, 201, 202, 203, 204, 205, 206, 207, 208, 209, 210, 211, 212, 213, 214, 215, 216, 217, 218, 101, 102, 100, 219, 220, 221, 222, 223, 224, 225, 226, 227, 228, 229, 230, 231, 232, 233, 234, 904, 905, 906, 907, 908, 909, 910, 911, 912, 913, 914, 915, 916, 917, 918, 919, 920, 921, 922, 923, 924, 925, 926, 927, 928, 929] (by decide +kernel) (by decide +kernel)
set_option maxRecDepth 20000 in
theorem gL_law_X7_makes : GoodIn wsL_law (wsV RL 17 RX7 yX7_makes wsX7_makes) := goodIn_app (goodIn_of _ (by decide +kernel)) ggL_law_X7_makes
set_option maxRecDepth 20000 in
theorem ggL_law_X6_writes : GoodIn wsL_law wsX6_writes := goodIn_r _ [238, 15, 118, 20, 122, 123, 2, 124, 119, 120, 121, 239, 240, 241, 149, 150, 151, 19, 152, 74, 153, 154, 155, 156, 157, 158, 159, 160, 161, 14, 162, 41, 163, 164, 165, 166, 42, 43, 44, 45, 46, 47, 48, 49, 50, 54, 55, 167, 56, 57, 59, 168, 60, 169, 170, 171, 53, 172, 64, 173, 174, 242, 243, 244, 245, 246, 247, 248, 249, 250, 251, 252, 253, 254, 255, 256, 257, 258, 259, 260, 261, 262, 263, 264, 265, 266, 267, 896, 897, 898, 899, 900, 901, 902, 903, 930, 931, 932, 933, 934, 935, 936, 937, 938, 939, 940, 941, 942, 943, 944, 945, 946, 947, 948, 949, 950, 966, 967] (by decide +kernel) (by decide +kernel)
set_option maxRecDepth 20000 in
theorem gL_law_X6_writes : GoodIn wsL_law (wsV RL 18 RX6 yX6_writes wsX6_writes) := goodIn_app (goodIn_of _ (by decide +kernel)) ggL_law_X6_writes
set_option maxRecDepth 20000 in
theorem ggL_law_X7_writes : GoodIn wsL_law wsX7_writes := goodIn_r _ [271, 191, 98, 195, 196, 5, 197, 192, 193, 194, 214, 215, 216, 217, 218, 101, 102, 100, 272, 273, 274, 275, 276, 277, 278, 279, 280, 281, 282, 283, 206, 207, 208, 209, 284, 285, 286, 287, 288, 289, 290, 291, 292, 293, 294, 295, 904, 905, 906, 907, 908, 909, 910, 911, 912, 913, 914, 915, 916, 917, 918, 919, 920, 921, 922, 923, 924, 925, 926, 927, 928, 929] (by decide +kernel) (by decide +kernel)
set_option maxRecDepth 20000 in
theorem gL_law_X7_writes : GoodIn wsL_law (wsV RL 22 RX7 yX7_writes wsX7_writes) := goodIn_app (goodIn_of _ (by decide +kernel)) ggL_law_X7_writes
set_option maxRecDepth 20000 in
theorem ggL_law_X6_takes : GoodIn wsL_law wsX6_takes := goodIn_r _ [299, 15, 118, 20, 122, 123, 2, 124, 119, 120, 121, 149, 150, 151, 19, 152, 74, 153, 154, 155, 156, 157, 158, 159, 160, 161, 14, 162, 41, 163, 164, 165, 166, 42, 43, 44, 45, 46, 47, 48, 49, 50, 54, 55, 167, 56, 57, 59, 168, 60, 169, 170, 171, 53, 172, 64, 173, 174, 300, 251, 252, 253, 896, 897, 898, 899, 900, 901, 902, 903, 930, 931, 932, 933, 934, 935, 936, 937, 938, 939, 940, 941, 942, 943, 944, 945, 946, 947, 948, 949, 950, 966, 967] (by decide +kernel) (by decide +kernel)
set_option maxRecDepth 20000 in
theorem gL_law_X6_takes : GoodIn wsL_law (wsV RL 23 RX6 yX6_takes wsX6_takes) := goodIn_app (goodIn_of _ (by decide +kernel)) ggL_law_X6_takes
set_option maxRecDepth 20000 in
theorem ggL_law_X7_takes : GoodIn wsL_law wsX7_takes := goodIn_r _ [304, 191, 98, 195, 196, 5, 197, 192, 193, 194, 214, 215, 216, 217, 218, 101, 102, 100, 272, 273, 274, 275, 904, 905, 906, 907, 908, 909, 910, 911, 912, 913, 914, 915, 916, 917, 918, 919, 920, 921, 922, 923, 924, 925, 926, 927, 928, 929] (by decide +kernel) (by decide +kernel)
set_option maxRecDepth 20000 in
theorem gL_law_X7_takes : GoodIn wsL_law (wsV RL 26 RX7 yX7_takes wsX7_takes) := goodIn_app (goodIn_of _ (by decide +kernel)) ggL_law_X7_takes
set_option maxRecDepth 20000 in
theorem ggL_law_X6_sets : GoodIn wsL_law wsX6_sets := goodIn_r _ [308, 20, 15, 118, 122, 123, 2, 124, 119, 120, 121, 239, 240, 241, 149, 150, 151, 19, 152, 74, 153, 154, 155, 156, 157, 158, 159, 160, 161, 14, 162, 41, 163, 164, 165, 166, 42, 43, 44, 45, 46, 47, 48, 49, 50, 54, 55, 167, 56, 57, 59, 168, 60, 169, 170, 171, 53, 172, 64, 173, 174, 242, 243, 244, 245, 896, 897, 898, 899, 900, 901, 902, 903, 930, 931, 932, 933, 934, 935, 936, 937, 938, 939, 940, 941, 942, 943, 944, 945, 946, 947, 948, 949, 950, 966, 967] (by decide +kernel) (by decide +kernel)
set_option maxRecDepth 20000 in
theorem gL_law_X6_sets : GoodIn wsL_law (wsV RL 27 RX6 yX6_sets wsX6_sets) := goodIn_app (goodIn_of _ (by decide +kernel)) ggL_law_X6_sets
set_option maxRecDepth 20000 in
theorem ggL_law_X7_sets : GoodIn wsL_law wsX7_sets := goodIn_r _ [312, 191, 98, 195, 196, 5, 197, 192, 193, 194, 214, 215, 216, 217, 218, 101, 102, 100, 904, 905, 906, 907, 908, 909, 910, 911, 912, 913, 914, 915, 916, 917, 918, 919, 920, 921, 922, 923, 924, 925, 926, 927, 928, 929] (by decide +kernel) (by decide +kernel)
set_option maxRecDepth 20000 in
theorem gL_law_X7_sets : GoodIn wsL_law (wsV RL 30 RX7 yX7_sets wsX7_sets) := goodIn_app (goodIn_of _ (by decide +kernel)) ggL_law_X7_sets
