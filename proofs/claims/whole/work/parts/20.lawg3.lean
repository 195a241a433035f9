set_option maxRecDepth 20000 in
theorem ggL_law_X6_grey : GoodIn wsL_law wsX6_grey := goodIn_r _ [723, 15, 363, 715, 325, 326, 53, 327, 174, 64, 896, 897, 898, 899, 900, 901, 902, 903, 930, 931, 932, 933, 934, 935, 936, 937, 938, 939, 940, 941, 942, 943, 944, 945, 946, 947, 966, 967] (by decide +kernel) (by decide +kernel)
set_option maxRecDepth 20000 in
theorem gL_law_X6_grey : GoodIn wsL_law (wsV RL 73 RX6 yX6_grey wsX6_grey) := goodIn_app (goodIn_of _ (by decide +kernel)) ggL_law_X6_grey
set_option maxRecDepth 20000 in
theorem ggL_law_X7_grey : GoodIn wsL_law wsX7_grey := goodIn_r _ [727, 191, 98, 904, 905, 906, 907, 908, 909, 910, 911, 912, 913, 914, 915, 916, 917, 918, 919, 920, 921, 922, 923, 924, 925, 926, 927, 928, 929] (by decide +kernel) (by decide +kernel)
set_option maxRecDepth 20000 in
theorem gL_law_X7_grey : GoodIn wsL_law (wsV RL 76 RX7 yX7_grey wsX7_grey) := goodIn_app (goodIn_of _ (by decide +kernel)) ggL_law_X7_grey
set_option maxRecDepth 20000 in
theorem ggL_law_X6_learnt : GoodIn wsL_law wsX6_learnt := goodIn_r _ [731, 732, 15, 733, 734, 119, 120, 2, 121, 896, 897, 898, 899, 900, 901, 902, 903, 930, 931, 932, 933, 934, 935, 936, 937, 938, 939, 940, 941, 942, 943, 944, 945, 946, 947] (by decide +kernel) (by decide +kernel)
set_option maxRecDepth 20000 in
theorem gL_law_X6_learnt : GoodIn wsL_law (wsV RL 77 RX6 yX6_learnt wsX6_learnt) := goodIn_app (goodIn_of _ (by decide +kernel)) ggL_law_X6_learnt
set_option maxRecDepth 20000 in
theorem ggL_law_X7_learnt : GoodIn wsL_law wsX7_learnt := goodIn_r _ [738, 191, 739, 100, 192, 193, 5, 194, 904, 905, 906, 907, 908, 909, 910, 911, 912, 913, 914, 915, 916, 917, 918, 919, 920, 921, 922, 923, 924, 925, 926, 927, 928, 929] (by decide +kernel) (by decide +kernel)
set_option maxRecDepth 20000 in
theorem gL_law_X7_learnt : GoodIn wsL_law (wsV RL 80 RX7 yX7_learnt wsX7_learnt) := goodIn_app (goodIn_of _ (by decide +kernel)) ggL_law_X7_learnt
set_option maxRecDepth 20000 in
theorem ggL_law_X6_chooses : GoodIn wsL_law wsX6_chooses := goodIn_r _ [743, 27, 15, 744, 450, 451, 2, 452, 119, 120, 121, 745, 473, 474, 26, 475, 476, 477, 478, 479, 480, 481, 482, 483, 484, 485, 486, 487, 488, 489, 490, 491, 492, 493, 494, 896, 897, 898, 899, 900, 901, 902, 903, 951, 952, 953, 930, 931, 932, 933, 934, 935, 936, 937, 938, 939, 940, 941, 942, 943, 944, 945, 946, 947] (by decide +kernel) (by decide +kernel)
set_option maxRecDepth 20000 in
theorem gL_law_X6_chooses : GoodIn wsL_law (wsV RL 81 RX6 yX6_chooses wsX6_chooses) := goodIn_app (goodIn_of _ (by decide +kernel)) ggL_law_X6_chooses
set_option maxRecDepth 20000 in
theorem ggL_law_X7_chooses : GoodIn wsL_law wsX7_chooses := goodIn_r _ [749, 191, 603, 585, 586, 5, 587, 192, 193, 194, 599, 600, 601, 602, 604, 605, 100, 606, 206, 207, 208, 209, 98, 607, 608, 609, 610, 904, 905, 906, 907, 908, 909, 910, 911, 912, 913, 914, 915, 916, 917, 918, 919, 920, 921, 922, 923, 924, 925, 926, 927, 928, 929] (by decide +kernel) (by decide +kernel)
set_option maxRecDepth 20000 in
theorem gL_law_X7_chooses : GoodIn wsL_law (wsV RL 84 RX7 yX7_chooses wsX7_chooses) := goodIn_app (goodIn_of _ (by decide +kernel)) ggL_law_X7_chooses
set_option maxRecDepth 20000 in
theorem ggL_law_X6_foretold : GoodIn wsL_law wsX6_foretold := goodIn_r _ [753, 27, 15, 732, 754, 450, 451, 2, 452, 119, 120, 121, 745, 473, 474, 26, 475, 476, 477, 478, 479, 480, 481, 482, 483, 484, 485, 486, 487, 488, 489, 490, 491, 492, 493, 494, 896, 897, 898, 899, 900, 901, 902, 903, 951, 952, 953, 930, 931, 932, 933, 934, 935, 936, 937, 938, 939, 940, 941, 942, 943, 944, 945, 946, 947] (by decide +kernel) (by decide +kernel)
set_option maxRecDepth 20000 in
theorem gL_law_X6_foretold : GoodIn wsL_law (wsV RL 85 RX6 yX6_foretold wsX6_foretold) := goodIn_app (goodIn_of _ (by decide +kernel)) ggL_law_X6_foretold
set_option maxRecDepth 20000 in
theorem ggL_law_X7_foretold : GoodIn wsL_law wsX7_foretold := goodIn_r _ [758, 191, 739, 606, 585, 586, 5, 587, 192, 193, 194, 599, 600, 601, 602, 603, 604, 605, 100, 206, 207, 208, 209, 98, 607, 608, 609, 610, 904, 905, 906, 907, 908, 909, 910, 911, 912, 913, 914, 915, 916, 917, 918, 919, 920, 921, 922, 923, 924, 925, 926, 927, 928, 929] (by decide +kernel) (by decide +kernel)
set_option maxRecDepth 20000 in
theorem gL_law_X7_foretold : GoodIn wsL_law (wsV RL 88 RX7 yX7_foretold wsX7_foretold) := goodIn_app (goodIn_of _ (by decide +kernel)) ggL_law_X7_foretold
set_option maxRecDepth 20000 in
theorem ggL_law_X6_would : GoodIn wsL_law wsX6_would := goodIn_r _ [762, 16, 15, 31, 450, 451, 2, 452, 119, 120, 121, 763, 160, 161, 14, 162, 41, 163, 164, 165, 166, 42, 43, 44, 45, 46, 47, 48, 49, 50, 54, 55, 167, 56, 57, 59, 168, 60, 169, 170, 171, 53, 172, 64, 173, 174, 453, 454, 455, 30, 456, 83, 457, 458, 459, 460, 85, 461, 86, 462, 463, 464, 465, 466, 467, 468, 469, 67, 470, 471, 320, 321, 322, 323, 324, 325, 326, 327, 328, 329, 330, 331, 332, 333, 334, 335, 336, 337, 338, 339, 129, 130, 131, 132, 262, 263, 264, 265, 266, 267, 250, 251, 252, 253, 340, 341, 342, 343, 344, 345, 472, 473, 474, 26, 475, 476, 477, 478, 479, 480, 481, 482, 483, 484, 485, 486, 487, 488, 489, 490, 491, 492, 493, 494, 495, 496, 497, 498, 499, 500, 501, 502, 503, 504, 505, 506, 507, 508, 509, 259, 260, 261, 510, 511, 512, 513, 514, 515, 516, 517, 518, 519, 520, 521, 522, 523, 376, 377, 378, 379, 524, 525, 526, 527, 528, 529, 530, 531, 532, 533, 534, 535, 536, 537, 146, 147, 148, 538, 142, 143, 144, 539, 184, 185, 186, 540, 541, 542, 543, 544, 545, 546, 547, 548, 549, 550, 551, 552, 553, 554, 555, 556, 557, 385, 386, 387, 558, 559, 560, 561, 562, 389, 390, 391, 392, 393, 394, 395, 396, 397, 563, 564, 565, 566, 567, 568, 569, 570, 571, 572, 573, 574, 575, 576, 577, 578, 579, 580, 896, 897, 898, 899, 900, 901, 902, 903, 930, 931, 932, 933, 934, 935, 936, 937, 938, 939, 940, 941, 942, 943, 944, 945, 946, 947, 966, 967, 954, 955, 956, 957, 958, 959, 960, 961, 962, 951, 952, 953] (by decide +kernel) (by decide +kernel)
set_option maxRecDepth 20000 in
theorem gL_law_X6_would : GoodIn wsL_law (wsV RL 89 RX6 yX6_would wsX6_would) := goodIn_app (goodIn_of _ (by decide +kernel)) ggL_law_X6_would
set_option maxRecDepth 20000 in
theorem ggL_law_X7_would : GoodIn wsL_law wsX7_would := goodIn_r _ [767, 191, 106, 98, 107, 100, 585, 586, 5, 587, 192, 193, 194, 588, 589, 590, 591, 592, 593, 594, 595, 596, 597, 108, 598, 350, 351, 352, 353, 354, 355, 356, 357, 202, 203, 204, 205, 284, 285, 286, 287, 272, 273, 274, 275, 599, 600, 601, 602, 603, 604, 605, 606, 206, 207, 208, 209, 607, 608, 609, 610, 611, 612, 613, 614, 109, 110, 615, 616, 617, 618, 619, 620, 621, 622, 623, 624, 625, 626, 627, 628, 629, 630, 210, 211, 212, 213, 223, 224, 225, 226, 292, 293, 294, 295, 288, 289, 290, 291, 631, 632, 633, 634, 410, 411, 412, 413, 414, 415, 416, 417, 635, 636, 637, 638, 418, 419, 420, 421, 422, 423, 424, 425, 426, 427, 428, 429, 639, 640, 641, 642, 643, 644, 645, 646, 647, 904, 905, 906, 907, 908, 909, 910, 911, 912, 913, 914, 915, 916, 917, 918, 919, 920, 921, 922, 923, 924, 925, 926, 927, 928, 929] (by decide +kernel) (by decide +kernel)
set_option maxRecDepth 20000 in
theorem gL_law_X7_would : GoodIn wsL_law (wsV RL 92 RX7 yX7_would wsX7_would) := goodIn_app (goodIn_of _ (by decide +kernel)) ggL_law_X7_would
