set_option maxRecDepth 20000 in
theorem ggL_law_X6_grey : GoodIn wsL_law wsX6_grey := goodIn_r _ [718, 15, 361, 710, 323, 324, 53, 325, 172, 64, 891, 892, 893, 894, 895, 896, 897, 898, 925, 926, 927, 928, 929, 930, 931, 932, 933, 934, 935, 936, 937, 938, 939, 940, 941, 942, 960, 961] (by decide +kernel) (by decide +kernel)
set_option maxRecDepth 20000 in
theorem gL_law_X6_grey : GoodIn wsL_law (wsV RL 73 RX6 yX6_grey wsX6_grey) := goodIn_app (goodIn_of _ (by decide +kernel)) ggL_law_X6_grey
set_option maxRecDepth 20000 in
theorem ggL_law_X7_grey : GoodIn wsL_law wsX7_grey := goodIn_r _ [722, 189, 96, 899, 900, 901, 902, 903, 904, 905, 906, 907, 908, 909, 910, 911, 912, 913, 914, 915, 916, 917, 918, 919, 920, 921, 922, 923, 924] (by decide +kernel) (by decide +kernel)
set_option maxRecDepth 20000 in
theorem gL_law_X7_grey : GoodIn wsL_law (wsV RL 76 RX7 yX7_grey wsX7_grey) := goodIn_app (goodIn_of _ (by decide +kernel)) ggL_law_X7_grey
set_option maxRecDepth 20000 in
theorem ggL_law_X6_learnt : GoodIn wsL_law wsX6_learnt := goodIn_r _ [726, 727, 15, 728, 729, 117, 118, 2, 119, 891, 892, 893, 894, 895, 896, 897, 898, 925, 926, 927, 928, 929, 930, 931, 932, 933, 934, 935, 936, 937, 938, 939, 940, 941, 942] (by decide +kernel) (by decide +kernel)
set_option maxRecDepth 20000 in
theorem gL_law_X6_learnt : GoodIn wsL_law (wsV RL 77 RX6 yX6_learnt wsX6_learnt) := goodIn_app (goodIn_of _ (by decide +kernel)) ggL_law_X6_learnt
set_option maxRecDepth 20000 in
theorem ggL_law_X7_learnt : GoodIn wsL_law wsX7_learnt := goodIn_r _ [733, 189, 734, 98, 190, 191, 5, 192, 899, 900, 901, 902, 903, 904, 905, 906, 907, 908, 909, 910, 911, 912, 913, 914, 915, 916, 917, 918, 919, 920, 921, 922, 923, 924] (by decide +kernel) (by decide +kernel)
set_option maxRecDepth 20000 in
theorem gL_law_X7_learnt : GoodIn wsL_law (wsV RL 80 RX7 yX7_learnt wsX7_learnt) := goodIn_app (goodIn_of _ (by decide +kernel)) ggL_law_X7_learnt
set_option maxRecDepth 20000 in
theorem ggL_law_X6_chooses : GoodIn wsL_law wsX6_chooses := goodIn_r _ [738, 27, 15, 739, 448, 449, 2, 450, 117, 118, 119, 740, 468, 469, 26, 470, 471, 472, 473, 474, 475, 476, 477, 478, 479, 480, 481, 482, 483, 484, 485, 486, 487, 488, 489, 891, 892, 893, 894, 895, 896, 897, 898, 946, 947, 948, 925, 926, 927, 928, 929, 930, 931, 932, 933, 934, 935, 936, 937, 938, 939, 940, 941, 942] (by decide +kernel) (by decide +kernel)
set_option maxRecDepth 20000 in
theorem gL_law_X6_chooses : GoodIn wsL_law (wsV RL 81 RX6 yX6_chooses wsX6_chooses) := goodIn_app (goodIn_of _ (by decide +kernel)) ggL_law_X6_chooses
set_option maxRecDepth 20000 in
theorem ggL_law_X7_chooses : GoodIn wsL_law wsX7_chooses := goodIn_r _ [744, 189, 598, 580, 581, 5, 582, 190, 191, 192, 594, 595, 596, 597, 599, 600, 98, 601, 204, 205, 206, 207, 96, 602, 603, 604, 605, 899, 900, 901, 902, 903, 904, 905, 906, 907, 908, 909, 910, 911, 912, 913, 914, 915, 916, 917, 918, 919, 920, 921, 922, 923, 924] (by decide +kernel) (by decide +kernel)
set_option maxRecDepth 20000 in
theorem gL_law_X7_chooses : GoodIn wsL_law (wsV RL 84 RX7 yX7_chooses wsX7_chooses) := goodIn_app (goodIn_of _ (by decide +kernel)) ggL_law_X7_chooses
set_option maxRecDepth 20000 in
theorem ggL_law_X6_foretold : GoodIn wsL_law wsX6_foretold := goodIn_r _ [748, 27, 15, 727, 749, 448, 449, 2, 450, 117, 118, 119, 740, 468, 469, 26, 470, 471, 472, 473, 474, 475, 476, 477, 478, 479, 480, 481, 482, 483, 484, 485, 486, 487, 488, 489, 891, 892, 893, 894, 895, 896, 897, 898, 946, 947, 948, 925, 926, 927, 928, 929, 930, 931, 932, 933, 934, 935, 936, 937, 938, 939, 940, 941, 942] (by decide +kernel) (by decide +kernel)
set_option maxRecDepth 20000 in
theorem gL_law_X6_foretold : GoodIn wsL_law (wsV RL 85 RX6 yX6_foretold wsX6_foretold) := goodIn_app (goodIn_of _ (by decide +kernel)) ggL_law_X6_foretold
set_option maxRecDepth 20000 in
theorem ggL_law_X7_foretold : GoodIn wsL_law wsX7_foretold := goodIn_r _ [753, 189, 734, 601, 580, 581, 5, 582, 190, 191, 192, 594, 595, 596, 597, 598, 599, 600, 98, 204, 205, 206, 207, 96, 602, 603, 604, 605, 899, 900, 901, 902, 903, 904, 905, 906, 907, 908, 909, 910, 911, 912, 913, 914, 915, 916, 917, 918, 919, 920, 921, 922, 923, 924] (by decide +kernel) (by decide +kernel)
set_option maxRecDepth 20000 in
theorem gL_law_X7_foretold : GoodIn wsL_law (wsV RL 88 RX7 yX7_foretold wsX7_foretold) := goodIn_app (goodIn_of _ (by decide +kernel)) ggL_law_X7_foretold
set_option maxRecDepth 20000 in
theorem ggL_law_X6_would : GoodIn wsL_law wsX6_would := goodIn_r _ [757, 16, 15, 31, 448, 449, 2, 450, 117, 118, 119, 758, 158, 159, 14, 160, 41, 161, 162, 163, 164, 42, 43, 44, 45, 46, 47, 48, 49, 50, 54, 55, 165, 56, 57, 59, 166, 60, 167, 168, 169, 53, 170, 64, 171, 172, 451, 452, 453, 30, 454, 83, 455, 456, 457, 458, 85, 459, 460, 461, 462, 463, 464, 465, 466, 318, 319, 320, 321, 322, 323, 324, 325, 326, 327, 328, 329, 330, 331, 332, 333, 334, 335, 336, 337, 127, 128, 129, 130, 260, 261, 262, 263, 264, 265, 248, 249, 250, 251, 338, 339, 340, 341, 342, 343, 467, 468, 469, 26, 470, 471, 472, 473, 474, 475, 476, 477, 478, 479, 480, 481, 482, 483, 484, 485, 486, 487, 488, 489, 490, 491, 492, 493, 494, 495, 496, 497, 498, 499, 500, 501, 502, 503, 504, 257, 258, 259, 505, 506, 507, 508, 509, 510, 511, 512, 513, 514, 515, 516, 517, 518, 374, 375, 376, 377, 519, 520, 521, 522, 523, 524, 525, 526, 527, 528, 529, 530, 531, 532, 144, 145, 146, 533, 140, 141, 142, 534, 182, 183, 184, 535, 536, 537, 538, 539, 540, 541, 542, 543, 544, 545, 546, 547, 548, 549, 550, 551, 552, 383, 384, 385, 553, 554, 555, 556, 557, 387, 388, 389, 390, 391, 392, 393, 394, 395, 558, 559, 560, 561, 562, 563, 564, 565, 566, 567, 568, 569, 570, 571, 572, 573, 574, 575, 891, 892, 893, 894, 895, 896, 897, 898, 925, 926, 927, 928, 929, 930, 931, 932, 933, 934, 935, 936, 937, 938, 939, 940, 941, 942, 960, 961, 949, 950, 951, 952, 953, 954, 955, 956, 946, 947, 948] (by decide +kernel) (by decide +kernel)
set_option maxRecDepth 20000 in
theorem gL_law_X6_would : GoodIn wsL_law (wsV RL 89 RX6 yX6_would wsX6_would) := goodIn_app (goodIn_of _ (by decide +kernel)) ggL_law_X6_would
set_option maxRecDepth 20000 in
theorem ggL_law_X7_would : GoodIn wsL_law wsX7_would := goodIn_r _ [762, 189, 104, 96, 105, 98, 580, 581, 5, 582, 190, 191, 192, 583, 584, 585, 586, 587, 588, 589, 590, 591, 592, 106, 593, 348, 349, 350, 351, 352, 353, 354, 355, 200, 201, 202, 203, 282, 283, 284, 285, 270, 271, 272, 273, 594, 595, 596, 597, 598, 599, 600, 601, 204, 205, 206, 207, 602, 603, 604, 605, 606, 607, 608, 609, 107, 108, 610, 611, 612, 613, 614, 615, 616, 617, 618, 619, 620, 621, 622, 623, 624, 625, 208, 209, 210, 211, 221, 222, 223, 224, 290, 291, 292, 293, 286, 287, 288, 289, 626, 627, 628, 629, 408, 409, 410, 411, 412, 413, 414, 415, 630, 631, 632, 633, 416, 417, 418, 419, 420, 421, 422, 423, 424, 425, 426, 427, 634, 635, 636, 637, 638, 639, 640, 641, 642, 899, 900, 901, 902, 903, 904, 905, 906, 907, 908, 909, 910, 911, 912, 913, 914, 915, 916, 917, 918, 919, 920, 921, 922, 923, 924] (by decide +kernel) (by decide +kernel)
set_option maxRecDepth 20000 in
theorem gL_law_X7_would : GoodIn wsL_law (wsV RL 92 RX7 yX7_would wsX7_would) := goodIn_app (goodIn_of _ (by decide +kernel)) ggL_law_X7_would
