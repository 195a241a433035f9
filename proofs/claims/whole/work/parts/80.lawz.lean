set_option maxRecDepth 20000 in
theorem wsL_law_in : ∀ w ∈ wsL_law, w ∈ lw_tbl := fun w h => (goodIn_r wsL_law [59, 62, 67, 73, 90, 185, 205, 226, 264, 739, 308, 311, 314, 318, 322, 326, 330, 334, 338, 342, 357, 346, 353, 361, 365, 369, 825, 828, 831, 835, 839, 843, 847, 851, 855, 859, 863, 867, 373, 376, 380, 384, 388, 392, 396, 400, 403, 871, 875, 879, 883, 887, 891, 895, 407, 899, 412, 903, 416, 420, 424, 428, 432, 436, 440, 443, 907, 911, 915, 447, 451, 455, 459, 463, 467, 471, 475, 479, 482, 919, 923, 927, 931, 935, 939, 943, 947, 486, 490, 951, 955, 494, 497, 501, 505, 508, 513, 518, 522, 525, 529, 533, 540, 545, 549, 553, 558, 562, 569, 574, 578, 584, 589, 592, 959, 962, 966, 970, 975, 979, 983, 987, 991, 995, 999, 1003, 1006, 1010, 601, 605, 1016, 609, 1020, 613, 1024, 618, 621, 1028, 1031, 627, 1035, 632, 1039, 637, 1043, 641, 1047, 646, 1052, 651, 1056, 655, 1060, 660, 664, 669, 1064, 1068, 1072, 676, 680, 686, 690, 694, 698, 702, 706, 1076, 1080, 1084, 711, 714, 718, 1088, 1092, 722, 726, 1096, 730, 734, 1100, 1104] (by decide +kernel) (by decide +kernel) w h).1
theorem inX0 : ∀ w ∈ wsX00, w ∈ lw_tbl := fun w h => wsL_law_in w (inlX0 w h)
theorem inX1 : ∀ w ∈ wsX10, w ∈ lw_tbl := fun w h => wsL_law_in w (inlX1 w h)
theorem inX2 : ∀ w ∈ wsX20, w ∈ lw_tbl := fun w h => wsL_law_in w (inlX2 w h)
theorem inX3 : ∀ w ∈ wsX30, w ∈ lw_tbl := fun w h => wsL_law_in w (inlX3 w h)
theorem inX4 : ∀ w ∈ wsX40, w ∈ lw_tbl := fun w h => wsL_law_in w (inlX4 w h)
theorem inX5 : ∀ w ∈ wsX50, w ∈ lw_tbl := fun w h => wsL_law_in w (inlX5 w h)
theorem inX6 : ∀ w ∈ wsX60, w ∈ lw_tbl := fun w h => wsL_law_in w (inlX6 w h)
theorem inX7 : ∀ w ∈ wsX70, w ∈ lw_tbl := fun w h => wsL_law_in w (inlX7 w h)
theorem inJ6 : ∀ w ∈ wsJ60, w ∈ lw_tbl := by decide +kernel
theorem inJ9 : ∀ w ∈ wsJ90, w ∈ lw_tbl := by decide +kernel
theorem inJ10 : ∀ w ∈ wsJ100, w ∈ lw_tbl := by decide +kernel
theorem inJ7 : ∀ w ∈ wsJ70, w ∈ lw_tbl := by decide +kernel
