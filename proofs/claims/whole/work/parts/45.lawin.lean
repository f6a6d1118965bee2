/-! the law's words are among the tables' words -/
theorem pick_in {T J : List Cond} (is : List Nat) (h : is.map (fun i => T[i]?) = J.map some) : ∀ w ∈ J, w ∈ T := by
  intro w hw
  have q : some w ∈ J.map some := List.mem_map.mpr ⟨w, hw, rfl⟩
  rw [← h] at q
  obtain ⟨i, -, hi⟩ := List.mem_map.mp q
  exact List.mem_of_getElem? hi
set_option maxRecDepth 20000 in
theorem wsL_law_r1_in : ∀ w ∈ wsL_law_r1, w ∈ lw_tbl := pick_in [94, 95, 85, 640, 641, 91, 96, 97, 98, 99, 100, 101, 102, 103, 86, 289, 290, 174, 175, 88, 291, 173, 292, 293] (by decide +kernel)
set_option maxRecDepth 20000 in
theorem wsL_law_r2_in : ∀ w ∈ wsL_law_r2, w ∈ lw_tbl := pick_in [294, 295, 296, 218, 297, 194, 196, 89, 298, 299, 105, 106, 107, 120, 110, 111, 112, 113, 114, 116, 122, 124, 126, 128] (by decide +kernel)
set_option maxRecDepth 20000 in
theorem wsL_law_r3_in : ∀ w ∈ wsL_law_r3, w ∈ lw_tbl := pick_in [129, 131, 133, 134, 136, 138, 140, 142, 143, 117, 118, 87, 119, 177, 178, 179, 180, 181, 182, 183, 198, 199, 200, 201] (by decide +kernel)
set_option maxRecDepth 20000 in
theorem wsL_law_r4_in : ∀ w ∈ wsL_law_r4, w ∈ lw_tbl := pick_in [203, 205, 207, 221, 0, 222, 223, 225, 1, 226, 228, 229, 230, 231, 232, 233, 235, 2, 236, 237, 239, 3, 240, 241] (by decide +kernel)
set_option maxRecDepth 20000 in
theorem wsL_law_r5_in : ∀ w ∈ wsL_law_r5, w ∈ lw_tbl := pick_in [243, 4, 244, 245, 247, 5, 248, 249, 250, 251, 252, 254, 6, 255, 256, 257, 258, 259, 261, 7, 262, 263, 265, 8] (by decide +kernel)
set_option maxRecDepth 20000 in
theorem wsL_law_r6_in : ∀ w ∈ wsL_law_r6, w ∈ lw_tbl := pick_in [266, 279, 280, 90, 281, 282, 283, 284, 267, 269, 9, 270, 271, 273, 10, 274, 275, 277, 11, 278, 285, 287, 12, 288] (by decide +kernel)
set_option maxRecDepth 20000 in
theorem wsL_law_r7_in : ∀ w ∈ wsL_law_r7, w ∈ lw_tbl := pick_in [642, 643, 644, 645, 646, 647, 649, 650, 651, 652, 653, 656, 657, 658, 659, 660, 661, 662, 663, 664, 668, 669, 671, 672] (by decide +kernel)
set_option maxRecDepth 20000 in
theorem wsL_law_r8_in : ∀ w ∈ wsL_law_r8, w ∈ lw_tbl := pick_in [673, 749, 674, 675, 676, 677, 678, 323, 324, 325, 326, 327, 750, 751, 752, 753, 754, 755, 756, 757, 758, 759, 328, 329] (by decide +kernel)
set_option maxRecDepth 20000 in
theorem wsL_law_r9_in : ∀ w ∈ wsL_law_r9, w ∈ lw_tbl := pick_in [330, 331, 332, 334, 336, 760, 761, 762, 763, 767, 764, 765, 766, 337, 338, 339, 340, 343, 13, 344, 347, 14, 348, 351] (by decide +kernel)
set_option maxRecDepth 20000 in
theorem wsL_law_r10_in : ∀ w ∈ wsL_law_r10, w ∈ lw_tbl := pick_in [15, 352, 353, 354, 356, 16, 357, 768, 769, 770, 771, 648, 772, 773, 774, 358, 359, 360, 361, 775, 776, 777, 778, 362] (by decide +kernel)
set_option maxRecDepth 20000 in
theorem wsL_law_r11_in : ∀ w ∈ wsL_law_r11, w ∈ lw_tbl := pick_in [363, 364, 365, 373, 366, 367, 368, 369, 371, 17, 372, 779, 780, 781, 782, 783, 784, 785, 786, 788, 41, 789, 679, 374] (by decide +kernel)
set_option maxRecDepth 20000 in
theorem wsL_law_r12_in : ∀ w ∈ wsL_law_r12, w ∈ lw_tbl := pick_in [375, 376, 377, 790, 791, 792, 793, 794, 796, 42, 797, 798, 800, 43, 801, 802, 804, 44, 805, 654, 655, 806, 808, 45] (by decide +kernel)
set_option maxRecDepth 20000 in
theorem wsL_law_r13_in : ∀ w ∈ wsL_law_r13, w ∈ lw_tbl := pick_in [809, 665, 666, 667, 810, 812, 46, 813, 814, 816, 47, 817, 818, 820, 48, 821, 822, 824, 49, 825, 826, 827, 828, 829] (by decide +kernel)
set_option maxRecDepth 20000 in
theorem wsL_law_r14_in : ∀ w ∈ wsL_law_r14, w ∈ lw_tbl := pick_in [831, 50, 832, 833, 835, 51, 836, 837, 839, 52, 840, 841, 843, 53, 844, 378, 379, 380, 381, 845, 846, 847, 848, 849] (by decide +kernel)
set_option maxRecDepth 20000 in
theorem wsL_law_r15_in : ∀ w ∈ wsL_law_r15, w ∈ lw_tbl := pick_in [851, 54, 852, 384, 385, 386, 387, 853, 854, 855, 856, 857, 858, 859, 860, 862, 55, 863, 389, 390, 391, 392, 864, 865] (by decide +kernel)
set_option maxRecDepth 20000 in
theorem wsL_law_r16_in : ∀ w ∈ wsL_law_r16, w ∈ lw_tbl := pick_in [866, 867, 868, 870, 56, 871, 393, 394, 395, 396, 872, 873, 874, 875, 876, 878, 57, 879, 880, 882, 58, 883, 397, 398] (by decide +kernel)
set_option maxRecDepth 20000 in
theorem wsL_law_r17_in : ∀ w ∈ wsL_law_r17, w ∈ lw_tbl := pick_in [399, 400, 401, 403, 18, 404, 884, 885, 886, 887, 888, 890, 59, 891, 892, 893, 894, 895, 897, 60, 898, 405, 406, 407] (by decide +kernel)
set_option maxRecDepth 20000 in
theorem wsL_law_r18_in : ∀ w ∈ wsL_law_r18, w ∈ lw_tbl := pick_in [408, 411, 19, 412, 413, 414, 415, 416, 417, 92, 418, 419, 420, 421, 424, 20, 425, 428, 21, 429, 899, 900, 901, 902] (by decide +kernel)
set_option maxRecDepth 20000 in
theorem wsL_law_r19_in : ∀ w ∈ wsL_law_r19, w ∈ lw_tbl := pick_in [903, 905, 61, 906, 907, 909, 62, 910, 911, 912, 913, 914, 916, 63, 917, 430, 431, 432, 433, 436, 22, 437, 918, 919] (by decide +kernel)
set_option maxRecDepth 20000 in
theorem wsL_law_r20_in : ∀ w ∈ wsL_law_r20, w ∈ lw_tbl := pick_in [920, 921, 922, 924, 64, 925, 926, 928, 65, 929, 438, 439, 440, 441, 444, 23, 445, 930, 931, 932, 933, 934, 936, 66] (by decide +kernel)
set_option maxRecDepth 20000 in
theorem wsL_law_r21_in : ∀ w ∈ wsL_law_r21, w ∈ lw_tbl := pick_in [937, 446, 447, 448, 449, 450, 938, 939, 940, 941, 942, 944, 67, 945, 451, 452, 453, 454, 457, 24, 458, 946, 947, 948] (by decide +kernel)
set_option maxRecDepth 20000 in
theorem wsL_law_r22_in : ∀ w ∈ wsL_law_r22, w ∈ lw_tbl := pick_in [949, 950, 952, 68, 953, 459, 460, 461, 462, 463, 465, 468, 25, 469, 470, 472, 471, 93, 954, 955, 956, 957, 958, 960] (by decide +kernel)
set_option maxRecDepth 20000 in
theorem wsL_law_r23_in : ∀ w ∈ wsL_law_r23, w ∈ lw_tbl := pick_in [69, 961, 473, 474, 475, 476, 477, 479, 26, 480, 481, 483, 27, 484, 485, 486, 487, 488, 962, 963, 964, 965, 966, 968] (by decide +kernel)
set_option maxRecDepth 20000 in
theorem wsL_law_r24_in : ∀ w ∈ wsL_law_r24, w ∈ lw_tbl := pick_in [70, 969, 970, 972, 71, 973, 974, 976, 72, 977, 489, 490, 491, 492, 978, 979, 980, 981, 670, 493, 494, 495, 496, 982] (by decide +kernel)
set_option maxRecDepth 20000 in
theorem wsL_law_r25_in : ∀ w ∈ wsL_law_r25, w ∈ lw_tbl := pick_in [983, 984, 985, 497, 498, 499, 500, 501, 503, 28, 504, 986, 987, 988, 989, 990, 992, 73, 993, 994, 996, 74, 997, 505] (by decide +kernel)
set_option maxRecDepth 20000 in
theorem wsL_law_r26_in : ∀ w ∈ wsL_law_r26, w ∈ lw_tbl := pick_in [506, 507, 508, 509, 511, 29, 512, 513, 515, 30, 516, 517, 518, 520, 31, 521, 998, 999, 1000, 1001, 1002, 1004, 75, 1005] (by decide +kernel)
set_option maxRecDepth 20000 in
theorem wsL_law_r27_in : ∀ w ∈ wsL_law_r27, w ∈ lw_tbl := pick_in [1006, 1008, 76, 1009, 522, 523, 524, 525, 526, 528, 32, 529, 1010, 1011, 1012, 1013, 1014, 1016, 77, 1017, 530, 531, 532, 533] (by decide +kernel)
set_option maxRecDepth 20000 in
theorem wsL_law_r28_in : ∀ w ∈ wsL_law_r28, w ∈ lw_tbl := pick_in [534, 545, 535, 537, 33, 538, 539, 540, 541, 542, 543, 544, 1018, 1019, 1020, 1021, 1022, 1024, 78, 1025, 1026, 1027, 1028, 1029] (by decide +kernel)
set_option maxRecDepth 20000 in
theorem wsL_law_r29_in : ∀ w ∈ wsL_law_r29, w ∈ lw_tbl := pick_in [1030, 1031, 1032, 546, 547, 548, 549, 550, 1033, 1034, 1035, 1036, 1037, 1039, 79, 1040, 1041, 551, 552, 553, 554, 555, 556, 557] (by decide +kernel)
set_option maxRecDepth 20000 in
theorem wsL_law_r30_in : ∀ w ∈ wsL_law_r30, w ∈ lw_tbl := pick_in [560, 34, 561, 562, 1042, 1043, 1044, 1045, 563, 564, 565, 566, 1046, 1047, 1048, 1049, 567, 568, 569, 570, 573, 35, 574, 577] (by decide +kernel)
set_option maxRecDepth 20000 in
theorem wsL_law_r31_in : ∀ w ∈ wsL_law_r31, w ∈ lw_tbl := pick_in [36, 578, 1050, 1051, 1052, 1053, 1054, 1056, 80, 1057, 1058, 1060, 81, 1061, 579, 580, 581, 582, 1062, 1063, 1064, 1065, 583, 584] (by decide +kernel)
set_option maxRecDepth 20000 in
theorem wsL_law_r32_in : ∀ w ∈ wsL_law_r32, w ∈ lw_tbl := pick_in [585, 586, 591, 589, 37, 590, 1066, 1067, 1068, 1069, 592, 593, 594, 595, 1070, 1071, 1072, 1073, 596, 597, 598, 599, 600, 603] (by decide +kernel)
set_option maxRecDepth 20000 in
theorem wsL_law_r33_in : ∀ w ∈ wsL_law_r33, w ∈ lw_tbl := pick_in [38, 604, 605, 606, 1074, 1075, 1076, 1077, 1078, 1080, 82, 1081, 607, 608, 609, 610, 611, 612, 613, 614, 615, 616, 617, 619] (by decide +kernel)
set_option maxRecDepth 20000 in
theorem wsL_law_r34_in : ∀ w ∈ wsL_law_r34, w ∈ lw_tbl := pick_in [39, 620, 621, 622, 623, 624, 625, 626, 628, 40, 629, 630, 631, 632, 633, 634, 635, 636, 637, 638, 639, 1082, 1083, 1084] (by decide +kernel)
set_option maxRecDepth 20000 in
theorem wsL_law_r35_in : ∀ w ∈ wsL_law_r35, w ∈ lw_tbl := pick_in [1085, 1086, 1087, 1088, 1089, 1091, 83, 1092] (by decide +kernel)
set_option maxRecDepth 20000 in
theorem inX0 : ∀ w ∈ wsX00, w ∈ lw_tbl := pick_in [185, 187, 189, 191] (by decide +kernel)
set_option maxRecDepth 20000 in
theorem inX1 : ∀ w ∈ wsX10, w ∈ lw_tbl := pick_in [144, 146, 148, 150, 152, 154, 156, 158, 160, 162, 164, 166, 168, 170] (by decide +kernel)
set_option maxRecDepth 20000 in
theorem inX2 : ∀ w ∈ wsX20, w ∈ lw_tbl := pick_in [209, 211, 213, 215] (by decide +kernel)
set_option maxRecDepth 20000 in
theorem inX3 : ∀ w ∈ wsX30, w ∈ lw_tbl := pick_in [300, 302, 304, 306, 308, 310, 312, 314, 316, 318, 320] (by decide +kernel)
set_option maxRecDepth 20000 in
theorem inX4 : ∀ w ∈ wsX40, w ∈ lw_tbl := pick_in [680, 682, 684, 686, 688, 690, 692, 694, 696, 698, 700, 702, 704, 706, 708, 710, 712, 714, 716, 718, 720, 722, 724, 726, 728, 730, 732, 734, 736, 738, 740, 742, 744, 746] (by decide +kernel)
set_option maxRecDepth 20000 in
theorem wsL_law_in : ∀ w ∈ wsL_law, w ∈ lw_tbl := by
  unfold wsL_law
  exact List.forall_mem_append.mpr ⟨List.forall_mem_append.mpr ⟨List.forall_mem_append.mpr ⟨List.forall_mem_append.mpr ⟨List.forall_mem_append.mpr ⟨List.forall_mem_append.mpr ⟨List.forall_mem_append.mpr ⟨wsL_law_r1_in, List.forall_mem_append.mpr ⟨wsL_law_r2_in, List.forall_mem_append.mpr ⟨wsL_law_r3_in, List.forall_mem_append.mpr ⟨wsL_law_r4_in, List.forall_mem_append.mpr ⟨wsL_law_r5_in, List.forall_mem_append.mpr ⟨wsL_law_r6_in, List.forall_mem_append.mpr ⟨wsL_law_r7_in, List.forall_mem_append.mpr ⟨wsL_law_r8_in, List.forall_mem_append.mpr ⟨wsL_law_r9_in, List.forall_mem_append.mpr ⟨wsL_law_r10_in, List.forall_mem_append.mpr ⟨wsL_law_r11_in, List.forall_mem_append.mpr ⟨wsL_law_r12_in, List.forall_mem_append.mpr ⟨wsL_law_r13_in, List.forall_mem_append.mpr ⟨wsL_law_r14_in, List.forall_mem_append.mpr ⟨wsL_law_r15_in, List.forall_mem_append.mpr ⟨wsL_law_r16_in, List.forall_mem_append.mpr ⟨wsL_law_r17_in, List.forall_mem_append.mpr ⟨wsL_law_r18_in, List.forall_mem_append.mpr ⟨wsL_law_r19_in, List.forall_mem_append.mpr ⟨wsL_law_r20_in, List.forall_mem_append.mpr ⟨wsL_law_r21_in, List.forall_mem_append.mpr ⟨wsL_law_r22_in, List.forall_mem_append.mpr ⟨wsL_law_r23_in, List.forall_mem_append.mpr ⟨wsL_law_r24_in, List.forall_mem_append.mpr ⟨wsL_law_r25_in, List.forall_mem_append.mpr ⟨wsL_law_r26_in, List.forall_mem_append.mpr ⟨wsL_law_r27_in, List.forall_mem_append.mpr ⟨wsL_law_r28_in, List.forall_mem_append.mpr ⟨wsL_law_r29_in, List.forall_mem_append.mpr ⟨wsL_law_r30_in, List.forall_mem_append.mpr ⟨wsL_law_r31_in, List.forall_mem_append.mpr ⟨wsL_law_r32_in, List.forall_mem_append.mpr ⟨wsL_law_r33_in, List.forall_mem_append.mpr ⟨wsL_law_r34_in, wsL_law_r35_in⟩⟩⟩⟩⟩⟩⟩⟩⟩⟩⟩⟩⟩⟩⟩⟩⟩⟩⟩⟩⟩⟩⟩⟩⟩⟩⟩⟩⟩⟩⟩⟩⟩⟩, inX3⟩, inX4⟩, inX1⟩, inX0⟩, inX2⟩, fun _ h => absurd h List.not_mem_nil⟩
