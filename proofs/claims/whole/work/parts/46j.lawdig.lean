/-! the law: the words of the two digests, a chunk a row -/
theorem inlX3 : ∀ w ∈ wsX30, w ∈ wsL_law := fun _ h => List.mem_append_left _ (List.mem_append_left _ (List.mem_append_left _ (List.mem_append_left _ (List.mem_append_left _ (List.mem_append_right _ h)))))
theorem inlX4 : ∀ w ∈ wsX40, w ∈ wsL_law := fun _ h => List.mem_append_left _ (List.mem_append_left _ (List.mem_append_left _ (List.mem_append_left _ (List.mem_append_right _ h))))
theorem inlX0 : ∀ w ∈ wsX00, w ∈ wsL_law := fun _ h => List.mem_append_left _ (List.mem_append_left _ (List.mem_append_right _ h))
theorem inlX1 : ∀ w ∈ wsX10, w ∈ wsL_law := fun _ h => List.mem_append_left _ (List.mem_append_left _ (List.mem_append_left _ (List.mem_append_right _ h)))
theorem goodIn_cons2 {big ws : List Cond} {c : Cond} (h1 : GoodIn big [c]) (h2 : GoodIn big ws) : GoodIn big (c :: ws) := fun w h => (List.mem_cons.mp h).elim (fun e => h1 w (by rw [e]; exact List.mem_singleton.mpr rfl)) (h2 w)
theorem gd_X3_digest_0 : GoodIn wsL_law [.code yX3_digest cX3_digest 4 (some .long)] := goodIn_r _ [783] (by decide +kernel) (by decide +kernel)
set_option maxRecDepth 20000 in
theorem gd_X3_digest_r1 : GoodIn wsL_law wsX3_digest_r1 := goodIn_r _ [784, 785, 763, 764, 2, 765, 15, 20, 25, 33, 766, 406, 407, 408, 84, 85, 86, 409, 14, 410, 411, 37, 412, 413] (by decide +kernel) (by decide +kernel)
set_option maxRecDepth 20000 in
theorem gd_X3_digest_r2 : GoodIn wsL_law wsX3_digest_r2 := goodIn_r _ [414, 415, 416, 417, 418, 419, 420, 421, 422, 423, 424, 49, 425, 426, 427, 53, 767, 768, 769, 46, 770, 448, 449, 450] (by decide +kernel) (by decide +kernel)
set_option maxRecDepth 20000 in
theorem gd_X3_digest_r3 : GoodIn wsL_law wsX3_digest_r3 := goodIn_r _ [451, 452, 453, 44, 125, 126, 123, 127, 95, 96, 97, 98, 47, 99, 100, 101, 102, 103, 104, 105, 110, 111, 112, 771] (by decide +kernel) (by decide +kernel)
set_option maxRecDepth 20000 in
theorem gd_X3_digest_r4 : GoodIn wsL_law wsX3_digest_r4 := goodIn_r _ [495, 496, 497, 485, 498, 499, 500, 50, 51, 786, 787, 788, 789, 790, 791, 792, 793, 794, 264, 265, 266, 179, 82, 83] (by decide +kernel) (by decide +kernel)
set_option maxRecDepth 20000 in
theorem gd_X3_digest_r5 : GoodIn wsL_law wsX3_digest_r5 := goodIn_r _ [795, 328, 329, 330, 796, 340, 341, 342, 129, 130, 131, 113, 114, 115, 116, 132, 133, 134, 135, 797, 355, 356, 357, 798] (by decide +kernel) (by decide +kernel)
set_option maxRecDepth 20000 in
theorem gd_X3_digest_r6 : GoodIn wsL_law wsX3_digest_r6 := goodIn_r _ [367, 368, 369, 799, 800, 801, 802, 803, 383, 384, 385, 386, 387, 388, 389, 804, 467, 468, 469, 470, 471, 472, 52, 805] (by decide +kernel) (by decide +kernel)
set_option maxRecDepth 20000 in
theorem gd_X3_digest_r7 : GoodIn wsL_law wsX3_digest_r7 := goodIn_r _ [482, 483, 484, 243, 122, 124, 806, 510, 511, 512, 513, 196, 514, 16, 194, 195, 515, 516, 517, 518, 519, 520, 521, 45] (by decide +kernel) (by decide +kernel)
set_option maxRecDepth 20000 in
theorem gd_X3_digest_r8 : GoodIn wsL_law wsX3_digest_r8 := goodIn_r _ [75, 76, 77, 48, 54, 78, 79, 80, 81, 57, 58, 59, 60, 87, 88, 89, 90, 56, 91, 92, 93, 94, 55, 106] (by decide +kernel) (by decide +kernel)
set_option maxRecDepth 20000 in
theorem gd_X3_digest_r9 : GoodIn wsL_law wsX3_digest_r9 := goodIn_r _ [107, 108, 109, 117, 118, 119, 120, 121, 128, 136, 137, 138, 139, 140, 141, 142, 143, 807, 531, 532, 533, 534, 535, 536] (by decide +kernel) (by decide +kernel)
set_option maxRecDepth 20000 in
theorem gd_X3_digest_r10 : GoodIn wsL_law wsX3_digest_r10 := goodIn_r _ [537, 212, 19, 213, 214, 67, 538, 539, 540, 541, 22, 215, 216, 217, 65, 218, 219, 220, 221, 222, 64, 66, 542, 543] (by decide +kernel) (by decide +kernel)
set_option maxRecDepth 20000 in
theorem gd_X3_digest_r11 : GoodIn wsL_law wsX3_digest_r11 := goodIn_r _ [544, 545, 808, 580, 581, 582, 583, 584, 585, 586, 23, 24, 809, 600, 601, 602, 603, 604, 605, 606, 607, 608, 609, 610] (by decide +kernel) (by decide +kernel)
set_option maxRecDepth 20000 in
theorem gd_X3_digest_r12 : GoodIn wsL_law wsX3_digest_r12 := goodIn_r _ [611, 612, 613, 614, 615, 810, 629, 630, 631, 632, 633, 634, 635, 26, 811, 645, 646, 647, 648, 28, 649, 650, 651, 652] (by decide +kernel) (by decide +kernel)
set_option maxRecDepth 20000 in
theorem gd_X3_digest_r13 : GoodIn wsL_law wsX3_digest_r13 := goodIn_r _ [653, 654, 655, 656, 657, 658, 659, 812, 676, 677, 678, 679] (by decide +kernel) (by decide +kernel)
theorem ggL_law_X3_digest : GoodIn wsL_law wsX3_digest := goodIn_cons2 gd_X3_digest_0 (goodIn_app (goodIn_app (goodIn_app (goodIn_app (gd_X3_digest_r1) (goodIn_app (gd_X3_digest_r2) (goodIn_app (gd_X3_digest_r3) (goodIn_app (gd_X3_digest_r4) (goodIn_app (gd_X3_digest_r5) (goodIn_app (gd_X3_digest_r6) (goodIn_app (gd_X3_digest_r7) (goodIn_app (gd_X3_digest_r8) (goodIn_app (gd_X3_digest_r9) (goodIn_app (gd_X3_digest_r10) (goodIn_app (gd_X3_digest_r11) (goodIn_app (gd_X3_digest_r12) (gd_X3_digest_r13))))))))))))) ((goodIn_sub inlX3 (by decide +kernel)))) ((goodIn_sub inlX0 (by decide +kernel)))) ((goodIn_sub inlX1 (by decide +kernel))))
set_option maxRecDepth 20000 in
theorem gL_law_X3_digest : GoodIn wsL_law (wsV RL 148 RX3 yX3_digest wsX3_digest) := goodIn_app (goodIn_of _ (by decide +kernel)) ggL_law_X3_digest
theorem gd_X4_digest_0 : GoodIn wsL_law [.code yX4_digest cX4_digest 6 (some .long)] := goodIn_r _ [816] (by decide +kernel) (by decide +kernel)
set_option maxRecDepth 20000 in
theorem gd_X4_digest_r1 : GoodIn wsL_law wsX4_digest_r1 := goodIn_r _ [817, 818, 149, 819, 773, 774, 5, 775, 227, 570, 262, 432, 433, 434, 435, 289, 291, 290, 275, 276, 277, 278, 279, 280] (by decide +kernel) (by decide +kernel)
set_option maxRecDepth 20000 in
theorem gd_X4_digest_r2 : GoodIn wsL_law wsX4_digest_r2 := goodIn_r _ [281, 282, 153, 148, 154, 283, 284, 285, 286, 287, 288, 161, 162, 163, 159, 292, 293, 294, 295, 155, 156, 157, 158, 184] (by decide +kernel) (by decide +kernel)
set_option maxRecDepth 20000 in
theorem gd_X4_digest_r3 : GoodIn wsL_law wsX4_digest_r3 := goodIn_r _ [185, 186, 187, 188, 189, 296, 297, 298, 299, 160, 300, 301, 302, 303, 304, 305, 306, 307, 152, 151, 150, 308, 309, 310] (by decide +kernel) (by decide +kernel)
set_option maxRecDepth 20000 in
theorem gd_X4_digest_r4 : GoodIn wsL_law wsX4_digest_r4 := goodIn_r _ [311, 312, 313, 314, 315, 316, 317, 318, 319, 320, 321, 322, 323, 324, 325, 326, 436, 437, 438, 439, 440, 441, 442, 443] (by decide +kernel) (by decide +kernel)
set_option maxRecDepth 20000 in
theorem gd_X4_digest_r5 : GoodIn wsL_law wsX4_digest_r5 := goodIn_r _ [444, 445, 446, 776, 777, 778, 779, 458, 459, 460, 461, 462, 463, 464, 465, 164, 505, 506, 507, 508, 378, 379, 380, 381] (by decide +kernel) (by decide +kernel)
set_option maxRecDepth 20000 in
theorem gd_X4_digest_r6 : GoodIn wsL_law wsX4_digest_r6 := goodIn_r _ [820, 821, 822, 823, 271, 272, 273, 274, 335, 336, 337, 338, 350, 351, 352, 353, 362, 363, 364, 365, 374, 375, 376, 377] (by decide +kernel) (by decide +kernel)
set_option maxRecDepth 20000 in
theorem gd_X4_digest_r7 : GoodIn wsL_law wsX4_digest_r7 := goodIn_r _ [401, 402, 403, 404, 477, 478, 479, 480, 490, 491, 492, 493, 526, 527, 528, 529, 201, 550, 551, 552, 553, 165, 554, 555] (by decide +kernel) (by decide +kernel)
set_option maxRecDepth 20000 in
theorem gd_X4_digest_r8 : GoodIn wsL_law wsX4_digest_r8 := goodIn_r _ [556, 557, 558, 559, 560, 561, 591, 592, 593, 594, 595, 596, 597, 598, 166, 167, 620, 621, 622, 623, 168, 624, 625, 626] (by decide +kernel) (by decide +kernel)
set_option maxRecDepth 20000 in
theorem gd_X4_digest_r9 : GoodIn wsL_law wsX4_digest_r9 := goodIn_r _ [627, 640, 641, 642, 643, 664, 665, 666, 667, 668, 669, 670, 684, 685, 686, 687, 688] (by decide +kernel) (by decide +kernel)
theorem ggL_law_X4_digest : GoodIn wsL_law wsX4_digest := goodIn_cons2 gd_X4_digest_0 (goodIn_app (goodIn_app (gd_X4_digest_r1) (goodIn_app (gd_X4_digest_r2) (goodIn_app (gd_X4_digest_r3) (goodIn_app (gd_X4_digest_r4) (goodIn_app (gd_X4_digest_r5) (goodIn_app (gd_X4_digest_r6) (goodIn_app (gd_X4_digest_r7) (goodIn_app (gd_X4_digest_r8) (gd_X4_digest_r9))))))))) ((goodIn_sub inlX4 (by decide +kernel))))
set_option maxRecDepth 20000 in
theorem gL_law_X4_digest : GoodIn wsL_law (wsV RL 152 RX4 yX4_digest wsX4_digest) := goodIn_app (goodIn_of _ (by decide +kernel)) ggL_law_X4_digest
