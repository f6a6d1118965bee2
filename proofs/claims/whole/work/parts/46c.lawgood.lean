/-! the law: the words of its callees -/
set_option maxRecDepth 20000 in
theorem ggL_law_X3_better : GoodIn wsL_law wsX3_better := goodIn_r _ [512, 513, 196, 514, 16, 15, 194, 195, 84, 85, 2, 86, 515, 14, 516, 517, 37, 518, 519, 520, 521, 44, 45, 75, 76, 77, 48, 49, 50, 51, 52, 54, 53, 78, 79, 80, 81, 46, 47, 57, 58, 59, 60, 82, 83, 87, 88, 89, 90, 56, 91, 92, 93, 94, 55, 95, 96, 97, 98, 99, 100, 101, 102, 103, 104, 105, 106, 107, 108, 109, 110, 111, 112, 113, 114, 115, 116, 117, 118, 119, 120, 121, 122, 123, 124, 125, 126, 127, 128, 129, 130, 131, 132, 133, 134, 135, 136, 137, 138, 139, 140, 141, 142, 143, 422, 423, 424, 412, 413, 414, 415, 416, 417, 418, 419, 420, 421, 824, 825, 826, 827, 828, 829, 830, 831, 832, 833, 834, 869, 870, 871, 872, 873, 874, 875, 876, 877, 878, 879, 880, 881, 882] (by decide +kernel) (by decide +kernel)
set_option maxRecDepth 20000 in
theorem gL_law_X3_better : GoodIn wsL_law (wsV RL 81 RX3 yX3_better wsX3_better) := goodIn_app (goodIn_of _ (by decide +kernel)) ggL_law_X3_better
set_option maxRecDepth 20000 in
theorem ggL_law_X4_better : GoodIn wsL_law wsX4_better := goodIn_r _ [525, 201, 398, 399, 5, 400, 187, 188, 189, 228, 229, 230, 526, 527, 528, 529, 154, 289, 290, 279, 280, 281, 282, 153, 148, 149, 283, 284, 285, 286, 287, 288, 291, 161, 162, 163, 159, 292, 293, 294, 295, 155, 156, 157, 158, 184, 185, 186, 296, 297, 298, 299, 160, 300, 301, 302, 303, 304, 305, 306, 307, 227, 152, 151, 150, 308, 309, 310, 311, 312, 313, 314, 315, 316, 317, 318, 319, 320, 321, 322, 323, 324, 325, 326, 835, 836, 837, 838, 839, 840, 841, 842, 843, 844, 845, 846, 847, 848, 849, 850, 851, 852, 853, 854, 855, 856, 857, 858, 859, 860, 861, 862, 863, 864, 865, 866, 867, 868] (by decide +kernel) (by decide +kernel)
set_option maxRecDepth 20000 in
theorem gL_law_X4_better : GoodIn wsL_law (wsV RL 84 RX4 yX4_better wsX4_better) := goodIn_app (goodIn_of _ (by decide +kernel)) ggL_law_X4_better
set_option maxRecDepth 20000 in
theorem ggL_law_X3_spare : GoodIn wsL_law wsX3_spare := goodIn_r _ [533, 84, 85, 2, 86, 534, 535, 536, 537, 20, 212, 19, 213, 214, 67, 538, 539, 540, 541, 22, 15, 215, 216, 217, 65, 218, 58, 59, 60, 219, 220, 221, 222, 64, 66, 451, 14, 452, 453, 37, 46, 44, 125, 126, 123, 127, 95, 96, 97, 98, 47, 99, 100, 101, 102, 103, 104, 105, 110, 111, 112, 415, 416, 417, 418, 419, 420, 421, 542, 543, 544, 545, 824, 825, 826, 827, 828, 829, 830, 831, 832, 833, 834, 883, 884, 885, 886, 869, 870, 871, 872, 873, 874, 875, 876, 877, 878, 879, 880, 881, 882] (by decide +kernel) (by decide +kernel)
set_option maxRecDepth 20000 in
theorem gL_law_X3_spare : GoodIn wsL_law (wsV RL 85 RX3 yX3_spare wsX3_spare) := goodIn_app (goodIn_of _ (by decide +kernel)) ggL_law_X3_spare
set_option maxRecDepth 20000 in
theorem ggL_law_X4_spare : GoodIn wsL_law wsX4_spare := goodIn_r _ [549, 187, 188, 5, 189, 550, 551, 552, 553, 227, 165, 279, 280, 281, 282, 153, 148, 154, 149, 283, 284, 554, 555, 556, 557, 289, 285, 286, 287, 288, 290, 291, 161, 162, 163, 159, 292, 293, 294, 295, 155, 156, 157, 158, 184, 185, 186, 296, 297, 298, 299, 160, 300, 301, 302, 303, 304, 305, 306, 307, 152, 151, 150, 308, 309, 310, 311, 312, 313, 314, 315, 316, 317, 318, 319, 320, 321, 322, 323, 324, 325, 326, 558, 559, 560, 561, 835, 836, 837, 838, 839, 840, 841, 842, 843, 844, 845, 846, 847, 848, 849, 850, 851, 852, 853, 854, 855, 856, 857, 858, 859, 860, 861, 862, 863, 864, 865, 866, 867, 868] (by decide +kernel) (by decide +kernel)
set_option maxRecDepth 20000 in
theorem gL_law_X4_spare : GoodIn wsL_law (wsV RL 88 RX4 yX4_spare wsX4_spare) := goodIn_app (goodIn_of _ (by decide +kernel)) ggL_law_X4_spare
set_option maxRecDepth 20000 in
theorem ggL_law_X3_seen : GoodIn wsL_law wsX3_seen := goodIn_r _ [565, 25, 23, 24, 179, 82, 2, 83, 84, 85, 86, 824, 825, 826, 827, 828, 829, 830, 831, 832, 833, 834] (by decide +kernel) (by decide +kernel)
set_option maxRecDepth 20000 in
theorem gL_law_X3_seen : GoodIn wsL_law (wsV RL 89 RX3 yX3_seen wsX3_seen) := goodIn_app (goodIn_of _ (by decide +kernel)) ggL_law_X3_seen
set_option maxRecDepth 20000 in
theorem ggL_law_X4_seen : GoodIn wsL_law wsX4_seen := goodIn_r _ [569, 570, 166, 167, 184, 185, 5, 186, 187, 188, 189, 835, 836, 837, 838, 839, 840, 841, 842, 843, 844, 845, 846, 847, 848, 849, 850, 851, 852, 853, 854, 855, 856, 857, 858, 859, 860, 861, 862, 863, 864, 865, 866, 867, 868] (by decide +kernel) (by decide +kernel)
set_option maxRecDepth 20000 in
theorem gL_law_X4_seen : GoodIn wsL_law (wsV RL 92 RX4 yX4_seen wsX4_seen) := goodIn_app (goodIn_of _ (by decide +kernel)) ggL_law_X4_seen
set_option maxRecDepth 20000 in
theorem ggL_law_X3_forget : GoodIn wsL_law wsX3_forget := goodIn_r _ [574, 25, 824, 825, 826, 827, 828, 829, 830, 831, 832, 833, 834] (by decide +kernel) (by decide +kernel)
set_option maxRecDepth 20000 in
theorem gL_law_X3_forget : GoodIn wsL_law (wsV RL 93 RX3 yX3_forget wsX3_forget) := goodIn_app (goodIn_of _ (by decide +kernel)) ggL_law_X3_forget
set_option maxRecDepth 20000 in
theorem ggL_law_X4_forget : GoodIn wsL_law wsX4_forget := goodIn_r _ [578, 570, 835, 836, 837, 838, 839, 840, 841, 842, 843, 844, 845, 846, 847, 848, 849, 850, 851, 852, 853, 854, 855, 856, 857, 858, 859, 860, 861, 862, 863, 864, 865, 866, 867, 868] (by decide +kernel) (by decide +kernel)
set_option maxRecDepth 20000 in
theorem gL_law_X4_forget : GoodIn wsL_law (wsV RL 96 RX4 yX4_forget wsX4_forget) := goodIn_app (goodIn_of _ (by decide +kernel)) ggL_law_X4_forget
set_option maxRecDepth 20000 in
theorem ggL_law_X3_never : GoodIn wsL_law wsX3_never := goodIn_r _ [582, 20, 22, 15, 212, 19, 213, 214, 67, 215, 216, 217, 65, 218, 58, 59, 60, 219, 220, 221, 222, 64, 66, 583, 584, 585, 2, 586, 25, 23, 24, 451, 14, 452, 453, 37, 46, 44, 125, 126, 123, 127, 95, 96, 97, 98, 47, 99, 100, 101, 102, 103, 104, 105, 110, 111, 112, 415, 416, 417, 418, 419, 420, 421, 824, 825, 826, 827, 828, 829, 830, 831, 832, 833, 834, 883, 884, 885, 886, 869, 870, 871, 872, 873, 874, 875, 876, 877, 878, 879, 880, 881, 882] (by decide +kernel) (by decide +kernel)
set_option maxRecDepth 20000 in
theorem gL_law_X3_never : GoodIn wsL_law (wsV RL 97 RX3 yX3_never wsX3_never) := goodIn_app (goodIn_of _ (by decide +kernel)) ggL_law_X3_never
set_option maxRecDepth 20000 in
theorem ggL_law_X4_never : GoodIn wsL_law wsX4_never := goodIn_r _ [590, 591, 592, 593, 5, 594, 227, 283, 279, 280, 281, 282, 153, 148, 154, 149, 284, 595, 596, 597, 598, 570, 161, 166, 167, 285, 286, 287, 288, 289, 290, 291, 162, 163, 159, 292, 293, 294, 295, 155, 156, 157, 158, 184, 185, 186, 187, 188, 189, 296, 297, 298, 299, 160, 300, 301, 302, 303, 304, 305, 306, 307, 152, 151, 150, 308, 309, 310, 311, 312, 313, 314, 315, 316, 317, 318, 319, 320, 321, 322, 323, 324, 325, 326, 440, 441, 442, 835, 836, 837, 838, 839, 840, 841, 842, 843, 844, 845, 846, 847, 848, 849, 850, 851, 852, 853, 854, 855, 856, 857, 858, 859, 860, 861, 862, 863, 864, 865, 866, 867, 868] (by decide +kernel) (by decide +kernel)
set_option maxRecDepth 20000 in
theorem gL_law_X4_never : GoodIn wsL_law (wsV RL 100 RX4 yX4_never wsX4_never) := goodIn_app (goodIn_of _ (by decide +kernel)) ggL_law_X4_never
set_option maxRecDepth 20000 in
theorem ggL_law_X3_was : GoodIn wsL_law wsX3_was := goodIn_r _ [602, 84, 85, 2, 86, 603, 604, 605, 606, 15, 607, 608, 609, 610, 22, 611, 58, 59, 60, 583, 584, 585, 586, 25, 23, 24, 451, 14, 452, 453, 37, 46, 44, 125, 126, 123, 127, 95, 96, 97, 98, 47, 99, 100, 101, 102, 103, 104, 105, 110, 111, 112, 415, 416, 417, 418, 419, 420, 421, 612, 613, 614, 615, 20, 194, 195, 212, 19, 213, 214, 67, 215, 216, 217, 65, 218, 219, 220, 221, 222, 64, 66, 824, 825, 826, 827, 828, 829, 830, 831, 832, 833, 834, 869, 870, 871, 872, 873, 874, 875, 876, 877, 878, 879, 880, 881, 882, 883, 884, 885, 886] (by decide +kernel) (by decide +kernel)
set_option maxRecDepth 20000 in
theorem gL_law_X3_was : GoodIn wsL_law (wsV RL 101 RX3 yX3_was wsX3_was) := goodIn_app (goodIn_of _ (by decide +kernel)) ggL_law_X3_was
set_option maxRecDepth 20000 in
theorem ggL_law_X4_was : GoodIn wsL_law wsX4_was := goodIn_r _ [619, 228, 229, 5, 230, 187, 188, 189, 620, 621, 622, 623, 283, 154, 284, 168, 161, 279, 280, 281, 282, 153, 148, 149, 595, 596, 597, 598, 570, 166, 167, 285, 286, 287, 288, 289, 290, 291, 162, 163, 159, 292, 293, 294, 295, 155, 156, 157, 158, 184, 185, 186, 296, 297, 298, 299, 160, 300, 301, 302, 303, 304, 305, 306, 307, 227, 152, 151, 150, 308, 309, 310, 311, 312, 313, 314, 315, 316, 317, 318, 319, 320, 321, 322, 323, 324, 325, 326, 440, 441, 442, 624, 625, 626, 627, 835, 836, 837, 838, 839, 840, 841, 842, 843, 844, 845, 846, 847, 848, 849, 850, 851, 852, 853, 854, 855, 856, 857, 858, 859, 860, 861, 862, 863, 864, 865, 866, 867, 868] (by decide +kernel) (by decide +kernel)
set_option maxRecDepth 20000 in
theorem gL_law_X4_was : GoodIn wsL_law (wsV RL 104 RX4 yX4_was wsX4_was) := goodIn_app (goodIn_of _ (by decide +kernel)) ggL_law_X4_was
set_option maxRecDepth 20000 in
theorem ggL_law_X3_ask : GoodIn wsL_law wsX3_ask := goodIn_r _ [631, 514, 603, 604, 605, 2, 606, 15, 607, 608, 609, 610, 22, 611, 58, 59, 60, 583, 584, 585, 586, 25, 23, 24, 451, 14, 452, 453, 37, 46, 44, 125, 126, 123, 127, 95, 96, 97, 98, 47, 99, 100, 101, 102, 103, 104, 105, 110, 111, 112, 415, 416, 417, 418, 419, 420, 421, 632, 633, 634, 635, 26, 485, 824, 825, 826, 827, 828, 829, 830, 831, 832, 833, 834, 869, 870, 871, 872, 873, 874, 875, 876, 877, 878, 879, 880, 881, 882] (by decide +kernel) (by decide +kernel)
set_option maxRecDepth 20000 in
theorem gL_law_X3_ask : GoodIn wsL_law (wsV RL 105 RX3 yX3_ask wsX3_ask) := goodIn_app (goodIn_of _ (by decide +kernel)) ggL_law_X3_ask
set_option maxRecDepth 20000 in
theorem ggL_law_X4_ask : GoodIn wsL_law wsX4_ask := goodIn_r _ [639, 640, 641, 642, 5, 643, 168, 620, 621, 622, 623, 283, 154, 284, 161, 279, 280, 281, 282, 153, 148, 149, 595, 596, 597, 598, 570, 166, 167, 285, 286, 287, 288, 289, 290, 291, 162, 163, 159, 292, 293, 294, 295, 155, 156, 157, 158, 184, 185, 186, 187, 188, 189, 296, 297, 298, 299, 160, 300, 301, 302, 303, 304, 305, 306, 307, 227, 152, 151, 150, 308, 309, 310, 311, 312, 313, 314, 315, 316, 317, 318, 319, 320, 321, 322, 323, 324, 325, 326, 440, 441, 442, 835, 836, 837, 838, 839, 840, 841, 842, 843, 844, 845, 846, 847, 848, 849, 850, 851, 852, 853, 854, 855, 856, 857, 858, 859, 860, 861, 862, 863, 864, 865, 866, 867, 868] (by decide +kernel) (by decide +kernel)
set_option maxRecDepth 20000 in
theorem gL_law_X4_ask : GoodIn wsL_law (wsV RL 108 RX4 yX4_ask wsX4_ask) := goodIn_app (goodIn_of _ (by decide +kernel)) ggL_law_X4_ask
set_option maxRecDepth 20000 in
theorem ggL_law_X3_chance : GoodIn wsL_law wsX3_chance := goodIn_r _ [647, 648, 20, 28, 649, 84, 85, 2, 86, 650, 651, 652, 653, 654, 655, 59, 656, 212, 19, 213, 214, 67, 538, 539, 540, 541, 22, 15, 215, 216, 217, 65, 218, 58, 60, 219, 220, 221, 222, 64, 66, 451, 14, 452, 453, 37, 46, 44, 125, 126, 123, 127, 95, 96, 97, 98, 47, 99, 100, 101, 102, 103, 104, 105, 110, 111, 112, 415, 416, 417, 418, 419, 420, 421, 542, 657, 658, 659, 824, 825, 826, 827, 828, 829, 830, 831, 832, 833, 834, 883, 884, 885, 886, 869, 870, 871, 872, 873, 874, 875, 876, 877, 878, 879, 880, 881, 882] (by decide +kernel) (by decide +kernel)
set_option maxRecDepth 20000 in
theorem gL_law_X3_chance : GoodIn wsL_law (wsV RL 109 RX3 yX3_chance wsX3_chance) := goodIn_app (goodIn_of _ (by decide +kernel)) ggL_law_X3_chance
set_option maxRecDepth 20000 in
theorem ggL_law_X4_chance : GoodIn wsL_law wsX4_chance := goodIn_r _ [663, 187, 188, 5, 189, 228, 229, 230, 664, 665, 666, 667, 227, 283, 289, 279, 280, 281, 282, 153, 148, 154, 149, 284, 308, 309, 310, 285, 286, 287, 288, 290, 291, 161, 162, 163, 159, 292, 293, 294, 295, 155, 156, 157, 158, 184, 185, 186, 296, 297, 298, 299, 160, 300, 301, 302, 303, 304, 305, 306, 307, 152, 151, 150, 311, 312, 313, 314, 315, 316, 317, 318, 319, 320, 321, 322, 323, 324, 325, 326, 668, 669, 670, 671, 672, 673, 674, 835, 836, 837, 838, 839, 840, 841, 842, 843, 844, 845, 846, 847, 848, 849, 850, 851, 852, 853, 854, 855, 856, 857, 858, 859, 860, 861, 862, 863, 864, 865, 866, 867, 868] (by decide +kernel) (by decide +kernel)
set_option maxRecDepth 20000 in
theorem gL_law_X4_chance : GoodIn wsL_law (wsV RL 113 RX4 yX4_chance wsX4_chance) := goodIn_app (goodIn_of _ (by decide +kernel)) ggL_law_X4_chance
set_option maxRecDepth 20000 in
theorem ggL_law_X3_tests : GoodIn wsL_law wsX3_tests := goodIn_r _ [678, 16, 15, 679, 84, 85, 2, 86, 515, 14, 516, 517, 37, 518, 519, 520, 521, 44, 45, 75, 76, 77, 48, 49, 50, 51, 52, 54, 53, 78, 79, 80, 81, 46, 47, 57, 58, 59, 60, 82, 83, 87, 88, 89, 90, 56, 91, 92, 93, 94, 55, 95, 96, 97, 98, 99, 100, 101, 102, 103, 104, 105, 106, 107, 108, 109, 110, 111, 112, 113, 114, 115, 116, 117, 118, 119, 120, 121, 122, 123, 124, 125, 126, 127, 128, 129, 130, 131, 132, 133, 134, 135, 136, 137, 138, 139, 140, 141, 142, 143, 422, 423, 424, 412, 413, 414, 415, 416, 417, 418, 419, 420, 421, 425, 426, 427, 824, 825, 826, 827, 828, 829, 830, 831, 832, 833, 834, 869, 870, 871, 872, 873, 874, 875, 876, 877, 878, 879, 880, 881, 882] (by decide +kernel) (by decide +kernel)
set_option maxRecDepth 20000 in
theorem gL_law_X3_tests : GoodIn wsL_law (wsV RL 114 RX3 yX3_tests wsX3_tests) := goodIn_app (goodIn_of _ (by decide +kernel)) ggL_law_X3_tests
