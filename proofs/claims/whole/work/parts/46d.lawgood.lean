/-! the law: the words of its callees -/
set_option maxRecDepth 20000 in
theorem ggL_law_X4_tests : GoodIn wsL_law wsX4_tests := goodIn_r _ [683, 187, 188, 5, 189, 228, 229, 230, 684, 685, 686, 687, 688, 153, 289, 279, 280, 281, 282, 148, 154, 149, 283, 284, 285, 286, 287, 288, 290, 291, 161, 162, 163, 159, 292, 293, 294, 295, 155, 156, 157, 158, 184, 185, 186, 296, 297, 298, 299, 160, 300, 301, 302, 303, 304, 305, 306, 307, 227, 152, 151, 150, 308, 309, 310, 311, 312, 313, 314, 315, 316, 317, 318, 319, 320, 321, 322, 323, 324, 325, 326, 443, 444, 445, 446, 835, 836, 837, 838, 839, 840, 841, 842, 843, 844, 845, 846, 847, 848, 849, 850, 851, 852, 853, 854, 855, 856, 857, 858, 859, 860, 861, 862, 863, 864, 865, 866, 867, 868] (by decide +kernel) (by decide +kernel)
set_option maxRecDepth 20000 in
theorem gL_law_X4_tests : GoodIn wsL_law (wsV RL 117 RX4 yX4_tests wsX4_tests) := goodIn_app (goodIn_of _ (by decide +kernel)) ggL_law_X4_tests
set_option maxRecDepth 20000 in
theorem ggL_law_X3_sheet : GoodIn wsL_law wsX3_sheet := goodIn_r _ [692, 32, 244, 245, 2, 246, 84, 85, 86, 693, 694, 695, 247, 248, 249, 250, 33, 696, 31, 697, 698, 71, 72, 73, 74, 699, 58, 59, 60, 824, 825, 826, 827, 828, 829, 830, 831, 832, 833, 834, 887, 888, 889, 890] (by decide +kernel) (by decide +kernel)
set_option maxRecDepth 20000 in
theorem gL_law_X3_sheet : GoodIn wsL_law (wsV RL 118 RX3 yX3_sheet wsX3_sheet) := goodIn_app (goodIn_of _ (by decide +kernel)) ggL_law_X3_sheet
set_option maxRecDepth 20000 in
theorem ggL_law_X4_sheet : GoodIn wsL_law wsX4_sheet := goodIn_r _ [703, 170, 171, 172, 173, 255, 256, 5, 257, 187, 188, 189, 258, 259, 260, 261, 262, 835, 836, 837, 838, 839, 840, 841, 842, 843, 844, 845, 846, 847, 848, 849, 850, 851, 852, 853, 854, 855, 856, 857, 858, 859, 860, 861, 862, 863, 864, 865, 866, 867, 868] (by decide +kernel) (by decide +kernel)
set_option maxRecDepth 20000 in
theorem gL_law_X4_sheet : GoodIn wsL_law (wsV RL 121 RX4 yX4_sheet wsX4_sheet) := goodIn_app (goodIn_of _ (by decide +kernel)) ggL_law_X4_sheet
set_option maxRecDepth 20000 in
theorem ggL_law_X3_lose : GoodIn wsL_law wsX3_lose := goodIn_r _ [707, 32, 244, 245, 2, 246, 84, 85, 86, 247, 248, 249, 250, 33, 824, 825, 826, 827, 828, 829, 830, 831, 832, 833, 834, 887, 888, 889, 890] (by decide +kernel) (by decide +kernel)
set_option maxRecDepth 20000 in
theorem gL_law_X3_lose : GoodIn wsL_law (wsV RL 122 RX3 yX3_lose wsX3_lose) := goodIn_app (goodIn_of _ (by decide +kernel)) ggL_law_X3_lose
set_option maxRecDepth 20000 in
theorem ggL_law_X4_lose : GoodIn wsL_law wsX4_lose := goodIn_r _ [711, 170, 172, 255, 256, 5, 257, 187, 188, 189, 258, 259, 260, 261, 262, 835, 836, 837, 838, 839, 840, 841, 842, 843, 844, 845, 846, 847, 848, 849, 850, 851, 852, 853, 854, 855, 856, 857, 858, 859, 860, 861, 862, 863, 864, 865, 866, 867, 868] (by decide +kernel) (by decide +kernel)
set_option maxRecDepth 20000 in
theorem gL_law_X4_lose : GoodIn wsL_law (wsV RL 125 RX4 yX4_lose wsX4_lose) := goodIn_app (goodIn_of _ (by decide +kernel)) ggL_law_X4_lose
set_option maxRecDepth 20000 in
theorem ggL_law_X3_put : GoodIn wsL_law wsX3_put := goodIn_r _ [715, 32, 244, 245, 2, 246, 84, 85, 86, 693, 694, 695, 716, 31, 717, 718, 74, 72, 73, 247, 248, 249, 250, 33, 719, 720, 721, 71, 824, 825, 826, 827, 828, 829, 830, 831, 832, 833, 834, 887, 888, 889, 890] (by decide +kernel) (by decide +kernel)
set_option maxRecDepth 20000 in
theorem gL_law_X3_put : GoodIn wsL_law (wsV RL 126 RX3 yX3_put wsX3_put) := goodIn_app (goodIn_of _ (by decide +kernel)) ggL_law_X3_put
set_option maxRecDepth 20000 in
theorem ggL_law_X4_put : GoodIn wsL_law wsX4_put := goodIn_r _ [725, 255, 256, 5, 257, 187, 188, 189, 726, 727, 728, 729, 170, 171, 172, 258, 259, 260, 261, 262, 730, 731, 732, 733, 173, 835, 836, 837, 838, 839, 840, 841, 842, 843, 844, 845, 846, 847, 848, 849, 850, 851, 852, 853, 854, 855, 856, 857, 858, 859, 860, 861, 862, 863, 864, 865, 866, 867, 868] (by decide +kernel) (by decide +kernel)
set_option maxRecDepth 20000 in
theorem gL_law_X4_put : GoodIn wsL_law (wsV RL 130 RX4 yX4_put wsX4_put) := goodIn_app (goodIn_of _ (by decide +kernel)) ggL_law_X4_put
set_option maxRecDepth 20000 in
theorem ggL_law_X3_get : GoodIn wsL_law wsX3_get := goodIn_r _ [737, 196, 32, 244, 245, 2, 246, 84, 85, 86, 693, 694, 695, 716, 31, 717, 718, 74, 72, 73, 247, 248, 249, 250, 33, 824, 825, 826, 827, 828, 829, 830, 831, 832, 833, 834, 887, 888, 889, 890] (by decide +kernel) (by decide +kernel)
set_option maxRecDepth 20000 in
theorem gL_law_X3_get : GoodIn wsL_law (wsV RL 131 RX3 yX3_get wsX3_get) := goodIn_app (goodIn_of _ (by decide +kernel)) ggL_law_X3_get
set_option maxRecDepth 20000 in
theorem ggL_law_X4_get : GoodIn wsL_law wsX4_get := goodIn_r _ [741, 201, 262, 173, 255, 256, 5, 257, 187, 188, 189, 726, 727, 728, 729, 170, 171, 172, 835, 836, 837, 838, 839, 840, 841, 842, 843, 844, 845, 846, 847, 848, 849, 850, 851, 852, 853, 854, 855, 856, 857, 858, 859, 860, 861, 862, 863, 864, 865, 866, 867, 868] (by decide +kernel) (by decide +kernel)
set_option maxRecDepth 20000 in
theorem gL_law_X4_get : GoodIn wsL_law (wsV RL 134 RX4 yX4_get wsX4_get) := goodIn_app (goodIn_of _ (by decide +kernel)) ggL_law_X4_get
set_option maxRecDepth 20000 in
theorem ggL_law_X3_copy : GoodIn wsL_law wsX3_copy := goodIn_r _ [745, 32, 746, 519, 520, 521, 244, 245, 2, 246, 84, 85, 86, 247, 248, 249, 250, 33, 747, 31, 748, 749, 73, 824, 825, 826, 827, 828, 829, 830, 831, 832, 833, 834, 887, 888, 889, 890] (by decide +kernel) (by decide +kernel)
set_option maxRecDepth 20000 in
theorem gL_law_X3_copy : GoodIn wsL_law (wsV RL 135 RX3 yX3_copy wsX3_copy) := goodIn_app (goodIn_of _ (by decide +kernel)) ggL_law_X3_copy
set_option maxRecDepth 20000 in
theorem ggL_law_X4_copy : GoodIn wsL_law wsX4_copy := goodIn_r _ [753, 170, 171, 172, 174, 173, 255, 256, 5, 257, 187, 188, 189, 258, 259, 260, 261, 262, 835, 836, 837, 838, 839, 840, 841, 842, 843, 844, 845, 846, 847, 848, 849, 850, 851, 852, 853, 854, 855, 856, 857, 858, 859, 860, 861, 862, 863, 864, 865, 866, 867, 868] (by decide +kernel) (by decide +kernel)
set_option maxRecDepth 20000 in
theorem gL_law_X4_copy : GoodIn wsL_law (wsV RL 139 RX4 yX4_copy wsX4_copy) := goodIn_app (goodIn_of _ (by decide +kernel)) ggL_law_X4_copy
set_option maxRecDepth 20000 in
theorem ggL_law_X3_write : GoodIn wsL_law wsX3_write := goodIn_r _ [757, 32, 243, 122, 123, 124, 15, 244, 245, 2, 246, 84, 85, 86, 247, 248, 249, 250, 33, 719, 31, 720, 721, 71, 72, 824, 825, 826, 827, 828, 829, 830, 831, 832, 833, 834, 887, 888, 889, 890, 869, 870, 871, 872, 873, 874, 875, 876, 877, 878, 879, 880, 881, 882] (by decide +kernel) (by decide +kernel)
set_option maxRecDepth 20000 in
theorem gL_law_X3_write : GoodIn wsL_law (wsV RL 140 RX3 yX3_write wsX3_write) := goodIn_app (goodIn_of _ (by decide +kernel)) ggL_law_X3_write
set_option maxRecDepth 20000 in
theorem ggL_law_X4_write : GoodIn wsL_law wsX4_write := goodIn_r _ [761, 170, 172, 161, 255, 256, 5, 257, 187, 188, 189, 258, 259, 260, 261, 262, 275, 276, 277, 278, 279, 280, 281, 282, 153, 148, 154, 149, 283, 284, 285, 286, 287, 288, 289, 290, 291, 162, 163, 159, 292, 293, 294, 295, 155, 156, 157, 158, 184, 185, 186, 296, 297, 298, 299, 160, 300, 301, 302, 303, 304, 305, 306, 307, 227, 152, 151, 150, 308, 309, 310, 311, 312, 313, 314, 315, 316, 317, 318, 319, 320, 321, 322, 323, 324, 325, 326, 730, 731, 732, 733, 173, 171, 835, 836, 837, 838, 839, 840, 841, 842, 843, 844, 845, 846, 847, 848, 849, 850, 851, 852, 853, 854, 855, 856, 857, 858, 859, 860, 861, 862, 863, 864, 865, 866, 867, 868] (by decide +kernel) (by decide +kernel)
set_option maxRecDepth 20000 in
theorem gL_law_X4_write : GoodIn wsL_law (wsV RL 143 RX4 yX4_write wsX4_write) := goodIn_app (goodIn_of _ (by decide +kernel)) ggL_law_X4_write
set_option maxRecDepth 20000 in
theorem ggL_law_X3_count : GoodIn wsL_law wsX3_count := goodIn_r _ [765, 15, 20, 25, 33, 766, 406, 407, 2, 408, 84, 85, 86, 409, 14, 410, 411, 37, 412, 413, 414, 415, 416, 417, 418, 419, 420, 421, 422, 423, 424, 49, 425, 426, 427, 53, 767, 768, 769, 46, 770, 448, 449, 450, 451, 452, 453, 44, 125, 126, 123, 127, 95, 96, 97, 98, 47, 99, 100, 101, 102, 103, 104, 105, 110, 111, 112, 771, 495, 496, 497, 485, 498, 499, 500, 50, 51, 824, 825, 826, 827, 828, 829, 830, 831, 832, 833, 834, 883, 884, 885, 886, 869, 870, 871, 872, 873, 874, 875, 876, 877, 878, 879, 880, 881, 882] (by decide +kernel) (by decide +kernel)
set_option maxRecDepth 20000 in
theorem gL_law_X3_count : GoodIn wsL_law (wsV RL 144 RX3 yX3_count wsX3_count) := goodIn_app (goodIn_of _ (by decide +kernel)) ggL_law_X3_count
set_option maxRecDepth 20000 in
theorem ggL_law_X4_count : GoodIn wsL_law wsX4_count := goodIn_r _ [775, 227, 570, 262, 432, 433, 434, 5, 435, 289, 291, 290, 275, 276, 277, 278, 279, 280, 281, 282, 153, 148, 154, 149, 283, 284, 285, 286, 287, 288, 161, 162, 163, 159, 292, 293, 294, 295, 155, 156, 157, 158, 184, 185, 186, 187, 188, 189, 296, 297, 298, 299, 160, 300, 301, 302, 303, 304, 305, 306, 307, 152, 151, 150, 308, 309, 310, 311, 312, 313, 314, 315, 316, 317, 318, 319, 320, 321, 322, 323, 324, 325, 326, 436, 437, 438, 439, 440, 441, 442, 443, 444, 445, 446, 776, 777, 778, 779, 458, 459, 460, 461, 462, 463, 464, 465, 164, 505, 506, 507, 508, 378, 379, 380, 381, 835, 836, 837, 838, 839, 840, 841, 842, 843, 844, 845, 846, 847, 848, 849, 850, 851, 852, 853, 854, 855, 856, 857, 858, 859, 860, 861, 862, 863, 864, 865, 866, 867, 868] (by decide +kernel) (by decide +kernel)
set_option maxRecDepth 20000 in
theorem gL_law_X4_count : GoodIn wsL_law (wsV RL 147 RX4 yX4_count wsX4_count) := goodIn_app (goodIn_of _ (by decide +kernel)) ggL_law_X4_count
