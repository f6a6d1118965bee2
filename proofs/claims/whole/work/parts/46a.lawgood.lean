/-! the law: the words of its callees -/
set_option maxRecDepth 20000 in
theorem ggL_law_X3_init : GoodIn wsL_law wsX3_init := goodIn_r _ [8, 9, 10, 11, 12, 13, 14, 15, 16, 17, 18, 19, 20, 21, 22, 23, 24, 25, 26, 27, 28, 29, 30, 31, 32, 33, 34, 35, 36, 37, 38, 39, 40, 41, 42, 43, 44, 45, 46, 47, 48, 49, 50, 51, 52, 53, 54, 55, 56, 57, 58, 59, 60, 61, 62, 63, 64, 65, 66, 67, 68, 69, 70, 71, 72, 73, 74, 75, 76, 77, 78, 79, 80, 81, 82, 2, 83, 84, 85, 86, 87, 88, 89, 90, 91, 92, 93, 94, 95, 96, 97, 98, 99, 100, 101, 102, 103, 104, 105, 106, 107, 108, 109, 110, 111, 112, 113, 114, 115, 116, 117, 118, 119, 120, 121, 122, 123, 124, 125, 126, 127, 128, 129, 130, 131, 132, 133, 134, 135, 136, 137, 138, 139, 140, 141, 142, 143, 869, 870, 871, 872, 873, 874, 875, 876, 877, 878, 879, 880, 881, 882, 824, 825, 826, 827, 828, 829, 830, 831, 832, 833, 834, 883, 884, 885, 886, 887, 888, 889, 890] (by decide +kernel) (by decide +kernel)
set_option maxRecDepth 20000 in
theorem gL_law_X3_init : GoodIn wsL_law (wsX3_init) := ggL_law_X3_init
set_option maxRecDepth 20000 in
theorem ggL_law_X4_init : GoodIn wsL_law wsX4_init := goodIn_r _ [146, 147, 10, 11, 21, 148, 149, 150, 151, 152, 153, 154, 155, 156, 157, 158, 159, 160, 161, 162, 163, 164, 165, 166, 167, 168, 169, 170, 171, 172, 173, 174, 835, 836, 837, 838, 839, 840, 841, 842, 843, 844, 845, 846, 847, 848, 849, 850, 851, 852, 853, 854, 855, 856, 857, 858, 859, 860, 861, 862, 863, 864, 865, 866, 867, 868] (by decide +kernel) (by decide +kernel)
set_option maxRecDepth 20000 in
theorem gL_law_X4_init : GoodIn wsL_law (wsX4_init) := ggL_law_X4_init
set_option maxRecDepth 20000 in
theorem ggL_law_X3_line : GoodIn wsL_law wsX3_line := goodIn_r _ [178, 15, 179, 82, 2, 83, 84, 85, 86, 75, 14, 76, 77, 48, 49, 50, 51, 52, 54, 53, 44, 78, 79, 80, 81, 46, 47, 57, 58, 59, 60, 87, 88, 89, 90, 37, 56, 91, 92, 93, 94, 55, 45, 95, 96, 97, 98, 99, 100, 101, 102, 103, 104, 105, 106, 107, 108, 109, 110, 111, 112, 113, 114, 115, 116, 117, 118, 119, 120, 121, 122, 123, 124, 125, 126, 127, 128, 129, 130, 131, 132, 133, 134, 135, 136, 137, 138, 139, 140, 141, 142, 143, 824, 825, 826, 827, 828, 829, 830, 831, 832, 833, 834, 869, 870, 871, 872, 873, 874, 875, 876, 877, 878, 879, 880, 881, 882] (by decide +kernel) (by decide +kernel)
set_option maxRecDepth 20000 in
theorem gL_law_X3_line : GoodIn wsL_law (wsV RL 13 RX3 yX3_line wsX3_line) := goodIn_app (goodIn_of _ (by decide +kernel)) ggL_law_X3_line
set_option maxRecDepth 20000 in
theorem ggL_law_X4_line : GoodIn wsL_law wsX4_line := goodIn_r _ [183, 148, 184, 185, 5, 186, 187, 188, 189, 835, 836, 837, 838, 839, 840, 841, 842, 843, 844, 845, 846, 847, 848, 849, 850, 851, 852, 853, 854, 855, 856, 857, 858, 859, 860, 861, 862, 863, 864, 865, 866, 867, 868] (by decide +kernel) (by decide +kernel)
set_option maxRecDepth 20000 in
theorem gL_law_X4_line : GoodIn wsL_law (wsV RL 17 RX4 yX4_line wsX4_line) := goodIn_app (goodIn_of _ (by decide +kernel)) ggL_law_X4_line
set_option maxRecDepth 20000 in
theorem ggL_law_X3_set : GoodIn wsL_law wsX3_set := goodIn_r _ [193, 194, 195, 196, 15, 84, 85, 2, 86, 75, 14, 76, 77, 48, 49, 50, 51, 52, 54, 53, 44, 78, 79, 80, 81, 46, 47, 57, 58, 59, 60, 82, 83, 87, 88, 89, 90, 37, 56, 91, 92, 93, 94, 55, 45, 95, 96, 97, 98, 99, 100, 101, 102, 103, 104, 105, 106, 107, 108, 109, 110, 111, 112, 113, 114, 115, 116, 117, 118, 119, 120, 121, 122, 123, 124, 125, 126, 127, 128, 129, 130, 131, 132, 133, 134, 135, 136, 137, 138, 139, 140, 141, 142, 143, 824, 825, 826, 827, 828, 829, 830, 831, 832, 833, 834, 869, 870, 871, 872, 873, 874, 875, 876, 877, 878, 879, 880, 881, 882] (by decide +kernel) (by decide +kernel)
set_option maxRecDepth 20000 in
theorem gL_law_X3_set : GoodIn wsL_law (wsV RL 18 RX3 yX3_set wsX3_set) := goodIn_app (goodIn_of _ (by decide +kernel)) ggL_law_X3_set
set_option maxRecDepth 20000 in
theorem ggL_law_X4_set : GoodIn wsL_law wsX4_set := goodIn_r _ [200, 201, 149, 202, 203, 5, 204, 187, 188, 189, 835, 836, 837, 838, 839, 840, 841, 842, 843, 844, 845, 846, 847, 848, 849, 850, 851, 852, 853, 854, 855, 856, 857, 858, 859, 860, 861, 862, 863, 864, 865, 866, 867, 868] (by decide +kernel) (by decide +kernel)
set_option maxRecDepth 20000 in
theorem gL_law_X4_set : GoodIn wsL_law (wsV RL 21 RX4 yX4_set wsX4_set) := goodIn_app (goodIn_of _ (by decide +kernel)) ggL_law_X4_set
set_option maxRecDepth 20000 in
theorem ggL_law_X3_event : GoodIn wsL_law wsX3_event := goodIn_r _ [208, 20, 15, 84, 85, 2, 86, 209, 19, 210, 211, 64, 67, 65, 66, 212, 213, 214, 215, 216, 217, 218, 58, 59, 60, 219, 220, 221, 222, 75, 14, 76, 77, 48, 49, 50, 51, 52, 54, 53, 44, 78, 79, 80, 81, 46, 47, 57, 82, 83, 87, 88, 89, 90, 37, 56, 91, 92, 93, 94, 55, 45, 95, 96, 97, 98, 99, 100, 101, 102, 103, 104, 105, 106, 107, 108, 109, 110, 111, 112, 113, 114, 115, 116, 117, 118, 119, 120, 121, 122, 123, 124, 125, 126, 127, 128, 129, 130, 131, 132, 133, 134, 135, 136, 137, 138, 139, 140, 141, 142, 143, 824, 825, 826, 827, 828, 829, 830, 831, 832, 833, 834, 883, 884, 885, 886, 869, 870, 871, 872, 873, 874, 875, 876, 877, 878, 879, 880, 881, 882] (by decide +kernel) (by decide +kernel)
set_option maxRecDepth 20000 in
theorem gL_law_X3_event : GoodIn wsL_law (wsV RL 22 RX3 yX3_event wsX3_event) := goodIn_app (goodIn_of _ (by decide +kernel)) ggL_law_X3_event
set_option maxRecDepth 20000 in
theorem ggL_law_X4_event : GoodIn wsL_law wsX4_event := goodIn_r _ [226, 227, 150, 151, 152, 228, 229, 5, 230, 187, 188, 189, 835, 836, 837, 838, 839, 840, 841, 842, 843, 844, 845, 846, 847, 848, 849, 850, 851, 852, 853, 854, 855, 856, 857, 858, 859, 860, 861, 862, 863, 864, 865, 866, 867, 868] (by decide +kernel) (by decide +kernel)
set_option maxRecDepth 20000 in
theorem gL_law_X4_event : GoodIn wsL_law (wsV RL 26 RX4 yX4_event wsX4_event) := goodIn_app (goodIn_of _ (by decide +kernel)) ggL_law_X4_event
set_option maxRecDepth 20000 in
theorem ggL_law_X3_back : GoodIn wsL_law wsX3_back := goodIn_r _ [234, 20, 15, 212, 19, 213, 214, 67, 215, 216, 217, 65, 218, 58, 59, 60, 219, 220, 221, 222, 64, 66, 75, 14, 76, 77, 48, 49, 50, 51, 52, 54, 53, 44, 78, 79, 80, 81, 46, 47, 57, 82, 2, 83, 84, 85, 86, 87, 88, 89, 90, 37, 56, 91, 92, 93, 94, 55, 45, 95, 96, 97, 98, 99, 100, 101, 102, 103, 104, 105, 106, 107, 108, 109, 110, 111, 112, 113, 114, 115, 116, 117, 118, 119, 120, 121, 122, 123, 124, 125, 126, 127, 128, 129, 130, 131, 132, 133, 134, 135, 136, 137, 138, 139, 140, 141, 142, 143, 824, 825, 826, 827, 828, 829, 830, 831, 832, 833, 834, 883, 884, 885, 886, 869, 870, 871, 872, 873, 874, 875, 876, 877, 878, 879, 880, 881, 882] (by decide +kernel) (by decide +kernel)
set_option maxRecDepth 20000 in
theorem gL_law_X3_back : GoodIn wsL_law (wsV RL 27 RX3 yX3_back wsX3_back) := goodIn_app (goodIn_of _ (by decide +kernel)) ggL_law_X3_back
set_option maxRecDepth 20000 in
theorem ggL_law_X4_back : GoodIn wsL_law wsX4_back := goodIn_r _ [238, 227, 835, 836, 837, 838, 839, 840, 841, 842, 843, 844, 845, 846, 847, 848, 849, 850, 851, 852, 853, 854, 855, 856, 857, 858, 859, 860, 861, 862, 863, 864, 865, 866, 867, 868] (by decide +kernel) (by decide +kernel)
set_option maxRecDepth 20000 in
theorem gL_law_X4_back : GoodIn wsL_law (wsV RL 31 RX4 yX4_back wsX4_back) := goodIn_app (goodIn_of _ (by decide +kernel)) ggL_law_X4_back
set_option maxRecDepth 20000 in
theorem ggL_law_X3_read : GoodIn wsL_law wsX3_read := goodIn_r _ [242, 32, 243, 122, 123, 124, 15, 244, 245, 2, 246, 84, 85, 86, 247, 248, 249, 250, 33, 75, 14, 76, 77, 48, 49, 50, 51, 52, 54, 53, 44, 78, 79, 80, 81, 46, 47, 57, 58, 59, 60, 82, 83, 87, 88, 89, 90, 37, 56, 91, 92, 93, 94, 55, 45, 95, 96, 97, 98, 99, 100, 101, 102, 103, 104, 105, 106, 107, 108, 109, 110, 111, 112, 113, 114, 115, 116, 117, 118, 119, 120, 121, 125, 126, 127, 128, 129, 130, 131, 132, 133, 134, 135, 136, 137, 138, 139, 140, 141, 142, 143, 824, 825, 826, 827, 828, 829, 830, 831, 832, 833, 834, 887, 888, 889, 890, 869, 870, 871, 872, 873, 874, 875, 876, 877, 878, 879, 880, 881, 882] (by decide +kernel) (by decide +kernel)
set_option maxRecDepth 20000 in
theorem gL_law_X3_read : GoodIn wsL_law (wsV RL 32 RX3 yX3_read wsX3_read) := goodIn_app (goodIn_of _ (by decide +kernel)) ggL_law_X3_read
set_option maxRecDepth 20000 in
theorem ggL_law_X4_read : GoodIn wsL_law wsX4_read := goodIn_r _ [254, 170, 172, 173, 148, 255, 256, 5, 257, 187, 188, 189, 258, 259, 260, 261, 262, 835, 836, 837, 838, 839, 840, 841, 842, 843, 844, 845, 846, 847, 848, 849, 850, 851, 852, 853, 854, 855, 856, 857, 858, 859, 860, 861, 862, 863, 864, 865, 866, 867, 868] (by decide +kernel) (by decide +kernel)
set_option maxRecDepth 20000 in
theorem gL_law_X4_read : GoodIn wsL_law (wsV RL 36 RX4 yX4_read wsX4_read) := goodIn_app (goodIn_of _ (by decide +kernel)) ggL_law_X4_read
set_option maxRecDepth 20000 in
theorem ggL_law_X3_hits : GoodIn wsL_law wsX3_hits := goodIn_r _ [266, 15, 179, 82, 2, 83, 84, 85, 86, 824, 825, 826, 827, 828, 829, 830, 831, 832, 833, 834, 869, 870, 871, 872, 873, 874, 875, 876, 877, 878, 879, 880, 881, 882] (by decide +kernel) (by decide +kernel)
set_option maxRecDepth 20000 in
theorem gL_law_X3_hits : GoodIn wsL_law (wsV RL 37 RX3 yX3_hits wsX3_hits) := goodIn_app (goodIn_of _ (by decide +kernel)) ggL_law_X3_hits
set_option maxRecDepth 20000 in
theorem ggL_law_X4_hits : GoodIn wsL_law wsX4_hits := goodIn_r _ [270, 184, 185, 5, 186, 187, 188, 189, 271, 272, 273, 274, 155, 275, 276, 277, 278, 279, 280, 281, 282, 153, 148, 154, 149, 283, 284, 285, 286, 287, 288, 289, 290, 291, 161, 162, 163, 159, 292, 293, 294, 295, 156, 157, 158, 296, 297, 298, 299, 160, 300, 301, 302, 303, 304, 305, 306, 307, 227, 152, 151, 150, 308, 309, 310, 311, 312, 313, 314, 315, 316, 317, 318, 319, 320, 321, 322, 323, 324, 325, 326, 835, 836, 837, 838, 839, 840, 841, 842, 843, 844, 845, 846, 847, 848, 849, 850, 851, 852, 853, 854, 855, 856, 857, 858, 859, 860, 861, 862, 863, 864, 865, 866, 867, 868] (by decide +kernel) (by decide +kernel)
set_option maxRecDepth 20000 in
theorem gL_law_X4_hits : GoodIn wsL_law (wsV RL 40 RX4 yX4_hits wsX4_hits) := goodIn_app (goodIn_of _ (by decide +kernel)) ggL_law_X4_hits
set_option maxRecDepth 20000 in
theorem ggL_law_X3_hit : GoodIn wsL_law wsX3_hit := goodIn_r _ [330, 15, 179, 82, 2, 83, 84, 85, 86, 96, 14, 97, 98, 47, 100, 101, 102, 824, 825, 826, 827, 828, 829, 830, 831, 832, 833, 834, 869, 870, 871, 872, 873, 874, 875, 876, 877, 878, 879, 880, 881, 882] (by decide +kernel) (by decide +kernel)
set_option maxRecDepth 20000 in
theorem gL_law_X3_hit : GoodIn wsL_law (wsV RL 41 RX3 yX3_hit wsX3_hit) := goodIn_app (goodIn_of _ (by decide +kernel)) ggL_law_X3_hit
set_option maxRecDepth 20000 in
theorem ggL_law_X4_hit : GoodIn wsL_law wsX4_hit := goodIn_r _ [334, 184, 185, 5, 186, 187, 188, 189, 228, 229, 230, 335, 336, 337, 338, 155, 156, 157, 275, 276, 277, 278, 279, 280, 281, 282, 153, 148, 154, 149, 283, 284, 285, 286, 287, 288, 289, 290, 291, 161, 162, 163, 159, 292, 293, 294, 295, 158, 296, 297, 298, 299, 160, 300, 301, 302, 303, 304, 305, 306, 307, 227, 152, 151, 150, 308, 309, 310, 311, 312, 313, 314, 315, 316, 317, 318, 319, 320, 321, 322, 323, 324, 325, 326, 835, 836, 837, 838, 839, 840, 841, 842, 843, 844, 845, 846, 847, 848, 849, 850, 851, 852, 853, 854, 855, 856, 857, 858, 859, 860, 861, 862, 863, 864, 865, 866, 867, 868] (by decide +kernel) (by decide +kernel)
set_option maxRecDepth 20000 in
theorem gL_law_X4_hit : GoodIn wsL_law (wsV RL 44 RX4 yX4_hit wsX4_hit) := goodIn_app (goodIn_of _ (by decide +kernel)) ggL_law_X4_hit
set_option maxRecDepth 20000 in
theorem ggL_law_X3_by : GoodIn wsL_law wsX3_by := goodIn_r _ [342, 15, 179, 82, 2, 83, 84, 85, 86, 129, 14, 130, 131, 46, 113, 114, 115, 116, 37, 132, 133, 134, 135, 44, 824, 825, 826, 827, 828, 829, 830, 831, 832, 833, 834, 869, 870, 871, 872, 873, 874, 875, 876, 877, 878, 879, 880, 881, 882] (by decide +kernel) (by decide +kernel)
set_option maxRecDepth 20000 in
theorem gL_law_X3_by : GoodIn wsL_law (wsV RL 45 RX3 yX3_by wsX3_by) := goodIn_app (goodIn_of _ (by decide +kernel)) ggL_law_X3_by
