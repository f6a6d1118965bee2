/-! the law: the words of its callees -/
set_option maxRecDepth 20000 in
theorem ggL_law_X4_by : GoodIn wsL_law wsX4_by := goodIn_r _ [346, 184, 185, 5, 186, 187, 188, 189, 347, 348, 349, 228, 229, 230, 350, 351, 352, 353, 160, 275, 276, 277, 278, 279, 280, 281, 282, 153, 148, 154, 149, 283, 284, 285, 286, 287, 288, 289, 290, 291, 161, 162, 163, 159, 292, 293, 294, 295, 155, 156, 157, 158, 296, 297, 298, 299, 300, 301, 302, 303, 304, 305, 306, 307, 227, 152, 151, 150, 308, 309, 310, 311, 312, 313, 314, 315, 316, 317, 318, 319, 320, 321, 322, 323, 324, 325, 326, 835, 836, 837, 838, 839, 840, 841, 842, 843, 844, 845, 846, 847, 848, 849, 850, 851, 852, 853, 854, 855, 856, 857, 858, 859, 860, 861, 862, 863, 864, 865, 866, 867, 868] (by decide +kernel) (by decide +kernel)
set_option maxRecDepth 20000 in
theorem gL_law_X4_by : GoodIn wsL_law (wsV RL 48 RX4 yX4_by wsX4_by) := goodIn_app (goodIn_of _ (by decide +kernel)) ggL_law_X4_by
set_option maxRecDepth 20000 in
theorem ggL_law_X3_missed : GoodIn wsL_law wsX3_missed := goodIn_r _ [357, 15, 179, 82, 2, 83, 84, 85, 86, 824, 825, 826, 827, 828, 829, 830, 831, 832, 833, 834, 869, 870, 871, 872, 873, 874, 875, 876, 877, 878, 879, 880, 881, 882] (by decide +kernel) (by decide +kernel)
set_option maxRecDepth 20000 in
theorem gL_law_X3_missed : GoodIn wsL_law (wsV RL 49 RX3 yX3_missed wsX3_missed) := goodIn_app (goodIn_of _ (by decide +kernel)) ggL_law_X3_missed
set_option maxRecDepth 20000 in
theorem ggL_law_X4_missed : GoodIn wsL_law wsX4_missed := goodIn_r _ [361, 184, 185, 5, 186, 187, 188, 189, 362, 363, 364, 365, 161, 275, 276, 277, 278, 279, 280, 281, 282, 153, 148, 154, 149, 283, 284, 285, 286, 287, 288, 289, 290, 291, 162, 163, 159, 292, 293, 294, 295, 155, 156, 157, 158, 296, 297, 298, 299, 160, 300, 301, 302, 303, 304, 305, 306, 307, 227, 152, 151, 150, 308, 309, 310, 311, 312, 313, 314, 315, 316, 317, 318, 319, 320, 321, 322, 323, 324, 325, 326, 835, 836, 837, 838, 839, 840, 841, 842, 843, 844, 845, 846, 847, 848, 849, 850, 851, 852, 853, 854, 855, 856, 857, 858, 859, 860, 861, 862, 863, 864, 865, 866, 867, 868] (by decide +kernel) (by decide +kernel)
set_option maxRecDepth 20000 in
theorem gL_law_X4_missed : GoodIn wsL_law (wsV RL 52 RX4 yX4_missed wsX4_missed) := goodIn_app (goodIn_of _ (by decide +kernel)) ggL_law_X4_missed
set_option maxRecDepth 20000 in
theorem ggL_law_X3_done : GoodIn wsL_law wsX3_done := goodIn_r _ [369, 15, 179, 82, 2, 83, 84, 85, 86, 824, 825, 826, 827, 828, 829, 830, 831, 832, 833, 834, 869, 870, 871, 872, 873, 874, 875, 876, 877, 878, 879, 880, 881, 882] (by decide +kernel) (by decide +kernel)
set_option maxRecDepth 20000 in
theorem gL_law_X3_done : GoodIn wsL_law (wsV RL 53 RX3 yX3_done wsX3_done) := goodIn_app (goodIn_of _ (by decide +kernel)) ggL_law_X3_done
set_option maxRecDepth 20000 in
theorem ggL_law_X4_done : GoodIn wsL_law wsX4_done := goodIn_r _ [373, 184, 185, 5, 186, 187, 188, 189, 374, 375, 376, 377, 275, 276, 277, 278, 279, 280, 281, 282, 153, 148, 154, 149, 283, 284, 285, 286, 287, 288, 289, 290, 291, 161, 162, 163, 159, 292, 293, 294, 295, 155, 156, 157, 158, 296, 297, 298, 299, 160, 300, 301, 302, 303, 304, 305, 306, 307, 227, 152, 151, 150, 308, 309, 310, 311, 312, 313, 314, 315, 316, 317, 318, 319, 320, 321, 322, 323, 324, 325, 326, 378, 379, 380, 381, 835, 836, 837, 838, 839, 840, 841, 842, 843, 844, 845, 846, 847, 848, 849, 850, 851, 852, 853, 854, 855, 856, 857, 858, 859, 860, 861, 862, 863, 864, 865, 866, 867, 868] (by decide +kernel) (by decide +kernel)
set_option maxRecDepth 20000 in
theorem gL_law_X4_done : GoodIn wsL_law (wsV RL 56 RX4 yX4_done wsX4_done) := goodIn_app (goodIn_of _ (by decide +kernel)) ggL_law_X4_done
set_option maxRecDepth 20000 in
theorem ggL_law_X3_pass : GoodIn wsL_law wsX3_pass := goodIn_r _ [385, 15, 84, 85, 2, 86, 386, 387, 388, 389, 824, 825, 826, 827, 828, 829, 830, 831, 832, 833, 834, 869, 870, 871, 872, 873, 874, 875, 876, 877, 878, 879, 880, 881, 882] (by decide +kernel) (by decide +kernel)
set_option maxRecDepth 20000 in
theorem gL_law_X3_pass : GoodIn wsL_law (wsV RL 57 RX3 yX3_pass wsX3_pass) := goodIn_app (goodIn_of _ (by decide +kernel)) ggL_law_X3_pass
set_option maxRecDepth 20000 in
theorem ggL_law_X4_pass : GoodIn wsL_law wsX4_pass := goodIn_r _ [393, 149, 187, 188, 5, 189, 394, 395, 396, 397, 398, 399, 400, 401, 402, 403, 404, 162, 163, 275, 276, 277, 278, 279, 280, 281, 282, 153, 148, 154, 283, 284, 285, 286, 287, 288, 289, 290, 291, 161, 159, 292, 293, 294, 295, 155, 156, 157, 158, 184, 185, 186, 296, 297, 298, 299, 160, 300, 301, 302, 303, 304, 305, 306, 307, 227, 152, 151, 150, 308, 309, 310, 311, 312, 313, 314, 315, 316, 317, 318, 319, 320, 321, 322, 323, 324, 325, 326, 835, 836, 837, 838, 839, 840, 841, 842, 843, 844, 845, 846, 847, 848, 849, 850, 851, 852, 853, 854, 855, 856, 857, 858, 859, 860, 861, 862, 863, 864, 865, 866, 867, 868] (by decide +kernel) (by decide +kernel)
set_option maxRecDepth 20000 in
theorem gL_law_X4_pass : GoodIn wsL_law (wsV RL 60 RX4 yX4_pass wsX4_pass) := goodIn_app (goodIn_of _ (by decide +kernel)) ggL_law_X4_pass
set_option maxRecDepth 20000 in
theorem ggL_law_X3_sum : GoodIn wsL_law wsX3_sum := goodIn_r _ [408, 15, 84, 85, 2, 86, 409, 14, 410, 411, 37, 412, 413, 414, 415, 416, 417, 418, 419, 420, 421, 422, 423, 424, 49, 425, 426, 427, 53, 824, 825, 826, 827, 828, 829, 830, 831, 832, 833, 834, 869, 870, 871, 872, 873, 874, 875, 876, 877, 878, 879, 880, 881, 882] (by decide +kernel) (by decide +kernel)
set_option maxRecDepth 20000 in
theorem gL_law_X3_sum : GoodIn wsL_law (wsV RL 61 RX3 yX3_sum wsX3_sum) := goodIn_app (goodIn_of _ (by decide +kernel)) ggL_law_X3_sum
set_option maxRecDepth 20000 in
theorem ggL_law_X4_sum : GoodIn wsL_law wsX4_sum := goodIn_r _ [431, 187, 188, 5, 189, 432, 433, 434, 435, 289, 291, 290, 275, 276, 277, 278, 279, 280, 281, 282, 153, 148, 154, 149, 283, 284, 285, 286, 287, 288, 161, 162, 163, 159, 292, 293, 294, 295, 155, 156, 157, 158, 184, 185, 186, 296, 297, 298, 299, 160, 300, 301, 302, 303, 304, 305, 306, 307, 227, 152, 151, 150, 308, 309, 310, 311, 312, 313, 314, 315, 316, 317, 318, 319, 320, 321, 322, 323, 324, 325, 326, 436, 437, 438, 439, 440, 441, 442, 443, 444, 445, 446, 835, 836, 837, 838, 839, 840, 841, 842, 843, 844, 845, 846, 847, 848, 849, 850, 851, 852, 853, 854, 855, 856, 857, 858, 859, 860, 861, 862, 863, 864, 865, 866, 867, 868] (by decide +kernel) (by decide +kernel)
set_option maxRecDepth 20000 in
theorem gL_law_X4_sum : GoodIn wsL_law (wsV RL 64 RX4 yX4_sum wsX4_sum) := goodIn_app (goodIn_of _ (by decide +kernel)) ggL_law_X4_sum
set_option maxRecDepth 20000 in
theorem ggL_law_X3_least : GoodIn wsL_law wsX3_least := goodIn_r _ [450, 15, 451, 14, 452, 453, 37, 46, 44, 125, 126, 123, 127, 95, 96, 97, 98, 47, 99, 100, 101, 102, 103, 104, 105, 110, 111, 112, 415, 416, 417, 418, 419, 420, 421, 824, 825, 826, 827, 828, 829, 830, 831, 832, 833, 834, 869, 870, 871, 872, 873, 874, 875, 876, 877, 878, 879, 880, 881, 882] (by decide +kernel) (by decide +kernel)
set_option maxRecDepth 20000 in
theorem gL_law_X3_least : GoodIn wsL_law (wsV RL 65 RX3 yX3_least wsX3_least) := goodIn_app (goodIn_of _ (by decide +kernel)) ggL_law_X3_least
set_option maxRecDepth 20000 in
theorem ggL_law_X4_least : GoodIn wsL_law wsX4_least := goodIn_r _ [457, 458, 459, 460, 5, 461, 275, 276, 277, 278, 279, 280, 281, 282, 153, 148, 154, 149, 283, 284, 285, 286, 287, 288, 289, 290, 291, 161, 162, 163, 159, 292, 293, 294, 295, 155, 156, 157, 158, 184, 185, 186, 187, 188, 189, 296, 297, 298, 299, 160, 300, 301, 302, 303, 304, 305, 306, 307, 227, 152, 151, 150, 308, 309, 310, 311, 312, 313, 314, 315, 316, 317, 318, 319, 320, 321, 322, 323, 324, 325, 326, 462, 463, 464, 465, 164, 440, 441, 442, 835, 836, 837, 838, 839, 840, 841, 842, 843, 844, 845, 846, 847, 848, 849, 850, 851, 852, 853, 854, 855, 856, 857, 858, 859, 860, 861, 862, 863, 864, 865, 866, 867, 868] (by decide +kernel) (by decide +kernel)
set_option maxRecDepth 20000 in
theorem gL_law_X4_least : GoodIn wsL_law (wsV RL 68 RX4 yX4_least wsX4_least) := goodIn_app (goodIn_of _ (by decide +kernel)) ggL_law_X4_least
set_option maxRecDepth 20000 in
theorem ggL_law_X3_drops : GoodIn wsL_law wsX3_drops := goodIn_r _ [469, 15, 386, 387, 388, 2, 389, 84, 85, 86, 470, 14, 471, 472, 53, 44, 52, 415, 416, 417, 418, 419, 420, 421, 824, 825, 826, 827, 828, 829, 830, 831, 832, 833, 834, 869, 870, 871, 872, 873, 874, 875, 876, 877, 878, 879, 880, 881, 882] (by decide +kernel) (by decide +kernel)
set_option maxRecDepth 20000 in
theorem gL_law_X3_drops : GoodIn wsL_law (wsV RL 69 RX3 yX3_drops wsX3_drops) := goodIn_app (goodIn_of _ (by decide +kernel)) ggL_law_X3_drops
set_option maxRecDepth 20000 in
theorem ggL_law_X4_drops : GoodIn wsL_law wsX4_drops := goodIn_r _ [476, 394, 395, 396, 5, 397, 149, 187, 188, 189, 477, 478, 479, 480, 162, 163, 275, 276, 277, 278, 279, 280, 281, 282, 153, 148, 154, 283, 284, 285, 286, 287, 288, 289, 290, 291, 161, 159, 292, 293, 294, 295, 155, 156, 157, 158, 184, 185, 186, 296, 297, 298, 299, 160, 300, 301, 302, 303, 304, 305, 306, 307, 227, 152, 151, 150, 308, 309, 310, 311, 312, 313, 314, 315, 316, 317, 318, 319, 320, 321, 322, 323, 324, 325, 326, 835, 836, 837, 838, 839, 840, 841, 842, 843, 844, 845, 846, 847, 848, 849, 850, 851, 852, 853, 854, 855, 856, 857, 858, 859, 860, 861, 862, 863, 864, 865, 866, 867, 868] (by decide +kernel) (by decide +kernel)
set_option maxRecDepth 20000 in
theorem gL_law_X4_drops : GoodIn wsL_law (wsV RL 72 RX4 yX4_drops wsX4_drops) := goodIn_app (goodIn_of _ (by decide +kernel)) ggL_law_X4_drops
set_option maxRecDepth 20000 in
theorem ggL_law_X3_even : GoodIn wsL_law wsX3_even := goodIn_r _ [484, 15, 243, 122, 123, 124, 485, 126, 127, 84, 85, 2, 86, 824, 825, 826, 827, 828, 829, 830, 831, 832, 833, 834, 869, 870, 871, 872, 873, 874, 875, 876, 877, 878, 879, 880, 881, 882] (by decide +kernel) (by decide +kernel)
set_option maxRecDepth 20000 in
theorem gL_law_X3_even : GoodIn wsL_law (wsV RL 73 RX3 yX3_even wsX3_even) := goodIn_app (goodIn_of _ (by decide +kernel)) ggL_law_X3_even
set_option maxRecDepth 20000 in
theorem ggL_law_X4_even : GoodIn wsL_law wsX4_even := goodIn_r _ [489, 398, 399, 5, 400, 187, 188, 189, 490, 491, 492, 493, 155, 275, 276, 277, 278, 279, 280, 281, 282, 153, 148, 154, 149, 283, 284, 285, 286, 287, 288, 289, 290, 291, 161, 162, 163, 159, 292, 293, 294, 295, 156, 157, 158, 184, 185, 186, 296, 297, 298, 299, 160, 300, 301, 302, 303, 304, 305, 306, 307, 227, 152, 151, 150, 308, 309, 310, 311, 312, 313, 314, 315, 316, 317, 318, 319, 320, 321, 322, 323, 324, 325, 326, 835, 836, 837, 838, 839, 840, 841, 842, 843, 844, 845, 846, 847, 848, 849, 850, 851, 852, 853, 854, 855, 856, 857, 858, 859, 860, 861, 862, 863, 864, 865, 866, 867, 868] (by decide +kernel) (by decide +kernel)
set_option maxRecDepth 20000 in
theorem gL_law_X4_even : GoodIn wsL_law (wsV RL 76 RX4 yX4_even wsX4_even) := goodIn_app (goodIn_of _ (by decide +kernel)) ggL_law_X4_even
set_option maxRecDepth 20000 in
theorem ggL_law_X3_open : GoodIn wsL_law wsX3_open := goodIn_r _ [497, 15, 485, 126, 123, 127, 498, 14, 499, 500, 50, 51, 824, 825, 826, 827, 828, 829, 830, 831, 832, 833, 834, 869, 870, 871, 872, 873, 874, 875, 876, 877, 878, 879, 880, 881, 882] (by decide +kernel) (by decide +kernel)
set_option maxRecDepth 20000 in
theorem gL_law_X3_open : GoodIn wsL_law (wsV RL 77 RX3 yX3_open wsX3_open) := goodIn_app (goodIn_of _ (by decide +kernel)) ggL_law_X3_open
set_option maxRecDepth 20000 in
theorem ggL_law_X4_open : GoodIn wsL_law wsX4_open := goodIn_r _ [504, 505, 506, 507, 5, 508, 154, 275, 276, 277, 278, 279, 280, 281, 282, 153, 148, 149, 283, 284, 285, 286, 287, 288, 289, 290, 291, 161, 162, 163, 159, 292, 293, 294, 295, 155, 156, 157, 158, 184, 185, 186, 187, 188, 189, 296, 297, 298, 299, 160, 300, 301, 302, 303, 304, 305, 306, 307, 227, 152, 151, 150, 308, 309, 310, 311, 312, 313, 314, 315, 316, 317, 318, 319, 320, 321, 322, 323, 324, 325, 326, 378, 379, 380, 381, 835, 836, 837, 838, 839, 840, 841, 842, 843, 844, 845, 846, 847, 848, 849, 850, 851, 852, 853, 854, 855, 856, 857, 858, 859, 860, 861, 862, 863, 864, 865, 866, 867, 868] (by decide +kernel) (by decide +kernel)
set_option maxRecDepth 20000 in
theorem gL_law_X4_open : GoodIn wsL_law (wsV RL 80 RX4 yX4_open wsX4_open) := goodIn_app (goodIn_of _ (by decide +kernel)) ggL_law_X4_open
