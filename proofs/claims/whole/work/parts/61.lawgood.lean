/-! The methods' words among the law's. -/
set_option maxRecDepth 20000 in
theorem ggL_law_X8_init : GoodIn wsL_law wsX8_init := goodIn_r _ [8, 9, 10, 11, 12, 13, 14, 15, 16, 17, 18, 19, 20, 21, 22, 23, 24, 25, 26, 27, 28, 29, 30, 31, 32, 33, 34, 35, 36, 37, 38, 39, 40, 41, 42, 43, 44, 45, 46, 47, 48, 49, 50, 51, 52, 53, 54, 55, 56, 57, 58, 59, 60, 61, 62, 63, 64, 65, 66, 67, 68, 69, 70, 71, 72, 73, 74, 75, 76, 77, 78, 79, 80, 836, 837, 838, 839, 840, 841, 842, 843, 844, 869, 870, 871, 872, 873, 874, 875, 876, 877, 878, 879, 880, 881, 882, 883, 884, 885, 886, 887, 888, 889, 890, 891, 892, 893, 894, 895, 896, 897, 898, 899, 900, 901] (by decide +kernel) (by decide +kernel)
set_option maxRecDepth 20000 in
theorem gL_law_X8_init : GoodIn wsL_law (wsX8_init) := ggL_law_X8_init
set_option maxRecDepth 20000 in
theorem ggL_law_X9_init : GoodIn wsL_law wsX9_init := goodIn_r _ [83, 84, 10, 11, 85, 44, 86, 87, 60, 88, 89, 90, 91, 92, 93, 94, 95, 96, 97, 98, 99, 100, 845, 846, 847, 848, 849, 850, 851, 852, 853, 854, 855, 856, 857, 858, 859, 860, 861, 862, 863, 864, 865, 866, 867, 868] (by decide +kernel) (by decide +kernel)
set_option maxRecDepth 20000 in
theorem gL_law_X9_init : GoodIn wsL_law (wsX9_init) := ggL_law_X9_init
set_option maxRecDepth 20000 in
theorem ggL_law_X8_points : GoodIn wsL_law wsX8_points := goodIn_r _ [104, 16, 105, 21, 106, 107, 108, 15, 109, 42, 45, 110, 111, 112, 20, 113, 114, 836, 837, 838, 839, 840, 841, 842, 843, 844, 869, 870, 871, 872, 873, 874] (by decide +kernel) (by decide +kernel)
set_option maxRecDepth 20000 in
theorem gL_law_X8_points : GoodIn wsL_law (wsV RL 13 RX8 yX8_points wsX8_points) := goodIn_app (goodIn_of _ (by decide +kernel)) ggL_law_X8_points
set_option maxRecDepth 20000 in
theorem ggL_law_X9_points : GoodIn wsL_law wsX9_points := goodIn_r _ [118, 119, 120, 85, 86, 121, 122, 123, 5, 124, 845, 846, 847, 848, 849, 850, 851, 852, 853, 854, 855, 856, 857, 858, 859, 860, 861, 862, 863, 864, 865, 866, 867, 868] (by decide +kernel) (by decide +kernel)
set_option maxRecDepth 20000 in
theorem gL_law_X9_points : GoodIn wsL_law (wsV RL 17 RX9 yX9_points wsX9_points) := goodIn_app (goodIn_of _ (by decide +kernel)) ggL_law_X9_points
set_option maxRecDepth 20000 in
theorem ggL_law_X8_way : GoodIn wsL_law wsX8_way := goodIn_r _ [128, 16, 129, 21, 110, 111, 112, 20, 113, 114, 836, 837, 838, 839, 840, 841, 842, 843, 844, 869, 870, 871, 872, 873, 874] (by decide +kernel) (by decide +kernel)
set_option maxRecDepth 20000 in
theorem gL_law_X8_way : GoodIn wsL_law (wsV RL 18 RX8 yX8_way wsX8_way) := goodIn_app (goodIn_of _ (by decide +kernel)) ggL_law_X8_way
set_option maxRecDepth 20000 in
theorem ggL_law_X9_way : GoodIn wsL_law wsX9_way := goodIn_r _ [133, 134, 121, 122, 123, 5, 124, 845, 846, 847, 848, 849, 850, 851, 852, 853, 854, 855, 856, 857, 858, 859, 860, 861, 862, 863, 864, 865, 866, 867, 868] (by decide +kernel) (by decide +kernel)
set_option maxRecDepth 20000 in
theorem gL_law_X9_way : GoodIn wsL_law (wsV RL 21 RX9 yX9_way wsX9_way) := goodIn_app (goodIn_of _ (by decide +kernel)) ggL_law_X9_way
set_option maxRecDepth 20000 in
theorem ggL_law_X8_lead : GoodIn wsL_law wsX8_lead := goodIn_r _ [138, 16, 21, 139, 140, 141, 142, 15, 143, 42, 144, 145, 146, 147, 45, 148, 149, 150, 20, 151, 114, 50, 152, 153, 154, 155, 836, 837, 838, 839, 840, 841, 842, 843, 844, 869, 870, 871, 872, 873, 874] (by decide +kernel) (by decide +kernel)
set_option maxRecDepth 20000 in
theorem gL_law_X8_lead : GoodIn wsL_law (wsV RL 22 RX8 yX8_lead wsX8_lead) := goodIn_app (goodIn_of _ (by decide +kernel)) ggL_law_X8_lead
set_option maxRecDepth 20000 in
theorem ggL_law_X9_lead : GoodIn wsL_law wsX9_lead := goodIn_r _ [159, 86, 160, 161, 162, 5, 163, 85, 122, 123, 124, 164, 165, 166, 167, 121, 87, 845, 846, 847, 848, 849, 850, 851, 852, 853, 854, 855, 856, 857, 858, 859, 860, 861, 862, 863, 864, 865, 866, 867, 868] (by decide +kernel) (by decide +kernel)
set_option maxRecDepth 20000 in
theorem gL_law_X9_lead : GoodIn wsL_law (wsV RL 26 RX9 yX9_lead wsX9_lead) := goodIn_app (goodIn_of _ (by decide +kernel)) ggL_law_X9_lead
set_option maxRecDepth 20000 in
theorem ggL_law_X8_of : GoodIn wsL_law wsX8_of := goodIn_r _ [171, 16, 139, 140, 141, 142, 15, 143, 42, 172, 173, 174, 175, 45, 176, 177, 178, 179, 180, 181, 182, 183, 184, 185, 186, 187, 836, 837, 838, 839, 840, 841, 842, 843, 844, 869, 870, 871, 872] (by decide +kernel) (by decide +kernel)
set_option maxRecDepth 20000 in
theorem gL_law_X8_of : GoodIn wsL_law (wsV RL 27 RX8 yX8_of wsX8_of) := goodIn_app (goodIn_of _ (by decide +kernel)) ggL_law_X8_of
set_option maxRecDepth 20000 in
theorem ggL_law_X9_of : GoodIn wsL_law wsX9_of := goodIn_r _ [191, 192, 86, 160, 161, 162, 5, 163, 85, 122, 123, 124, 193, 194, 195, 196, 197, 198, 199, 200, 201, 202, 203, 204, 205, 182, 183, 184, 185, 186, 187, 845, 846, 847, 848, 849, 850, 851, 852, 853, 854, 855, 856, 857, 858, 859, 860, 861, 862, 863, 864, 865, 866, 867, 868] (by decide +kernel) (by decide +kernel)
set_option maxRecDepth 20000 in
theorem gL_law_X9_of : GoodIn wsL_law (wsV RL 30 RX9 yX9_of wsX9_of) := goodIn_app (goodIn_of _ (by decide +kernel)) ggL_law_X9_of
set_option maxRecDepth 20000 in
theorem ggL_law_X8_map : GoodIn wsL_law wsX8_map := goodIn_r _ [209, 16, 210, 211, 212, 15, 213, 42, 45, 836, 837, 838, 839, 840, 841, 842, 843, 844, 869, 870, 871, 872] (by decide +kernel) (by decide +kernel)
set_option maxRecDepth 20000 in
theorem gL_law_X8_map : GoodIn wsL_law (wsV RL 31 RX8 yX8_map wsX8_map) := goodIn_app (goodIn_of _ (by decide +kernel)) ggL_law_X8_map
set_option maxRecDepth 20000 in
theorem ggL_law_X9_map : GoodIn wsL_law wsX9_map := goodIn_r _ [217, 85, 86, 845, 846, 847, 848, 849, 850, 851, 852, 853, 854, 855, 856, 857, 858, 859, 860, 861, 862, 863, 864, 865, 866, 867, 868] (by decide +kernel) (by decide +kernel)
set_option maxRecDepth 20000 in
theorem gL_law_X9_map : GoodIn wsL_law (wsV RL 35 RX9 yX9_map wsX9_map) := goodIn_app (goodIn_of _ (by decide +kernel)) ggL_law_X9_map
set_option maxRecDepth 20000 in
theorem ggL_law_X8_rings : GoodIn wsL_law wsX8_rings := goodIn_r _ [221, 16, 105, 222, 223, 224, 15, 225, 42, 226, 227, 228, 229, 176, 177, 178, 179, 45, 230, 231, 232, 233, 234, 182, 183, 184, 185, 186, 187, 235, 236, 237, 238, 239, 240, 241, 242, 836, 837, 838, 839, 840, 841, 842, 843, 844, 869, 870, 871, 872] (by decide +kernel) (by decide +kernel)
set_option maxRecDepth 20000 in
theorem gL_law_X8_rings : GoodIn wsL_law (wsV RL 36 RX8 yX8_rings wsX8_rings) := goodIn_app (goodIn_of _ (by decide +kernel)) ggL_law_X8_rings
set_option maxRecDepth 20000 in
theorem ggL_law_X9_rings : GoodIn wsL_law wsX9_rings := goodIn_r _ [246, 192, 247, 240, 241, 242, 85, 122, 123, 5, 124, 248, 249, 250, 251, 197, 198, 199, 200, 86, 201, 202, 203, 204, 252, 253, 183, 254, 255, 205, 182, 184, 185, 186, 187, 845, 846, 847, 848, 849, 850, 851, 852, 853, 854, 855, 856, 857, 858, 859, 860, 861, 862, 863, 864, 865, 866, 867, 868] (by decide +kernel) (by decide +kernel)
set_option maxRecDepth 20000 in
theorem gL_law_X9_rings : GoodIn wsL_law (wsV RL 39 RX9 yX9_rings wsX9_rings) := goodIn_app (goodIn_of _ (by decide +kernel)) ggL_law_X9_rings
set_option maxRecDepth 20000 in
theorem ggL_law_X8_ring : GoodIn wsL_law wsX8_ring := goodIn_r _ [259, 16, 260, 261, 262, 15, 263, 42, 226, 227, 228, 229, 176, 177, 178, 179, 45, 180, 181, 182, 183, 184, 185, 186, 187, 264, 265, 266, 267, 836, 837, 838, 839, 840, 841, 842, 843, 844, 869, 870, 871, 872] (by decide +kernel) (by decide +kernel)
set_option maxRecDepth 20000 in
theorem gL_law_X8_ring : GoodIn wsL_law (wsV RL 40 RX8 yX8_ring wsX8_ring) := goodIn_app (goodIn_of _ (by decide +kernel)) ggL_law_X8_ring
set_option maxRecDepth 20000 in
theorem ggL_law_X9_ring : GoodIn wsL_law wsX9_ring := goodIn_r _ [271, 119, 272, 273, 274, 5, 275, 248, 249, 250, 251, 85, 197, 198, 199, 200, 86, 201, 202, 203, 204, 252, 253, 183, 254, 255, 122, 123, 124, 205, 182, 184, 185, 186, 187, 276, 277, 278, 845, 846, 847, 848, 849, 850, 851, 852, 853, 854, 855, 856, 857, 858, 859, 860, 861, 862, 863, 864, 865, 866, 867, 868] (by decide +kernel) (by decide +kernel)
set_option maxRecDepth 20000 in
theorem gL_law_X9_ring : GoodIn wsL_law (wsV RL 43 RX9 yX9_ring wsX9_ring) := goodIn_app (goodIn_of _ (by decide +kernel)) ggL_law_X9_ring
set_option maxRecDepth 20000 in
theorem ggL_law_X8_taken : GoodIn wsL_law wsX8_taken := goodIn_r _ [282, 16, 260, 261, 262, 15, 263, 42, 226, 227, 228, 229, 176, 177, 178, 179, 45, 180, 181, 182, 183, 184, 185, 186, 187, 264, 265, 266, 267, 283, 284, 285, 286, 836, 837, 838, 839, 840, 841, 842, 843, 844, 869, 870, 871, 872] (by decide +kernel) (by decide +kernel)
set_option maxRecDepth 20000 in
theorem gL_law_X8_taken : GoodIn wsL_law (wsV RL 44 RX8 yX8_taken wsX8_taken) := goodIn_app (goodIn_of _ (by decide +kernel)) ggL_law_X8_taken
set_option maxRecDepth 20000 in
theorem ggL_law_X9_taken : GoodIn wsL_law wsX9_taken := goodIn_r _ [290, 291, 272, 273, 274, 5, 275, 248, 249, 250, 251, 85, 197, 198, 199, 200, 86, 201, 202, 203, 204, 252, 253, 183, 254, 255, 122, 123, 124, 205, 182, 184, 185, 186, 187, 276, 277, 278, 845, 846, 847, 848, 849, 850, 851, 852, 853, 854, 855, 856, 857, 858, 859, 860, 861, 862, 863, 864, 865, 866, 867, 868] (by decide +kernel) (by decide +kernel)
set_option maxRecDepth 20000 in
theorem gL_law_X9_taken : GoodIn wsL_law (wsV RL 47 RX9 yX9_taken wsX9_taken) := goodIn_app (goodIn_of _ (by decide +kernel)) ggL_law_X9_taken
set_option maxRecDepth 20000 in
theorem ggL_law_X8_covers : GoodIn wsL_law wsX8_covers := goodIn_r _ [295, 33, 16, 296, 297, 298, 299, 32, 300, 301, 302, 303, 304, 305, 65, 306, 307, 241, 308, 309, 240, 242, 310, 311, 312, 15, 313, 43, 42, 314, 315, 316, 317, 318, 319, 320, 321, 322, 323, 324, 325, 326, 327, 328, 329, 330, 331, 836, 837, 838, 839, 840, 841, 842, 843, 844, 886, 887, 888, 889, 890, 891, 892, 893, 869, 870, 871, 872] (by decide +kernel) (by decide +kernel)
set_option maxRecDepth 20000 in
theorem gL_law_X8_covers : GoodIn wsL_law (wsV RL 48 RX8 yX8_covers wsX8_covers) := goodIn_app (goodIn_of _ (by decide +kernel)) ggL_law_X8_covers
set_option maxRecDepth 20000 in
theorem ggL_law_X9_covers : GoodIn wsL_law wsX9_covers := goodIn_r _ [335, 119, 336, 337, 338, 5, 339, 340, 341, 342, 343, 134, 85, 122, 123, 124, 344, 345, 346, 347, 86, 348, 307, 241, 308, 247, 240, 242, 349, 350, 351, 352, 353, 354, 355, 356, 845, 846, 847, 848, 849, 850, 851, 852, 853, 854, 855, 856, 857, 858, 859, 860, 861, 862, 863, 864, 865, 866, 867, 868] (by decide +kernel) (by decide +kernel)
set_option maxRecDepth 20000 in
theorem gL_law_X9_covers : GoodIn wsL_law (wsV RL 51 RX9 yX9_covers wsX9_covers) := goodIn_app (goodIn_of _ (by decide +kernel)) ggL_law_X9_covers
set_option maxRecDepth 20000 in
theorem ggL_law_X8_paths : GoodIn wsL_law wsX8_paths := goodIn_r _ [360, 33, 16, 361, 297, 298, 299, 32, 300, 301, 302, 303, 304, 305, 65, 306, 307, 241, 308, 309, 240, 242, 310, 311, 312, 15, 313, 43, 42, 314, 315, 316, 317, 318, 319, 320, 321, 322, 323, 362, 363, 364, 365, 66, 366, 367, 368, 369, 370, 371, 372, 373, 67, 374, 375, 376, 377, 378, 379, 380, 381, 836, 837, 838, 839, 840, 841, 842, 843, 844, 886, 887, 888, 889, 890, 891, 892, 893, 869, 870, 871, 872] (by decide +kernel) (by decide +kernel)
set_option maxRecDepth 20000 in
theorem gL_law_X8_paths : GoodIn wsL_law (wsV RL 52 RX8 yX8_paths wsX8_paths) := goodIn_app (goodIn_of _ (by decide +kernel)) ggL_law_X8_paths
set_option maxRecDepth 20000 in
theorem ggL_law_X9_paths : GoodIn wsL_law wsX9_paths := goodIn_r _ [385, 386, 387, 88, 336, 337, 338, 5, 339, 340, 341, 342, 343, 134, 85, 122, 123, 124, 388, 389, 390, 391, 89, 344, 345, 346, 347, 86, 348, 307, 241, 308, 247, 240, 242, 845, 846, 847, 848, 849, 850, 851, 852, 853, 854, 855, 856, 857, 858, 859, 860, 861, 862, 863, 864, 865, 866, 867, 868] (by decide +kernel) (by decide +kernel)
set_option maxRecDepth 20000 in
theorem gL_law_X9_paths : GoodIn wsL_law (wsV RL 56 RX9 yX9_paths wsX9_paths) := goodIn_app (goodIn_of _ (by decide +kernel)) ggL_law_X9_paths
set_option maxRecDepth 20000 in
theorem ggL_law_X8_loops : GoodIn wsL_law wsX8_loops := goodIn_r _ [395, 361, 33, 16, 396, 397, 297, 298, 299, 32, 300, 301, 302, 303, 304, 305, 65, 306, 307, 241, 308, 309, 240, 242, 310, 311, 312, 15, 313, 43, 42, 314, 315, 316, 317, 318, 319, 398, 399, 400, 401, 68, 66, 69, 366, 367, 368, 369, 370, 371, 372, 373, 67, 374, 375, 376, 377, 378, 379, 380, 381, 402, 403, 404, 405, 836, 837, 838, 839, 840, 841, 842, 843, 844, 886, 887, 888, 889, 890, 891, 892, 893, 869, 870, 871, 872] (by decide +kernel) (by decide +kernel)
set_option maxRecDepth 20000 in
theorem gL_law_X8_loops : GoodIn wsL_law (wsV RL 57 RX8 yX8_loops wsX8_loops) := goodIn_app (goodIn_of _ (by decide +kernel)) ggL_law_X8_loops
set_option maxRecDepth 20000 in
theorem ggL_law_X9_loops : GoodIn wsL_law wsX9_loops := goodIn_r _ [409, 386, 387, 122, 123, 5, 124, 410, 411, 412, 413, 88, 388, 389, 390, 391, 89, 340, 341, 342, 343, 134, 85, 344, 345, 346, 347, 86, 348, 307, 241, 308, 247, 240, 242, 414, 415, 416, 417, 845, 846, 847, 848, 849, 850, 851, 852, 853, 854, 855, 856, 857, 858, 859, 860, 861, 862, 863, 864, 865, 866, 867, 868] (by decide +kernel) (by decide +kernel)
set_option maxRecDepth 20000 in
theorem gL_law_X9_loops : GoodIn wsL_law (wsV RL 61 RX9 yX9_loops wsX9_loops) := goodIn_app (goodIn_of _ (by decide +kernel)) ggL_law_X9_loops
set_option maxRecDepth 20000 in
theorem ggL_law_X8_forced : GoodIn wsL_law wsX8_forced := goodIn_r _ [421, 422, 423, 424, 2, 425, 33, 16, 397, 297, 298, 299, 32, 300, 301, 302, 303, 304, 305, 65, 306, 307, 241, 308, 309, 240, 242, 310, 311, 312, 15, 313, 43, 42, 314, 315, 316, 317, 318, 319, 398, 399, 400, 401, 68, 66, 69, 366, 367, 368, 369, 370, 371, 372, 373, 67, 374, 375, 376, 377, 378, 379, 380, 381, 402, 403, 404, 405, 426, 427, 428, 429, 176, 177, 178, 179, 45, 234, 182, 183, 184, 185, 186, 187, 836, 837, 838, 839, 840, 841, 842, 843, 844, 886, 887, 888, 889, 890, 891, 892, 893, 869, 870, 871, 872] (by decide +kernel) (by decide +kernel)
set_option maxRecDepth 20000 in
theorem gL_law_X8_forced : GoodIn wsL_law (wsV RL 62 RX8 yX8_forced wsX8_forced) := goodIn_app (goodIn_of _ (by decide +kernel)) ggL_law_X8_forced
set_option maxRecDepth 20000 in
theorem ggL_law_X9_forced : GoodIn wsL_law wsX9_forced := goodIn_r _ [433, 434, 122, 123, 5, 124, 435, 436, 437, 438, 414, 415, 416, 417, 410, 411, 412, 413, 88, 388, 389, 390, 391, 89, 340, 341, 342, 343, 134, 85, 344, 345, 346, 347, 86, 348, 307, 241, 308, 247, 240, 242, 248, 249, 250, 251, 197, 198, 199, 200, 201, 202, 203, 204, 252, 253, 183, 254, 255, 205, 182, 184, 185, 186, 187, 845, 846, 847, 848, 849, 850, 851, 852, 853, 854, 855, 856, 857, 858, 859, 860, 861, 862, 863, 864, 865, 866, 867, 868] (by decide +kernel) (by decide +kernel)
set_option maxRecDepth 20000 in
theorem gL_law_X9_forced : GoodIn wsL_law (wsV RL 65 RX9 yX9_forced wsX9_forced) := goodIn_app (goodIn_of _ (by decide +kernel)) ggL_law_X9_forced
set_option maxRecDepth 20000 in
theorem ggL_law_X8_allForced : GoodIn wsL_law wsX8_allForced := goodIn_r _ [442, 422, 423, 424, 2, 425, 33, 16, 397, 297, 298, 299, 32, 300, 301, 302, 303, 304, 305, 65, 306, 307, 241, 308, 309, 240, 242, 310, 311, 312, 15, 313, 43, 42, 314, 315, 316, 317, 318, 319, 398, 399, 400, 401, 68, 66, 69, 366, 367, 368, 369, 370, 371, 372, 373, 67, 374, 375, 376, 377, 378, 379, 380, 381, 402, 403, 404, 405, 426, 427, 428, 429, 176, 177, 178, 179, 45, 234, 182, 183, 184, 185, 186, 187, 836, 837, 838, 839, 840, 841, 842, 843, 844, 886, 887, 888, 889, 890, 891, 892, 893, 869, 870, 871, 872] (by decide +kernel) (by decide +kernel)
set_option maxRecDepth 20000 in
theorem gL_law_X8_allForced : GoodIn wsL_law (wsV RL 66 RX8 yX8_allForced wsX8_allForced) := goodIn_app (goodIn_of _ (by decide +kernel)) ggL_law_X8_allForced
set_option maxRecDepth 20000 in
theorem ggL_law_X9_allForced : GoodIn wsL_law wsX9_allForced := goodIn_r _ [446, 435, 436, 437, 5, 438, 414, 415, 416, 417, 410, 411, 412, 413, 88, 388, 389, 390, 391, 89, 340, 341, 342, 343, 134, 85, 344, 345, 346, 347, 86, 348, 307, 241, 308, 247, 240, 242, 248, 249, 250, 251, 197, 198, 199, 200, 201, 202, 203, 204, 252, 253, 183, 254, 255, 205, 182, 184, 185, 186, 187, 845, 846, 847, 848, 849, 850, 851, 852, 853, 854, 855, 856, 857, 858, 859, 860, 861, 862, 863, 864, 865, 866, 867, 868] (by decide +kernel) (by decide +kernel)
set_option maxRecDepth 20000 in
theorem gL_law_X9_allForced : GoodIn wsL_law (wsV RL 69 RX9 yX9_allForced wsX9_allForced) := goodIn_app (goodIn_of _ (by decide +kernel)) ggL_law_X9_allForced
set_option maxRecDepth 20000 in
theorem ggL_law_X8_ahead : GoodIn wsL_law wsX8_ahead := goodIn_r _ [450, 451, 452, 453, 454, 455, 456, 457] (by decide +kernel) (by decide +kernel)
set_option maxRecDepth 20000 in
theorem gL_law_X8_ahead : GoodIn wsL_law (wsV RL 70 RX8 yX8_ahead wsX8_ahead) := goodIn_app (goodIn_of _ (by decide +kernel)) ggL_law_X8_ahead
set_option maxRecDepth 20000 in
theorem ggL_law_X9_ahead : GoodIn wsL_law wsX9_ahead := goodIn_r _ [461, 462, 122, 123, 5, 124, 463, 464, 465, 252, 253, 183, 254, 255] (by decide +kernel) (by decide +kernel)
set_option maxRecDepth 20000 in
theorem gL_law_X9_ahead : GoodIn wsL_law (wsV RL 73 RX9 yX9_ahead wsX9_ahead) := goodIn_app (goodIn_of _ (by decide +kernel)) ggL_law_X9_ahead
set_option maxRecDepth 20000 in
theorem ggL_law_X8_order : GoodIn wsL_law wsX8_order := goodIn_r _ [469, 470, 471, 453, 472, 473, 474, 475, 476, 452, 454, 455, 456, 457, 477] (by decide +kernel) (by decide +kernel)
set_option maxRecDepth 20000 in
theorem gL_law_X8_order : GoodIn wsL_law (wsV RL 74 RX8 yX8_order wsX8_order) := goodIn_app (goodIn_of _ (by decide +kernel)) ggL_law_X8_order
set_option maxRecDepth 20000 in
theorem ggL_law_X9_order : GoodIn wsL_law wsX9_order := goodIn_r _ [481, 122, 123, 5, 124, 482, 483, 484, 463, 464, 465, 252, 253, 183, 254, 255] (by decide +kernel) (by decide +kernel)
set_option maxRecDepth 20000 in
theorem gL_law_X9_order : GoodIn wsL_law (wsV RL 77 RX9 yX9_order wsX9_order) := goodIn_app (goodIn_of _ (by decide +kernel)) ggL_law_X9_order
set_option maxRecDepth 20000 in
theorem ggL_law_X8_pattern : GoodIn wsL_law wsX8_pattern := goodIn_r _ [488, 16, 129, 37, 489, 490, 491, 36, 492, 493, 494, 495, 496, 497, 498, 499, 76, 75, 500, 78, 501, 145, 146, 15, 147, 45, 502, 503, 504, 505, 506, 298, 299, 32, 300, 301, 302, 303, 304, 305, 65, 306, 307, 241, 308, 309, 240, 242, 310, 311, 312, 313, 43, 42, 314, 315, 316, 317, 318, 319, 507, 508, 509, 510, 511, 177, 178, 179, 512, 227, 228, 229, 176, 513, 182, 183, 184, 185, 186, 187, 514, 515, 516, 517, 518, 519, 520, 521, 522, 523, 77, 524, 525, 526, 527, 528, 529, 530, 531, 532, 533, 534, 535, 536, 537, 538, 539, 375, 376, 377, 540, 379, 380, 381, 541, 542, 543, 544, 79, 545, 546, 547, 548, 549, 550, 551, 552, 553, 325, 326, 327, 554, 555, 556, 557, 80, 558, 836, 837, 838, 839, 840, 841, 842, 843, 844, 869, 870, 871, 872, 894, 895, 896, 897, 898, 899, 900, 901, 886, 887, 888, 889, 890, 891, 892, 893] (by decide +kernel) (by decide +kernel)
set_option maxRecDepth 20000 in
theorem gL_law_X8_pattern : GoodIn wsL_law (wsV RL 78 RX8 yX8_pattern wsX8_pattern) := goodIn_app (goodIn_of _ (by decide +kernel)) ggL_law_X8_pattern
set_option maxRecDepth 20000 in
theorem ggL_law_X9_pattern : GoodIn wsL_law wsX9_pattern := goodIn_r _ [562, 119, 563, 134, 564, 90, 122, 123, 5, 124, 565, 566, 567, 568, 92, 86, 569, 570, 571, 572, 91, 340, 341, 342, 343, 85, 344, 345, 346, 347, 348, 307, 241, 308, 247, 240, 242, 573, 574, 575, 576, 577, 578, 579, 580, 353, 354, 355, 356, 581, 582, 583, 584, 585, 586, 587, 588, 248, 249, 250, 251, 197, 198, 199, 200, 201, 202, 203, 204, 252, 253, 183, 254, 255, 205, 182, 184, 185, 186, 187, 845, 846, 847, 848, 849, 850, 851, 852, 853, 854, 855, 856, 857, 858, 859, 860, 861, 862, 863, 864, 865, 866, 867, 868] (by decide +kernel) (by decide +kernel)
set_option maxRecDepth 20000 in
theorem gL_law_X9_pattern : GoodIn wsL_law (wsV RL 81 RX9 yX9_pattern wsX9_pattern) := goodIn_app (goodIn_of _ (by decide +kernel)) ggL_law_X9_pattern
set_option maxRecDepth 20000 in
theorem ggL_law_X8_has : GoodIn wsL_law wsX8_has := goodIn_r _ [592, 16, 129, 37, 490, 491, 36, 492, 493, 494, 495, 496, 497, 498, 499, 76, 75, 500, 78, 501, 145, 146, 15, 147, 45, 502, 503, 504, 505, 506, 298, 299, 32, 300, 301, 302, 303, 304, 305, 65, 306, 307, 241, 308, 309, 240, 242, 310, 311, 312, 313, 43, 42, 314, 315, 316, 317, 318, 319, 507, 508, 509, 510, 511, 177, 178, 179, 512, 227, 228, 229, 176, 513, 182, 183, 184, 185, 186, 187, 514, 515, 516, 517, 518, 519, 520, 521, 522, 523, 77, 524, 525, 526, 527, 528, 529, 530, 531, 532, 533, 534, 535, 536, 537, 538, 539, 375, 376, 377, 540, 379, 380, 381, 541, 542, 543, 544, 79, 545, 546, 547, 548, 549, 550, 551, 552, 553, 325, 326, 327, 554, 555, 556, 557, 80, 593, 594, 595, 596, 836, 837, 838, 839, 840, 841, 842, 843, 844, 869, 870, 871, 872, 894, 895, 896, 897, 898, 899, 900, 901, 886, 887, 888, 889, 890, 891, 892, 893] (by decide +kernel) (by decide +kernel)
set_option maxRecDepth 20000 in
theorem gL_law_X8_has : GoodIn wsL_law (wsV RL 82 RX8 yX8_has wsX8_has) := goodIn_app (goodIn_of _ (by decide +kernel)) ggL_law_X8_has
set_option maxRecDepth 20000 in
theorem ggL_law_X9_has : GoodIn wsL_law wsX9_has := goodIn_r _ [600, 119, 563, 134, 564, 90, 122, 123, 5, 124, 565, 566, 567, 568, 92, 86, 569, 570, 571, 572, 91, 340, 341, 342, 343, 85, 344, 345, 346, 347, 348, 307, 241, 308, 247, 240, 242, 573, 574, 575, 576, 577, 578, 579, 580, 353, 354, 355, 356, 581, 582, 583, 584, 585, 586, 587, 588, 248, 249, 250, 251, 197, 198, 199, 200, 201, 202, 203, 204, 252, 253, 183, 254, 255, 205, 182, 184, 185, 186, 187, 845, 846, 847, 848, 849, 850, 851, 852, 853, 854, 855, 856, 857, 858, 859, 860, 861, 862, 863, 864, 865, 866, 867, 868] (by decide +kernel) (by decide +kernel)
set_option maxRecDepth 20000 in
theorem gL_law_X9_has : GoodIn wsL_law (wsV RL 85 RX9 yX9_has wsX9_has) := goodIn_app (goodIn_of _ (by decide +kernel)) ggL_law_X9_has
set_option maxRecDepth 20000 in
theorem ggL_law_X8_growth : GoodIn wsL_law wsX8_growth := goodIn_r _ [604, 361, 33, 16, 297, 298, 299, 32, 300, 301, 302, 303, 304, 305, 65, 306, 307, 241, 308, 309, 240, 242, 310, 311, 312, 15, 313, 43, 42, 314, 315, 316, 317, 318, 319, 605, 606, 607, 608, 66, 370, 371, 372, 373, 67, 374, 375, 376, 377, 378, 379, 380, 381, 609, 610, 611, 612, 613, 614, 615, 616, 617, 618, 619, 620, 621, 622, 623, 836, 837, 838, 839, 840, 841, 842, 843, 844, 886, 887, 888, 889, 890, 891, 892, 893, 869, 870, 871, 872] (by decide +kernel) (by decide +kernel)
set_option maxRecDepth 20000 in
theorem gL_law_X8_growth : GoodIn wsL_law (wsV RL 86 RX8 yX8_growth wsX8_growth) := goodIn_app (goodIn_of _ (by decide +kernel)) ggL_law_X8_growth
set_option maxRecDepth 20000 in
theorem ggL_law_X9_growth : GoodIn wsL_law wsX9_growth := goodIn_r _ [627, 628, 387, 93, 94, 122, 123, 5, 124, 629, 630, 631, 632, 340, 341, 342, 343, 134, 85, 344, 345, 346, 347, 86, 348, 307, 241, 308, 247, 240, 242, 633, 634, 635, 845, 846, 847, 848, 849, 850, 851, 852, 853, 854, 855, 856, 857, 858, 859, 860, 861, 862, 863, 864, 865, 866, 867, 868] (by decide +kernel) (by decide +kernel)
set_option maxRecDepth 20000 in
theorem gL_law_X9_growth : GoodIn wsL_law (wsV RL 89 RX9 yX9_growth wsX9_growth) := goodIn_app (goodIn_of _ (by decide +kernel)) ggL_law_X9_growth
set_option maxRecDepth 20000 in
theorem ggL_law_X8_polynomial : GoodIn wsL_law wsX8_polynomial := goodIn_r _ [639, 33, 16, 640, 361, 297, 298, 299, 32, 300, 301, 302, 303, 304, 305, 65, 306, 307, 241, 308, 309, 240, 242, 310, 311, 312, 15, 313, 43, 42, 314, 315, 316, 317, 318, 319, 641, 642, 643, 644, 70, 68, 645, 399, 400, 401, 66, 69, 366, 367, 368, 369, 370, 371, 372, 373, 67, 374, 375, 376, 377, 378, 379, 380, 381, 402, 403, 404, 405, 836, 837, 838, 839, 840, 841, 842, 843, 844, 886, 887, 888, 889, 890, 891, 892, 893, 869, 870, 871, 872] (by decide +kernel) (by decide +kernel)
set_option maxRecDepth 20000 in
theorem gL_law_X8_polynomial : GoodIn wsL_law (wsV RL 90 RX8 yX8_polynomial wsX8_polynomial) := goodIn_app (goodIn_of _ (by decide +kernel)) ggL_law_X8_polynomial
set_option maxRecDepth 20000 in
theorem ggL_law_X9_polynomial : GoodIn wsL_law wsX9_polynomial := goodIn_r _ [649, 387, 95, 96, 340, 341, 342, 5, 343, 134, 85, 122, 123, 124, 344, 345, 346, 347, 86, 348, 307, 241, 308, 247, 240, 242, 845, 846, 847, 848, 849, 850, 851, 852, 853, 854, 855, 856, 857, 858, 859, 860, 861, 862, 863, 864, 865, 866, 867, 868] (by decide +kernel) (by decide +kernel)
set_option maxRecDepth 20000 in
theorem gL_law_X9_polynomial : GoodIn wsL_law (wsV RL 94 RX9 yX9_polynomial wsX9_polynomial) := goodIn_app (goodIn_of _ (by decide +kernel)) ggL_law_X9_polynomial
set_option maxRecDepth 20000 in
theorem ggL_law_X8_turn : GoodIn wsL_law wsX8_turn := goodIn_r _ [653, 21, 16, 654, 655, 2, 656, 657, 658, 659, 144, 145, 146, 15, 147, 45, 148, 149, 150, 20, 151, 114, 50, 152, 153, 154, 155, 660, 661, 662, 663, 46, 42, 664, 375, 376, 377, 665, 666, 667, 668, 669, 670, 671, 672, 673, 674, 675, 676, 677, 678, 679, 680, 681, 682, 683, 684, 234, 182, 183, 184, 185, 186, 187, 685, 686, 687, 688, 836, 837, 838, 839, 840, 841, 842, 843, 844, 869, 870, 871, 872, 873, 874] (by decide +kernel) (by decide +kernel)
set_option maxRecDepth 20000 in
theorem gL_law_X8_turn : GoodIn wsL_law (wsV RL 95 RX8 yX8_turn wsX8_turn) := goodIn_app (goodIn_of _ (by decide +kernel)) ggL_law_X8_turn
set_option maxRecDepth 20000 in
theorem ggL_law_X9_turn : GoodIn wsL_law wsX9_turn := goodIn_r _ [692, 563, 693, 122, 123, 5, 124, 164, 165, 166, 167, 121, 87, 86, 694, 695, 696, 697, 85, 698, 699, 700, 701, 97, 845, 846, 847, 848, 849, 850, 851, 852, 853, 854, 855, 856, 857, 858, 859, 860, 861, 862, 863, 864, 865, 866, 867, 868] (by decide +kernel) (by decide +kernel)
set_option maxRecDepth 20000 in
theorem gL_law_X9_turn : GoodIn wsL_law (wsV RL 99 RX9 yX9_turn wsX9_turn) := goodIn_app (goodIn_of _ (by decide +kernel)) ggL_law_X9_turn
set_option maxRecDepth 20000 in
theorem ggL_law_X8_feed : GoodIn wsL_law wsX8_feed := goodIn_r _ [705, 25, 706, 707, 708, 709, 24, 710, 711, 55, 836, 837, 838, 839, 840, 841, 842, 843, 844, 875, 876] (by decide +kernel) (by decide +kernel)
set_option maxRecDepth 20000 in
theorem gL_law_X8_feed : GoodIn wsL_law (wsV RL 100 RX8 yX8_feed wsX8_feed) := goodIn_app (goodIn_of _ (by decide +kernel)) ggL_law_X8_feed
set_option maxRecDepth 20000 in
theorem ggL_law_X9_feed : GoodIn wsL_law wsX9_feed := goodIn_r _ [715, 716, 717, 98, 122, 123, 5, 124, 845, 846, 847, 848, 849, 850, 851, 852, 853, 854, 855, 856, 857, 858, 859, 860, 861, 862, 863, 864, 865, 866, 867, 868] (by decide +kernel) (by decide +kernel)
set_option maxRecDepth 20000 in
theorem gL_law_X9_feed : GoodIn wsL_law (wsV RL 103 RX9 yX9_feed wsX9_feed) := goodIn_app (goodIn_of _ (by decide +kernel)) ggL_law_X9_feed
set_option maxRecDepth 20000 in
theorem ggL_law_X8_read : GoodIn wsL_law wsX8_read := goodIn_r _ [721, 29, 25, 16, 105, 706, 21, 722, 723, 724, 725, 726, 28, 727, 728, 729, 730, 731, 732, 733, 734, 735, 736, 737, 59, 738, 739, 740, 741, 742, 743, 744, 745, 746, 747, 748, 749, 750, 751, 752, 753, 754, 755, 756, 757, 758, 759, 760, 61, 761, 182, 183, 184, 185, 186, 187, 144, 145, 146, 15, 147, 45, 148, 149, 150, 20, 151, 114, 50, 152, 153, 154, 155, 762, 763, 764, 765, 664, 375, 376, 377, 836, 837, 838, 839, 840, 841, 842, 843, 844, 869, 870, 871, 872, 875, 876, 877, 878, 879, 880, 881, 882, 883, 884, 885, 873, 874] (by decide +kernel) (by decide +kernel)
set_option maxRecDepth 20000 in
theorem gL_law_X8_read : GoodIn wsL_law (wsV RL 104 RX8 yX8_read wsX8_read) := goodIn_app (goodIn_of _ (by decide +kernel)) ggL_law_X8_read
set_option maxRecDepth 20000 in
theorem ggL_law_X9_read : GoodIn wsL_law wsX9_read := goodIn_r _ [769, 97, 717, 85, 770, 99, 86, 771, 772, 773, 5, 774, 98, 122, 123, 124, 205, 182, 183, 184, 185, 186, 187, 164, 165, 166, 167, 121, 87, 845, 846, 847, 848, 849, 850, 851, 852, 853, 854, 855, 856, 857, 858, 859, 860, 861, 862, 863, 864, 865, 866, 867, 868] (by decide +kernel) (by decide +kernel)
set_option maxRecDepth 20000 in
theorem gL_law_X9_read : GoodIn wsL_law (wsV RL 107 RX9 yX9_read wsX9_read) := goodIn_app (goodIn_of _ (by decide +kernel)) ggL_law_X9_read
set_option maxRecDepth 20000 in
theorem ggL_law_X8_why : GoodIn wsL_law wsX8_why := goodIn_r _ [778, 29, 779, 361, 780, 836, 837, 838, 839, 840, 841, 842, 843, 844, 877, 878, 879, 880, 881, 882, 883, 884, 885] (by decide +kernel) (by decide +kernel)
set_option maxRecDepth 20000 in
theorem gL_law_X8_why : GoodIn wsL_law (wsV RL 108 RX8 yX8_why wsX8_why) := goodIn_app (goodIn_of _ (by decide +kernel)) ggL_law_X8_why
set_option maxRecDepth 20000 in
theorem ggL_law_X9_why : GoodIn wsL_law wsX9_why := goodIn_r _ [784, 770, 119, 99, 387, 122, 123, 5, 124, 845, 846, 847, 848, 849, 850, 851, 852, 853, 854, 855, 856, 857, 858, 859, 860, 861, 862, 863, 864, 865, 866, 867, 868] (by decide +kernel) (by decide +kernel)
set_option maxRecDepth 20000 in
theorem gL_law_X9_why : GoodIn wsL_law (wsV RL 111 RX9 yX9_why wsX9_why) := goodIn_app (goodIn_of _ (by decide +kernel)) ggL_law_X9_why
set_option maxRecDepth 20000 in
theorem ggL_law_X8_back : GoodIn wsL_law wsX8_back := goodIn_r _ [788, 21, 789, 16, 790, 791, 792, 20, 793, 114, 50, 794, 795, 796, 15, 797, 45, 836, 837, 838, 839, 840, 841, 842, 843, 844, 873, 874, 869, 870, 871, 872] (by decide +kernel) (by decide +kernel)
set_option maxRecDepth 20000 in
theorem gL_law_X8_back : GoodIn wsL_law (wsV RL 112 RX8 yX8_back wsX8_back) := goodIn_app (goodIn_of _ (by decide +kernel)) ggL_law_X8_back
set_option maxRecDepth 20000 in
theorem ggL_law_X9_back : GoodIn wsL_law wsX9_back := goodIn_r _ [801, 121, 86, 87, 845, 846, 847, 848, 849, 850, 851, 852, 853, 854, 855, 856, 857, 858, 859, 860, 861, 862, 863, 864, 865, 866, 867, 868] (by decide +kernel) (by decide +kernel)
set_option maxRecDepth 20000 in
theorem gL_law_X9_back : GoodIn wsL_law (wsV RL 115 RX9 yX9_back wsX9_back) := goodIn_app (goodIn_of _ (by decide +kernel)) ggL_law_X9_back
set_option maxRecDepth 20000 in
theorem ggL_law_X8_image : GoodIn wsL_law wsX8_image := goodIn_r _ [805, 17, 16, 806, 105, 807, 808, 809, 15, 810, 42, 43, 45, 811, 763, 764, 765, 664, 375, 376, 377, 836, 837, 838, 839, 840, 841, 842, 843, 844, 869, 870, 871, 872] (by decide +kernel) (by decide +kernel)
set_option maxRecDepth 20000 in
theorem gL_law_X8_image : GoodIn wsL_law (wsV RL 116 RX8 yX8_image wsX8_image) := goodIn_app (goodIn_of _ (by decide +kernel)) ggL_law_X8_image
set_option maxRecDepth 20000 in
theorem ggL_law_X9_image : GoodIn wsL_law wsX9_image := goodIn_r _ [815, 816, 85, 817, 134, 818, 100, 86, 845, 846, 847, 848, 849, 850, 851, 852, 853, 854, 855, 856, 857, 858, 859, 860, 861, 862, 863, 864, 865, 866, 867, 868] (by decide +kernel) (by decide +kernel)
set_option maxRecDepth 20000 in
theorem gL_law_X9_image : GoodIn wsL_law (wsV RL 119 RX9 yX9_image wsX9_image) := goodIn_app (goodIn_of _ (by decide +kernel)) ggL_law_X9_image
set_option maxRecDepth 20000 in
theorem ggL_law_X8_undo : GoodIn wsL_law wsX8_undo := goodIn_r _ [822, 806, 16, 17, 21, 105, 807, 808, 809, 15, 810, 42, 43, 45, 811, 763, 764, 765, 664, 375, 376, 377, 110, 111, 112, 20, 113, 114, 836, 837, 838, 839, 840, 841, 842, 843, 844, 869, 870, 871, 872, 873, 874] (by decide +kernel) (by decide +kernel)
set_option maxRecDepth 20000 in
theorem gL_law_X8_undo : GoodIn wsL_law (wsV RL 120 RX8 yX8_undo wsX8_undo) := goodIn_app (goodIn_of _ (by decide +kernel)) ggL_law_X8_undo
set_option maxRecDepth 20000 in
theorem ggL_law_X9_undo : GoodIn wsL_law wsX9_undo := goodIn_r _ [826, 816, 817, 85, 818, 134, 86, 100, 121, 845, 846, 847, 848, 849, 850, 851, 852, 853, 854, 855, 856, 857, 858, 859, 860, 861, 862, 863, 864, 865, 866, 867, 868] (by decide +kernel) (by decide +kernel)
set_option maxRecDepth 20000 in
theorem gL_law_X9_undo : GoodIn wsL_law (wsV RL 123 RX9 yX9_undo wsX9_undo) := goodIn_app (goodIn_of _ (by decide +kernel)) ggL_law_X9_undo
set_option maxRecDepth 20000 in
theorem ggL_law_X8_count : GoodIn wsL_law wsX8_count := goodIn_r _ [830, 16, 105, 129, 21, 789, 25, 706, 12, 831, 311, 312, 15, 313, 43, 42, 836, 837, 838, 839, 840, 841, 842, 843, 844, 869, 870, 871, 872, 873, 874, 875, 876] (by decide +kernel) (by decide +kernel)
set_option maxRecDepth 20000 in
theorem gL_law_X8_count : GoodIn wsL_law (wsV RL 124 RX8 yX8_count wsX8_count) := goodIn_app (goodIn_of _ (by decide +kernel)) ggL_law_X8_count
set_option maxRecDepth 20000 in
theorem ggL_law_X9_count : GoodIn wsL_law wsX9_count := goodIn_r _ [835, 85, 134, 121, 717, 340, 341, 342, 5, 343, 845, 846, 847, 848, 849, 850, 851, 852, 853, 854, 855, 856, 857, 858, 859, 860, 861, 862, 863, 864, 865, 866, 867, 868] (by decide +kernel) (by decide +kernel)
set_option maxRecDepth 20000 in
theorem gL_law_X9_count : GoodIn wsL_law (wsV RL 127 RX9 yX9_count wsX9_count) := goodIn_app (goodIn_of _ (by decide +kernel)) ggL_law_X9_count


