set_option maxRecDepth 20000 in
theorem ggL_law_X5_init : GoodIn wsL_law wsX5_init := goodIn_r _ [8, 9, 10, 11, 12, 13, 14, 15, 16, 17, 18, 19, 20, 21, 22, 23, 24, 25, 26, 27, 28, 29, 30, 31, 32, 33, 34, 35, 36, 37, 38, 39, 40, 41, 42, 43, 44, 45, 46, 47, 48, 49, 50, 51, 52, 53, 54, 55, 56, 57, 58, 59, 60, 61, 62, 63, 64, 65, 66, 67, 68, 69, 70, 71, 72, 73, 74, 75, 76, 77, 78, 79, 80, 81, 82, 83, 84, 85, 86, 87, 88, 89, 90, 820, 821, 822, 823, 824, 825, 826, 827, 769, 770, 771, 772, 773, 774, 775, 776, 777, 778, 828, 829, 830, 831, 832, 833, 834, 835, 836, 837, 838, 839, 840, 841, 842, 843, 844, 845, 846, 847, 848, 849, 850, 851] (by decide +kernel) (by decide +kernel)
set_option maxRecDepth 20000 in
theorem gL_law_X5_init : GoodIn wsL_law (wsX5_init) := ggL_law_X5_init
set_option maxRecDepth 20000 in
theorem ggL_law_X6_init : GoodIn wsL_law wsX6_init := goodIn_r _ [93, 94, 10, 11, 32, 95, 96, 97, 98, 99, 100, 101, 102, 77, 103, 104, 105, 106, 107, 108, 109, 110, 111, 112, 113, 114, 115, 116, 117, 118, 119, 120, 121, 122, 123, 124, 779, 780, 781, 782, 783, 784, 785, 786, 787, 788, 789, 790, 791, 792, 793, 794, 795, 796, 797, 798, 799, 800, 801, 802, 803, 804, 805, 806, 807, 808, 809, 810, 811, 812, 813, 814, 815, 816, 817, 818, 819] (by decide +kernel) (by decide +kernel)
set_option maxRecDepth 20000 in
theorem gL_law_X6_init : GoodIn wsL_law (wsX6_init) := ggL_law_X6_init
set_option maxRecDepth 20000 in
theorem ggL_law_X5_status : GoodIn wsL_law wsX5_status := goodIn_r _ [128, 34, 769, 770, 771, 772, 773, 774, 775, 776, 777, 778] (by decide +kernel) (by decide +kernel)
set_option maxRecDepth 20000 in
theorem gL_law_X5_status : GoodIn wsL_law (wsV RL 13 RX5 yX5_status wsX5_status) := goodIn_app (goodIn_of _ (by decide +kernel)) ggL_law_X5_status
set_option maxRecDepth 20000 in
theorem ggL_law_X6_status : GoodIn wsL_law wsX6_status := goodIn_r _ [132, 133, 134, 779, 780, 781, 782, 783, 784, 785, 786, 787, 788, 789, 790, 791, 792, 793, 794, 795, 796, 797, 798, 799, 800, 801, 802, 803, 804, 805, 806, 807, 808, 809, 810, 811, 812, 813, 814, 815, 816, 817, 818, 819] (by decide +kernel) (by decide +kernel)
set_option maxRecDepth 20000 in
theorem gL_law_X6_status : GoodIn wsL_law (wsV RL 17 RX6 yX6_status wsX6_status) := goodIn_app (goodIn_of _ (by decide +kernel)) ggL_law_X6_status
set_option maxRecDepth 20000 in
theorem ggL_law_X5_plate : GoodIn wsL_law wsX5_plate := goodIn_r _ [138, 139, 140, 141, 142, 2, 143, 34, 144, 145, 146, 147, 769, 770, 771, 772, 773, 774, 775, 776, 777, 778] (by decide +kernel) (by decide +kernel)
set_option maxRecDepth 20000 in
theorem gL_law_X5_plate : GoodIn wsL_law (wsV RL 18 RX5 yX5_plate wsX5_plate) := goodIn_app (goodIn_of _ (by decide +kernel)) ggL_law_X5_plate
set_option maxRecDepth 20000 in
theorem ggL_law_X6_plate : GoodIn wsL_law wsX6_plate := goodIn_r _ [151, 133, 134, 152, 107, 108, 113, 114, 115, 153, 154, 155, 5, 156, 779, 780, 781, 782, 783, 784, 785, 786, 787, 788, 789, 790, 791, 792, 793, 794, 795, 796, 797, 798, 799, 800, 801, 802, 803, 804, 805, 806, 807, 808, 809, 810, 811, 812, 813, 814, 815, 816, 817, 818, 819] (by decide +kernel) (by decide +kernel)
set_option maxRecDepth 20000 in
theorem gL_law_X6_plate : GoodIn wsL_law (wsV RL 21 RX6 yX6_plate wsX6_plate) := goodIn_app (goodIn_of _ (by decide +kernel)) ggL_law_X6_plate
set_option maxRecDepth 20000 in
theorem ggL_law_X5_motif : GoodIn wsL_law wsX5_motif := goodIn_r _ [160, 161, 140, 141, 142, 2, 143, 34, 144, 145, 146, 147, 769, 770, 771, 772, 773, 774, 775, 776, 777, 778] (by decide +kernel) (by decide +kernel)
set_option maxRecDepth 20000 in
theorem gL_law_X5_motif : GoodIn wsL_law (wsV RL 22 RX5 yX5_motif wsX5_motif) := goodIn_app (goodIn_of _ (by decide +kernel)) ggL_law_X5_motif
set_option maxRecDepth 20000 in
theorem ggL_law_X6_motif : GoodIn wsL_law wsX6_motif := goodIn_r _ [165, 133, 134, 166, 153, 154, 155, 5, 156, 779, 780, 781, 782, 783, 784, 785, 786, 787, 788, 789, 790, 791, 792, 793, 794, 795, 796, 797, 798, 799, 800, 801, 802, 803, 804, 805, 806, 807, 808, 809, 810, 811, 812, 813, 814, 815, 816, 817, 818, 819] (by decide +kernel) (by decide +kernel)
set_option maxRecDepth 20000 in
theorem gL_law_X6_motif : GoodIn wsL_law (wsV RL 25 RX6 yX6_motif wsX6_motif) := goodIn_app (goodIn_of _ (by decide +kernel)) ggL_law_X6_motif
set_option maxRecDepth 20000 in
theorem ggL_law_X5_shows : GoodIn wsL_law wsX5_shows := goodIn_r _ [170, 15, 171, 172, 173, 2, 174, 139, 175, 176, 177, 178, 161, 179, 180, 181, 182, 183, 184, 185, 186, 187, 188, 189, 190, 191, 192, 193, 194, 14, 195, 196, 140, 141, 142, 143, 34, 197, 198, 199, 200, 38, 39, 40, 201, 202, 203, 204, 205, 206, 207, 208, 209, 210, 211, 41, 42, 43, 44, 144, 145, 146, 147, 769, 770, 771, 772, 773, 774, 775, 776, 777, 778, 820, 821, 822, 823, 824, 825, 826, 827] (by decide +kernel) (by decide +kernel)
set_option maxRecDepth 20000 in
theorem gL_law_X5_shows : GoodIn wsL_law (wsV RL 26 RX5 yX5_shows wsX5_shows) := goodIn_app (goodIn_of _ (by decide +kernel)) ggL_law_X5_shows
set_option maxRecDepth 20000 in
theorem ggL_law_X6_shows : GoodIn wsL_law wsX6_shows := goodIn_r _ [215, 133, 134, 216, 217, 218, 5, 219, 152, 220, 221, 222, 223, 166, 153, 154, 155, 156, 224, 225, 226, 227, 228, 229, 230, 231, 95, 96, 97, 98, 99, 100, 779, 780, 781, 782, 783, 784, 785, 786, 787, 788, 789, 790, 791, 792, 793, 794, 795, 796, 797, 798, 799, 800, 801, 802, 803, 804, 805, 806, 807, 808, 809, 810, 811, 812, 813, 814, 815, 816, 817, 818, 819] (by decide +kernel) (by decide +kernel)
set_option maxRecDepth 20000 in
theorem gL_law_X6_shows : GoodIn wsL_law (wsV RL 30 RX6 yX6_shows wsX6_shows) := goodIn_app (goodIn_of _ (by decide +kernel)) ggL_law_X6_shows
set_option maxRecDepth 20000 in
theorem ggL_law_X5_ahead : GoodIn wsL_law wsX5_ahead := goodIn_r _ [235, 236, 237, 15, 238, 239, 240, 2, 241, 171, 172, 173, 174, 139, 182, 183, 184, 179, 180, 181, 185, 186, 187, 188, 189, 190, 191, 192, 193, 194, 14, 195, 196, 140, 141, 142, 143, 34, 197, 198, 199, 200, 38, 39, 40, 201, 202, 203, 204, 208, 209, 210, 211, 41, 42, 43, 44, 144, 145, 146, 147, 769, 770, 771, 772, 773, 774, 775, 776, 777, 778, 820, 821, 822, 823, 824, 825, 826, 827] (by decide +kernel) (by decide +kernel)
set_option maxRecDepth 20000 in
theorem gL_law_X5_ahead : GoodIn wsL_law (wsV RL 31 RX5 yX5_ahead wsX5_ahead) := goodIn_app (goodIn_of _ (by decide +kernel)) ggL_law_X5_ahead
set_option maxRecDepth 20000 in
theorem ggL_law_X6_ahead : GoodIn wsL_law wsX6_ahead := goodIn_r _ [245, 133, 134, 246, 247, 216, 217, 218, 5, 219, 152, 153, 154, 155, 156, 224, 225, 226, 227, 228, 229, 230, 231, 95, 96, 97, 98, 99, 100, 779, 780, 781, 782, 783, 784, 785, 786, 787, 788, 789, 790, 791, 792, 793, 794, 795, 796, 797, 798, 799, 800, 801, 802, 803, 804, 805, 806, 807, 808, 809, 810, 811, 812, 813, 814, 815, 816, 817, 818, 819] (by decide +kernel) (by decide +kernel)
set_option maxRecDepth 20000 in
theorem gL_law_X6_ahead : GoodIn wsL_law (wsV RL 35 RX6 yX6_ahead wsX6_ahead) := goodIn_app (goodIn_of _ (by decide +kernel)) ggL_law_X6_ahead
set_option maxRecDepth 20000 in
theorem ggL_law_X5_same : GoodIn wsL_law wsX5_same := goodIn_r _ [251, 15, 238, 239, 240, 2, 241, 171, 172, 173, 174, 139, 179, 180, 181, 182, 183, 184, 185, 186, 187, 188, 189, 190, 191, 192, 193, 194, 14, 195, 196, 140, 141, 142, 143, 34, 197, 198, 199, 200, 38, 39, 40, 201, 202, 203, 204, 208, 209, 210, 211, 41, 42, 43, 44, 144, 145, 146, 147, 769, 770, 771, 772, 773, 774, 775, 776, 777, 778, 820, 821, 822, 823, 824, 825, 826, 827] (by decide +kernel) (by decide +kernel)
set_option maxRecDepth 20000 in
theorem gL_law_X5_same : GoodIn wsL_law (wsV RL 36 RX5 yX5_same wsX5_same) := goodIn_app (goodIn_of _ (by decide +kernel)) ggL_law_X5_same
set_option maxRecDepth 20000 in
theorem ggL_law_X6_same : GoodIn wsL_law wsX6_same := goodIn_r _ [255, 133, 134, 216, 217, 218, 5, 219, 152, 153, 154, 155, 156, 224, 225, 226, 227, 228, 229, 230, 231, 95, 96, 97, 98, 99, 100, 779, 780, 781, 782, 783, 784, 785, 786, 787, 788, 789, 790, 791, 792, 793, 794, 795, 796, 797, 798, 799, 800, 801, 802, 803, 804, 805, 806, 807, 808, 809, 810, 811, 812, 813, 814, 815, 816, 817, 818, 819] (by decide +kernel) (by decide +kernel)
set_option maxRecDepth 20000 in
theorem gL_law_X6_same : GoodIn wsL_law (wsV RL 39 RX6 yX6_same wsX6_same) := goodIn_app (goodIn_of _ (by decide +kernel)) ggL_law_X6_same
set_option maxRecDepth 20000 in
theorem ggL_law_X5_taken : GoodIn wsL_law wsX5_taken := goodIn_r _ [259, 171, 172, 173, 2, 174, 139, 260, 261, 262, 237, 179, 180, 181, 182, 183, 184, 185, 186, 187, 188, 15, 189, 190, 191, 192, 193, 194, 14, 195, 196, 140, 141, 142, 143, 34, 202, 203, 204, 263, 264, 265, 266, 197, 198, 199, 200, 38, 39, 40, 201, 208, 209, 210, 211, 41, 42, 43, 44, 144, 145, 146, 147, 769, 770, 771, 772, 773, 774, 775, 776, 777, 778, 820, 821, 822, 823, 824, 825, 826, 827] (by decide +kernel) (by decide +kernel)
set_option maxRecDepth 20000 in
theorem gL_law_X5_taken : GoodIn wsL_law (wsV RL 40 RX5 yX5_taken wsX5_taken) := goodIn_app (goodIn_of _ (by decide +kernel)) ggL_law_X5_taken
set_option maxRecDepth 20000 in
theorem ggL_law_X6_taken : GoodIn wsL_law wsX6_taken := goodIn_r _ [270, 133, 134, 216, 217, 218, 5, 219, 152, 153, 154, 155, 156, 271, 272, 273, 247, 224, 225, 226, 227, 228, 229, 230, 231, 95, 96, 97, 98, 99, 100, 779, 780, 781, 782, 783, 784, 785, 786, 787, 788, 789, 790, 791, 792, 793, 794, 795, 796, 797, 798, 799, 800, 801, 802, 803, 804, 805, 806, 807, 808, 809, 810, 811, 812, 813, 814, 815, 816, 817, 818, 819] (by decide +kernel) (by decide +kernel)
set_option maxRecDepth 20000 in
theorem gL_law_X6_taken : GoodIn wsL_law (wsV RL 43 RX6 yX6_taken wsX6_taken) := goodIn_app (goodIn_of _ (by decide +kernel)) ggL_law_X6_taken
set_option maxRecDepth 20000 in
theorem ggL_law_X5_stood : GoodIn wsL_law wsX5_stood := goodIn_r _ [277, 175, 176, 177, 2, 178, 161, 260, 261, 262, 237, 179, 180, 181, 182, 183, 184, 185, 186, 187, 188, 15, 189, 190, 191, 192, 193, 194, 14, 195, 196, 140, 141, 142, 143, 34, 205, 206, 207, 263, 264, 265, 266, 197, 198, 199, 200, 38, 39, 40, 201, 208, 209, 210, 211, 41, 42, 43, 44, 144, 145, 146, 147, 769, 770, 771, 772, 773, 774, 775, 776, 777, 778, 820, 821, 822, 823, 824, 825, 826, 827] (by decide +kernel) (by decide +kernel)
set_option maxRecDepth 20000 in
theorem gL_law_X5_stood : GoodIn wsL_law (wsV RL 44 RX5 yX5_stood wsX5_stood) := goodIn_app (goodIn_of _ (by decide +kernel)) ggL_law_X5_stood
set_option maxRecDepth 20000 in
theorem ggL_law_X6_stood : GoodIn wsL_law wsX6_stood := goodIn_r _ [281, 133, 134, 220, 221, 222, 5, 223, 166, 153, 154, 155, 156, 271, 272, 273, 247, 224, 225, 226, 227, 228, 229, 230, 231, 95, 96, 97, 98, 99, 100, 779, 780, 781, 782, 783, 784, 785, 786, 787, 788, 789, 790, 791, 792, 793, 794, 795, 796, 797, 798, 799, 800, 801, 802, 803, 804, 805, 806, 807, 808, 809, 810, 811, 812, 813, 814, 815, 816, 817, 818, 819] (by decide +kernel) (by decide +kernel)
set_option maxRecDepth 20000 in
theorem gL_law_X6_stood : GoodIn wsL_law (wsV RL 48 RX6 yX6_stood wsX6_stood) := goodIn_app (goodIn_of _ (by decide +kernel)) ggL_law_X6_stood
set_option maxRecDepth 20000 in
theorem ggL_law_X5_cross : GoodIn wsL_law wsX5_cross := goodIn_r _ [285, 15, 34, 286, 287, 288, 14, 289, 196, 179, 180, 2, 181, 182, 183, 184, 189, 190, 191, 290, 291, 292, 293, 40, 294, 295, 296, 297, 298, 769, 770, 771, 772, 773, 774, 775, 776, 777, 778, 820, 821, 822, 823, 824, 825, 826, 827] (by decide +kernel) (by decide +kernel)
set_option maxRecDepth 20000 in
theorem gL_law_X5_cross : GoodIn wsL_law (wsV RL 49 RX5 yX5_cross wsX5_cross) := goodIn_app (goodIn_of _ (by decide +kernel)) ggL_law_X5_cross
set_option maxRecDepth 20000 in
theorem ggL_law_X6_cross : GoodIn wsL_law wsX6_cross := goodIn_r _ [302, 133, 134, 100, 303, 304, 305, 5, 306, 231, 307, 308, 309, 310, 224, 225, 226, 779, 780, 781, 782, 783, 784, 785, 786, 787, 788, 789, 790, 791, 792, 793, 794, 795, 796, 797, 798, 799, 800, 801, 802, 803, 804, 805, 806, 807, 808, 809, 810, 811, 812, 813, 814, 815, 816, 817, 818, 819] (by decide +kernel) (by decide +kernel)
set_option maxRecDepth 20000 in
theorem gL_law_X6_cross : GoodIn wsL_law (wsV RL 53 RX6 yX6_cross wsX6_cross) := goodIn_app (goodIn_of _ (by decide +kernel)) ggL_law_X6_cross
set_option maxRecDepth 20000 in
theorem ggL_law_X5_fact : GoodIn wsL_law wsX5_fact := goodIn_r _ [314, 15, 286, 287, 288, 14, 289, 196, 182, 183, 2, 184, 189, 190, 191, 140, 141, 142, 143, 34, 315, 316, 317, 318, 38, 294, 144, 145, 146, 147, 319, 320, 321, 322, 39, 290, 291, 292, 293, 40, 323, 324, 325, 326, 41, 769, 770, 771, 772, 773, 774, 775, 776, 777, 778, 820, 821, 822, 823, 824, 825, 826, 827] (by decide +kernel) (by decide +kernel)
set_option maxRecDepth 20000 in
theorem gL_law_X5_fact : GoodIn wsL_law (wsV RL 54 RX5 yX5_fact wsX5_fact) := goodIn_app (goodIn_of _ (by decide +kernel)) ggL_law_X5_fact
set_option maxRecDepth 20000 in
theorem ggL_law_X6_fact : GoodIn wsL_law wsX6_fact := goodIn_r _ [330, 133, 134, 95, 99, 100, 303, 304, 305, 5, 306, 231, 153, 154, 155, 156, 779, 780, 781, 782, 783, 784, 785, 786, 787, 788, 789, 790, 791, 792, 793, 794, 795, 796, 797, 798, 799, 800, 801, 802, 803, 804, 805, 806, 807, 808, 809, 810, 811, 812, 813, 814, 815, 816, 817, 818, 819] (by decide +kernel) (by decide +kernel)
set_option maxRecDepth 20000 in
theorem gL_law_X6_fact : GoodIn wsL_law (wsV RL 58 RX6 yX6_fact wsX6_fact) := goodIn_app (goodIn_of _ (by decide +kernel)) ggL_law_X6_fact
set_option maxRecDepth 20000 in
theorem ggL_law_X5_span : GoodIn wsL_law wsX5_span := goodIn_r _ [334, 171, 172, 173, 2, 174, 139, 179, 180, 181, 182, 183, 184, 189, 190, 191, 140, 141, 142, 143, 34, 202, 203, 204, 335, 336, 337, 338, 19, 15, 339, 340, 341, 18, 342, 343, 344, 345, 346, 14, 347, 196, 348, 349, 350, 351, 39, 40, 294, 287, 288, 289, 352, 353, 354, 355, 42, 43, 44, 356, 324, 325, 326, 41, 357, 358, 359, 360, 48, 49, 50, 361, 362, 363, 364, 51, 365, 366, 367, 368, 369, 370, 80, 81, 82, 371, 372, 373, 374, 375, 376, 377, 378, 379, 380, 381, 382, 383, 384, 385, 386, 387, 388, 389, 390, 391, 144, 145, 146, 147, 769, 770, 771, 772, 773, 774, 775, 776, 777, 778, 828, 829, 830, 831, 832, 833, 820, 821, 822, 823, 824, 825, 826, 827] (by decide +kernel) (by decide +kernel)
set_option maxRecDepth 20000 in
theorem gL_law_X5_span : GoodIn wsL_law (wsV RL 59 RX5 yX5_span wsX5_span) := goodIn_app (goodIn_of _ (by decide +kernel)) ggL_law_X5_span
set_option maxRecDepth 20000 in
theorem ggL_law_X6_span : GoodIn wsL_law wsX6_span := goodIn_r _ [395, 133, 134, 216, 217, 218, 5, 219, 152, 396, 397, 398, 399, 400, 401, 402, 104, 224, 225, 226, 153, 154, 155, 156, 403, 404, 405, 406, 407, 166, 408, 231, 96, 97, 95, 98, 409, 410, 411, 412, 413, 414, 415, 416, 417, 101, 102, 103, 418, 419, 420, 421, 422, 423, 424, 425, 426, 427, 99, 100, 428, 429, 430, 431, 432, 433, 434, 435, 436, 779, 780, 781, 782, 783, 784, 785, 786, 787, 788, 789, 790, 791, 792, 793, 794, 795, 796, 797, 798, 799, 800, 801, 802, 803, 804, 805, 806, 807, 808, 809, 810, 811, 812, 813, 814, 815, 816, 817, 818, 819] (by decide +kernel) (by decide +kernel)
set_option maxRecDepth 20000 in
theorem gL_law_X6_span : GoodIn wsL_law (wsV RL 63 RX6 yX6_span wsX6_span) := goodIn_app (goodIn_of _ (by decide +kernel)) ggL_law_X6_span
set_option maxRecDepth 20000 in
theorem ggL_law_X5_times : GoodIn wsL_law wsX5_times := goodIn_r _ [440, 175, 176, 177, 2, 178, 161, 179, 180, 181, 182, 183, 184, 189, 190, 191, 140, 141, 142, 143, 34, 205, 206, 207, 335, 336, 337, 338, 19, 15, 339, 340, 341, 18, 342, 343, 344, 345, 346, 14, 347, 196, 348, 349, 350, 351, 39, 40, 294, 287, 288, 289, 352, 353, 354, 355, 42, 43, 44, 356, 324, 325, 326, 41, 357, 358, 359, 360, 48, 49, 50, 361, 362, 363, 364, 51, 365, 366, 367, 368, 369, 370, 80, 81, 82, 371, 372, 373, 374, 375, 376, 377, 378, 379, 380, 381, 382, 383, 384, 385, 386, 387, 388, 389, 390, 391, 144, 145, 146, 147, 769, 770, 771, 772, 773, 774, 775, 776, 777, 778, 828, 829, 830, 831, 832, 833, 820, 821, 822, 823, 824, 825, 826, 827] (by decide +kernel) (by decide +kernel)
set_option maxRecDepth 20000 in
theorem gL_law_X5_times : GoodIn wsL_law (wsV RL 64 RX5 yX5_times wsX5_times) := goodIn_app (goodIn_of _ (by decide +kernel)) ggL_law_X5_times
set_option maxRecDepth 20000 in
theorem ggL_law_X6_times : GoodIn wsL_law wsX6_times := goodIn_r _ [444, 133, 134, 220, 221, 222, 5, 223, 166, 421, 422, 423, 418, 419, 420, 399, 400, 401, 402, 104, 224, 225, 226, 153, 154, 155, 156, 403, 404, 405, 406, 407, 152, 408, 231, 96, 97, 95, 98, 396, 397, 398, 409, 410, 411, 412, 413, 414, 415, 416, 417, 101, 102, 103, 424, 425, 426, 427, 99, 100, 428, 429, 430, 431, 432, 433, 434, 435, 436, 779, 780, 781, 782, 783, 784, 785, 786, 787, 788, 789, 790, 791, 792, 793, 794, 795, 796, 797, 798, 799, 800, 801, 802, 803, 804, 805, 806, 807, 808, 809, 810, 811, 812, 813, 814, 815, 816, 817, 818, 819] (by decide +kernel) (by decide +kernel)
set_option maxRecDepth 20000 in
theorem gL_law_X6_times : GoodIn wsL_law (wsV RL 68 RX6 yX6_times wsX6_times) := goodIn_app (goodIn_of _ (by decide +kernel)) ggL_law_X6_times
set_option maxRecDepth 20000 in
theorem ggL_law_X5_quarrel : GoodIn wsL_law wsX5_quarrel := goodIn_r _ [448, 19, 15, 179, 180, 2, 181, 182, 183, 184, 140, 141, 142, 143, 34, 339, 340, 341, 18, 342, 343, 344, 345, 346, 14, 347, 196, 348, 349, 350, 351, 39, 40, 294, 287, 288, 289, 352, 353, 354, 355, 42, 43, 44, 356, 324, 325, 326, 41, 357, 358, 359, 360, 48, 49, 50, 361, 362, 363, 364, 51, 365, 366, 367, 368, 369, 370, 80, 81, 82, 371, 372, 373, 374, 375, 376, 377, 378, 379, 380, 381, 382, 383, 384, 385, 386, 387, 449, 450, 451, 452, 453, 454, 455, 456, 52, 457, 458, 459, 460, 144, 145, 146, 147, 769, 770, 771, 772, 773, 774, 775, 776, 777, 778, 828, 829, 830, 831, 832, 833, 820, 821, 822, 823, 824, 825, 826, 827] (by decide +kernel) (by decide +kernel)
set_option maxRecDepth 20000 in
theorem gL_law_X5_quarrel : GoodIn wsL_law (wsV RL 69 RX5 yX5_quarrel wsX5_quarrel) := goodIn_app (goodIn_of _ (by decide +kernel)) ggL_law_X5_quarrel
set_option maxRecDepth 20000 in
theorem ggL_law_X6_quarrel : GoodIn wsL_law wsX6_quarrel := goodIn_r _ [464, 133, 134, 407, 408, 105, 104, 106, 224, 225, 5, 226, 153, 154, 155, 156, 403, 404, 405, 406, 152, 166, 231, 96, 97, 95, 98, 396, 397, 398, 409, 410, 411, 412, 413, 414, 415, 416, 417, 101, 102, 103, 418, 419, 420, 421, 422, 423, 424, 425, 426, 427, 99, 100, 428, 429, 430, 431, 432, 433, 434, 435, 436, 465, 466, 467, 468, 469, 470, 377, 471, 779, 780, 781, 782, 783, 784, 785, 786, 787, 788, 789, 790, 791, 792, 793, 794, 795, 796, 797, 798, 799, 800, 801, 802, 803, 804, 805, 806, 807, 808, 809, 810, 811, 812, 813, 814, 815, 816, 817, 818, 819] (by decide +kernel) (by decide +kernel)
set_option maxRecDepth 20000 in
theorem gL_law_X6_quarrel : GoodIn wsL_law (wsV RL 73 RX6 yX6_quarrel wsX6_quarrel) := goodIn_app (goodIn_of _ (by decide +kernel)) ggL_law_X6_quarrel
set_option maxRecDepth 20000 in
theorem ggL_law_X5_frees : GoodIn wsL_law wsX5_frees := goodIn_r _ [475, 15, 19, 286, 287, 288, 14, 289, 196, 179, 180, 2, 181, 182, 183, 184, 189, 190, 191, 140, 141, 142, 143, 34, 339, 340, 341, 18, 342, 343, 344, 345, 346, 347, 348, 349, 350, 351, 39, 40, 294, 352, 353, 354, 355, 42, 43, 44, 356, 324, 325, 326, 41, 357, 358, 359, 360, 48, 49, 50, 361, 362, 363, 364, 51, 365, 366, 367, 368, 369, 370, 80, 81, 82, 371, 372, 373, 374, 375, 376, 377, 378, 379, 380, 381, 382, 383, 384, 385, 386, 387, 476, 144, 145, 146, 147, 769, 770, 771, 772, 773, 774, 775, 776, 777, 778, 820, 821, 822, 823, 824, 825, 826, 827, 828, 829, 830, 831, 832, 833] (by decide +kernel) (by decide +kernel)
set_option maxRecDepth 20000 in
theorem gL_law_X5_frees : GoodIn wsL_law (wsV RL 74 RX5 yX5_frees wsX5_frees) := goodIn_app (goodIn_of _ (by decide +kernel)) ggL_law_X5_frees
set_option maxRecDepth 20000 in
theorem ggL_law_X6_frees : GoodIn wsL_law wsX6_frees := goodIn_r _ [480, 133, 134, 303, 304, 305, 5, 306, 231, 153, 154, 155, 156, 224, 225, 226, 403, 404, 405, 406, 407, 152, 166, 408, 96, 97, 95, 98, 396, 397, 398, 409, 410, 411, 412, 413, 414, 415, 416, 417, 101, 102, 103, 418, 419, 420, 421, 422, 423, 424, 425, 426, 427, 99, 100, 428, 429, 430, 431, 432, 433, 434, 435, 104, 436, 779, 780, 781, 782, 783, 784, 785, 786, 787, 788, 789, 790, 791, 792, 793, 794, 795, 796, 797, 798, 799, 800, 801, 802, 803, 804, 805, 806, 807, 808, 809, 810, 811, 812, 813, 814, 815, 816, 817, 818, 819] (by decide +kernel) (by decide +kernel)
set_option maxRecDepth 20000 in
theorem gL_law_X6_frees : GoodIn wsL_law (wsV RL 77 RX6 yX6_frees wsX6_frees) := goodIn_app (goodIn_of _ (by decide +kernel)) ggL_law_X6_frees
set_option maxRecDepth 20000 in
theorem ggL_law_X5_order : GoodIn wsL_law wsX5_order := goodIn_r _ [484, 19, 15, 238, 239, 240, 2, 241, 171, 172, 173, 174, 139, 179, 180, 181, 182, 183, 184, 189, 190, 191, 140, 141, 142, 143, 34, 339, 340, 341, 18, 342, 343, 344, 345, 346, 14, 347, 196, 348, 349, 350, 351, 39, 40, 294, 287, 288, 289, 352, 353, 354, 355, 42, 43, 44, 356, 324, 325, 326, 41, 357, 358, 359, 360, 48, 49, 50, 202, 203, 204, 361, 362, 363, 364, 51, 365, 366, 367, 368, 369, 370, 80, 81, 82, 371, 372, 373, 374, 375, 376, 377, 378, 379, 380, 381, 382, 383, 384, 385, 386, 387, 388, 389, 390, 391, 144, 145, 146, 147, 769, 770, 771, 772, 773, 774, 775, 776, 777, 778, 828, 829, 830, 831, 832, 833, 820, 821, 822, 823, 824, 825, 826, 827] (by decide +kernel) (by decide +kernel)
set_option maxRecDepth 20000 in
theorem gL_law_X5_order : GoodIn wsL_law (wsV RL 78 RX5 yX5_order wsX5_order) := goodIn_app (goodIn_of _ (by decide +kernel)) ggL_law_X5_order
set_option maxRecDepth 20000 in
theorem ggL_law_X6_order : GoodIn wsL_law wsX6_order := goodIn_r _ [488, 133, 134, 104, 216, 217, 218, 5, 219, 152, 153, 154, 155, 156, 224, 225, 226, 403, 404, 405, 406, 407, 166, 408, 231, 96, 97, 95, 98, 396, 397, 398, 409, 410, 411, 412, 413, 414, 415, 416, 417, 101, 102, 103, 418, 419, 420, 421, 422, 423, 424, 425, 426, 427, 99, 100, 428, 429, 430, 431, 432, 433, 434, 435, 436, 779, 780, 781, 782, 783, 784, 785, 786, 787, 788, 789, 790, 791, 792, 793, 794, 795, 796, 797, 798, 799, 800, 801, 802, 803, 804, 805, 806, 807, 808, 809, 810, 811, 812, 813, 814, 815, 816, 817, 818, 819] (by decide +kernel) (by decide +kernel)
set_option maxRecDepth 20000 in
theorem gL_law_X6_order : GoodIn wsL_law (wsV RL 81 RX6 yX6_order wsX6_order) := goodIn_app (goodIn_of _ (by decide +kernel)) ggL_law_X6_order
set_option maxRecDepth 20000 in
theorem ggL_law_X5_edges : GoodIn wsL_law wsX5_edges := goodIn_r _ [492, 34, 23, 182, 183, 2, 184, 171, 172, 173, 174, 139, 189, 190, 191, 493, 494, 495, 22, 496, 57, 58, 62, 63, 64, 65, 59, 60, 61, 66, 67, 68, 769, 770, 771, 772, 773, 774, 775, 776, 777, 778, 834, 835, 836, 837, 838] (by decide +kernel) (by decide +kernel)
set_option maxRecDepth 20000 in
theorem gL_law_X5_edges : GoodIn wsL_law (wsV RL 82 RX5 yX5_edges wsX5_edges) := goodIn_app (goodIn_of _ (by decide +kernel)) ggL_law_X5_edges
set_option maxRecDepth 20000 in
theorem ggL_law_X6_edges : GoodIn wsL_law wsX6_edges := goodIn_r _ [500, 133, 134, 107, 108, 216, 217, 218, 5, 219, 152, 307, 308, 309, 310, 779, 780, 781, 782, 783, 784, 785, 786, 787, 788, 789, 790, 791, 792, 793, 794, 795, 796, 797, 798, 799, 800, 801, 802, 803, 804, 805, 806, 807, 808, 809, 810, 811, 812, 813, 814, 815, 816, 817, 818, 819] (by decide +kernel) (by decide +kernel)
set_option maxRecDepth 20000 in
theorem gL_law_X6_edges : GoodIn wsL_law (wsV RL 86 RX6 yX6_edges wsX6_edges) := goodIn_app (goodIn_of _ (by decide +kernel)) ggL_law_X6_edges
set_option maxRecDepth 20000 in
theorem ggL_law_X5_row : GoodIn wsL_law wsX5_row := goodIn_r _ [504, 23, 33, 505, 506, 507, 508, 2, 509, 510, 511, 512, 513, 139, 514, 515, 516, 22, 517, 518, 519, 377, 520, 521, 522, 523, 524, 60, 61, 525, 526, 527, 528, 529, 530, 531, 59, 532, 533, 534, 535, 536, 537, 538, 539, 540, 541, 542, 140, 141, 142, 143, 34, 543, 544, 545, 546, 547, 548, 549, 550, 551, 552, 553, 554, 555, 556, 557, 558, 144, 145, 146, 147, 769, 770, 771, 772, 773, 774, 775, 776, 777, 778, 834, 835, 836, 837, 838] (by decide +kernel) (by decide +kernel)
set_option maxRecDepth 20000 in
theorem gL_law_X5_row : GoodIn wsL_law (wsV RL 87 RX5 yX5_row wsX5_row) := goodIn_app (goodIn_of _ (by decide +kernel)) ggL_law_X5_row
set_option maxRecDepth 20000 in
theorem ggL_law_X6_row : GoodIn wsL_law wsX6_row := goodIn_r _ [562, 133, 134, 563, 564, 109, 110, 565, 566, 567, 5, 568, 152, 153, 154, 155, 156, 569, 570, 571, 572, 573, 574, 575, 576, 112, 111, 577, 519, 377, 520, 578, 579, 580, 581, 582, 376, 378, 583, 584, 585, 586, 107, 587, 588, 589, 590, 108, 591, 592, 593, 594, 595, 596, 597, 598, 779, 780, 781, 782, 783, 784, 785, 786, 787, 788, 789, 790, 791, 792, 793, 794, 795, 796, 797, 798, 799, 800, 801, 802, 803, 804, 805, 806, 807, 808, 809, 810, 811, 812, 813, 814, 815, 816, 817, 818, 819] (by decide +kernel) (by decide +kernel)
set_option maxRecDepth 20000 in
theorem gL_law_X6_row : GoodIn wsL_law (wsV RL 90 RX6 yX6_row wsX6_row) := goodIn_app (goodIn_of _ (by decide +kernel)) ggL_law_X6_row
set_option maxRecDepth 20000 in
theorem ggL_law_X5_ring : GoodIn wsL_law wsX5_ring := goodIn_r _ [602, 23, 506, 507, 508, 2, 509, 510, 511, 512, 513, 139, 514, 515, 516, 22, 517, 518, 519, 377, 520, 521, 522, 523, 524, 60, 61, 525, 526, 527, 528, 529, 530, 531, 59, 532, 533, 534, 535, 536, 537, 538, 539, 540, 541, 542, 140, 141, 142, 143, 34, 603, 144, 145, 146, 147, 769, 770, 771, 772, 773, 774, 775, 776, 777, 778, 834, 835, 836, 837, 838] (by decide +kernel) (by decide +kernel)
set_option maxRecDepth 20000 in
theorem gL_law_X5_ring : GoodIn wsL_law (wsV RL 91 RX5 yX5_ring wsX5_ring) := goodIn_app (goodIn_of _ (by decide +kernel)) ggL_law_X5_ring
set_option maxRecDepth 20000 in
theorem ggL_law_X6_ring : GoodIn wsL_law wsX6_ring := goodIn_r _ [607, 133, 134, 110, 563, 565, 566, 567, 5, 568, 152, 153, 154, 155, 156, 569, 570, 571, 572, 573, 574, 575, 576, 112, 111, 577, 519, 377, 520, 578, 579, 580, 581, 582, 376, 378, 583, 584, 585, 586, 107, 587, 588, 589, 590, 108, 591, 592, 593, 594, 595, 596, 597, 598, 779, 780, 781, 782, 783, 784, 785, 786, 787, 788, 789, 790, 791, 792, 793, 794, 795, 796, 797, 798, 799, 800, 801, 802, 803, 804, 805, 806, 807, 808, 809, 810, 811, 812, 813, 814, 815, 816, 817, 818, 819] (by decide +kernel) (by decide +kernel)
set_option maxRecDepth 20000 in
theorem gL_law_X6_ring : GoodIn wsL_law (wsV RL 94 RX6 yX6_ring wsX6_ring) := goodIn_app (goodIn_of _ (by decide +kernel)) ggL_law_X6_ring
set_option maxRecDepth 20000 in
theorem ggL_law_X5_rows : GoodIn wsL_law wsX5_rows := goodIn_r _ [611, 23, 510, 511, 512, 2, 513, 139, 140, 141, 142, 143, 34, 514, 515, 516, 22, 517, 518, 519, 377, 520, 521, 522, 523, 524, 60, 61, 525, 526, 527, 528, 529, 530, 531, 59, 532, 533, 534, 535, 536, 537, 538, 539, 540, 541, 542, 144, 145, 146, 147, 769, 770, 771, 772, 773, 774, 775, 776, 777, 778, 834, 835, 836, 837, 838] (by decide +kernel) (by decide +kernel)
set_option maxRecDepth 20000 in
theorem gL_law_X5_rows : GoodIn wsL_law (wsV RL 95 RX5 yX5_rows wsX5_rows) := goodIn_app (goodIn_of _ (by decide +kernel)) ggL_law_X5_rows
set_option maxRecDepth 20000 in
theorem ggL_law_X6_rows : GoodIn wsL_law wsX6_rows := goodIn_r _ [615, 133, 134, 152, 112, 111, 577, 519, 377, 520, 565, 566, 567, 5, 568, 153, 154, 155, 156, 578, 579, 580, 581, 582, 376, 378, 583, 584, 585, 586, 107, 587, 588, 589, 590, 108, 591, 592, 593, 594, 616, 617, 618, 619, 779, 780, 781, 782, 783, 784, 785, 786, 787, 788, 789, 790, 791, 792, 793, 794, 795, 796, 797, 798, 799, 800, 801, 802, 803, 804, 805, 806, 807, 808, 809, 810, 811, 812, 813, 814, 815, 816, 817, 818, 819] (by decide +kernel) (by decide +kernel)
set_option maxRecDepth 20000 in
theorem gL_law_X6_rows : GoodIn wsL_law (wsV RL 98 RX6 yX6_rows wsX6_rows) := goodIn_app (goodIn_of _ (by decide +kernel)) ggL_law_X6_rows
set_option maxRecDepth 20000 in
theorem ggL_law_X5_out : GoodIn wsL_law wsX5_out := goodIn_r _ [623, 505, 33, 769, 770, 771, 772, 773, 774, 775, 776, 777, 778] (by decide +kernel) (by decide +kernel)
set_option maxRecDepth 20000 in
theorem gL_law_X5_out : GoodIn wsL_law (wsV RL 99 RX5 yX5_out wsX5_out) := goodIn_app (goodIn_of _ (by decide +kernel)) ggL_law_X5_out
set_option maxRecDepth 20000 in
theorem ggL_law_X6_out : GoodIn wsL_law wsX6_out := goodIn_r _ [627, 133, 564, 109, 779, 780, 781, 782, 783, 784, 785, 786, 787, 788, 789, 790, 791, 792, 793, 794, 795, 796, 797, 798, 799, 800, 801, 802, 803, 804, 805, 806, 807, 808, 809, 810, 811, 812, 813, 814, 815, 816, 817, 818, 819] (by decide +kernel) (by decide +kernel)
set_option maxRecDepth 20000 in
theorem gL_law_X6_out : GoodIn wsL_law (wsV RL 102 RX6 yX6_out wsX6_out) := goodIn_app (goodIn_of _ (by decide +kernel)) ggL_law_X6_out
set_option maxRecDepth 20000 in
theorem ggL_law_X5_want : GoodIn wsL_law wsX5_want := goodIn_r _ [631, 34, 27, 182, 183, 2, 184, 171, 172, 173, 174, 139, 189, 190, 191, 632, 633, 634, 26, 635, 73, 74, 75, 769, 770, 771, 772, 773, 774, 775, 776, 777, 778, 839, 840, 841, 842, 843, 844] (by decide +kernel) (by decide +kernel)
set_option maxRecDepth 20000 in
theorem gL_law_X5_want : GoodIn wsL_law (wsV RL 103 RX5 yX5_want wsX5_want) := goodIn_app (goodIn_of _ (by decide +kernel)) ggL_law_X5_want
set_option maxRecDepth 20000 in
theorem ggL_law_X6_want : GoodIn wsL_law wsX6_want := goodIn_r _ [639, 133, 134, 113, 114, 115, 216, 217, 218, 5, 219, 152, 307, 308, 309, 310, 779, 780, 781, 782, 783, 784, 785, 786, 787, 788, 789, 790, 791, 792, 793, 794, 795, 796, 797, 798, 799, 800, 801, 802, 803, 804, 805, 806, 807, 808, 809, 810, 811, 812, 813, 814, 815, 816, 817, 818, 819] (by decide +kernel) (by decide +kernel)
set_option maxRecDepth 20000 in
theorem gL_law_X6_want : GoodIn wsL_law (wsV RL 107 RX6 yX6_want wsX6_want) := goodIn_app (goodIn_of _ (by decide +kernel)) ggL_law_X6_want
set_option maxRecDepth 20000 in
theorem ggL_law_X5_best : GoodIn wsL_law wsX5_best := goodIn_r _ [643, 27, 139, 644, 645, 646, 26, 647, 648, 376, 377, 378, 78, 649, 76, 74, 75, 650, 651, 470, 471, 652, 653, 654, 655, 656, 657, 81, 658, 659, 660, 661, 662, 663, 664, 665, 666, 73, 667, 668, 669, 670, 671, 672, 673, 144, 145, 146, 2, 147, 34, 769, 770, 771, 772, 773, 774, 775, 776, 777, 778, 839, 840, 841, 842, 843, 844] (by decide +kernel) (by decide +kernel)
set_option maxRecDepth 20000 in
theorem gL_law_X5_best : GoodIn wsL_law (wsV RL 108 RX5 yX5_best wsX5_best) := goodIn_app (goodIn_of _ (by decide +kernel)) ggL_law_X5_best
set_option maxRecDepth 20000 in
theorem ggL_law_X6_best : GoodIn wsL_law wsX6_best := goodIn_r _ [677, 133, 134, 678, 679, 680, 5, 681, 152, 117, 682, 683, 684, 685, 115, 116, 686, 687, 688, 689, 118, 119, 114, 113, 577, 519, 377, 520, 779, 780, 781, 782, 783, 784, 785, 786, 787, 788, 789, 790, 791, 792, 793, 794, 795, 796, 797, 798, 799, 800, 801, 802, 803, 804, 805, 806, 807, 808, 809, 810, 811, 812, 813, 814, 815, 816, 817, 818, 819] (by decide +kernel) (by decide +kernel)
set_option maxRecDepth 20000 in
theorem gL_law_X6_best : GoodIn wsL_law (wsV RL 111 RX6 yX6_best wsX6_best) := goodIn_app (goodIn_of _ (by decide +kernel)) ggL_law_X6_best
set_option maxRecDepth 20000 in
theorem ggL_law_X5_hour : GoodIn wsL_law wsX5_hour := goodIn_r _ [693, 27, 139, 171, 172, 173, 2, 174, 140, 141, 142, 143, 34, 644, 645, 646, 26, 647, 648, 376, 377, 378, 78, 649, 76, 74, 75, 650, 651, 470, 471, 652, 653, 654, 655, 656, 657, 81, 658, 659, 660, 661, 662, 663, 664, 665, 666, 73, 667, 668, 669, 694, 695, 696, 697, 698, 699, 700, 701, 702, 144, 145, 146, 147, 769, 770, 771, 772, 773, 774, 775, 776, 777, 778, 839, 840, 841, 842, 843, 844] (by decide +kernel) (by decide +kernel)
set_option maxRecDepth 20000 in
theorem gL_law_X5_hour : GoodIn wsL_law (wsV RL 112 RX5 yX5_hour wsX5_hour) := goodIn_app (goodIn_of _ (by decide +kernel)) ggL_law_X5_hour
set_option maxRecDepth 20000 in
theorem ggL_law_X6_hour : GoodIn wsL_law wsX6_hour := goodIn_r _ [706, 133, 134, 117, 116, 114, 216, 217, 218, 5, 219, 152, 153, 154, 155, 156, 678, 679, 680, 681, 682, 683, 684, 685, 115, 686, 687, 688, 689, 118, 119, 113, 577, 519, 377, 520, 779, 780, 781, 782, 783, 784, 785, 786, 787, 788, 789, 790, 791, 792, 793, 794, 795, 796, 797, 798, 799, 800, 801, 802, 803, 804, 805, 806, 807, 808, 809, 810, 811, 812, 813, 814, 815, 816, 817, 818, 819] (by decide +kernel) (by decide +kernel)
set_option maxRecDepth 20000 in
theorem gL_law_X6_hour : GoodIn wsL_law (wsV RL 115 RX6 yX6_hour wsX6_hour) := goodIn_app (goodIn_of _ (by decide +kernel)) ggL_law_X6_hour
set_option maxRecDepth 20000 in
theorem ggL_law_X5_law : GoodIn wsL_law wsX5_law := goodIn_r _ [710, 237, 711, 31, 34, 182, 183, 2, 184, 189, 190, 191, 712, 713, 714, 30, 715, 716, 717, 718, 719, 720, 86, 87, 721, 769, 770, 771, 772, 773, 774, 775, 776, 777, 778, 845, 846, 847, 848, 849, 850, 851] (by decide +kernel) (by decide +kernel)
set_option maxRecDepth 20000 in
theorem gL_law_X5_law : GoodIn wsL_law (wsV RL 116 RX5 yX5_law wsX5_law) := goodIn_app (goodIn_of _ (by decide +kernel)) ggL_law_X5_law
set_option maxRecDepth 20000 in
theorem ggL_law_X6_law : GoodIn wsL_law wsX6_law := goodIn_r _ [725, 133, 134, 247, 726, 727, 120, 121, 307, 308, 309, 5, 310, 779, 780, 781, 782, 783, 784, 785, 786, 787, 788, 789, 790, 791, 792, 793, 794, 795, 796, 797, 798, 799, 800, 801, 802, 803, 804, 805, 806, 807, 808, 809, 810, 811, 812, 813, 814, 815, 816, 817, 818, 819] (by decide +kernel) (by decide +kernel)
set_option maxRecDepth 20000 in
theorem gL_law_X6_law : GoodIn wsL_law (wsV RL 119 RX6 yX6_law wsX6_law) := goodIn_app (goodIn_of _ (by decide +kernel)) ggL_law_X6_law
set_option maxRecDepth 20000 in
theorem ggL_law_X5_death : GoodIn wsL_law wsX5_death := goodIn_r _ [731, 237, 31, 34, 171, 172, 173, 2, 174, 139, 182, 183, 184, 179, 180, 181, 189, 190, 191, 732, 733, 734, 30, 735, 736, 737, 738, 739, 740, 88, 89, 90, 741, 769, 770, 771, 772, 773, 774, 775, 776, 777, 778, 845, 846, 847, 848, 849, 850, 851] (by decide +kernel) (by decide +kernel)
set_option maxRecDepth 20000 in
theorem gL_law_X5_death : GoodIn wsL_law (wsV RL 120 RX5 yX5_death wsX5_death) := goodIn_app (goodIn_of _ (by decide +kernel)) ggL_law_X5_death
set_option maxRecDepth 20000 in
theorem ggL_law_X6_death : GoodIn wsL_law wsX6_death := goodIn_r _ [745, 133, 134, 247, 746, 122, 123, 124, 216, 217, 218, 5, 219, 152, 307, 308, 309, 310, 224, 225, 226, 779, 780, 781, 782, 783, 784, 785, 786, 787, 788, 789, 790, 791, 792, 793, 794, 795, 796, 797, 798, 799, 800, 801, 802, 803, 804, 805, 806, 807, 808, 809, 810, 811, 812, 813, 814, 815, 816, 817, 818, 819] (by decide +kernel) (by decide +kernel)
set_option maxRecDepth 20000 in
theorem gL_law_X6_death : GoodIn wsL_law (wsV RL 123 RX6 yX6_death wsX6_death) := goodIn_app (goodIn_of _ (by decide +kernel)) ggL_law_X6_death
set_option maxRecDepth 20000 in
theorem ggL_law_X5_free : GoodIn wsL_law wsX5_free := goodIn_r _ [750, 751, 31, 171, 172, 173, 2, 174, 139, 182, 183, 184, 179, 180, 181, 189, 190, 191, 140, 141, 142, 143, 34, 752, 753, 754, 30, 755, 89, 87, 756, 757, 758, 759, 716, 86, 760, 761, 762, 763, 736, 88, 90, 144, 145, 146, 147, 769, 770, 771, 772, 773, 774, 775, 776, 777, 778, 845, 846, 847, 848, 849, 850, 851] (by decide +kernel) (by decide +kernel)
set_option maxRecDepth 20000 in
theorem gL_law_X5_free : GoodIn wsL_law (wsV RL 124 RX5 yX5_free wsX5_free) := goodIn_app (goodIn_of _ (by decide +kernel)) ggL_law_X5_free
set_option maxRecDepth 20000 in
theorem ggL_law_X6_free : GoodIn wsL_law wsX6_free := goodIn_r _ [767, 133, 134, 768, 727, 120, 746, 122, 124, 123, 121, 216, 217, 218, 5, 219, 152, 153, 154, 155, 156, 224, 225, 226, 779, 780, 781, 782, 783, 784, 785, 786, 787, 788, 789, 790, 791, 792, 793, 794, 795, 796, 797, 798, 799, 800, 801, 802, 803, 804, 805, 806, 807, 808, 809, 810, 811, 812, 813, 814, 815, 816, 817, 818, 819] (by decide +kernel) (by decide +kernel)
set_option maxRecDepth 20000 in
theorem gL_law_X6_free : GoodIn wsL_law (wsV RL 127 RX6 yX6_free wsX6_free) := goodIn_app (goodIn_of _ (by decide +kernel)) ggL_law_X6_free
theorem dL_law_0 : decode cL_law 0 = .ok (.new 7, 3) := by decide +kernel
theorem dL_law_3 : decode cL_law 3 = .ok (.dup, 1) := by decide +kernel
theorem dL_law_4 : decode cL_law 4 = .ok (.invokespecial 9, 3) := by decide +kernel
theorem dL_law_7 : decode cL_law 7 = .ok (.astore_n 1, 1) := by decide +kernel
