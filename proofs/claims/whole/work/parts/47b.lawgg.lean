set_option maxRecDepth 20000 in
theorem ggL_law_X12_toss : GoodIn wsL_law wsX12_toss := goodIn_r _ [400, 271, 272, 273, 5, 274, 191, 94, 95, 96, 401, 402, 403, 404, 77, 405, 71, 194, 406, 407, 408, 409, 193, 76, 349, 350, 351, 352, 69, 66, 275, 276, 277, 278, 279, 280, 281, 282, 192, 67, 353, 354, 355, 356, 70, 68, 357, 358, 359, 346, 347, 348, 836, 837, 838, 839, 840, 841, 842, 843, 844, 845, 846, 847, 848, 849, 850, 851, 852, 853, 854, 855, 856, 857, 858, 859, 860, 861, 862, 863, 864, 865] (by decide +kernel) (by decide +kernel)
set_option maxRecDepth 20000 in
theorem gL_law_X12_toss : GoodIn wsL_law (wsV RL 43 RX12 yX12_toss wsX12_toss) := goodIn_app (goodIn_of _ (by decide +kernel)) ggL_law_X12_toss
set_option maxRecDepth 20000 in
theorem ggL_law_X11_calm : GoodIn wsL_law wsX11_calm := goodIn_r _ [413, 21, 18, 414, 381, 178, 382, 383, 385, 386, 387, 2, 388, 25, 389, 390, 391, 24, 392, 186, 50, 393, 394, 395, 396, 415, 209, 210, 17, 211, 114, 42, 212, 213, 214, 825, 826, 827, 828, 829, 830, 831, 832, 833, 834, 835, 877, 878, 866, 867, 868, 869, 870, 871, 872, 873, 874, 875, 876] (by decide +kernel) (by decide +kernel)
set_option maxRecDepth 20000 in
theorem gL_law_X11_calm : GoodIn wsL_law (wsV RL 44 RX11 yX11_calm wsX11_calm) := goodIn_app (goodIn_of _ (by decide +kernel)) ggL_law_X11_calm
set_option maxRecDepth 20000 in
theorem ggL_law_X12_calm : GoodIn wsL_law wsX12_calm := goodIn_r _ [419, 71, 401, 402, 403, 5, 404, 77, 405, 194, 279, 280, 281, 282, 192, 67, 836, 837, 838, 839, 840, 841, 842, 843, 844, 845, 846, 847, 848, 849, 850, 851, 852, 853, 854, 855, 856, 857, 858, 859, 860, 861, 862, 863, 864, 865] (by decide +kernel) (by decide +kernel)
set_option maxRecDepth 20000 in
theorem gL_law_X12_calm : GoodIn wsL_law (wsV RL 47 RX12 yX12_calm wsX12_calm) := goodIn_app (goodIn_of _ (by decide +kernel)) ggL_law_X12_calm
set_option maxRecDepth 20000 in
theorem ggL_law_X11_pick : GoodIn wsL_law wsX11_pick := goodIn_r _ [423, 18, 21, 310, 311, 312, 17, 313, 115, 424, 425, 426, 427, 428, 234, 235, 236, 237, 44, 255, 256, 257, 258, 227, 228, 178, 229, 259, 260, 261, 262, 45, 314, 429, 430, 431, 432, 176, 177, 179, 180, 181, 385, 386, 387, 2, 388, 25, 389, 390, 391, 24, 392, 186, 50, 393, 394, 395, 396, 825, 826, 827, 828, 829, 830, 831, 832, 833, 834, 835, 866, 867, 868, 869, 870, 871, 872, 873, 874, 875, 876, 877, 878] (by decide +kernel) (by decide +kernel)
set_option maxRecDepth 20000 in
theorem gL_law_X11_pick : GoodIn wsL_law (wsV RL 48 RX11 yX11_pick wsX11_pick) := goodIn_app (goodIn_of _ (by decide +kernel)) ggL_law_X11_pick
set_option maxRecDepth 20000 in
theorem ggL_law_X12_pick : GoodIn wsL_law wsX12_pick := goodIn_r _ [436, 71, 70, 338, 339, 340, 5, 341, 193, 94, 95, 96, 437, 438, 439, 440, 69, 401, 402, 403, 404, 77, 405, 194, 836, 837, 838, 839, 840, 841, 842, 843, 844, 845, 846, 847, 848, 849, 850, 851, 852, 853, 854, 855, 856, 857, 858, 859, 860, 861, 862, 863, 864, 865] (by decide +kernel) (by decide +kernel)
set_option maxRecDepth 20000 in
theorem gL_law_X12_pick : GoodIn wsL_law (wsV RL 51 RX12 yX12_pick wsX12_pick) := goodIn_app (goodIn_of _ (by decide +kernel)) ggL_law_X12_pick
set_option maxRecDepth 20000 in
theorem ggL_law_X11_fan : GoodIn wsL_law wsX11_fan := goodIn_r _ [444, 18, 21, 199, 143, 144, 17, 145, 113, 445, 216, 178, 217, 446, 447, 448, 449, 385, 386, 387, 2, 388, 25, 389, 390, 391, 24, 392, 186, 50, 393, 394, 395, 396, 825, 826, 827, 828, 829, 830, 831, 832, 833, 834, 835, 866, 867, 868, 869, 870, 871, 872, 873, 874, 875, 876, 877, 878] (by decide +kernel) (by decide +kernel)
set_option maxRecDepth 20000 in
theorem gL_law_X11_fan : GoodIn wsL_law (wsV RL 52 RX11 yX11_fan wsX11_fan) := goodIn_app (goodIn_of _ (by decide +kernel)) ggL_law_X11_fan
set_option maxRecDepth 20000 in
theorem ggL_law_X12_fan : GoodIn wsL_law wsX12_fan := goodIn_r _ [453, 71, 271, 272, 273, 5, 274, 191, 94, 95, 96, 401, 402, 403, 404, 77, 405, 194, 836, 837, 838, 839, 840, 841, 842, 843, 844, 845, 846, 847, 848, 849, 850, 851, 852, 853, 854, 855, 856, 857, 858, 859, 860, 861, 862, 863, 864, 865] (by decide +kernel) (by decide +kernel)
set_option maxRecDepth 20000 in
theorem gL_law_X12_fan : GoodIn wsL_law (wsV RL 55 RX12 yX12_fan wsX12_fan) := goodIn_app (goodIn_of _ (by decide +kernel)) ggL_law_X12_fan
set_option maxRecDepth 20000 in
theorem ggL_law_X11_undo : GoodIn wsL_law wsX11_undo := goodIn_r _ [457, 25, 21, 458, 459, 460, 24, 461, 186, 50, 825, 826, 827, 828, 829, 830, 831, 832, 833, 834, 835, 877, 878] (by decide +kernel) (by decide +kernel)
set_option maxRecDepth 20000 in
theorem gL_law_X11_undo : GoodIn wsL_law (wsV RL 56 RX11 yX11_undo wsX11_undo) := goodIn_app (goodIn_of _ (by decide +kernel)) ggL_law_X11_undo
set_option maxRecDepth 20000 in
theorem ggL_law_X12_undo : GoodIn wsL_law wsX12_undo := goodIn_r _ [465, 194, 405, 71, 77, 836, 837, 838, 839, 840, 841, 842, 843, 844, 845, 846, 847, 848, 849, 850, 851, 852, 853, 854, 855, 856, 857, 858, 859, 860, 861, 862, 863, 864, 865] (by decide +kernel) (by decide +kernel)
set_option maxRecDepth 20000 in
theorem gL_law_X12_undo : GoodIn wsL_law (wsV RL 59 RX12 yX12_undo wsX12_undo) := goodIn_app (goodIn_of _ (by decide +kernel)) ggL_law_X12_undo
set_option maxRecDepth 20000 in
theorem ggL_law_X11_best : GoodIn wsL_law wsX11_best := goodIn_r _ [469, 18, 21, 470, 471, 472, 473, 474, 475, 252, 253, 17, 254, 115, 255, 256, 257, 258, 227, 228, 178, 229, 259, 260, 261, 262, 45, 476, 370, 371, 372, 373, 374, 375, 477, 478, 479, 480, 142, 143, 144, 145, 113, 481, 482, 483, 484, 380, 381, 382, 383, 485, 377, 378, 379, 368, 205, 206, 207, 208, 209, 210, 211, 114, 42, 212, 213, 214, 215, 216, 217, 218, 201, 202, 203, 41, 384, 322, 323, 324, 325, 326, 327, 328, 234, 235, 236, 237, 44, 242, 243, 244, 245, 43, 329, 319, 320, 330, 331, 332, 176, 177, 179, 180, 181, 486, 825, 826, 827, 828, 829, 830, 831, 832, 833, 834, 835, 866, 867, 868, 869, 870, 871, 872, 873, 874, 875, 876] (by decide +kernel) (by decide +kernel)
set_option maxRecDepth 20000 in
theorem gL_law_X11_best : GoodIn wsL_law (wsV RL 60 RX11 yX11_best wsX11_best) := goodIn_app (goodIn_of _ (by decide +kernel)) ggL_law_X11_best
set_option maxRecDepth 20000 in
theorem ggL_law_X12_best : GoodIn wsL_law wsX12_best := goodIn_r _ [490, 491, 94, 95, 5, 96, 492, 493, 494, 495, 496, 497, 498, 499, 500, 501, 502, 71, 503, 504, 505, 506, 271, 272, 273, 274, 191, 406, 407, 408, 409, 193, 76, 349, 350, 351, 352, 69, 66, 275, 276, 277, 278, 279, 280, 281, 282, 192, 67, 353, 354, 355, 356, 70, 68, 357, 358, 359, 346, 347, 348, 295, 296, 297, 298, 507, 508, 509, 836, 837, 838, 839, 840, 841, 842, 843, 844, 845, 846, 847, 848, 849, 850, 851, 852, 853, 854, 855, 856, 857, 858, 859, 860, 861, 862, 863, 864, 865] (by decide +kernel) (by decide +kernel)
set_option maxRecDepth 20000 in
theorem gL_law_X12_best : GoodIn wsL_law (wsV RL 64 RX12 yX12_best wsX12_best) := goodIn_app (goodIn_of _ (by decide +kernel)) ggL_law_X12_best
set_option maxRecDepth 20000 in
theorem ggL_law_X11_fewest : GoodIn wsL_law wsX11_fewest := goodIn_r _ [513, 18, 21, 199, 143, 144, 17, 145, 113, 514, 472, 515, 516, 248, 249, 250, 223, 224, 225, 226, 115, 227, 228, 178, 229, 251, 252, 253, 254, 255, 256, 257, 258, 259, 260, 261, 262, 45, 477, 478, 479, 480, 142, 481, 482, 483, 484, 380, 381, 382, 383, 485, 377, 378, 379, 368, 205, 206, 207, 208, 209, 210, 211, 114, 42, 212, 213, 214, 215, 216, 217, 218, 201, 202, 203, 41, 384, 322, 323, 324, 325, 326, 327, 328, 234, 235, 236, 237, 44, 242, 243, 244, 245, 43, 329, 319, 320, 330, 331, 332, 176, 177, 179, 180, 181, 517, 825, 826, 827, 828, 829, 830, 831, 832, 833, 834, 835, 866, 867, 868, 869, 870, 871, 872, 873, 874, 875, 876] (by decide +kernel) (by decide +kernel)
set_option maxRecDepth 20000 in
theorem gL_law_X11_fewest : GoodIn wsL_law (wsV RL 65 RX11 yX11_fewest wsX11_fewest) := goodIn_app (goodIn_of _ (by decide +kernel)) ggL_law_X11_fewest
set_option maxRecDepth 20000 in
theorem ggL_law_X12_fewest : GoodIn wsL_law wsX12_fewest := goodIn_r _ [521, 271, 272, 273, 5, 274, 191, 94, 95, 96, 492, 493, 494, 495, 496, 497, 498, 499, 500, 501, 502, 71, 503, 504, 505, 506, 406, 407, 408, 409, 193, 76, 349, 350, 351, 352, 69, 66, 275, 276, 277, 278, 279, 280, 281, 282, 192, 67, 353, 354, 355, 356, 70, 68, 357, 358, 359, 346, 347, 348, 291, 292, 293, 294, 287, 288, 289, 290, 295, 296, 297, 298, 836, 837, 838, 839, 840, 841, 842, 843, 844, 845, 846, 847, 848, 849, 850, 851, 852, 853, 854, 855, 856, 857, 858, 859, 860, 861, 862, 863, 864, 865] (by decide +kernel) (by decide +kernel)
set_option maxRecDepth 20000 in
theorem gL_law_X12_fewest : GoodIn wsL_law (wsV RL 68 RX12 yX12_fewest wsX12_fewest) := goodIn_app (goodIn_of _ (by decide +kernel)) ggL_law_X12_fewest
set_option maxRecDepth 20000 in
theorem ggL_law_X11_when : GoodIn wsL_law wsX11_when := goodIn_r _ [525, 18, 21, 310, 311, 312, 17, 313, 115, 314, 228, 178, 229, 204, 205, 206, 207, 208, 209, 210, 211, 114, 42, 212, 213, 214, 215, 216, 217, 218, 201, 202, 203, 41, 526, 326, 327, 328, 259, 260, 261, 262, 45, 142, 143, 144, 145, 113, 234, 235, 236, 237, 44, 242, 243, 244, 245, 43, 329, 319, 320, 330, 331, 332, 414, 381, 382, 383, 825, 826, 827, 828, 829, 830, 831, 832, 833, 834, 835, 866, 867, 868, 869, 870, 871, 872, 873, 874, 875, 876] (by decide +kernel) (by decide +kernel)
set_option maxRecDepth 20000 in
theorem gL_law_X11_when : GoodIn wsL_law (wsV RL 69 RX11 yX11_when wsX11_when) := goodIn_app (goodIn_of _ (by decide +kernel)) ggL_law_X11_when
set_option maxRecDepth 20000 in
theorem ggL_law_X12_when : GoodIn wsL_law wsX12_when := goodIn_r _ [530, 71, 338, 339, 340, 5, 341, 193, 94, 95, 96, 499, 500, 501, 502, 342, 343, 344, 345, 191, 275, 276, 277, 278, 66, 279, 280, 281, 282, 192, 67, 353, 354, 355, 356, 70, 69, 68, 357, 358, 359, 346, 347, 348, 836, 837, 838, 839, 840, 841, 842, 843, 844, 845, 846, 847, 848, 849, 850, 851, 852, 853, 854, 855, 856, 857, 858, 859, 860, 861, 862, 863, 864, 865] (by decide +kernel) (by decide +kernel)
set_option maxRecDepth 20000 in
theorem gL_law_X12_when : GoodIn wsL_law (wsV RL 72 RX12 yX12_when wsX12_when) := goodIn_app (goodIn_of _ (by decide +kernel)) ggL_law_X12_when
