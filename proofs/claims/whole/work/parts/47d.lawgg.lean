set_option maxRecDepth 20000 in
theorem ggL_law_X12_rests : GoodIn wsL_law wsX12_rests := goodIn_r _ [719, 271, 272, 273, 5, 274, 191, 94, 95, 96, 720, 721, 722, 723, 724, 725, 726, 727, 728, 729, 730, 731, 71, 193, 69, 68, 499, 500, 501, 502, 275, 276, 277, 278, 66, 279, 280, 281, 282, 192, 67, 353, 354, 355, 356, 70, 357, 358, 359, 346, 347, 348, 836, 837, 838, 839, 840, 841, 842, 843, 844, 845, 846, 847, 848, 849, 850, 851, 852, 853, 854, 855, 856, 857, 858, 859, 860, 861, 862, 863, 864, 865] (by decide +kernel) (by decide +kernel)
set_option maxRecDepth 20000 in
theorem gL_law_X12_rests : GoodIn wsL_law (wsV RL 105 RX12 yX12_rests wsX12_rests) := goodIn_app (goodIn_of _ (by decide +kernel)) ggL_law_X12_rests
set_option maxRecDepth 20000 in
theorem ggL_law_X11_gust : GoodIn wsL_law wsX11_gust := goodIn_r _ [735, 18, 21, 310, 311, 312, 17, 313, 115, 736, 737, 738, 739, 228, 178, 229, 740, 741, 742, 743, 205, 206, 207, 208, 209, 210, 211, 114, 42, 212, 213, 214, 215, 216, 217, 218, 201, 202, 203, 41, 744, 322, 323, 324, 325, 326, 327, 328, 259, 260, 261, 262, 45, 142, 143, 144, 145, 113, 234, 235, 236, 237, 44, 242, 243, 244, 245, 43, 329, 319, 320, 330, 331, 332, 745, 177, 179, 180, 181, 746, 381, 382, 383, 747, 675, 676, 667, 677, 678, 679, 680, 681, 682, 683, 684, 685, 686, 687, 825, 826, 827, 828, 829, 830, 831, 832, 833, 834, 835, 866, 867, 868, 869, 870, 871, 872, 873, 874, 875, 876] (by decide +kernel) (by decide +kernel)
set_option maxRecDepth 20000 in
theorem gL_law_X11_gust : GoodIn wsL_law (wsV RL 106 RX11 yX11_gust wsX11_gust) := goodIn_app (goodIn_of _ (by decide +kernel)) ggL_law_X11_gust
set_option maxRecDepth 20000 in
theorem ggL_law_X12_gust : GoodIn wsL_law wsX12_gust := goodIn_r _ [751, 628, 752, 71, 338, 339, 340, 5, 341, 193, 94, 95, 96, 499, 500, 501, 502, 303, 304, 305, 342, 343, 344, 345, 191, 406, 407, 408, 409, 76, 349, 350, 351, 352, 69, 66, 275, 276, 277, 278, 279, 280, 281, 282, 192, 67, 353, 354, 355, 356, 70, 68, 357, 358, 359, 346, 347, 348, 699, 700, 701, 836, 837, 838, 839, 840, 841, 842, 843, 844, 845, 846, 847, 848, 849, 850, 851, 852, 853, 854, 855, 856, 857, 858, 859, 860, 861, 862, 863, 864, 865] (by decide +kernel) (by decide +kernel)
set_option maxRecDepth 20000 in
theorem gL_law_X12_gust : GoodIn wsL_law (wsV RL 110 RX12 yX12_gust wsX12_gust) := goodIn_app (goodIn_of _ (by decide +kernel)) ggL_law_X12_gust
set_option maxRecDepth 20000 in
theorem ggL_law_X11_seed : GoodIn wsL_law wsX11_seed := goodIn_r _ [756, 757, 825, 826, 827, 828, 829, 830, 831, 832, 833, 834, 835] (by decide +kernel) (by decide +kernel)
set_option maxRecDepth 20000 in
theorem gL_law_X11_seed : GoodIn wsL_law (wsV RL 113 RX11 yX11_seed wsX11_seed) := goodIn_app (goodIn_of _ (by decide +kernel)) ggL_law_X11_seed
set_option maxRecDepth 20000 in
theorem ggL_law_X12_seed : GoodIn wsL_law wsX12_seed := goodIn_r _ [761, 762, 836, 837, 838, 839, 840, 841, 842, 843, 844, 845, 846, 847, 848, 849, 850, 851, 852, 853, 854, 855, 856, 857, 858, 859, 860, 861, 862, 863, 864, 865] (by decide +kernel) (by decide +kernel)
set_option maxRecDepth 20000 in
theorem gL_law_X12_seed : GoodIn wsL_law (wsV RL 117 RX12 yX12_seed wsX12_seed) := goodIn_app (goodIn_of _ (by decide +kernel)) ggL_law_X12_seed
set_option maxRecDepth 20000 in
theorem ggL_law_X11_years : GoodIn wsL_law wsX11_years := goodIn_r _ [766, 21, 757, 18, 767, 768, 737, 769, 770, 771, 772, 773, 774, 746, 381, 178, 382, 383, 775, 143, 144, 17, 145, 113, 776, 377, 378, 379, 115, 368, 205, 206, 207, 208, 209, 210, 211, 114, 42, 212, 213, 214, 215, 216, 217, 218, 201, 202, 203, 41, 380, 227, 228, 229, 384, 322, 323, 324, 325, 326, 327, 328, 259, 260, 261, 262, 45, 142, 234, 235, 236, 237, 44, 242, 243, 244, 245, 43, 329, 319, 320, 330, 331, 332, 176, 177, 179, 180, 181, 777, 447, 448, 449, 778, 779, 780, 781, 223, 224, 225, 226, 238, 239, 240, 241, 825, 826, 827, 828, 829, 830, 831, 832, 833, 834, 835, 866, 867, 868, 869, 870, 871, 872, 873, 874, 875, 876] (by decide +kernel) (by decide +kernel)
set_option maxRecDepth 20000 in
theorem gL_law_X11_years : GoodIn wsL_law (wsV RL 118 RX11 yX11_years wsX11_years) := goodIn_app (goodIn_of _ (by decide +kernel)) ggL_law_X11_years
set_option maxRecDepth 20000 in
theorem ggL_law_X12_years : GoodIn wsL_law wsX12_years := goodIn_r _ [785, 786, 762, 787, 788, 789, 71, 94, 95, 5, 96, 499, 500, 501, 502, 271, 272, 273, 274, 191, 406, 407, 408, 409, 193, 76, 349, 350, 351, 352, 69, 66, 275, 276, 277, 278, 279, 280, 281, 282, 192, 67, 353, 354, 355, 356, 70, 68, 357, 358, 359, 346, 347, 348, 287, 288, 289, 290, 299, 300, 301, 302, 303, 304, 305, 836, 837, 838, 839, 840, 841, 842, 843, 844, 845, 846, 847, 848, 849, 850, 851, 852, 853, 854, 855, 856, 857, 858, 859, 860, 861, 862, 863, 864, 865] (by decide +kernel) (by decide +kernel)
set_option maxRecDepth 20000 in
theorem gL_law_X12_years : GoodIn wsL_law (wsV RL 121 RX12 yX12_years wsX12_years) := goodIn_app (goodIn_of _ (by decide +kernel)) ggL_law_X12_years
set_option maxRecDepth 20000 in
theorem ggL_law_X11_keep : GoodIn wsL_law wsX11_keep := goodIn_r _ [793, 27, 29, 21, 794, 213, 178, 214, 825, 826, 827, 828, 829, 830, 831, 832, 833, 834, 835] (by decide +kernel) (by decide +kernel)
set_option maxRecDepth 20000 in
theorem gL_law_X11_keep : GoodIn wsL_law (wsV RL 122 RX11 yX11_keep wsX11_keep) := goodIn_app (goodIn_of _ (by decide +kernel)) ggL_law_X11_keep
set_option maxRecDepth 20000 in
theorem ggL_law_X12_keep : GoodIn wsL_law wsX12_keep := goodIn_r _ [798, 81, 82, 71, 94, 95, 5, 96, 836, 837, 838, 839, 840, 841, 842, 843, 844, 845, 846, 847, 848, 849, 850, 851, 852, 853, 854, 855, 856, 857, 858, 859, 860, 861, 862, 863, 864, 865] (by decide +kernel) (by decide +kernel)
set_option maxRecDepth 20000 in
theorem gL_law_X12_keep : GoodIn wsL_law (wsV RL 125 RX12 yX12_keep wsX12_keep) := goodIn_app (goodIn_of _ (by decide +kernel)) ggL_law_X12_keep
set_option maxRecDepth 20000 in
theorem ggL_law_X11_again : GoodIn wsL_law wsX11_again := goodIn_r _ [802, 27, 29, 21, 25, 182, 183, 184, 24, 185, 186, 794, 213, 178, 214, 825, 826, 827, 828, 829, 830, 831, 832, 833, 834, 835, 877, 878] (by decide +kernel) (by decide +kernel)
set_option maxRecDepth 20000 in
theorem gL_law_X11_again : GoodIn wsL_law (wsV RL 126 RX11 yX11_again wsX11_again) := goodIn_app (goodIn_of _ (by decide +kernel)) ggL_law_X11_again
set_option maxRecDepth 20000 in
theorem ggL_law_X12_again : GoodIn wsL_law wsX12_again := goodIn_r _ [806, 81, 71, 82, 194, 94, 95, 5, 96, 836, 837, 838, 839, 840, 841, 842, 843, 844, 845, 846, 847, 848, 849, 850, 851, 852, 853, 854, 855, 856, 857, 858, 859, 860, 861, 862, 863, 864, 865] (by decide +kernel) (by decide +kernel)
set_option maxRecDepth 20000 in
theorem gL_law_X12_again : GoodIn wsL_law (wsV RL 129 RX12 yX12_again wsX12_again) := goodIn_app (goodIn_of _ (by decide +kernel)) ggL_law_X12_again
set_option maxRecDepth 20000 in
theorem ggL_law_X11_count : GoodIn wsL_law wsX11_count := goodIn_r _ [810, 87, 18, 21, 25, 33, 794, 213, 178, 214, 415, 209, 210, 17, 211, 114, 42, 212, 445, 216, 217, 811, 252, 253, 254, 115, 255, 256, 257, 258, 227, 228, 229, 259, 260, 261, 262, 45, 246, 224, 225, 226, 812, 813, 814, 815, 113, 816, 248, 249, 250, 223, 251, 825, 826, 827, 828, 829, 830, 831, 832, 833, 834, 835, 866, 867, 868, 869, 870, 871, 872, 873, 874, 875, 876, 877, 878, 879, 880, 881, 882] (by decide +kernel) (by decide +kernel)
set_option maxRecDepth 20000 in
theorem gL_law_X11_count : GoodIn wsL_law (wsV RL 130 RX11 yX11_count wsX11_count) := goodIn_app (goodIn_of _ (by decide +kernel)) ggL_law_X11_count
set_option maxRecDepth 20000 in
theorem ggL_law_X12_count : GoodIn wsL_law wsX12_count := goodIn_r _ [820, 93, 191, 192, 193, 71, 194, 629, 279, 280, 281, 5, 282, 67, 295, 296, 297, 298, 70, 287, 288, 289, 290, 821, 822, 823, 824, 291, 292, 293, 294, 836, 837, 838, 839, 840, 841, 842, 843, 844, 845, 846, 847, 848, 849, 850, 851, 852, 853, 854, 855, 856, 857, 858, 859, 860, 861, 862, 863, 864, 865] (by decide +kernel) (by decide +kernel)
set_option maxRecDepth 20000 in
theorem gL_law_X12_count : GoodIn wsL_law (wsV RL 133 RX12 yX12_count wsX12_count) := goodIn_app (goodIn_of _ (by decide +kernel)) ggL_law_X12_count
