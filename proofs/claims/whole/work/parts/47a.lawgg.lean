set_option maxRecDepth 20000 in
theorem ggL_law_X11_init : GoodIn wsL_law wsX11_init := goodIn_r _ [9, 10, 11, 12, 13, 14, 15, 16, 17, 18, 19, 20, 21, 22, 23, 24, 25, 26, 27, 28, 29, 30, 31, 32, 33, 34, 35, 36, 37, 38, 39, 40, 41, 42, 43, 44, 45, 46, 47, 48, 49, 50, 51, 52, 53, 54, 55, 56, 57, 58, 59, 60, 61, 825, 826, 827, 828, 829, 830, 831, 832, 833, 834, 835, 866, 867, 868, 869, 870, 871, 872, 873, 874, 875, 876, 877, 878, 879, 880, 881, 882, 883, 884] (by decide +kernel) (by decide +kernel)
set_option maxRecDepth 20000 in
theorem gL_law_X11_init : GoodIn wsL_law (wsX11_init) := ggL_law_X11_init
set_option maxRecDepth 20000 in
theorem ggL_law_X12_init : GoodIn wsL_law wsX12_init := goodIn_r _ [64, 65, 11, 12, 13, 66, 67, 68, 69, 70, 71, 72, 73, 74, 75, 76, 77, 78, 79, 80, 28, 81, 82, 836, 837, 838, 839, 840, 841, 842, 843, 844, 845, 846, 847, 848, 849, 850, 851, 852, 853, 854, 855, 856, 857, 858, 859, 860, 861, 862, 863, 864, 865] (by decide +kernel) (by decide +kernel)
set_option maxRecDepth 20000 in
theorem gL_law_X12_init : GoodIn wsL_law (wsX12_init) := ggL_law_X12_init
set_option maxRecDepth 20000 in
theorem ggL_law_X11_write : GoodIn wsL_law wsX11_write := goodIn_r _ [86, 87, 14, 825, 826, 827, 828, 829, 830, 831, 832, 833, 834, 835] (by decide +kernel) (by decide +kernel)
set_option maxRecDepth 20000 in
theorem gL_law_X11_write : GoodIn wsL_law (wsV RL 13 RX11 yX11_write wsX11_write) := goodIn_app (goodIn_of _ (by decide +kernel)) ggL_law_X11_write
set_option maxRecDepth 20000 in
theorem ggL_law_X12_write : GoodIn wsL_law wsX12_write := goodIn_r _ [91, 92, 93, 75, 94, 95, 5, 96, 836, 837, 838, 839, 840, 841, 842, 843, 844, 845, 846, 847, 848, 849, 850, 851, 852, 853, 854, 855, 856, 857, 858, 859, 860, 861, 862, 863, 864, 865] (by decide +kernel) (by decide +kernel)
set_option maxRecDepth 20000 in
theorem gL_law_X12_write : GoodIn wsL_law (wsV RL 17 RX12 yX12_write wsX12_write) := goodIn_app (goodIn_of _ (by decide +kernel)) ggL_law_X12_write
set_option maxRecDepth 20000 in
theorem ggL_law_X11_wipe : GoodIn wsL_law wsX11_wipe := goodIn_r _ [100, 87, 825, 826, 827, 828, 829, 830, 831, 832, 833, 834, 835] (by decide +kernel) (by decide +kernel)
set_option maxRecDepth 20000 in
theorem gL_law_X11_wipe : GoodIn wsL_law (wsV RL 18 RX11 yX11_wipe wsX11_wipe) := goodIn_app (goodIn_of _ (by decide +kernel)) ggL_law_X11_wipe
set_option maxRecDepth 20000 in
theorem ggL_law_X12_wipe : GoodIn wsL_law wsX12_wipe := goodIn_r _ [104, 93, 836, 837, 838, 839, 840, 841, 842, 843, 844, 845, 846, 847, 848, 849, 850, 851, 852, 853, 854, 855, 856, 857, 858, 859, 860, 861, 862, 863, 864, 865] (by decide +kernel) (by decide +kernel)
set_option maxRecDepth 20000 in
theorem gL_law_X12_wipe : GoodIn wsL_law (wsV RL 22 RX12 yX12_wipe wsX12_wipe) := goodIn_app (goodIn_of _ (by decide +kernel)) ggL_law_X12_wipe
set_option maxRecDepth 20000 in
theorem ggL_law_X11_fault : GoodIn wsL_law wsX11_fault := goodIn_r _ [108, 19, 14, 87, 109, 110, 111, 17, 112, 113, 114, 115, 116, 117, 118, 119, 120, 121, 122, 123, 124, 125, 126, 127, 128, 129, 41, 130, 131, 132, 133, 42, 134, 135, 136, 137, 43, 44, 45, 46, 138, 139, 140, 141, 142, 143, 144, 145, 825, 826, 827, 828, 829, 830, 831, 832, 833, 834, 835, 866, 867, 868, 869, 870, 871, 872, 873, 874, 875, 876] (by decide +kernel) (by decide +kernel)
set_option maxRecDepth 20000 in
theorem gL_law_X11_fault : GoodIn wsL_law (wsV RL 23 RX11 yX11_fault wsX11_fault) := goodIn_app (goodIn_of _ (by decide +kernel)) ggL_law_X11_fault
set_option maxRecDepth 20000 in
theorem ggL_law_X12_fault : GoodIn wsL_law wsX12_fault := goodIn_r _ [149, 150, 151, 152, 5, 153, 154, 155, 156, 157, 158, 93, 75, 159, 160, 161, 162, 72, 73, 74, 163, 164, 165, 166, 94, 95, 96, 836, 837, 838, 839, 840, 841, 842, 843, 844, 845, 846, 847, 848, 849, 850, 851, 852, 853, 854, 855, 856, 857, 858, 859, 860, 861, 862, 863, 864, 865] (by decide +kernel) (by decide +kernel)
set_option maxRecDepth 20000 in
theorem gL_law_X12_fault : GoodIn wsL_law (wsV RL 26 RX12 yX12_fault wsX12_fault) := goodIn_app (goodIn_of _ (by decide +kernel)) ggL_law_X12_fault
set_option maxRecDepth 20000 in
theorem ggL_law_X11_floor : GoodIn wsL_law wsX11_floor := goodIn_r _ [170, 19, 14, 87, 18, 21, 25, 29, 109, 110, 111, 17, 112, 113, 114, 115, 116, 117, 118, 119, 120, 121, 122, 123, 124, 125, 126, 127, 128, 129, 41, 130, 131, 132, 133, 42, 134, 135, 136, 137, 43, 44, 45, 46, 138, 139, 140, 141, 142, 143, 144, 145, 171, 172, 173, 174, 175, 176, 177, 178, 179, 180, 181, 182, 183, 184, 24, 185, 186, 825, 826, 827, 828, 829, 830, 831, 832, 833, 834, 835, 866, 867, 868, 869, 870, 871, 872, 873, 874, 875, 876, 877, 878] (by decide +kernel) (by decide +kernel)
set_option maxRecDepth 20000 in
theorem gL_law_X11_floor : GoodIn wsL_law (wsV RL 27 RX11 yX11_floor wsX11_floor) := goodIn_app (goodIn_of _ (by decide +kernel)) ggL_law_X11_floor
set_option maxRecDepth 20000 in
theorem ggL_law_X12_floor : GoodIn wsL_law wsX12_floor := goodIn_r _ [190, 156, 191, 157, 192, 158, 193, 66, 72, 67, 73, 71, 68, 74, 69, 70, 194, 81, 150, 151, 152, 5, 153, 154, 155, 93, 75, 159, 160, 161, 162, 163, 164, 165, 166, 94, 95, 96, 836, 837, 838, 839, 840, 841, 842, 843, 844, 845, 846, 847, 848, 849, 850, 851, 852, 853, 854, 855, 856, 857, 858, 859, 860, 861, 862, 863, 864, 865] (by decide +kernel) (by decide +kernel)
set_option maxRecDepth 20000 in
theorem gL_law_X12_floor : GoodIn wsL_law (wsV RL 30 RX12 yX12_floor wsX12_floor) := goodIn_app (goodIn_of _ (by decide +kernel)) ggL_law_X12_floor
set_option maxRecDepth 20000 in
theorem ggL_law_X11_person : GoodIn wsL_law wsX11_person := goodIn_r _ [198, 18, 21, 199, 143, 144, 17, 145, 113, 200, 201, 202, 203, 41, 204, 205, 206, 207, 208, 209, 210, 211, 114, 42, 212, 213, 178, 214, 215, 216, 217, 218, 219, 220, 221, 222, 223, 224, 225, 226, 115, 227, 228, 229, 230, 231, 232, 233, 234, 235, 236, 237, 44, 238, 239, 240, 241, 242, 243, 244, 245, 43, 246, 247, 248, 249, 250, 251, 252, 253, 254, 255, 256, 257, 258, 259, 260, 261, 262, 45, 263, 264, 265, 266, 825, 826, 827, 828, 829, 830, 831, 832, 833, 834, 835, 866, 867, 868, 869, 870, 871, 872, 873, 874, 875, 876] (by decide +kernel) (by decide +kernel)
set_option maxRecDepth 20000 in
theorem gL_law_X11_person : GoodIn wsL_law (wsV RL 31 RX11 yX11_person wsX11_person) := goodIn_app (goodIn_of _ (by decide +kernel)) ggL_law_X11_person
set_option maxRecDepth 20000 in
theorem ggL_law_X12_person : GoodIn wsL_law wsX12_person := goodIn_r _ [270, 66, 271, 272, 273, 5, 274, 191, 94, 95, 96, 275, 276, 277, 278, 71, 279, 280, 281, 282, 192, 67, 283, 284, 285, 286, 193, 69, 68, 287, 288, 289, 290, 291, 292, 293, 294, 295, 296, 297, 298, 70, 299, 300, 301, 302, 303, 304, 305, 836, 837, 838, 839, 840, 841, 842, 843, 844, 845, 846, 847, 848, 849, 850, 851, 852, 853, 854, 855, 856, 857, 858, 859, 860, 861, 862, 863, 864, 865] (by decide +kernel) (by decide +kernel)
set_option maxRecDepth 20000 in
theorem gL_law_X12_person : GoodIn wsL_law (wsV RL 35 RX12 yX12_person wsX12_person) := goodIn_app (goodIn_of _ (by decide +kernel)) ggL_law_X12_person
set_option maxRecDepth 20000 in
theorem ggL_law_X11_grain : GoodIn wsL_law wsX11_grain := goodIn_r _ [309, 18, 21, 310, 311, 312, 17, 313, 115, 314, 228, 178, 229, 204, 205, 206, 207, 208, 209, 210, 211, 114, 42, 212, 213, 214, 215, 216, 217, 218, 201, 202, 203, 41, 315, 243, 244, 245, 43, 316, 235, 236, 237, 44, 317, 260, 261, 262, 45, 199, 143, 144, 145, 113, 318, 319, 320, 321, 322, 323, 324, 325, 326, 327, 328, 259, 142, 234, 242, 329, 330, 331, 332, 333, 256, 257, 258, 227, 825, 826, 827, 828, 829, 830, 831, 832, 833, 834, 835, 866, 867, 868, 869, 870, 871, 872, 873, 874, 875, 876] (by decide +kernel) (by decide +kernel)
set_option maxRecDepth 20000 in
theorem gL_law_X11_grain : GoodIn wsL_law (wsV RL 36 RX11 yX11_grain wsX11_grain) := goodIn_app (goodIn_of _ (by decide +kernel)) ggL_law_X11_grain
set_option maxRecDepth 20000 in
theorem ggL_law_X12_grain : GoodIn wsL_law wsX12_grain := goodIn_r _ [337, 68, 69, 70, 71, 338, 339, 340, 5, 341, 193, 94, 95, 96, 342, 343, 344, 345, 191, 275, 276, 277, 278, 66, 279, 280, 281, 282, 192, 67, 346, 347, 348, 349, 350, 351, 352, 353, 354, 355, 356, 357, 358, 359, 836, 837, 838, 839, 840, 841, 842, 843, 844, 845, 846, 847, 848, 849, 850, 851, 852, 853, 854, 855, 856, 857, 858, 859, 860, 861, 862, 863, 864, 865] (by decide +kernel) (by decide +kernel)
set_option maxRecDepth 20000 in
theorem gL_law_X12_grain : GoodIn wsL_law (wsV RL 39 RX12 yX12_grain wsX12_grain) := goodIn_app (goodIn_of _ (by decide +kernel)) ggL_law_X12_grain
set_option maxRecDepth 20000 in
theorem ggL_law_X11_toss : GoodIn wsL_law wsX11_toss := goodIn_r _ [363, 18, 21, 199, 143, 144, 17, 145, 113, 364, 365, 366, 367, 115, 368, 205, 206, 207, 208, 209, 210, 211, 114, 42, 212, 213, 178, 214, 215, 216, 217, 218, 201, 202, 203, 41, 227, 228, 229, 325, 326, 327, 328, 259, 260, 261, 262, 45, 142, 234, 235, 236, 237, 44, 242, 243, 244, 245, 43, 329, 319, 320, 330, 331, 332, 369, 370, 371, 372, 373, 374, 375, 376, 377, 378, 379, 380, 381, 382, 383, 384, 322, 323, 324, 176, 177, 179, 180, 181, 385, 386, 387, 2, 388, 25, 389, 390, 391, 24, 392, 186, 50, 393, 394, 395, 396, 825, 826, 827, 828, 829, 830, 831, 832, 833, 834, 835, 866, 867, 868, 869, 870, 871, 872, 873, 874, 875, 876, 877, 878] (by decide +kernel) (by decide +kernel)
set_option maxRecDepth 20000 in
theorem gL_law_X11_toss : GoodIn wsL_law (wsV RL 40 RX11 yX11_toss wsX11_toss) := goodIn_app (goodIn_of _ (by decide +kernel)) ggL_law_X11_toss
