set_option maxRecDepth 20000 in
theorem ggL_law_X11_votes : GoodIn wsL_law wsX11_votes := goodIn_r _ [534, 18, 37, 21, 199, 143, 144, 17, 145, 113, 535, 536, 537, 36, 538, 60, 61, 539, 447, 178, 448, 449, 540, 541, 542, 543, 377, 378, 379, 115, 368, 205, 206, 207, 208, 209, 210, 211, 114, 42, 212, 213, 214, 215, 216, 217, 218, 201, 202, 203, 41, 380, 381, 382, 383, 227, 228, 229, 384, 322, 323, 324, 325, 326, 327, 328, 259, 260, 261, 262, 45, 142, 234, 235, 236, 237, 44, 242, 243, 244, 245, 43, 329, 319, 320, 330, 331, 332, 176, 177, 179, 180, 181, 544, 545, 546, 547, 548, 220, 221, 222, 223, 224, 225, 226, 230, 231, 232, 233, 238, 239, 240, 241, 549, 550, 551, 552, 825, 826, 827, 828, 829, 830, 831, 832, 833, 834, 835, 866, 867, 868, 869, 870, 871, 872, 873, 874, 875, 876, 883, 884] (by decide +kernel) (by decide +kernel)
set_option maxRecDepth 20000 in
theorem gL_law_X11_votes : GoodIn wsL_law (wsV RL 73 RX11 yX11_votes wsX11_votes) := goodIn_app (goodIn_of _ (by decide +kernel)) ggL_law_X11_votes
set_option maxRecDepth 20000 in
theorem ggL_law_X12_votes : GoodIn wsL_law wsX12_votes := goodIn_r _ [556, 271, 272, 273, 5, 274, 191, 94, 95, 96, 557, 558, 559, 560, 561, 562, 563, 564, 565, 566, 567, 568, 71, 499, 500, 501, 502, 406, 407, 408, 409, 193, 76, 349, 350, 351, 352, 69, 66, 275, 276, 277, 278, 279, 280, 281, 282, 192, 67, 353, 354, 355, 356, 70, 68, 357, 358, 359, 346, 347, 348, 283, 284, 285, 286, 836, 837, 838, 839, 840, 841, 842, 843, 844, 845, 846, 847, 848, 849, 850, 851, 852, 853, 854, 855, 856, 857, 858, 859, 860, 861, 862, 863, 864, 865] (by decide +kernel) (by decide +kernel)
set_option maxRecDepth 20000 in
theorem gL_law_X12_votes : GoodIn wsL_law (wsV RL 76 RX12 yX12_votes wsX12_votes) := goodIn_app (goodIn_of _ (by decide +kernel)) ggL_law_X12_votes
set_option maxRecDepth 20000 in
theorem ggL_law_X11_chosen : GoodIn wsL_law wsX11_chosen := goodIn_r _ [572, 37, 18, 21, 535, 536, 537, 36, 538, 60, 61, 539, 447, 178, 448, 449, 540, 541, 542, 543, 377, 378, 17, 379, 115, 368, 205, 206, 207, 208, 209, 210, 211, 114, 42, 212, 213, 214, 215, 216, 217, 218, 201, 202, 203, 41, 380, 381, 382, 383, 227, 228, 229, 384, 322, 323, 324, 325, 326, 327, 328, 259, 260, 261, 262, 45, 142, 143, 144, 145, 113, 234, 235, 236, 237, 44, 242, 243, 244, 245, 43, 329, 319, 320, 330, 331, 332, 176, 177, 179, 180, 181, 544, 545, 546, 547, 548, 220, 221, 222, 223, 224, 225, 226, 230, 231, 232, 233, 238, 239, 240, 241, 549, 550, 551, 552, 825, 826, 827, 828, 829, 830, 831, 832, 833, 834, 835, 866, 867, 868, 869, 870, 871, 872, 873, 874, 875, 876, 883, 884] (by decide +kernel) (by decide +kernel)
set_option maxRecDepth 20000 in
theorem gL_law_X11_chosen : GoodIn wsL_law (wsV RL 77 RX11 yX11_chosen wsX11_chosen) := goodIn_app (goodIn_of _ (by decide +kernel)) ggL_law_X11_chosen
set_option maxRecDepth 20000 in
theorem ggL_law_X12_chosen : GoodIn wsL_law wsX12_chosen := goodIn_r _ [576, 191, 557, 558, 559, 5, 560, 561, 562, 563, 564, 565, 566, 567, 568, 71, 499, 500, 501, 502, 406, 407, 408, 409, 193, 76, 349, 350, 351, 352, 69, 66, 275, 276, 277, 278, 279, 280, 281, 282, 192, 67, 353, 354, 355, 356, 70, 68, 357, 358, 359, 346, 347, 348, 283, 284, 285, 286, 836, 837, 838, 839, 840, 841, 842, 843, 844, 845, 846, 847, 848, 849, 850, 851, 852, 853, 854, 855, 856, 857, 858, 859, 860, 861, 862, 863, 864, 865] (by decide +kernel) (by decide +kernel)
set_option maxRecDepth 20000 in
theorem gL_law_X12_chosen : GoodIn wsL_law (wsV RL 80 RX12 yX12_chosen wsX12_chosen) := goodIn_app (goodIn_of _ (by decide +kernel)) ggL_law_X12_chosen
set_option maxRecDepth 20000 in
theorem ggL_law_X11_judge : GoodIn wsL_law wsX11_judge := goodIn_r _ [580, 18, 21, 581, 582, 583, 584, 585, 586, 587, 588, 589, 590, 591, 592, 593, 594, 478, 479, 17, 480, 142, 143, 144, 145, 113, 595, 425, 426, 427, 428, 311, 312, 313, 115, 234, 235, 236, 237, 44, 255, 256, 257, 258, 227, 228, 178, 229, 259, 260, 261, 262, 45, 596, 597, 216, 217, 598, 248, 249, 250, 223, 224, 225, 226, 251, 252, 253, 254, 599, 600, 601, 602, 482, 483, 484, 380, 381, 382, 383, 485, 377, 378, 379, 368, 205, 206, 207, 208, 209, 210, 211, 114, 42, 212, 213, 214, 215, 218, 201, 202, 203, 41, 384, 322, 323, 324, 325, 326, 327, 328, 242, 243, 244, 245, 43, 329, 319, 320, 330, 331, 332, 176, 177, 179, 180, 181, 603, 430, 431, 432, 604, 447, 448, 449, 825, 826, 827, 828, 829, 830, 831, 832, 833, 834, 835, 866, 867, 868, 869, 870, 871, 872, 873, 874, 875, 876] (by decide +kernel) (by decide +kernel)
set_option maxRecDepth 20000 in
theorem gL_law_X11_judge : GoodIn wsL_law (wsV RL 81 RX11 yX11_judge wsX11_judge) := goodIn_app (goodIn_of _ (by decide +kernel)) ggL_law_X11_judge
set_option maxRecDepth 20000 in
theorem ggL_law_X12_judge : GoodIn wsL_law wsX12_judge := goodIn_r _ [608, 491, 94, 95, 5, 96, 492, 493, 494, 499, 500, 501, 502, 71, 609, 610, 611, 612, 70, 503, 504, 505, 506, 271, 272, 273, 274, 191, 406, 407, 408, 409, 193, 76, 349, 350, 351, 352, 69, 66, 275, 276, 277, 278, 279, 280, 281, 282, 192, 67, 353, 354, 355, 356, 68, 357, 358, 359, 346, 347, 348, 437, 438, 439, 440, 338, 339, 340, 341, 291, 292, 293, 294, 287, 288, 289, 290, 295, 296, 297, 298, 836, 837, 838, 839, 840, 841, 842, 843, 844, 845, 846, 847, 848, 849, 850, 851, 852, 853, 854, 855, 856, 857, 858, 859, 860, 861, 862, 863, 864, 865] (by decide +kernel) (by decide +kernel)
set_option maxRecDepth 20000 in
theorem gL_law_X12_judge : GoodIn wsL_law (wsV RL 84 RX12 yX12_judge wsX12_judge) := goodIn_app (goodIn_of _ (by decide +kernel)) ggL_law_X12_judge
set_option maxRecDepth 20000 in
theorem ggL_law_X11_see : GoodIn wsL_law wsX11_see := goodIn_r _ [616, 33, 617, 618, 619, 32, 620, 621, 54, 55, 56, 825, 826, 827, 828, 829, 830, 831, 832, 833, 834, 835, 879, 880, 881, 882] (by decide +kernel) (by decide +kernel)
set_option maxRecDepth 20000 in
theorem gL_law_X11_see : GoodIn wsL_law (wsV RL 85 RX11 yX11_see wsX11_see) := goodIn_app (goodIn_of _ (by decide +kernel)) ggL_law_X11_see
set_option maxRecDepth 20000 in
theorem ggL_law_X12_see : GoodIn wsL_law wsX12_see := goodIn_r _ [625, 626, 627, 628, 629, 78, 79, 80, 94, 95, 5, 96, 836, 837, 838, 839, 840, 841, 842, 843, 844, 845, 846, 847, 848, 849, 850, 851, 852, 853, 854, 855, 856, 857, 858, 859, 860, 861, 862, 863, 864, 865] (by decide +kernel) (by decide +kernel)
set_option maxRecDepth 20000 in
theorem gL_law_X12_see : GoodIn wsL_law (wsV RL 89 RX12 yX12_see wsX12_see) := goodIn_app (goodIn_of _ (by decide +kernel)) ggL_law_X12_see
set_option maxRecDepth 20000 in
theorem ggL_law_X11_unsee : GoodIn wsL_law wsX11_unsee := goodIn_r _ [633, 33, 825, 826, 827, 828, 829, 830, 831, 832, 833, 834, 835, 879, 880, 881, 882] (by decide +kernel) (by decide +kernel)
set_option maxRecDepth 20000 in
theorem gL_law_X11_unsee : GoodIn wsL_law (wsV RL 90 RX11 yX11_unsee wsX11_unsee) := goodIn_app (goodIn_of _ (by decide +kernel)) ggL_law_X11_unsee
set_option maxRecDepth 20000 in
theorem ggL_law_X12_unsee : GoodIn wsL_law wsX12_unsee := goodIn_r _ [637, 629, 836, 837, 838, 839, 840, 841, 842, 843, 844, 845, 846, 847, 848, 849, 850, 851, 852, 853, 854, 855, 856, 857, 858, 859, 860, 861, 862, 863, 864, 865] (by decide +kernel) (by decide +kernel)
set_option maxRecDepth 20000 in
theorem gL_law_X12_unsee : GoodIn wsL_law (wsV RL 93 RX12 yX12_unsee wsX12_unsee) := goodIn_app (goodIn_of _ (by decide +kernel)) ggL_law_X12_unsee
set_option maxRecDepth 20000 in
theorem ggL_law_X11_weights : GoodIn wsL_law wsX11_weights := goodIn_r _ [641, 33, 642, 643, 644, 32, 645, 646, 647, 648, 649, 621, 54, 55, 56, 650, 319, 17, 320, 651, 331, 332, 825, 826, 827, 828, 829, 830, 831, 832, 833, 834, 835, 879, 880, 881, 882] (by decide +kernel) (by decide +kernel)
set_option maxRecDepth 20000 in
theorem gL_law_X11_weights : GoodIn wsL_law (wsV RL 94 RX11 yX11_weights wsX11_weights) := goodIn_app (goodIn_of _ (by decide +kernel)) ggL_law_X11_weights
set_option maxRecDepth 20000 in
theorem ggL_law_X12_weights : GoodIn wsL_law wsX12_weights := goodIn_r _ [655, 626, 629, 78, 79, 80, 94, 95, 5, 96, 357, 358, 359, 346, 347, 348, 836, 837, 838, 839, 840, 841, 842, 843, 844, 845, 846, 847, 848, 849, 850, 851, 852, 853, 854, 855, 856, 857, 858, 859, 860, 861, 862, 863, 864, 865] (by decide +kernel) (by decide +kernel)
set_option maxRecDepth 20000 in
theorem gL_law_X12_weights : GoodIn wsL_law (wsV RL 97 RX12 yX12_weights wsX12_weights) := goodIn_app (goodIn_of _ (by decide +kernel)) ggL_law_X12_weights
set_option maxRecDepth 20000 in
theorem ggL_law_X11_share : GoodIn wsL_law wsX11_share := goodIn_r _ [659, 18, 21, 199, 143, 144, 17, 145, 113, 660, 661, 662, 663, 664, 370, 371, 372, 373, 374, 375, 665, 666, 667, 668, 669, 670, 671, 672, 377, 378, 379, 115, 368, 205, 206, 207, 208, 209, 210, 211, 114, 42, 212, 213, 178, 214, 215, 216, 217, 218, 201, 202, 203, 41, 380, 381, 382, 383, 227, 228, 229, 384, 322, 323, 324, 325, 326, 327, 328, 259, 260, 261, 262, 45, 142, 234, 235, 236, 237, 44, 242, 243, 244, 245, 43, 329, 319, 320, 330, 331, 332, 176, 177, 179, 180, 181, 673, 252, 253, 254, 255, 256, 257, 258, 674, 675, 676, 677, 678, 679, 680, 681, 682, 683, 684, 685, 686, 687, 825, 826, 827, 828, 829, 830, 831, 832, 833, 834, 835, 866, 867, 868, 869, 870, 871, 872, 873, 874, 875, 876] (by decide +kernel) (by decide +kernel)
set_option maxRecDepth 20000 in
theorem gL_law_X11_share : GoodIn wsL_law (wsV RL 98 RX11 yX11_share wsX11_share) := goodIn_app (goodIn_of _ (by decide +kernel)) ggL_law_X11_share
set_option maxRecDepth 20000 in
theorem ggL_law_X12_share : GoodIn wsL_law wsX12_share := goodIn_r _ [691, 191, 271, 272, 273, 5, 274, 94, 95, 96, 303, 304, 305, 507, 508, 509, 692, 693, 694, 695, 696, 697, 698, 499, 500, 501, 502, 71, 406, 407, 408, 409, 193, 76, 349, 350, 351, 352, 69, 66, 275, 276, 277, 278, 279, 280, 281, 282, 192, 67, 353, 354, 355, 356, 70, 68, 357, 358, 359, 346, 347, 348, 295, 296, 297, 298, 699, 700, 701, 836, 837, 838, 839, 840, 841, 842, 843, 844, 845, 846, 847, 848, 849, 850, 851, 852, 853, 854, 855, 856, 857, 858, 859, 860, 861, 862, 863, 864, 865] (by decide +kernel) (by decide +kernel)
set_option maxRecDepth 20000 in
theorem gL_law_X12_share : GoodIn wsL_law (wsV RL 101 RX12 yX12_share wsX12_share) := goodIn_app (goodIn_of _ (by decide +kernel)) ggL_law_X12_share
set_option maxRecDepth 20000 in
theorem ggL_law_X11_rests : GoodIn wsL_law wsX11_rests := goodIn_r _ [705, 18, 21, 199, 143, 144, 17, 145, 113, 706, 707, 708, 709, 710, 711, 712, 713, 447, 178, 448, 449, 714, 365, 366, 367, 115, 368, 205, 206, 207, 208, 209, 210, 211, 114, 42, 212, 213, 214, 215, 216, 217, 218, 201, 202, 203, 41, 227, 228, 229, 325, 326, 327, 328, 259, 260, 261, 262, 45, 142, 234, 235, 236, 237, 44, 242, 243, 244, 245, 43, 329, 319, 320, 330, 331, 332, 715, 231, 232, 233, 238, 239, 240, 241, 825, 826, 827, 828, 829, 830, 831, 832, 833, 834, 835, 866, 867, 868, 869, 870, 871, 872, 873, 874, 875, 876] (by decide +kernel) (by decide +kernel)
set_option maxRecDepth 20000 in
theorem gL_law_X11_rests : GoodIn wsL_law (wsV RL 102 RX11 yX11_rests wsX11_rests) := goodIn_app (goodIn_of _ (by decide +kernel)) ggL_law_X11_rests
