/-! the law's words, decoded: 2 -/
set_option maxRecDepth 20000 in
theorem ggL_law_X5_unsee : GoodIn wsL_law wsX5_unsee := goodIn_r _ [535, 37, 521, 700, 701, 702, 703, 704, 705, 706, 707, 708, 709, 750, 751, 752, 753] (by decide +kernel) (by decide +kernel)
set_option maxRecDepth 20000 in
theorem gL_law_X5_unsee : GoodIn wsL_law (wsV RL 94 RX5 yX5_unsee wsX5_unsee) := goodIn_app (goodIn_of _ (by decide +kernel)) ggL_law_X5_unsee
set_option maxRecDepth 20000 in
theorem ggL_law_X6_unsee : GoodIn wsL_law wsX6_unsee := goodIn_r _ [539, 531, 710, 711, 712, 713, 714, 715, 716, 717, 718, 719, 720, 721, 722, 723, 724, 725, 726, 727, 728, 729, 730, 731, 732, 733] (by decide +kernel) (by decide +kernel)
set_option maxRecDepth 20000 in
theorem gL_law_X6_unsee : GoodIn wsL_law (wsV RL 97 RX6 yX6_unsee wsX6_unsee) := goodIn_app (goodIn_of _ (by decide +kernel)) ggL_law_X6_unsee
set_option maxRecDepth 20000 in
theorem ggL_law_X5_first : GoodIn wsL_law wsX5_first := goodIn_r _ [543, 25, 373, 544, 545, 546, 2, 547, 26, 548, 37, 407, 253, 254, 24, 255, 196, 198, 199, 54, 55, 549, 550, 551, 36, 552, 526, 68, 67, 69, 553, 229, 230, 231, 554, 225, 226, 227, 256, 257, 258, 259, 260, 261, 262, 263, 264, 265, 266, 267, 268, 269, 270, 271, 272, 273, 274, 56, 275, 276, 277, 278, 279, 280, 281, 282, 283, 284, 285, 286, 287, 288, 289, 290, 291, 292, 293, 294, 295, 700, 701, 702, 703, 704, 705, 706, 707, 708, 709, 742, 743, 744, 745, 746, 747, 750, 751, 752, 753, 736, 737, 738, 739, 740, 741] (by decide +kernel) (by decide +kernel)
set_option maxRecDepth 20000 in
theorem gL_law_X5_first : GoodIn wsL_law (wsV RL 98 RX5 yX5_first wsX5_first) := goodIn_app (goodIn_of _ (by decide +kernel)) ggL_law_X5_first
set_option maxRecDepth 20000 in
theorem ggL_law_X6_first : GoodIn wsL_law wsX6_first := goodIn_r _ [558, 559, 76, 103, 104, 5, 105, 560, 561, 562, 563, 564, 565, 566, 567, 416, 417, 418, 419, 568, 569, 570, 571, 531, 82, 81, 83, 236, 237, 238, 239, 210, 317, 318, 319, 320, 171, 172, 173, 306, 307, 308, 309, 310, 311, 312, 313, 86, 314, 315, 316, 321, 322, 323, 324, 74, 325, 326, 327, 328, 75, 710, 711, 712, 713, 714, 715, 716, 717, 718, 719, 720, 721, 722, 723, 724, 725, 726, 727, 728, 729, 730, 731, 732, 733] (by decide +kernel) (by decide +kernel)
set_option maxRecDepth 20000 in
theorem gL_law_X6_first : GoodIn wsL_law (wsV RL 101 RX6 yX6_first wsX6_first) := goodIn_app (goodIn_of _ (by decide +kernel)) ggL_law_X6_first
set_option maxRecDepth 20000 in
theorem ggL_law_X5_share : GoodIn wsL_law wsX5_share := goodIn_r _ [575, 25, 373, 220, 221, 222, 2, 223, 20, 190, 228, 229, 230, 24, 231, 198, 576, 577, 578, 579, 580, 283, 581, 582, 583, 584, 585, 586, 587, 588, 26, 548, 407, 253, 254, 255, 196, 199, 54, 55, 424, 425, 426, 427, 260, 261, 262, 263, 264, 265, 266, 267, 268, 269, 270, 271, 272, 273, 274, 56, 275, 348, 257, 258, 259, 276, 277, 278, 279, 280, 281, 282, 284, 285, 286, 287, 288, 289, 290, 291, 292, 293, 294, 295, 225, 226, 227, 428, 296, 589, 590, 591, 592, 593, 594, 595, 700, 701, 702, 703, 704, 705, 706, 707, 708, 709, 742, 743, 744, 745, 746, 747, 736, 737, 738, 739, 740, 741] (by decide +kernel) (by decide +kernel)
set_option maxRecDepth 20000 in
theorem gL_law_X5_share : GoodIn wsL_law (wsV RL 102 RX5 yX5_share wsX5_share) := goodIn_app (goodIn_of _ (by decide +kernel)) ggL_law_X5_share
set_option maxRecDepth 20000 in
theorem ggL_law_X6_share : GoodIn wsL_law wsX6_share := goodIn_r _ [599, 76, 236, 237, 238, 5, 239, 210, 103, 104, 105, 317, 318, 319, 320, 171, 172, 173, 314, 315, 316, 600, 601, 602, 603, 604, 605, 606, 564, 565, 566, 567, 416, 417, 418, 419, 434, 435, 436, 437, 433, 310, 311, 312, 313, 86, 306, 307, 308, 309, 321, 322, 323, 324, 74, 325, 326, 327, 328, 75, 607, 608, 609, 710, 711, 712, 713, 714, 715, 716, 717, 718, 719, 720, 721, 722, 723, 724, 725, 726, 727, 728, 729, 730, 731, 732, 733] (by decide +kernel) (by decide +kernel)
set_option maxRecDepth 20000 in
theorem gL_law_X6_share : GoodIn wsL_law (wsV RL 105 RX6 yX6_share wsX6_share) := goodIn_app (goodIn_of _ (by decide +kernel)) ggL_law_X6_share
set_option maxRecDepth 20000 in
theorem ggL_law_X5_rests : GoodIn wsL_law wsX5_rests := goodIn_r _ [613, 220, 221, 222, 2, 223, 20, 190, 614, 615, 616, 617, 618, 619, 620, 621, 217, 622, 282, 283, 284, 700, 701, 702, 703, 704, 705, 706, 707, 708, 709, 736, 737, 738, 739, 740, 741] (by decide +kernel) (by decide +kernel)
set_option maxRecDepth 20000 in
theorem gL_law_X5_rests : GoodIn wsL_law (wsV RL 106 RX5 yX5_rests wsX5_rests) := goodIn_app (goodIn_of _ (by decide +kernel)) ggL_law_X5_rests
set_option maxRecDepth 20000 in
theorem ggL_law_X6_rests : GoodIn wsL_law wsX6_rests := goodIn_r _ [626, 236, 237, 238, 5, 239, 210, 103, 104, 105, 627, 628, 629, 630, 631, 632, 633, 634, 74, 710, 711, 712, 713, 714, 715, 716, 717, 718, 719, 720, 721, 722, 723, 724, 725, 726, 727, 728, 729, 730, 731, 732, 733] (by decide +kernel) (by decide +kernel)
set_option maxRecDepth 20000 in
theorem gL_law_X6_rests : GoodIn wsL_law (wsV RL 109 RX6 yX6_rests wsX6_rests) := goodIn_app (goodIn_of _ (by decide +kernel)) ggL_law_X6_rests
set_option maxRecDepth 20000 in
theorem ggL_law_X5_coins : GoodIn wsL_law wsX5_coins := goodIn_r _ [638, 25, 373, 450, 451, 2, 452, 296, 265, 266, 267, 268, 269, 270, 639, 640, 641, 457, 458, 459, 460, 26, 407, 253, 254, 24, 255, 196, 198, 199, 54, 55, 341, 342, 343, 344, 345, 346, 283, 347, 348, 257, 258, 259, 260, 261, 262, 263, 264, 271, 272, 273, 274, 56, 275, 276, 277, 278, 279, 280, 281, 282, 284, 285, 229, 230, 231, 286, 287, 288, 289, 290, 291, 292, 293, 294, 295, 225, 226, 227, 424, 425, 426, 427, 428, 576, 577, 578, 579, 580, 581, 582, 583, 584, 700, 701, 702, 703, 704, 705, 706, 707, 708, 709, 742, 743, 744, 745, 746, 747, 736, 737, 738, 739, 740, 741] (by decide +kernel) (by decide +kernel)
set_option maxRecDepth 20000 in
theorem gL_law_X5_coins : GoodIn wsL_law (wsV RL 110 RX5 yX5_coins wsX5_coins) := goodIn_app (goodIn_of _ (by decide +kernel)) ggL_law_X5_coins
set_option maxRecDepth 20000 in
theorem ggL_law_X6_coins : GoodIn wsL_law wsX6_coins := goodIn_r _ [645, 646, 76, 103, 104, 5, 105, 314, 315, 316, 647, 648, 649, 603, 604, 605, 606, 564, 565, 566, 567, 416, 417, 418, 419, 434, 435, 436, 437, 433, 310, 311, 312, 313, 86, 306, 307, 308, 309, 210, 317, 318, 319, 320, 171, 172, 173, 321, 322, 323, 324, 74, 325, 326, 327, 328, 75, 607, 608, 609, 710, 711, 712, 713, 714, 715, 716, 717, 718, 719, 720, 721, 722, 723, 724, 725, 726, 727, 728, 729, 730, 731, 732, 733] (by decide +kernel) (by decide +kernel)
set_option maxRecDepth 20000 in
theorem gL_law_X6_coins : GoodIn wsL_law (wsV RL 114 RX6 yX6_coins wsX6_coins) := goodIn_app (goodIn_of _ (by decide +kernel)) ggL_law_X6_coins
set_option maxRecDepth 20000 in
theorem ggL_law_X5_seed : GoodIn wsL_law wsX5_seed := goodIn_r _ [653, 654, 700, 701, 702, 703, 704, 705, 706, 707, 708, 709] (by decide +kernel) (by decide +kernel)
set_option maxRecDepth 20000 in
theorem gL_law_X5_seed : GoodIn wsL_law (wsV RL 117 RX5 yX5_seed wsX5_seed) := goodIn_app (goodIn_of _ (by decide +kernel)) ggL_law_X5_seed
set_option maxRecDepth 20000 in
theorem ggL_law_X6_seed : GoodIn wsL_law wsX6_seed := goodIn_r _ [658, 659, 710, 711, 712, 713, 714, 715, 716, 717, 718, 719, 720, 721, 722, 723, 724, 725, 726, 727, 728, 729, 730, 731, 732, 733] (by decide +kernel) (by decide +kernel)
set_option maxRecDepth 20000 in
theorem gL_law_X6_seed : GoodIn wsL_law (wsV RL 121 RX6 yX6_seed wsX6_seed) := goodIn_app (goodIn_of _ (by decide +kernel)) ggL_law_X6_seed
set_option maxRecDepth 20000 in
theorem ggL_law_X5_assizes : GoodIn wsL_law wsX5_assizes := goodIn_r _ [663, 26, 25, 654, 664, 665, 666, 407, 253, 254, 24, 255, 196, 198, 199, 54, 55, 256, 257, 258, 259, 260, 261, 262, 263, 264, 265, 266, 267, 268, 269, 270, 271, 272, 273, 274, 56, 275, 276, 277, 278, 279, 280, 281, 282, 283, 284, 285, 229, 230, 231, 286, 287, 288, 289, 290, 291, 292, 293, 294, 295, 225, 226, 227, 228, 341, 342, 343, 344, 345, 346, 347, 348, 428, 700, 701, 702, 703, 704, 705, 706, 707, 708, 709, 742, 743, 744, 745, 746, 747, 736, 737, 738, 739, 740, 741] (by decide +kernel) (by decide +kernel)
set_option maxRecDepth 20000 in
theorem gL_law_X5_assizes : GoodIn wsL_law (wsV RL 122 RX5 yX5_assizes wsX5_assizes) := goodIn_app (goodIn_of _ (by decide +kernel)) ggL_law_X5_assizes
set_option maxRecDepth 20000 in
theorem ggL_law_X6_assizes : GoodIn wsL_law wsX6_assizes := goodIn_r _ [670, 671, 659, 672, 673, 170, 76, 103, 104, 5, 105, 416, 417, 418, 419, 306, 307, 308, 309, 210, 310, 311, 312, 313, 86, 314, 315, 316, 317, 318, 319, 320, 171, 172, 173, 321, 322, 323, 324, 74, 325, 326, 327, 328, 75, 236, 237, 238, 239, 710, 711, 712, 713, 714, 715, 716, 717, 718, 719, 720, 721, 722, 723, 724, 725, 726, 727, 728, 729, 730, 731, 732, 733] (by decide +kernel) (by decide +kernel)
set_option maxRecDepth 20000 in
theorem gL_law_X6_assizes : GoodIn wsL_law (wsV RL 125 RX6 yX6_assizes wsX6_assizes) := goodIn_app (goodIn_of _ (by decide +kernel)) ggL_law_X6_assizes
set_option maxRecDepth 20000 in
theorem ggL_law_X5_keep : GoodIn wsL_law wsX5_keep := goodIn_r _ [677, 31, 25, 33, 678, 407, 253, 254, 24, 255, 196, 198, 199, 54, 55, 700, 701, 702, 703, 704, 705, 706, 707, 708, 709, 742, 743, 744, 745, 746, 747] (by decide +kernel) (by decide +kernel)
set_option maxRecDepth 20000 in
theorem gL_law_X5_keep : GoodIn wsL_law (wsV RL 126 RX5 yX5_keep wsX5_keep) := goodIn_app (goodIn_of _ (by decide +kernel)) ggL_law_X5_keep
set_option maxRecDepth 20000 in
theorem ggL_law_X6_keep : GoodIn wsL_law wsX6_keep := goodIn_r _ [682, 84, 85, 76, 103, 104, 5, 105, 710, 711, 712, 713, 714, 715, 716, 717, 718, 719, 720, 721, 722, 723, 724, 725, 726, 727, 728, 729, 730, 731, 732, 733] (by decide +kernel) (by decide +kernel)
set_option maxRecDepth 20000 in
theorem gL_law_X6_keep : GoodIn wsL_law (wsV RL 129 RX6 yX6_keep wsX6_keep) := goodIn_app (goodIn_of _ (by decide +kernel)) ggL_law_X6_keep
set_option maxRecDepth 20000 in
theorem ggL_law_X5_again : GoodIn wsL_law wsX5_again := goodIn_r _ [686, 33, 25, 31, 30, 678, 407, 253, 254, 24, 255, 196, 198, 199, 54, 55, 201, 202, 203, 29, 204, 205, 700, 701, 702, 703, 704, 705, 706, 707, 708, 709, 742, 743, 744, 745, 746, 747, 748, 749] (by decide +kernel) (by decide +kernel)
set_option maxRecDepth 20000 in
theorem gL_law_X5_again : GoodIn wsL_law (wsV RL 130 RX5 yX5_again wsX5_again) := goodIn_app (goodIn_of _ (by decide +kernel)) ggL_law_X5_again
set_option maxRecDepth 20000 in
theorem ggL_law_X6_again : GoodIn wsL_law wsX6_again := goodIn_r _ [690, 84, 76, 85, 211, 103, 104, 5, 105, 710, 711, 712, 713, 714, 715, 716, 717, 718, 719, 720, 721, 722, 723, 724, 725, 726, 727, 728, 729, 730, 731, 732, 733] (by decide +kernel) (by decide +kernel)
set_option maxRecDepth 20000 in
theorem gL_law_X6_again : GoodIn wsL_law (wsV RL 133 RX6 yX6_again wsX6_again) := goodIn_app (goodIn_of _ (by decide +kernel)) ggL_law_X6_again
set_option maxRecDepth 20000 in
theorem ggL_law_X5_count : GoodIn wsL_law wsX5_count := goodIn_r _ [694, 16, 91, 20, 190, 695, 25, 678, 373, 30, 394, 37, 521, 408, 409, 410, 24, 411, 196, 198, 428, 261, 262, 263, 264, 265, 266, 267, 268, 269, 270, 271, 272, 273, 274, 56, 275, 700, 701, 702, 703, 704, 705, 706, 707, 708, 709, 734, 735, 736, 737, 738, 739, 740, 741, 742, 743, 744, 745, 746, 747, 748, 749, 750, 751, 752, 753] (by decide +kernel) (by decide +kernel)
set_option maxRecDepth 20000 in
theorem gL_law_X5_count : GoodIn wsL_law (wsV RL 134 RX5 yX5_count wsX5_count) := goodIn_app (goodIn_of _ (by decide +kernel)) ggL_law_X5_count
set_option maxRecDepth 20000 in
theorem ggL_law_X6_count : GoodIn wsL_law wsX6_count := goodIn_r _ [699, 102, 210, 86, 76, 211, 531, 310, 311, 312, 5, 313, 314, 315, 316, 710, 711, 712, 713, 714, 715, 716, 717, 718, 719, 720, 721, 722, 723, 724, 725, 726, 727, 728, 729, 730, 731, 732, 733] (by decide +kernel) (by decide +kernel)
set_option maxRecDepth 20000 in
theorem gL_law_X6_count : GoodIn wsL_law (wsV RL 137 RX6 yX6_count wsX6_count) := goodIn_app (goodIn_of _ (by decide +kernel)) ggL_law_X6_count
