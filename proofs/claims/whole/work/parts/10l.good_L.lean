/-! the law's words, decoded: 1 -/
set_option maxRecDepth 20000 in
theorem ggL_law_X5_toss : GoodIn wsL_law wsX5_toss := goodIn_r _ [385, 25, 333, 334, 335, 2, 336, 30, 220, 221, 222, 223, 20, 190, 337, 338, 339, 24, 340, 54, 55, 285, 229, 230, 231, 198, 244, 245, 246, 29, 247, 205, 62, 248, 249, 250, 251, 252, 253, 254, 255, 196, 199, 341, 342, 343, 344, 345, 346, 283, 347, 348, 257, 258, 259, 260, 261, 262, 263, 264, 265, 266, 267, 268, 269, 270, 271, 272, 273, 274, 56, 275, 276, 277, 278, 279, 280, 281, 282, 284, 286, 287, 288, 289, 290, 291, 292, 293, 294, 295, 225, 226, 227, 224, 700, 701, 702, 703, 704, 705, 706, 707, 708, 709, 736, 737, 738, 739, 740, 741, 742, 743, 744, 745, 746, 747, 748, 749] (by decide +kernel) (by decide +kernel)
set_option maxRecDepth 20000 in
theorem gL_law_X5_toss : GoodIn wsL_law (wsV RL 52 RX5 yX5_toss wsX5_toss) := goodIn_app (goodIn_of _ (by decide +kernel)) ggL_law_X5_toss
set_option maxRecDepth 20000 in
theorem ggL_law_X6_toss : GoodIn wsL_law wsX6_toss := goodIn_r _ [389, 76, 236, 237, 238, 5, 239, 210, 103, 104, 105, 317, 318, 319, 320, 171, 172, 173, 301, 302, 303, 304, 80, 305, 211, 710, 711, 712, 713, 714, 715, 716, 717, 718, 719, 720, 721, 722, 723, 724, 725, 726, 727, 728, 729, 730, 731, 732, 733] (by decide +kernel) (by decide +kernel)
set_option maxRecDepth 20000 in
theorem gL_law_X6_toss : GoodIn wsL_law (wsV RL 55 RX6 yX6_toss wsX6_toss) := goodIn_app (goodIn_of _ (by decide +kernel)) ggL_law_X6_toss
set_option maxRecDepth 20000 in
theorem ggL_law_X5_undo : GoodIn wsL_law wsX5_undo := goodIn_r _ [393, 30, 25, 394, 395, 396, 397, 29, 398, 205, 62, 252, 253, 254, 24, 255, 196, 198, 199, 54, 55, 700, 701, 702, 703, 704, 705, 706, 707, 708, 709, 748, 749, 742, 743, 744, 745, 746, 747] (by decide +kernel) (by decide +kernel)
set_option maxRecDepth 20000 in
theorem gL_law_X5_undo : GoodIn wsL_law (wsV RL 56 RX5 yX5_undo wsX5_undo) := goodIn_app (goodIn_of _ (by decide +kernel)) ggL_law_X5_undo
set_option maxRecDepth 20000 in
theorem ggL_law_X6_undo : GoodIn wsL_law wsX6_undo := goodIn_r _ [402, 211, 305, 76, 80, 710, 711, 712, 713, 714, 715, 716, 717, 718, 719, 720, 721, 722, 723, 724, 725, 726, 727, 728, 729, 730, 731, 732, 733] (by decide +kernel) (by decide +kernel)
set_option maxRecDepth 20000 in
theorem gL_law_X6_undo : GoodIn wsL_law (wsV RL 59 RX6 yX6_undo wsX6_undo) := goodIn_app (goodIn_of _ (by decide +kernel)) ggL_law_X6_undo
set_option maxRecDepth 20000 in
theorem ggL_law_X5_ahead : GoodIn wsL_law wsX5_ahead := goodIn_r _ [406, 26, 25, 407, 253, 254, 24, 255, 196, 198, 199, 54, 55, 256, 257, 258, 259, 260, 261, 262, 263, 264, 265, 266, 267, 268, 269, 270, 271, 272, 273, 274, 56, 275, 276, 277, 278, 279, 280, 281, 282, 283, 284, 285, 229, 230, 231, 286, 287, 288, 289, 290, 291, 292, 293, 294, 295, 225, 226, 227, 408, 409, 410, 411, 700, 701, 702, 703, 704, 705, 706, 707, 708, 709, 742, 743, 744, 745, 746, 747, 736, 737, 738, 739, 740, 741] (by decide +kernel) (by decide +kernel)
set_option maxRecDepth 20000 in
theorem gL_law_X5_ahead : GoodIn wsL_law (wsV RL 60 RX5 yX5_ahead wsX5_ahead) := goodIn_app (goodIn_of _ (by decide +kernel)) ggL_law_X5_ahead
set_option maxRecDepth 20000 in
theorem ggL_law_X6_ahead : GoodIn wsL_law wsX6_ahead := goodIn_r _ [415, 170, 76, 103, 104, 5, 105, 416, 417, 418, 419, 306, 307, 308, 309, 210, 310, 311, 312, 313, 86, 314, 315, 316, 317, 318, 319, 320, 171, 172, 173, 321, 322, 323, 324, 74, 325, 326, 327, 328, 75, 710, 711, 712, 713, 714, 715, 716, 717, 718, 719, 720, 721, 722, 723, 724, 725, 726, 727, 728, 729, 730, 731, 732, 733] (by decide +kernel) (by decide +kernel)
set_option maxRecDepth 20000 in
theorem gL_law_X6_ahead : GoodIn wsL_law (wsV RL 63 RX6 yX6_ahead wsX6_ahead) := goodIn_app (goodIn_of _ (by decide +kernel)) ggL_law_X6_ahead
set_option maxRecDepth 20000 in
theorem ggL_law_X5_end : GoodIn wsL_law wsX5_end := goodIn_r _ [423, 26, 25, 407, 253, 254, 24, 255, 196, 198, 199, 54, 55, 424, 425, 426, 427, 260, 261, 262, 263, 264, 265, 266, 267, 268, 269, 270, 271, 272, 273, 274, 56, 275, 348, 257, 258, 259, 276, 277, 278, 279, 280, 281, 282, 283, 284, 285, 229, 230, 231, 286, 287, 288, 289, 290, 291, 292, 293, 294, 295, 225, 226, 227, 428, 700, 701, 702, 703, 704, 705, 706, 707, 708, 709, 742, 743, 744, 745, 746, 747, 736, 737, 738, 739, 740, 741] (by decide +kernel) (by decide +kernel)
set_option maxRecDepth 20000 in
theorem gL_law_X5_end : GoodIn wsL_law (wsV RL 64 RX5 yX5_end wsX5_end) := goodIn_app (goodIn_of _ (by decide +kernel)) ggL_law_X5_end
set_option maxRecDepth 20000 in
theorem ggL_law_X6_end : GoodIn wsL_law wsX6_end := goodIn_r _ [432, 433, 103, 104, 5, 105, 416, 417, 418, 419, 76, 434, 435, 436, 437, 310, 311, 312, 313, 86, 314, 315, 316, 306, 307, 308, 309, 210, 317, 318, 319, 320, 171, 172, 173, 321, 322, 323, 324, 74, 325, 326, 327, 328, 75, 710, 711, 712, 713, 714, 715, 716, 717, 718, 719, 720, 721, 722, 723, 724, 725, 726, 727, 728, 729, 730, 731, 732, 733] (by decide +kernel) (by decide +kernel)
set_option maxRecDepth 20000 in
theorem gL_law_X6_end : GoodIn wsL_law (wsV RL 67 RX6 yX6_end wsX6_end) := goodIn_app (goodIn_of _ (by decide +kernel)) ggL_law_X6_end
set_option maxRecDepth 20000 in
theorem ggL_law_X5_gives : GoodIn wsL_law wsX5_gives := goodIn_r _ [441, 25, 26, 220, 221, 222, 2, 223, 20, 190, 228, 229, 230, 24, 231, 198, 407, 253, 254, 255, 196, 199, 54, 55, 256, 257, 258, 259, 260, 261, 262, 263, 264, 265, 266, 267, 268, 269, 270, 271, 272, 273, 274, 56, 275, 276, 277, 278, 279, 280, 281, 282, 283, 284, 285, 286, 287, 288, 289, 290, 291, 292, 293, 294, 295, 225, 226, 227, 700, 701, 702, 703, 704, 705, 706, 707, 708, 709, 736, 737, 738, 739, 740, 741, 742, 743, 744, 745, 746, 747] (by decide +kernel) (by decide +kernel)
set_option maxRecDepth 20000 in
theorem gL_law_X5_gives : GoodIn wsL_law (wsV RL 68 RX5 yX5_gives wsX5_gives) := goodIn_app (goodIn_of _ (by decide +kernel)) ggL_law_X5_gives
set_option maxRecDepth 20000 in
theorem ggL_law_X6_gives : GoodIn wsL_law wsX6_gives := goodIn_r _ [445, 76, 236, 237, 238, 5, 239, 210, 103, 104, 105, 317, 318, 319, 320, 171, 172, 173, 416, 417, 418, 419, 306, 307, 308, 309, 310, 311, 312, 313, 86, 314, 315, 316, 321, 322, 323, 324, 74, 325, 326, 327, 328, 75, 710, 711, 712, 713, 714, 715, 716, 717, 718, 719, 720, 721, 722, 723, 724, 725, 726, 727, 728, 729, 730, 731, 732, 733] (by decide +kernel) (by decide +kernel)
set_option maxRecDepth 20000 in
theorem gL_law_X6_gives : GoodIn wsL_law (wsV RL 71 RX6 yX6_gives wsX6_gives) := goodIn_app (goodIn_of _ (by decide +kernel)) ggL_law_X6_gives
set_option maxRecDepth 20000 in
theorem ggL_law_X5_toFeed : GoodIn wsL_law wsX5_toFeed := goodIn_r _ [449, 450, 451, 2, 452, 453, 454, 455, 456, 25, 373, 296, 265, 266, 267, 268, 269, 270, 457, 458, 459, 460, 26, 407, 253, 254, 24, 255, 196, 198, 199, 54, 55, 341, 342, 343, 344, 345, 346, 283, 347, 348, 257, 258, 259, 260, 261, 262, 263, 264, 271, 272, 273, 274, 56, 275, 276, 277, 278, 279, 280, 281, 282, 284, 285, 229, 230, 231, 286, 287, 288, 289, 290, 291, 292, 293, 294, 295, 225, 226, 227, 424, 425, 426, 427, 428, 700, 701, 702, 703, 704, 705, 706, 707, 708, 709, 742, 743, 744, 745, 746, 747, 736, 737, 738, 739, 740, 741] (by decide +kernel) (by decide +kernel)
set_option maxRecDepth 20000 in
theorem gL_law_X5_toFeed : GoodIn wsL_law (wsV RL 72 RX5 yX5_toFeed wsX5_toFeed) := goodIn_app (goodIn_of _ (by decide +kernel)) ggL_law_X5_toFeed
set_option maxRecDepth 20000 in
theorem ggL_law_X6_toFeed : GoodIn wsL_law wsX6_toFeed := goodIn_r _ [464, 76, 210, 103, 104, 5, 105, 314, 315, 316, 416, 417, 418, 419, 171, 172, 173, 434, 435, 436, 437, 433, 310, 311, 312, 313, 86, 306, 307, 308, 309, 317, 318, 319, 320, 321, 322, 323, 324, 74, 325, 326, 327, 328, 75, 710, 711, 712, 713, 714, 715, 716, 717, 718, 719, 720, 721, 722, 723, 724, 725, 726, 727, 728, 729, 730, 731, 732, 733] (by decide +kernel) (by decide +kernel)
set_option maxRecDepth 20000 in
theorem gL_law_X6_toFeed : GoodIn wsL_law (wsV RL 75 RX6 yX6_toFeed wsX6_toFeed) := goodIn_app (goodIn_of _ (by decide +kernel)) ggL_law_X6_toFeed
set_option maxRecDepth 20000 in
theorem ggL_law_X5_strike : GoodIn wsL_law wsX5_strike := goodIn_r _ [468, 450, 451, 2, 452, 453, 454, 455, 456, 25, 373, 296, 265, 266, 267, 268, 269, 270, 457, 458, 459, 460, 26, 407, 253, 254, 24, 255, 196, 198, 199, 54, 55, 341, 342, 343, 344, 345, 346, 283, 347, 348, 257, 258, 259, 260, 261, 262, 263, 264, 271, 272, 273, 274, 56, 275, 276, 277, 278, 279, 280, 281, 282, 284, 285, 229, 230, 231, 286, 287, 288, 289, 290, 291, 292, 293, 294, 295, 225, 226, 227, 424, 425, 426, 427, 428, 700, 701, 702, 703, 704, 705, 706, 707, 708, 709, 742, 743, 744, 745, 746, 747, 736, 737, 738, 739, 740, 741] (by decide +kernel) (by decide +kernel)
set_option maxRecDepth 20000 in
theorem gL_law_X5_strike : GoodIn wsL_law (wsV RL 76 RX5 yX5_strike wsX5_strike) := goodIn_app (goodIn_of _ (by decide +kernel)) ggL_law_X5_strike
set_option maxRecDepth 20000 in
theorem ggL_law_X6_strike : GoodIn wsL_law wsX6_strike := goodIn_r _ [472, 76, 210, 103, 104, 5, 105, 314, 315, 316, 416, 417, 418, 419, 171, 172, 173, 378, 379, 380, 381, 434, 435, 436, 437, 433, 310, 311, 312, 313, 86, 306, 307, 308, 309, 317, 318, 319, 320, 321, 322, 323, 324, 74, 325, 326, 327, 328, 75, 710, 711, 712, 713, 714, 715, 716, 717, 718, 719, 720, 721, 722, 723, 724, 725, 726, 727, 728, 729, 730, 731, 732, 733] (by decide +kernel) (by decide +kernel)
set_option maxRecDepth 20000 in
theorem gL_law_X6_strike : GoodIn wsL_law (wsV RL 79 RX6 yX6_strike wsX6_strike) := goodIn_app (goodIn_of _ (by decide +kernel)) ggL_law_X6_strike
set_option maxRecDepth 20000 in
theorem ggL_law_X5_toMove : GoodIn wsL_law wsX5_toMove := goodIn_r _ [476, 450, 451, 2, 452, 477, 478, 479, 480, 481, 482, 483, 484, 25, 228, 229, 230, 24, 231, 198, 485, 486, 487, 488, 26, 407, 253, 254, 255, 196, 199, 54, 55, 341, 342, 343, 344, 345, 346, 283, 347, 348, 257, 258, 259, 260, 261, 262, 263, 264, 265, 266, 267, 268, 269, 270, 271, 272, 273, 274, 56, 275, 276, 277, 278, 279, 280, 281, 282, 284, 285, 286, 287, 288, 289, 290, 291, 292, 293, 294, 295, 225, 226, 227, 424, 425, 426, 427, 428, 489, 490, 491, 700, 701, 702, 703, 704, 705, 706, 707, 708, 709, 742, 743, 744, 745, 746, 747, 736, 737, 738, 739, 740, 741] (by decide +kernel) (by decide +kernel)
set_option maxRecDepth 20000 in
theorem gL_law_X5_toMove : GoodIn wsL_law (wsV RL 80 RX5 yX5_toMove wsX5_toMove) := goodIn_app (goodIn_of _ (by decide +kernel)) ggL_law_X5_toMove
set_option maxRecDepth 20000 in
theorem ggL_law_X6_toMove : GoodIn wsL_law wsX6_toMove := goodIn_r _ [495, 103, 104, 5, 105, 496, 497, 498, 499, 500, 501, 502, 76, 416, 417, 418, 419, 236, 237, 238, 239, 210, 353, 354, 355, 356, 317, 318, 319, 320, 171, 172, 173, 434, 435, 436, 437, 433, 310, 311, 312, 313, 86, 314, 315, 316, 306, 307, 308, 309, 321, 322, 323, 324, 74, 325, 326, 327, 328, 75, 710, 711, 712, 713, 714, 715, 716, 717, 718, 719, 720, 721, 722, 723, 724, 725, 726, 727, 728, 729, 730, 731, 732, 733] (by decide +kernel) (by decide +kernel)
set_option maxRecDepth 20000 in
theorem gL_law_X6_toMove : GoodIn wsL_law (wsV RL 84 RX6 yX6_toMove wsX6_toMove) := goodIn_app (goodIn_of _ (by decide +kernel)) ggL_law_X6_toMove
set_option maxRecDepth 20000 in
theorem ggL_law_X5_judge : GoodIn wsL_law wsX5_judge := goodIn_r _ [506, 507, 26, 25, 407, 253, 254, 24, 255, 196, 198, 199, 54, 55, 337, 338, 339, 340, 285, 229, 230, 231, 341, 342, 343, 344, 345, 346, 283, 347, 348, 257, 258, 259, 260, 261, 262, 263, 264, 265, 266, 267, 268, 269, 270, 271, 272, 273, 274, 56, 275, 276, 277, 278, 279, 280, 281, 282, 284, 286, 287, 288, 289, 290, 291, 292, 293, 294, 295, 225, 226, 227, 700, 701, 702, 703, 704, 705, 706, 707, 708, 709, 742, 743, 744, 745, 746, 747, 736, 737, 738, 739, 740, 741] (by decide +kernel) (by decide +kernel)
set_option maxRecDepth 20000 in
theorem gL_law_X5_judge : GoodIn wsL_law (wsV RL 85 RX5 yX5_judge wsX5_judge) := goodIn_app (goodIn_of _ (by decide +kernel)) ggL_law_X5_judge
set_option maxRecDepth 20000 in
theorem ggL_law_X6_judge : GoodIn wsL_law wsX6_judge := goodIn_r _ [511, 512, 103, 104, 5, 105, 496, 497, 498, 416, 417, 418, 419, 76, 513, 514, 515, 516, 306, 307, 308, 309, 210, 310, 311, 312, 313, 86, 314, 315, 316, 317, 318, 319, 320, 171, 172, 173, 321, 322, 323, 324, 74, 325, 326, 327, 328, 75, 236, 237, 238, 239, 353, 354, 355, 356, 365, 366, 367, 368, 378, 379, 380, 381, 710, 711, 712, 713, 714, 715, 716, 717, 718, 719, 720, 721, 722, 723, 724, 725, 726, 727, 728, 729, 730, 731, 732, 733] (by decide +kernel) (by decide +kernel)
set_option maxRecDepth 20000 in
theorem gL_law_X6_judge : GoodIn wsL_law (wsV RL 88 RX6 yX6_judge wsX6_judge) := goodIn_app (goodIn_of _ (by decide +kernel)) ggL_law_X6_judge
set_option maxRecDepth 20000 in
theorem ggL_law_X5_see : GoodIn wsL_law wsX5_see := goodIn_r _ [520, 37, 521, 220, 221, 222, 2, 223, 20, 190, 450, 451, 452, 522, 523, 524, 36, 525, 526, 67, 68, 69, 700, 701, 702, 703, 704, 705, 706, 707, 708, 709, 750, 751, 752, 753, 736, 737, 738, 739, 740, 741] (by decide +kernel) (by decide +kernel)
set_option maxRecDepth 20000 in
theorem gL_law_X5_see : GoodIn wsL_law (wsV RL 89 RX5 yX5_see wsX5_see) := goodIn_app (goodIn_of _ (by decide +kernel)) ggL_law_X5_see
set_option maxRecDepth 20000 in
theorem ggL_law_X6_see : GoodIn wsL_law wsX6_see := goodIn_r _ [530, 170, 531, 81, 82, 83, 236, 237, 238, 5, 239, 210, 103, 104, 105, 710, 711, 712, 713, 714, 715, 716, 717, 718, 719, 720, 721, 722, 723, 724, 725, 726, 727, 728, 729, 730, 731, 732, 733] (by decide +kernel) (by decide +kernel)
set_option maxRecDepth 20000 in
theorem gL_law_X6_see : GoodIn wsL_law (wsV RL 93 RX6 yX6_see wsX6_see) := goodIn_app (goodIn_of _ (by decide +kernel)) ggL_law_X6_see
