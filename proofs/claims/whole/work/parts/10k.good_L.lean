/-! the law's words, decoded: 0 -/
set_option maxRecDepth 20000 in
theorem ggL_law_X5_init : GoodIn wsL_law wsX5_init := goodIn_r _ [9, 10, 11, 12, 13, 14, 15, 16, 17, 18, 19, 20, 21, 22, 23, 24, 25, 26, 27, 28, 29, 30, 31, 32, 33, 34, 35, 36, 37, 38, 39, 40, 41, 42, 43, 44, 45, 46, 47, 48, 49, 50, 51, 52, 53, 54, 55, 56, 57, 58, 59, 60, 61, 62, 63, 64, 65, 66, 67, 68, 69, 734, 735, 700, 701, 702, 703, 704, 705, 706, 707, 708, 709, 736, 737, 738, 739, 740, 741, 742, 743, 744, 745, 746, 747, 748, 749, 750, 751, 752, 753] (by decide +kernel) (by decide +kernel)
set_option maxRecDepth 20000 in
theorem gL_law_X5_init : GoodIn wsL_law (wsX5_init) := ggL_law_X5_init
set_option maxRecDepth 20000 in
theorem ggL_law_X6_init : GoodIn wsL_law wsX6_init := goodIn_r _ [72, 73, 11, 12, 41, 74, 75, 76, 77, 78, 79, 80, 81, 82, 83, 32, 84, 85, 86, 710, 711, 712, 713, 714, 715, 716, 717, 718, 719, 720, 721, 722, 723, 724, 725, 726, 727, 728, 729, 730, 731, 732, 733] (by decide +kernel) (by decide +kernel)
set_option maxRecDepth 20000 in
theorem gL_law_X6_init : GoodIn wsL_law (wsX6_init) := ggL_law_X6_init
set_option maxRecDepth 20000 in
theorem ggL_law_X5_write : GoodIn wsL_law wsX5_write := goodIn_r _ [90, 16, 91, 92, 93, 94, 15, 95, 96, 42, 700, 701, 702, 703, 704, 705, 706, 707, 708, 709, 734, 735] (by decide +kernel) (by decide +kernel)
set_option maxRecDepth 20000 in
theorem gL_law_X5_write : GoodIn wsL_law (wsV RL 13 RX5 yX5_write wsX5_write) := goodIn_app (goodIn_of _ (by decide +kernel)) ggL_law_X5_write
set_option maxRecDepth 20000 in
theorem ggL_law_X6_write : GoodIn wsL_law wsX6_write := goodIn_r _ [100, 101, 102, 79, 103, 104, 5, 105, 710, 711, 712, 713, 714, 715, 716, 717, 718, 719, 720, 721, 722, 723, 724, 725, 726, 727, 728, 729, 730, 731, 732, 733] (by decide +kernel) (by decide +kernel)
set_option maxRecDepth 20000 in
theorem gL_law_X6_write : GoodIn wsL_law (wsV RL 17 RX6 yX6_write wsX6_write) := goodIn_app (goodIn_of _ (by decide +kernel)) ggL_law_X6_write
set_option maxRecDepth 20000 in
theorem ggL_law_X5_wipe : GoodIn wsL_law wsX5_wipe := goodIn_r _ [109, 16, 91, 700, 701, 702, 703, 704, 705, 706, 707, 708, 709, 734, 735] (by decide +kernel) (by decide +kernel)
set_option maxRecDepth 20000 in
theorem gL_law_X5_wipe : GoodIn wsL_law (wsV RL 18 RX5 yX5_wipe wsX5_wipe) := goodIn_app (goodIn_of _ (by decide +kernel)) ggL_law_X5_wipe
set_option maxRecDepth 20000 in
theorem ggL_law_X6_wipe : GoodIn wsL_law wsX6_wipe := goodIn_r _ [113, 102, 710, 711, 712, 713, 714, 715, 716, 717, 718, 719, 720, 721, 722, 723, 724, 725, 726, 727, 728, 729, 730, 731, 732, 733] (by decide +kernel) (by decide +kernel)
set_option maxRecDepth 20000 in
theorem gL_law_X6_wipe : GoodIn wsL_law (wsV RL 22 RX6 yX6_wipe wsX6_wipe) := goodIn_app (goodIn_of _ (by decide +kernel)) ggL_law_X6_wipe
set_option maxRecDepth 20000 in
theorem ggL_law_X5_fault : GoodIn wsL_law wsX5_fault := goodIn_r _ [117, 21, 16, 118, 119, 120, 19, 121, 122, 123, 49, 124, 125, 126, 127, 15, 128, 96, 42, 129, 130, 131, 132, 133, 134, 135, 136, 137, 138, 139, 140, 141, 46, 47, 48, 142, 143, 144, 145, 146, 147, 148, 149, 150, 151, 152, 153, 700, 701, 702, 703, 704, 705, 706, 707, 708, 709, 736, 737, 738, 739, 740, 741, 734, 735] (by decide +kernel) (by decide +kernel)
set_option maxRecDepth 20000 in
theorem gL_law_X5_fault : GoodIn wsL_law (wsV RL 23 RX5 yX5_fault wsX5_fault) := goodIn_app (goodIn_of _ (by decide +kernel)) ggL_law_X5_fault
set_option maxRecDepth 20000 in
theorem ggL_law_X6_fault : GoodIn wsL_law wsX6_fault := goodIn_r _ [157, 158, 159, 160, 5, 161, 162, 163, 164, 78, 102, 79, 165, 166, 167, 168, 169, 170, 103, 104, 105, 171, 172, 173, 174, 175, 176, 177, 77, 178, 179, 180, 181, 182, 183, 184, 185, 710, 711, 712, 713, 714, 715, 716, 717, 718, 719, 720, 721, 722, 723, 724, 725, 726, 727, 728, 729, 730, 731, 732, 733] (by decide +kernel) (by decide +kernel)
set_option maxRecDepth 20000 in
theorem gL_law_X6_fault : GoodIn wsL_law (wsV RL 26 RX6 yX6_fault wsX6_fault) := goodIn_app (goodIn_of _ (by decide +kernel)) ggL_law_X6_fault
set_option maxRecDepth 20000 in
theorem ggL_law_X5_jury : GoodIn wsL_law wsX5_jury := goodIn_r _ [189, 21, 16, 20, 25, 30, 33, 190, 118, 119, 120, 19, 121, 122, 123, 49, 124, 125, 126, 127, 15, 128, 96, 42, 129, 130, 131, 132, 133, 134, 135, 136, 137, 138, 139, 140, 141, 46, 47, 48, 142, 143, 144, 145, 146, 147, 148, 149, 150, 151, 152, 153, 191, 192, 193, 24, 194, 56, 195, 196, 197, 198, 199, 54, 200, 55, 201, 202, 203, 29, 204, 205, 700, 701, 702, 703, 704, 705, 706, 707, 708, 709, 736, 737, 738, 739, 740, 741, 734, 735, 742, 743, 744, 745, 746, 747, 748, 749] (by decide +kernel) (by decide +kernel)
set_option maxRecDepth 20000 in
theorem gL_law_X5_jury : GoodIn wsL_law (wsV RL 27 RX5 yX5_jury wsX5_jury) := goodIn_app (goodIn_of _ (by decide +kernel)) ggL_law_X5_jury
set_option maxRecDepth 20000 in
theorem ggL_law_X6_jury : GoodIn wsL_law wsX6_jury := goodIn_r _ [209, 164, 210, 165, 86, 76, 77, 74, 75, 78, 211, 84, 158, 159, 160, 5, 161, 162, 163, 102, 79, 166, 167, 168, 169, 170, 103, 104, 105, 171, 172, 173, 174, 175, 176, 177, 178, 179, 180, 181, 182, 183, 184, 185, 710, 711, 712, 713, 714, 715, 716, 717, 718, 719, 720, 721, 722, 723, 724, 725, 726, 727, 728, 729, 730, 731, 732, 733] (by decide +kernel) (by decide +kernel)
set_option maxRecDepth 20000 in
theorem gL_law_X6_jury : GoodIn wsL_law (wsV RL 30 RX6 yX6_jury wsX6_jury) := goodIn_app (goodIn_of _ (by decide +kernel)) ggL_law_X6_jury
set_option maxRecDepth 20000 in
theorem ggL_law_X5_juror : GoodIn wsL_law wsX5_juror := goodIn_r _ [215, 25, 216, 20, 217, 218, 219, 220, 221, 222, 2, 223, 190, 224, 225, 226, 24, 227, 196, 228, 229, 230, 231, 198, 700, 701, 702, 703, 704, 705, 706, 707, 708, 709, 742, 743, 744, 745, 746, 747, 736, 737, 738, 739, 740, 741] (by decide +kernel) (by decide +kernel)
set_option maxRecDepth 20000 in
theorem gL_law_X5_juror : GoodIn wsL_law (wsV RL 31 RX5 yX5_juror wsX5_juror) := goodIn_app (goodIn_of _ (by decide +kernel)) ggL_law_X5_juror
set_option maxRecDepth 20000 in
theorem ggL_law_X6_juror : GoodIn wsL_law wsX6_juror := goodIn_r _ [235, 76, 74, 75, 236, 237, 238, 5, 239, 210, 103, 104, 105, 710, 711, 712, 713, 714, 715, 716, 717, 718, 719, 720, 721, 722, 723, 724, 725, 726, 727, 728, 729, 730, 731, 732, 733] (by decide +kernel) (by decide +kernel)
set_option maxRecDepth 20000 in
theorem gL_law_X6_juror : GoodIn wsL_law (wsV RL 35 RX6 yX6_juror wsX6_juror) := goodIn_app (goodIn_of _ (by decide +kernel)) ggL_law_X6_juror
set_option maxRecDepth 20000 in
theorem ggL_law_X5_hour : GoodIn wsL_law wsX5_hour := goodIn_r _ [243, 30, 25, 244, 245, 246, 29, 247, 205, 62, 248, 249, 250, 251, 252, 253, 254, 24, 255, 196, 198, 199, 54, 55, 256, 257, 258, 259, 260, 261, 262, 263, 264, 265, 266, 267, 268, 269, 270, 271, 272, 273, 274, 56, 275, 276, 277, 278, 279, 280, 281, 282, 283, 284, 285, 229, 230, 231, 286, 287, 288, 289, 290, 291, 292, 293, 294, 295, 225, 226, 227, 296, 700, 701, 702, 703, 704, 705, 706, 707, 708, 709, 748, 749, 742, 743, 744, 745, 746, 747, 736, 737, 738, 739, 740, 741] (by decide +kernel) (by decide +kernel)
set_option maxRecDepth 20000 in
theorem gL_law_X5_hour : GoodIn wsL_law (wsV RL 36 RX5 yX5_hour wsX5_hour) := goodIn_app (goodIn_of _ (by decide +kernel)) ggL_law_X5_hour
set_option maxRecDepth 20000 in
theorem ggL_law_X6_hour : GoodIn wsL_law wsX6_hour := goodIn_r _ [300, 301, 302, 303, 5, 304, 80, 305, 76, 211, 306, 307, 308, 309, 210, 310, 311, 312, 313, 86, 314, 315, 316, 317, 318, 319, 320, 171, 172, 173, 321, 322, 323, 324, 74, 325, 326, 327, 328, 75, 710, 711, 712, 713, 714, 715, 716, 717, 718, 719, 720, 721, 722, 723, 724, 725, 726, 727, 728, 729, 730, 731, 732, 733] (by decide +kernel) (by decide +kernel)
set_option maxRecDepth 20000 in
theorem gL_law_X6_hour : GoodIn wsL_law (wsV RL 39 RX6 yX6_hour wsX6_hour) := goodIn_app (goodIn_of _ (by decide +kernel)) ggL_law_X6_hour
set_option maxRecDepth 20000 in
theorem ggL_law_X5_argue : GoodIn wsL_law wsX5_argue := goodIn_r _ [332, 25, 216, 333, 334, 335, 2, 336, 30, 220, 221, 222, 223, 20, 190, 337, 338, 339, 24, 340, 54, 55, 285, 229, 230, 231, 198, 244, 245, 246, 29, 247, 205, 62, 248, 249, 250, 251, 252, 253, 254, 255, 196, 199, 341, 342, 343, 344, 345, 346, 283, 347, 348, 257, 258, 259, 260, 261, 262, 263, 264, 265, 266, 267, 268, 269, 270, 271, 272, 273, 274, 56, 275, 276, 277, 278, 279, 280, 281, 282, 284, 286, 287, 288, 289, 290, 291, 292, 293, 294, 295, 225, 226, 227, 700, 701, 702, 703, 704, 705, 706, 707, 708, 709, 742, 743, 744, 745, 746, 747, 736, 737, 738, 739, 740, 741, 748, 749] (by decide +kernel) (by decide +kernel)
set_option maxRecDepth 20000 in
theorem gL_law_X5_argue : GoodIn wsL_law (wsV RL 40 RX5 yX5_argue wsX5_argue) := goodIn_app (goodIn_of _ (by decide +kernel)) ggL_law_X5_argue
set_option maxRecDepth 20000 in
theorem ggL_law_X6_argue : GoodIn wsL_law wsX6_argue := goodIn_r _ [352, 76, 236, 237, 238, 5, 239, 210, 103, 104, 105, 353, 354, 355, 356, 317, 318, 319, 320, 171, 172, 173, 301, 302, 303, 304, 80, 305, 211, 710, 711, 712, 713, 714, 715, 716, 717, 718, 719, 720, 721, 722, 723, 724, 725, 726, 727, 728, 729, 730, 731, 732, 733] (by decide +kernel) (by decide +kernel)
set_option maxRecDepth 20000 in
theorem gL_law_X6_argue : GoodIn wsL_law (wsV RL 43 RX6 yX6_argue wsX6_argue) := goodIn_app (goodIn_of _ (by decide +kernel)) ggL_law_X6_argue
set_option maxRecDepth 20000 in
theorem ggL_law_X5_feed : GoodIn wsL_law wsX5_feed := goodIn_r _ [360, 25, 218, 220, 221, 222, 2, 223, 20, 190, 333, 334, 335, 336, 30, 337, 338, 339, 24, 340, 54, 55, 285, 229, 230, 231, 198, 244, 245, 246, 29, 247, 205, 62, 248, 249, 250, 251, 252, 253, 254, 255, 196, 199, 341, 342, 343, 344, 345, 346, 283, 347, 348, 257, 258, 259, 260, 261, 262, 263, 264, 265, 266, 267, 268, 269, 270, 271, 272, 273, 274, 56, 275, 276, 277, 278, 279, 280, 281, 282, 284, 286, 287, 288, 289, 290, 291, 292, 293, 294, 295, 225, 226, 227, 700, 701, 702, 703, 704, 705, 706, 707, 708, 709, 742, 743, 744, 745, 746, 747, 736, 737, 738, 739, 740, 741, 748, 749] (by decide +kernel) (by decide +kernel)
set_option maxRecDepth 20000 in
theorem gL_law_X5_feed : GoodIn wsL_law (wsV RL 44 RX5 yX5_feed wsX5_feed) := goodIn_app (goodIn_of _ (by decide +kernel)) ggL_law_X5_feed
set_option maxRecDepth 20000 in
theorem ggL_law_X6_feed : GoodIn wsL_law wsX6_feed := goodIn_r _ [364, 76, 236, 237, 238, 5, 239, 210, 103, 104, 105, 365, 366, 367, 368, 317, 318, 319, 320, 171, 172, 173, 301, 302, 303, 304, 80, 305, 211, 710, 711, 712, 713, 714, 715, 716, 717, 718, 719, 720, 721, 722, 723, 724, 725, 726, 727, 728, 729, 730, 731, 732, 733] (by decide +kernel) (by decide +kernel)
set_option maxRecDepth 20000 in
theorem gL_law_X6_feed : GoodIn wsL_law (wsV RL 47 RX6 yX6_feed wsX6_feed) := goodIn_app (goodIn_of _ (by decide +kernel)) ggL_law_X6_feed
set_option maxRecDepth 20000 in
theorem ggL_law_X5_die : GoodIn wsL_law wsX5_die := goodIn_r _ [372, 25, 373, 333, 334, 335, 2, 336, 30, 220, 221, 222, 223, 20, 190, 337, 338, 339, 24, 340, 54, 55, 285, 229, 230, 231, 198, 244, 245, 246, 29, 247, 205, 62, 248, 249, 250, 251, 252, 253, 254, 255, 196, 199, 341, 342, 343, 344, 345, 346, 283, 347, 348, 257, 258, 259, 260, 261, 262, 263, 264, 265, 266, 267, 268, 269, 270, 271, 272, 273, 274, 56, 275, 276, 277, 278, 279, 280, 281, 282, 284, 286, 287, 288, 289, 290, 291, 292, 293, 294, 295, 225, 226, 227, 296, 700, 701, 702, 703, 704, 705, 706, 707, 708, 709, 742, 743, 744, 745, 746, 747, 736, 737, 738, 739, 740, 741, 748, 749] (by decide +kernel) (by decide +kernel)
set_option maxRecDepth 20000 in
theorem gL_law_X5_die : GoodIn wsL_law (wsV RL 48 RX5 yX5_die wsX5_die) := goodIn_app (goodIn_of _ (by decide +kernel)) ggL_law_X5_die
set_option maxRecDepth 20000 in
theorem ggL_law_X6_die : GoodIn wsL_law wsX6_die := goodIn_r _ [377, 76, 236, 237, 238, 5, 239, 210, 103, 104, 105, 317, 318, 319, 320, 171, 172, 173, 301, 302, 303, 304, 80, 305, 211, 378, 379, 380, 381, 314, 315, 316, 710, 711, 712, 713, 714, 715, 716, 717, 718, 719, 720, 721, 722, 723, 724, 725, 726, 727, 728, 729, 730, 731, 732, 733] (by decide +kernel) (by decide +kernel)
set_option maxRecDepth 20000 in
theorem gL_law_X6_die : GoodIn wsL_law (wsV RL 51 RX6 yX6_die wsX6_die) := goodIn_app (goodIn_of _ (by decide +kernel)) ggL_law_X6_die
