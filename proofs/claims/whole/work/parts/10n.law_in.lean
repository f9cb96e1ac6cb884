set_option maxRecDepth 20000 in
theorem hjl_wsL_law_r1 : GoodIn lw_tbl wsL_law_r1 := goodIn_r _ [55, 56, 46, 542, 543, 52, 866, 57, 58, 59, 60, 61, 62, 63, 64, 47, 182, 79, 80, 48, 183, 184, 114, 115] (by decide +kernel) (by decide +kernel)
set_option maxRecDepth 20000 in
theorem hjl_wsL_law_r2 : GoodIn lw_tbl wsL_law_r2 := goodIn_r _ [49, 185, 186, 144, 145, 50, 187, 188, 181, 189, 161, 162, 51, 190, 66, 67, 68, 78, 69, 82, 83, 84, 85, 87] (by decide +kernel) (by decide +kernel)
set_option maxRecDepth 20000 in
theorem hjl_wsL_law_r3 : GoodIn lw_tbl wsL_law_r3 := goodIn_r _ [90, 96, 116, 117, 118, 119, 121, 123, 120, 146, 147, 148, 149, 150, 153, 152, 164, 165, 166, 167, 168, 169, 544, 545] (by decide +kernel) (by decide +kernel)
set_option maxRecDepth 20000 in
theorem hjl_wsL_law_r4 : GoodIn lw_tbl wsL_law_r4 := goodIn_r _ [546, 547, 550, 551, 552, 553, 554, 557, 563, 566, 567, 568, 570, 571, 549, 213, 214, 215, 216, 71, 217, 218, 219, 220] (by decide +kernel) (by decide +kernel)
set_option maxRecDepth 20000 in
theorem hjl_wsL_law_r5 : GoodIn lw_tbl wsL_law_r5 := goodIn_r _ [70, 621, 622, 623, 624, 625, 558, 626, 627, 628, 221, 222, 223, 224, 629, 630, 631, 632, 225, 226, 227, 228, 229, 230] (by decide +kernel) (by decide +kernel)
set_option maxRecDepth 20000 in
theorem hjl_wsL_law_r6 : GoodIn lw_tbl wsL_law_r6 := goodIn_r _ [231, 232, 93, 100, 72, 233, 234, 235, 236, 237, 238, 239, 240, 241, 242, 243, 244, 245, 246, 248, 0, 249, 250, 252] (by decide +kernel) (by decide +kernel)
set_option maxRecDepth 20000 in
theorem hjl_wsL_law_r7 : GoodIn lw_tbl wsL_law_r7 := goodIn_r _ [1, 253, 254, 256, 2, 257, 258, 260, 3, 261, 633, 634, 635, 636, 637, 639, 20, 640, 559, 560, 555, 556, 641, 643] (by decide +kernel) (by decide +kernel)
set_option maxRecDepth 20000 in
theorem hjl_wsL_law_r8 : GoodIn lw_tbl wsL_law_r8 := goodIn_r _ [21, 644, 645, 646, 647, 648, 649, 651, 22, 652, 653, 655, 23, 656, 657, 659, 24, 660, 262, 263, 264, 265, 95, 266] (by decide +kernel) (by decide +kernel)
set_option maxRecDepth 20000 in
theorem hjl_wsL_law_r9 : GoodIn lw_tbl wsL_law_r9 := goodIn_r _ [267, 268, 269, 99, 125, 94, 127, 129, 86, 270, 271, 272, 273, 154, 661, 662, 663, 664, 548, 561, 274, 275, 276, 277] (by decide +kernel) (by decide +kernel)
set_option maxRecDepth 20000 in
theorem hjl_wsL_law_r10 : GoodIn lw_tbl wsL_law_r10 := goodIn_r _ [122, 88, 124, 91, 278, 280, 4, 281, 282, 283, 284, 285, 286, 287, 288, 289, 665, 666, 667, 668, 669, 671, 25, 672] (by decide +kernel) (by decide +kernel)
set_option maxRecDepth 20000 in
theorem hjl_wsL_law_r11 : GoodIn lw_tbl wsL_law_r11 := goodIn_r _ [290, 291, 292, 293, 294, 295, 296, 297, 298, 300, 5, 301, 302, 303, 304, 305, 306, 307, 308, 309, 310, 311, 312, 313] (by decide +kernel) (by decide +kernel)
set_option maxRecDepth 20000 in
theorem hjl_wsL_law_r12 : GoodIn lw_tbl wsL_law_r12 := goodIn_r _ [314, 315, 53, 316, 317, 318, 319, 320, 322, 6, 323, 97, 324, 326, 7, 327, 89, 333, 334, 54, 335, 328, 329, 331] (by decide +kernel) (by decide +kernel)
set_option maxRecDepth 20000 in
theorem hjl_wsL_law_r13 : GoodIn lw_tbl wsL_law_r13 := goodIn_r _ [8, 332, 336, 338, 9, 339, 92, 340, 341, 673, 674, 675, 676, 677, 679, 26, 680, 562, 681, 683, 27, 684, 685, 687] (by decide +kernel) (by decide +kernel)
set_option maxRecDepth 20000 in
theorem hjl_wsL_law_r14 : GoodIn lw_tbl wsL_law_r14 := goodIn_r _ [28, 688, 689, 690, 691, 692, 694, 29, 695, 696, 698, 30, 699, 700, 702, 31, 703, 342, 343, 344, 345, 346, 348, 10] (by decide +kernel) (by decide +kernel)
set_option maxRecDepth 20000 in
theorem hjl_wsL_law_r15 : GoodIn lw_tbl wsL_law_r15 := goodIn_r _ [349, 350, 351, 352, 353, 354, 355, 356, 357, 359, 360, 361, 358, 704, 705, 706, 707, 708, 710, 32, 711, 362, 363, 364] (by decide +kernel) (by decide +kernel)
set_option maxRecDepth 20000 in
theorem hjl_wsL_law_r16 : GoodIn lw_tbl wsL_law_r16 := goodIn_r _ [365, 712, 713, 714, 715, 716, 718, 33, 719, 366, 367, 368, 369, 128, 720, 721, 722, 723, 724, 726, 34, 727, 370, 371] (by decide +kernel) (by decide +kernel)
set_option maxRecDepth 20000 in
theorem hjl_wsL_law_r17 : GoodIn lw_tbl wsL_law_r17 := goodIn_r _ [372, 373, 728, 729, 730, 731, 374, 375, 376, 377, 155, 378, 379, 380, 381, 732, 733, 734, 735, 382, 383, 384, 385, 386] (by decide +kernel) (by decide +kernel)
set_option maxRecDepth 20000 in
theorem hjl_wsL_law_r18 : GoodIn lw_tbl wsL_law_r18 := goodIn_r _ [387, 388, 389, 390, 736, 737, 738, 739, 740, 742, 35, 743, 391, 392, 393, 394, 395, 396, 397, 398, 399, 744, 745, 746] (by decide +kernel) (by decide +kernel)
set_option maxRecDepth 20000 in
theorem hjl_wsL_law_r19 : GoodIn lw_tbl wsL_law_r19 := goodIn_r _ [747, 564, 748, 750, 36, 751, 400, 401, 402, 403, 752, 753, 754, 755, 404, 405, 406, 407, 408, 409, 410, 411, 413, 11] (by decide +kernel) (by decide +kernel)
set_option maxRecDepth 20000 in
theorem hjl_wsL_law_r20 : GoodIn lw_tbl wsL_law_r20 := goodIn_r _ [414, 415, 417, 12, 418, 756, 757, 758, 759, 419, 420, 421, 422, 760, 761, 762, 763, 423, 424, 425, 426, 427, 429, 13] (by decide +kernel) (by decide +kernel)
set_option maxRecDepth 20000 in
theorem hjl_wsL_law_r21 : GoodIn lw_tbl wsL_law_r21 := goodIn_r _ [430, 431, 433, 14, 434, 435, 437, 15, 438, 439, 440, 441, 764, 765, 766, 767, 768, 769, 770, 771, 773, 37, 774, 442] (by decide +kernel) (by decide +kernel)
set_option maxRecDepth 20000 in
theorem hjl_wsL_law_r22 : GoodIn lw_tbl wsL_law_r22 := goodIn_r _ [443, 444, 445, 446, 775, 776, 777, 778, 779, 780, 782, 38, 783, 448, 449, 450, 451, 171, 452, 453, 454, 455, 170, 784] (by decide +kernel) (by decide +kernel)
set_option maxRecDepth 20000 in
theorem hjl_wsL_law_r23 : GoodIn lw_tbl wsL_law_r23 := goodIn_r _ [785, 786, 787, 565, 456, 457, 458, 459, 788, 789, 790, 791, 460, 461, 462, 463, 464, 466, 16, 467, 126, 468, 469, 470] (by decide +kernel) (by decide +kernel)
set_option maxRecDepth 20000 in
theorem hjl_wsL_law_r24 : GoodIn lw_tbl wsL_law_r24 := goodIn_r _ [471, 472, 473, 792, 793, 794, 795, 796, 797, 799, 39, 800, 801, 803, 40, 804, 805, 807, 41, 808, 474, 475, 476, 477] (by decide +kernel) (by decide +kernel)
set_option maxRecDepth 20000 in
theorem hjl_wsL_law_r25 : GoodIn lw_tbl wsL_law_r25 := goodIn_r _ [478, 479, 480, 481, 482, 483, 484, 485, 486, 487, 489, 17, 490, 491, 492, 493, 494, 495, 496, 497, 809, 810, 811, 812] (by decide +kernel) (by decide +kernel)
set_option maxRecDepth 20000 in
theorem hjl_wsL_law_r26 : GoodIn lw_tbl wsL_law_r26 := goodIn_r _ [813, 814, 815, 816, 818, 42, 819, 820, 821, 822, 499, 500, 501, 502, 503, 505, 18, 506, 507, 509, 19, 510, 511, 823] (by decide +kernel) (by decide +kernel)
set_option maxRecDepth 20000 in
theorem hjl_wsL_law_r27 : GoodIn lw_tbl wsL_law_r27 := goodIn_r _ [824, 825, 826, 827, 829, 43, 830, 831, 833, 44, 834, 512, 513, 514, 515, 516, 517, 518, 835, 836, 837, 838, 839, 840] (by decide +kernel) (by decide +kernel)
set_option maxRecDepth 20000 in
theorem hjl_wsL_law_r28 : GoodIn lw_tbl wsL_law_r28 := goodIn_r _ [841, 842, 519, 520, 521, 522, 191, 843, 844, 845, 846, 569, 523, 524, 525, 526, 527, 528, 529, 847, 848, 849, 850, 851] (by decide +kernel) (by decide +kernel)
set_option maxRecDepth 20000 in
theorem hjl_wsL_law_r29 : GoodIn lw_tbl wsL_law_r29 := goodIn_r _ [852, 853, 530, 531, 532, 533, 130, 854, 855, 856, 857, 534, 535, 536, 537, 858, 859, 860, 861, 538, 539, 540, 541, 98] (by decide +kernel) (by decide +kernel)
set_option maxRecDepth 20000 in
theorem hjl_wsL_law_r30 : GoodIn lw_tbl wsL_law_r30 := goodIn_r _ [862, 863, 864, 865] (by decide +kernel) (by decide +kernel)
set_option maxRecDepth 20000 in
theorem hjl_wsX50 : GoodIn lw_tbl wsX50 := goodIn_r _ [192, 194, 196, 198, 200, 202, 204, 206, 208, 210] (by decide +kernel) (by decide +kernel)
set_option maxRecDepth 20000 in
theorem hjl_wsX60 : GoodIn lw_tbl wsX60 := goodIn_r _ [572, 574, 576, 578, 580, 582, 584, 586, 588, 590, 592, 594, 596, 598, 600, 602, 604, 606, 608, 610, 612, 614, 616, 618] (by decide +kernel) (by decide +kernel)
set_option maxRecDepth 20000 in
theorem hjl_wsX40 : GoodIn lw_tbl wsX40 := goodIn_r _ [73, 75] (by decide +kernel) (by decide +kernel)
set_option maxRecDepth 20000 in
theorem hjl_wsX10 : GoodIn lw_tbl wsX10 := goodIn_r _ [101, 103, 105, 107, 109, 111] (by decide +kernel) (by decide +kernel)
set_option maxRecDepth 20000 in
theorem hjl_wsX20 : GoodIn lw_tbl wsX20 := goodIn_r _ [131, 133, 135, 137, 139, 141] (by decide +kernel) (by decide +kernel)
set_option maxRecDepth 20000 in
theorem hjl_wsX00 : GoodIn lw_tbl wsX00 := goodIn_r _ [156, 158] (by decide +kernel) (by decide +kernel)
set_option maxRecDepth 20000 in
theorem hjl_wsX30 : GoodIn lw_tbl wsX30 := goodIn_r _ [172, 174, 176, 178] (by decide +kernel) (by decide +kernel)
theorem hjl_law : GoodIn lw_tbl wsL_law := (goodIn_app (goodIn_app (goodIn_app (goodIn_app (goodIn_app (goodIn_app (goodIn_app (goodIn_app (goodIn_app hjl_wsL_law_r1 (goodIn_app hjl_wsL_law_r2 (goodIn_app hjl_wsL_law_r3 (goodIn_app hjl_wsL_law_r4 (goodIn_app hjl_wsL_law_r5 (goodIn_app hjl_wsL_law_r6 (goodIn_app hjl_wsL_law_r7 (goodIn_app hjl_wsL_law_r8 (goodIn_app hjl_wsL_law_r9 (goodIn_app hjl_wsL_law_r10 (goodIn_app hjl_wsL_law_r11 (goodIn_app hjl_wsL_law_r12 (goodIn_app hjl_wsL_law_r13 (goodIn_app hjl_wsL_law_r14 (goodIn_app hjl_wsL_law_r15 (goodIn_app hjl_wsL_law_r16 (goodIn_app hjl_wsL_law_r17 (goodIn_app hjl_wsL_law_r18 (goodIn_app hjl_wsL_law_r19 (goodIn_app hjl_wsL_law_r20 (goodIn_app hjl_wsL_law_r21 (goodIn_app hjl_wsL_law_r22 (goodIn_app hjl_wsL_law_r23 (goodIn_app hjl_wsL_law_r24 (goodIn_app hjl_wsL_law_r25 (goodIn_app hjl_wsL_law_r26 (goodIn_app hjl_wsL_law_r27 (goodIn_app hjl_wsL_law_r28 (goodIn_app hjl_wsL_law_r29 hjl_wsL_law_r30))))))))))))))))))))))))))))) hjl_wsX50) hjl_wsX60) hjl_wsX40) hjl_wsX10) hjl_wsX20) hjl_wsX00) hjl_wsX30) (fun w h => absurd h List.not_mem_nil))
theorem wsL_law_in : ∀ w ∈ wsL_law, w ∈ lw_tbl := fun w h => (hjl_law w h).1
theorem inX0 : ∀ w ∈ wsX00, w ∈ lw_tbl := fun w h => wsL_law_in w (inlX0 w h)
theorem inX1 : ∀ w ∈ wsX10, w ∈ lw_tbl := fun w h => wsL_law_in w (inlX1 w h)
theorem inX2 : ∀ w ∈ wsX20, w ∈ lw_tbl := fun w h => wsL_law_in w (inlX2 w h)
theorem inX3 : ∀ w ∈ wsX30, w ∈ lw_tbl := fun w h => wsL_law_in w (inlX3 w h)
theorem inX4 : ∀ w ∈ wsX40, w ∈ lw_tbl := fun w h => wsL_law_in w (inlX4 w h)
theorem inX5 : ∀ w ∈ wsX50, w ∈ lw_tbl := fun w h => wsL_law_in w (inlX5 w h)
theorem inX6 : ∀ w ∈ wsX60, w ∈ lw_tbl := fun w h => wsL_law_in w (inlX6 w h)
