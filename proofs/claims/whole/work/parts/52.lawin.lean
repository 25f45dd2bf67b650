theorem pr_byp {big : List Cond} (ws : List Cond) (ps : List Nat) (hp : ws = ps.filterMap (fun i => big[i]?)) : ∀ w ∈ ws, w ∈ big := by
  intro w hw
  rw [hp] at hw
  obtain ⟨i, -, hi⟩ := List.mem_filterMap.mp hw
  exact List.mem_of_getElem? hi
set_option maxRecDepth 100000 in
theorem pr_t1 : ∀ w ∈ wsL_law_r1, w ∈ lw_tbl := pr_byp _ [41, 42, 29, 578, 579, 35, 43, 44, 45, 46, 47, 48, 49, 50, 30, 171, 68, 172, 69, 173, 71, 174, 73, 175] (by decide +kernel)
set_option maxRecDepth 100000 in
theorem pr_t2 : ∀ w ∈ wsL_law_r2, w ∈ lw_tbl := pr_byp _ [75, 76, 31, 176, 102, 103, 32, 177, 115, 116, 33, 178, 155, 34, 180, 187, 51, 52, 53, 54, 55, 56, 57, 77] (by decide +kernel)
set_option maxRecDepth 100000 in
theorem pr_t3 : ∀ w ∈ wsL_law_r3, w ∈ lw_tbl := pr_byp _ [78, 79, 80, 81, 82, 83, 84, 101, 85, 104, 105, 106, 107, 108, 109, 117, 118, 119, 120, 121, 122, 123, 125, 127] (by decide +kernel)
set_option maxRecDepth 100000 in
theorem pr_t4 : ∀ w ∈ wsL_law_r4, w ∈ lw_tbl := pr_byp _ [129, 156, 157, 158, 159, 160, 162, 580, 581, 582, 583, 587, 588, 589, 591, 592, 593, 594, 595, 596, 597, 598, 600, 601] (by decide +kernel)
set_option maxRecDepth 100000 in
theorem pr_t5 : ∀ w ∈ wsL_law_r5, w ∈ lw_tbl := pr_byp _ [602, 603, 604, 605, 584, 606, 607, 608, 609, 610, 612, 613, 614, 615, 616, 617, 619, 623, 624, 625, 223, 224, 225, 226] (by decide +kernel)
set_option maxRecDepth 100000 in
theorem pr_t6 : ∀ w ∈ wsL_law_r6, w ∈ lw_tbl := pr_byp _ [227, 228, 229, 230, 231, 232, 233, 58, 713, 714, 715, 716, 590, 717, 718, 719, 234, 235, 236, 237, 720, 721, 722, 723] (by decide +kernel)
set_option maxRecDepth 100000 in
theorem pr_t7 : ∀ w ∈ wsL_law_r7, w ∈ lw_tbl := pr_byp _ [238, 239, 240, 241, 724, 725, 726, 727, 242, 243, 244, 245, 181, 246, 36, 247, 248, 249, 250, 251, 252, 728, 729, 730] (by decide +kernel)
set_option maxRecDepth 100000 in
theorem pr_t8 : ∀ w ∈ wsL_law_r8, w ∈ lw_tbl := pr_byp _ [731, 599, 261, 262, 263, 264, 182, 179, 276, 37, 186, 253, 265, 267, 0, 268, 269, 270, 271, 272, 273, 274, 275, 277] (by decide +kernel)
set_option maxRecDepth 100000 in
theorem pr_t9 : ∀ w ∈ wsL_law_r9, w ∈ lw_tbl := pr_byp _ [278, 279, 280, 309, 311, 313, 315, 281, 317, 283, 38, 321, 319, 325, 284, 285, 286, 287, 288, 292, 294, 296, 732, 733] (by decide +kernel)
set_option maxRecDepth 100000 in
theorem pr_t10 : ∀ w ∈ wsL_law_r10, w ∈ lw_tbl := pr_byp _ [734, 735, 740, 611, 586, 622, 736, 738, 14, 739, 741, 743, 15, 744, 348, 349, 350, 351, 352, 353, 39, 354, 745, 746] (by decide +kernel)
set_option maxRecDepth 100000 in
theorem pr_t11 : ∀ w ∈ wsL_law_r11, w ∈ lw_tbl := pr_byp _ [747, 748, 749, 355, 356, 357, 358, 359, 360, 361, 362, 363, 364, 750, 751, 752, 753, 754, 755, 756, 757, 365, 366, 367] (by decide +kernel)
set_option maxRecDepth 100000 in
theorem pr_t12 : ∀ w ∈ wsL_law_r12, w ∈ lw_tbl := pr_byp _ [368, 310, 323, 369, 371, 1, 372, 373, 374, 375, 376, 377, 379, 2, 380, 381, 382, 383, 384, 385, 386, 387, 388, 86] (by decide +kernel)
set_option maxRecDepth 100000 in
theorem pr_t13 : ∀ w ∈ wsL_law_r13, w ∈ lw_tbl := pr_byp _ [389, 390, 391, 392, 393, 394, 395, 396, 758, 759, 760, 761, 618, 762, 764, 16, 765, 766, 768, 17, 769, 770, 772, 18] (by decide +kernel)
set_option maxRecDepth 100000 in
theorem pr_t14 : ∀ w ∈ wsL_law_r14, w ∈ lw_tbl := pr_byp _ [773, 774, 776, 19, 777, 397, 398, 399, 400, 401, 402, 403, 404, 405, 406, 407, 408, 778, 779, 780, 781, 782, 784, 20] (by decide +kernel)
set_option maxRecDepth 100000 in
theorem pr_t15 : ∀ w ∈ wsL_law_r15, w ∈ lw_tbl := pr_byp _ [785, 409, 410, 411, 412, 413, 415, 3, 416, 312, 417, 419, 4, 420, 318, 421, 423, 5, 424, 425, 426, 427, 428, 290] (by decide +kernel)
set_option maxRecDepth 100000 in
theorem pr_t16 : ∀ w ∈ wsL_law_r16, w ∈ lw_tbl := pr_byp _ [429, 430, 431, 432, 433, 434, 435, 436, 163, 437, 438, 439, 440, 442, 444, 6, 445, 291, 293, 295, 184, 324, 322, 446] (by decide +kernel)
set_option maxRecDepth 100000 in
theorem pr_t17 : ∀ w ∈ wsL_law_r17, w ∈ lw_tbl := pr_byp _ [447, 448, 449, 450, 451, 452, 453, 454, 455, 456, 457, 458, 459, 461, 7, 462, 320, 183, 314, 786, 787, 788, 789, 620] (by decide +kernel)
set_option maxRecDepth 100000 in
theorem pr_t18 : ∀ w ∈ wsL_law_r18, w ∈ lw_tbl := pr_byp _ [790, 792, 21, 793, 794, 796, 22, 797, 798, 800, 23, 801, 802, 804, 24, 805, 463, 464, 465, 466, 185, 806, 807, 808] (by decide +kernel)
set_option maxRecDepth 100000 in
theorem pr_t19 : ∀ w ∈ wsL_law_r19, w ∈ lw_tbl := pr_byp _ [809, 621, 467, 468, 469, 470, 471, 473, 8, 474, 316, 131, 133, 475, 476, 477, 478, 130, 132, 134, 479, 480, 481, 482] (by decide +kernel)
set_option maxRecDepth 100000 in
theorem pr_t20 : ∀ w ∈ wsL_law_r20, w ∈ lw_tbl := pr_byp _ [483, 484, 486, 9, 487, 488, 489, 490, 491, 492, 493, 494, 135, 126, 124, 128, 495, 496, 497, 498, 499, 500, 501, 502] (by decide +kernel)
set_option maxRecDepth 100000 in
theorem pr_t21 : ∀ w ∈ wsL_law_r21, w ∈ lw_tbl := pr_byp _ [503, 504, 505, 506, 810, 811, 812, 813, 626, 814, 816, 25, 817, 627, 818, 820, 26, 821, 507, 508, 509, 510, 822, 823] (by decide +kernel)
set_option maxRecDepth 100000 in
theorem pr_t22 : ∀ w ∈ wsL_law_r22, w ∈ lw_tbl := pr_byp _ [824, 825, 511, 512, 513, 514, 515, 326, 826, 827, 828, 829, 830, 516, 517, 518, 519, 520, 522, 10, 523, 524, 526, 11] (by decide +kernel)
set_option maxRecDepth 100000 in
theorem pr_t23 : ∀ w ∈ wsL_law_r23, w ∈ lw_tbl := pr_byp _ [527, 528, 529, 40, 530, 531, 532, 533, 831, 832, 833, 834, 835, 837, 27, 838, 534, 535, 536, 537, 839, 840, 841, 842] (by decide +kernel)
set_option maxRecDepth 100000 in
theorem pr_t24 : ∀ w ∈ wsL_law_r24, w ∈ lw_tbl := pr_byp _ [843, 538, 539, 540, 541, 161, 844, 845, 846, 847, 542, 543, 544, 545, 848, 849, 850, 851, 546, 547, 548, 549, 297, 852] (by decide +kernel)
set_option maxRecDepth 100000 in
theorem pr_t25 : ∀ w ∈ wsL_law_r25, w ∈ lw_tbl := pr_byp _ [853, 854, 855, 550, 551, 552, 553, 554, 556, 12, 557, 558, 560, 13, 561, 856, 857, 858, 859, 860, 861, 862, 562, 563] (by decide +kernel)
set_option maxRecDepth 100000 in
theorem pr_t26 : ∀ w ∈ wsL_law_r26, w ∈ lw_tbl := pr_byp _ [564, 565, 863, 864, 865, 866, 566, 567, 568, 569, 289, 867, 868, 869, 870, 570, 571, 572, 573, 871, 872, 873, 874, 574] (by decide +kernel)
set_option maxRecDepth 100000 in
theorem pr_t27 : ∀ w ∈ wsL_law_r27, w ∈ lw_tbl := pr_byp _ [575, 576, 577, 87, 875, 876, 877, 878] (by decide +kernel)
set_option maxRecDepth 100000 in
theorem pr_tX0 : ∀ w ∈ wsX00, w ∈ lw_tbl := pr_byp _ [164, 166, 168] (by decide +kernel)
set_option maxRecDepth 100000 in
theorem pr_tX1 : ∀ w ∈ wsX10, w ∈ lw_tbl := pr_byp _ [59, 61, 63, 65] (by decide +kernel)
set_option maxRecDepth 100000 in
theorem pr_tX2 : ∀ w ∈ wsX20, w ∈ lw_tbl := pr_byp _ [298, 300, 302, 304, 306] (by decide +kernel)
set_option maxRecDepth 100000 in
theorem pr_tX3 : ∀ w ∈ wsX30, w ∈ lw_tbl := pr_byp _ [327, 329, 331, 333, 335, 337, 339, 341, 343, 345] (by decide +kernel)
set_option maxRecDepth 100000 in
theorem pr_tX4 : ∀ w ∈ wsX40, w ∈ lw_tbl := pr_byp _ [136, 138, 140, 142, 144, 146, 148, 150, 152] (by decide +kernel)
set_option maxRecDepth 100000 in
theorem pr_tX5 : ∀ w ∈ wsX50, w ∈ lw_tbl := pr_byp _ [110, 112] (by decide +kernel)
set_option maxRecDepth 100000 in
theorem pr_tX6 : ∀ w ∈ wsX60, w ∈ lw_tbl := pr_byp _ [254, 256, 258] (by decide +kernel)
set_option maxRecDepth 100000 in
theorem pr_tX7 : ∀ w ∈ wsX70, w ∈ lw_tbl := pr_byp _ [88, 90, 92, 94, 96, 98] (by decide +kernel)
set_option maxRecDepth 100000 in
theorem pr_tX8 : ∀ w ∈ wsX80, w ∈ lw_tbl := pr_byp _ [188, 190, 192, 194, 196, 198, 200, 202, 204, 206, 208, 210, 212, 214, 216, 218, 220] (by decide +kernel)
set_option maxRecDepth 100000 in
theorem pr_tX9 : ∀ w ∈ wsX90, w ∈ lw_tbl := pr_byp _ [628, 630, 632, 634, 636, 638, 640, 642, 644, 646, 648, 650, 652, 654, 656, 658, 660, 662, 664, 666, 668, 670, 672, 674, 676, 678, 680, 682, 684, 686, 688, 690, 692, 694, 696, 698, 700, 702, 704, 706, 708, 710] (by decide +kernel)
theorem wsL_law_in : ∀ w ∈ wsL_law, w ∈ lw_tbl := by
  intro w h
  unfold wsL_law at h
  simp only [List.mem_append, List.not_mem_nil, or_false] at h
  rcases h with (((((((((((h | h | h | h | h | h | h | h | h | h | h | h | h | h | h | h | h | h | h | h | h | h | h | h | h | h | h) | h) | h) | h) | h) | h) | h) | h) | h) | h) | h)
  · exact pr_t1 w h
  · exact pr_t2 w h
  · exact pr_t3 w h
  · exact pr_t4 w h
  · exact pr_t5 w h
  · exact pr_t6 w h
  · exact pr_t7 w h
  · exact pr_t8 w h
  · exact pr_t9 w h
  · exact pr_t10 w h
  · exact pr_t11 w h
  · exact pr_t12 w h
  · exact pr_t13 w h
  · exact pr_t14 w h
  · exact pr_t15 w h
  · exact pr_t16 w h
  · exact pr_t17 w h
  · exact pr_t18 w h
  · exact pr_t19 w h
  · exact pr_t20 w h
  · exact pr_t21 w h
  · exact pr_t22 w h
  · exact pr_t23 w h
  · exact pr_t24 w h
  · exact pr_t25 w h
  · exact pr_t26 w h
  · exact pr_t27 w h
  · exact pr_tX8 w h
  · exact pr_tX9 w h
  · exact pr_tX1 w h
  · exact pr_tX7 w h
  · exact pr_tX5 w h
  · exact pr_tX4 w h
  · exact pr_tX0 w h
  · exact pr_tX6 w h
  · exact pr_tX3 w h
  · exact pr_tX2 w h
