theorem mem_r {big : List Cond} (ws : List Cond) (ps : List Nat) (hp : ws = ps.filterMap (fun i => big[i]?)) : ∀ w ∈ ws, w ∈ big := by
  intro w hw
  rw [hp] at hw
  obtain ⟨i, -, hi⟩ := List.mem_filterMap.mp hw
  first | exact List.mem_of_getElem? hi | exact List.getElem?_mem hi
set_option maxRecDepth 20000 in
theorem wl_r1 : ∀ w ∈ wsL_law_r1, w ∈ lw_tbl := mem_r _ [46, 47, 35, 670, 671, 43, 994, 48, 49, 50, 51, 52, 53, 54, 55, 36, 226, 68, 69, 37, 227, 78, 79, 38] (by decide +kernel)
set_option maxRecDepth 20000 in
theorem wl_r2 : ∀ w ∈ wsL_law_r2, w ∈ lw_tbl := mem_r _ [228, 229, 230, 231, 232, 142, 143, 39, 233, 161, 162, 40, 234, 174, 175, 41, 235, 187, 188, 42, 236, 237, 57, 58] (by decide +kernel)
set_option maxRecDepth 20000 in
theorem wl_r3 : ∀ w ∈ wsL_law_r3, w ∈ lw_tbl := mem_r _ [59, 67, 60, 71, 72, 73, 74, 81, 82, 83, 84, 86, 88, 90, 94, 96, 145, 146, 147, 148, 149, 150, 163, 164] (by decide +kernel)
set_option maxRecDepth 20000 in
theorem wl_r4 : ∀ w ∈ wsL_law_r4, w ∈ lw_tbl := mem_r _ [165, 166, 168, 167, 177, 178, 179, 180, 190, 191, 192, 193, 203, 204, 205, 206, 98, 100, 207, 208, 209, 210, 105, 109] (by decide +kernel)
set_option maxRecDepth 20000 in
theorem wl_r5 : ∀ w ∈ wsL_law_r5, w ∈ lw_tbl := mem_r _ [211, 212, 213, 214, 215, 216, 217, 218, 219, 220, 221, 222, 224, 225, 672, 673, 674, 675, 681, 682, 683, 684, 685, 686] (by decide +kernel)
set_option maxRecDepth 20000 in
theorem wl_r6 : ∀ w ∈ wsL_law_r6, w ∈ lw_tbl := mem_r _ [687, 688, 689, 690, 691, 692, 695, 697, 698, 699, 701, 702, 703, 704, 705, 706, 676, 678, 13, 679, 263, 264, 265, 266] (by decide +kernel)
set_option maxRecDepth 20000 in
theorem wl_r7 : ∀ w ∈ wsL_law_r7, w ∈ lw_tbl := mem_r _ [267, 268, 269, 270, 61, 271, 272, 273, 274, 762, 763, 764, 765, 766, 680, 770, 767, 768, 769, 275, 276, 277, 278, 279] (by decide +kernel)
set_option maxRecDepth 20000 in
theorem wl_r8 : ∀ w ∈ wsL_law_r8, w ∈ lw_tbl := mem_r _ [280, 281, 282, 771, 772, 773, 774, 283, 284, 285, 286, 287, 288, 289, 290, 291, 292, 293, 294, 103, 114, 295, 296, 297] (by decide +kernel)
set_option maxRecDepth 20000 in
theorem wl_r9 : ∀ w ∈ wsL_law_r9, w ∈ lw_tbl := mem_r _ [298, 299, 300, 301, 302, 303, 305, 0, 306, 307, 308, 309, 310, 311, 312, 313, 315, 1, 316, 317, 318, 319, 320, 321] (by decide +kernel)
set_option maxRecDepth 20000 in
theorem wl_r10 : ∀ w ∈ wsL_law_r10, w ∈ lw_tbl := mem_r _ [322, 775, 776, 777, 778, 779, 781, 14, 782, 700, 783, 785, 15, 786, 787, 789, 16, 790, 791, 793, 17, 794, 795, 796] (by decide +kernel)
set_option maxRecDepth 20000 in
theorem wl_r11 : ∀ w ∈ wsL_law_r11, w ∈ lw_tbl := mem_r _ [797, 798, 800, 18, 801, 802, 803, 805, 19, 806, 323, 324, 325, 326, 327, 328, 329, 330, 331, 332, 333, 334, 181, 335] (by decide +kernel)
set_option maxRecDepth 20000 in
theorem wl_r12 : ∀ w ∈ wsL_law_r12, w ∈ lw_tbl := mem_r _ [336, 337, 338, 194, 195, 339, 340, 341, 342, 151, 807, 808, 809, 810, 693, 694, 696, 811, 813, 20, 814, 343, 344, 345] (by decide +kernel)
set_option maxRecDepth 20000 in
theorem wl_r13 : ∀ w ∈ wsL_law_r13, w ∈ lw_tbl := mem_r _ [346, 347, 348, 349, 350, 351, 352, 353, 354, 355, 356, 357, 358, 359, 360, 815, 816, 817, 818, 823, 819, 821, 21, 822] (by decide +kernel)
set_option maxRecDepth 20000 in
theorem wl_r14 : ∀ w ∈ wsL_law_r14, w ∈ lw_tbl := mem_r _ [824, 826, 22, 827, 828, 829, 830, 362, 363, 364, 365, 366, 367, 368, 369, 370, 831, 832, 833, 834, 835, 837, 23, 838] (by decide +kernel)
set_option maxRecDepth 20000 in
theorem wl_r15 : ∀ w ∈ wsL_law_r15, w ∈ lw_tbl := mem_r _ [839, 841, 24, 842, 371, 372, 373, 374, 375, 376, 377, 378, 379, 380, 381, 382, 383, 384, 386, 2, 387, 389, 390, 391] (by decide +kernel)
set_option maxRecDepth 20000 in
theorem wl_r16 : ∀ w ∈ wsL_law_r16, w ∈ lw_tbl := mem_r _ [392, 393, 394, 843, 844, 845, 846, 847, 849, 25, 850, 395, 396, 397, 398, 399, 400, 402, 3, 403, 404, 405, 406, 407] (by decide +kernel)
set_option maxRecDepth 20000 in
theorem wl_r17 : ∀ w ∈ wsL_law_r17, w ∈ lw_tbl := mem_r _ [408, 410, 4, 411, 412, 413, 44, 414, 415, 416, 417, 851, 852, 853, 854, 855, 857, 26, 858, 859, 861, 27, 862, 863] (by decide +kernel)
set_option maxRecDepth 20000 in
theorem wl_r18 : ∀ w ∈ wsL_law_r18, w ∈ lw_tbl := mem_r _ [864, 865, 418, 419, 420, 421, 422, 423, 866, 867, 868, 869, 424, 425, 426, 427, 428, 429, 430, 431, 870, 871, 872, 873] (by decide +kernel)
set_option maxRecDepth 20000 in
theorem wl_r19 : ∀ w ∈ wsL_law_r19, w ∈ lw_tbl := mem_r _ [432, 433, 434, 435, 874, 875, 876, 877, 436, 437, 438, 439, 878, 879, 880, 881, 440, 441, 442, 443, 444, 445, 446, 447] (by decide +kernel)
set_option maxRecDepth 20000 in
theorem wl_r20 : ∀ w ∈ wsL_law_r20, w ∈ lw_tbl := mem_r _ [448, 449, 450, 451, 882, 883, 884, 885, 452, 453, 454, 455, 456, 457, 458, 459, 460, 462, 5, 463, 464, 466, 467, 468] (by decide +kernel)
set_option maxRecDepth 20000 in
theorem wl_r21 : ∀ w ∈ wsL_law_r21, w ∈ lw_tbl := mem_r _ [469, 471, 886, 887, 888, 889, 890, 892, 28, 893, 894, 896, 29, 897, 472, 473, 474, 475, 476, 477, 478, 479, 480, 481] (by decide +kernel)
set_option maxRecDepth 20000 in
theorem wl_r22 : ∀ w ∈ wsL_law_r22, w ∈ lw_tbl := mem_r _ [482, 483, 484, 486, 6, 487, 488, 898, 899, 900, 901, 489, 490, 491, 492, 493, 494, 495, 496, 902, 903, 904, 905, 906] (by decide +kernel)
set_option maxRecDepth 20000 in
theorem wl_r23 : ∀ w ∈ wsL_law_r23, w ∈ lw_tbl := mem_r _ [908, 30, 909, 497, 498, 499, 500, 910, 911, 912, 913, 501, 502, 503, 504, 505, 506, 507, 508, 509, 510, 511, 512, 513] (by decide +kernel)
set_option maxRecDepth 20000 in
theorem wl_r24 : ∀ w ∈ wsL_law_r24, w ∈ lw_tbl := mem_r _ [514, 515, 518, 519, 520, 521, 45, 522, 523, 914, 915, 916, 917, 918, 919, 920, 524, 525, 526, 527, 528, 529, 530, 531] (by decide +kernel)
set_option maxRecDepth 20000 in
theorem wl_r25 : ∀ w ∈ wsL_law_r25, w ∈ lw_tbl := mem_r _ [532, 534, 7, 535, 921, 922, 923, 924, 536, 537, 538, 539, 540, 541, 542, 543, 544, 546, 8, 547, 550, 551, 552, 553] (by decide +kernel)
set_option maxRecDepth 20000 in
theorem wl_r26 : ∀ w ∈ wsL_law_r26, w ∈ lw_tbl := mem_r _ [554, 555, 556, 557, 925, 926, 927, 928, 558, 559, 560, 561, 929, 930, 931, 932, 562, 563, 564, 565, 566, 567, 568, 569] (by decide +kernel)
set_option maxRecDepth 20000 in
theorem wl_r27 : ∀ w ∈ wsL_law_r27, w ∈ lw_tbl := mem_r _ [570, 933, 934, 935, 936, 571, 572, 573, 574, 575, 576, 577, 578, 580, 9, 581, 582, 583, 584, 585, 586, 587, 588, 589] (by decide +kernel)
set_option maxRecDepth 20000 in
theorem wl_r28 : ∀ w ∈ wsL_law_r28, w ∈ lw_tbl := mem_r _ [590, 591, 592, 593, 594, 595, 596, 937, 938, 939, 940, 941, 597, 598, 599, 600, 942, 943, 944, 945, 601, 602, 603, 604] (by decide +kernel)
set_option maxRecDepth 20000 in
theorem wl_r29 : ∀ w ∈ wsL_law_r29, w ∈ lw_tbl := mem_r _ [605, 606, 607, 608, 609, 946, 947, 948, 949, 950, 952, 31, 953, 954, 955, 956, 610, 611, 612, 613, 614, 615, 616, 617] (by decide +kernel)
set_option maxRecDepth 20000 in
theorem wl_r30 : ∀ w ∈ wsL_law_r30, w ∈ lw_tbl := mem_r _ [618, 620, 10, 621, 622, 623, 624, 625, 626, 628, 11, 629, 957, 958, 959, 960, 961, 963, 32, 964, 965, 967, 33, 968] (by decide +kernel)
set_option maxRecDepth 20000 in
theorem wl_r31 : ∀ w ∈ wsL_law_r31, w ∈ lw_tbl := mem_r _ [630, 631, 632, 633, 634, 635, 636, 637, 969, 970, 971, 972, 638, 639, 640, 641, 642, 643, 644, 645, 646, 647, 648, 649] (by decide +kernel)
set_option maxRecDepth 20000 in
theorem wl_r32 : ∀ w ∈ wsL_law_r32, w ∈ lw_tbl := mem_r _ [650, 651, 652, 653, 973, 974, 975, 976, 977, 978, 979, 980, 981, 654, 655, 656, 657, 658, 660, 12, 661, 982, 983, 984] (by decide +kernel)
set_option maxRecDepth 20000 in
theorem wl_r33 : ∀ w ∈ wsL_law_r33, w ∈ lw_tbl := mem_r _ [985, 662, 663, 664, 665, 986, 987, 988, 989, 666, 667, 668, 669, 990, 991, 992, 993] (by decide +kernel)
set_option maxRecDepth 20000 in
theorem wl_X7 : ∀ w ∈ wsX70, w ∈ lw_tbl := mem_r _ [238, 240, 242, 244, 246, 248, 250, 252, 254, 256, 258, 260] (by decide +kernel)
set_option maxRecDepth 20000 in
theorem wl_X8 : ∀ w ∈ wsX80, w ∈ lw_tbl := mem_r _ [707, 709, 711, 713, 715, 717, 719, 721, 723, 725, 727, 729, 731, 733, 735, 737, 739, 741, 743, 745, 747, 749, 751, 753, 755, 757, 759] (by decide +kernel)
set_option maxRecDepth 20000 in
theorem wl_X5 : ∀ w ∈ wsX50, w ∈ lw_tbl := mem_r _ [62, 64] (by decide +kernel)
set_option maxRecDepth 20000 in
theorem wl_X2 : ∀ w ∈ wsX20, w ∈ lw_tbl := mem_r _ [75] (by decide +kernel)
set_option maxRecDepth 20000 in
theorem wl_X6 : ∀ w ∈ wsX60, w ∈ lw_tbl := mem_r _ [117, 119, 121, 123, 125, 127, 129, 131, 133, 135, 137, 139] (by decide +kernel)
set_option maxRecDepth 20000 in
theorem wl_X1 : ∀ w ∈ wsX10, w ∈ lw_tbl := mem_r _ [152, 154, 156, 158] (by decide +kernel)
set_option maxRecDepth 20000 in
theorem wl_X0 : ∀ w ∈ wsX00, w ∈ lw_tbl := mem_r _ [169, 171] (by decide +kernel)
set_option maxRecDepth 20000 in
theorem wl_X4 : ∀ w ∈ wsX40, w ∈ lw_tbl := mem_r _ [182, 184] (by decide +kernel)
set_option maxRecDepth 20000 in
theorem wl_X3 : ∀ w ∈ wsX30, w ∈ lw_tbl := mem_r _ [196, 198, 200] (by decide +kernel)
set_option maxRecDepth 20000 in
theorem wsL_law_in : ∀ w ∈ wsL_law, w ∈ lw_tbl := by
  unfold wsL_law
  exact (List.forall_mem_append.mpr ⟨(List.forall_mem_append.mpr ⟨(List.forall_mem_append.mpr ⟨(List.forall_mem_append.mpr ⟨(List.forall_mem_append.mpr ⟨(List.forall_mem_append.mpr ⟨(List.forall_mem_append.mpr ⟨(List.forall_mem_append.mpr ⟨(List.forall_mem_append.mpr ⟨(List.forall_mem_append.mpr ⟨(List.forall_mem_append.mpr ⟨wl_r1, (List.forall_mem_append.mpr ⟨wl_r2, (List.forall_mem_append.mpr ⟨wl_r3, (List.forall_mem_append.mpr ⟨wl_r4, (List.forall_mem_append.mpr ⟨wl_r5, (List.forall_mem_append.mpr ⟨wl_r6, (List.forall_mem_append.mpr ⟨wl_r7, (List.forall_mem_append.mpr ⟨wl_r8, (List.forall_mem_append.mpr ⟨wl_r9, (List.forall_mem_append.mpr ⟨wl_r10, (List.forall_mem_append.mpr ⟨wl_r11, (List.forall_mem_append.mpr ⟨wl_r12, (List.forall_mem_append.mpr ⟨wl_r13, (List.forall_mem_append.mpr ⟨wl_r14, (List.forall_mem_append.mpr ⟨wl_r15, (List.forall_mem_append.mpr ⟨wl_r16, (List.forall_mem_append.mpr ⟨wl_r17, (List.forall_mem_append.mpr ⟨wl_r18, (List.forall_mem_append.mpr ⟨wl_r19, (List.forall_mem_append.mpr ⟨wl_r20, (List.forall_mem_append.mpr ⟨wl_r21, (List.forall_mem_append.mpr ⟨wl_r22, (List.forall_mem_append.mpr ⟨wl_r23, (List.forall_mem_append.mpr ⟨wl_r24, (List.forall_mem_append.mpr ⟨wl_r25, (List.forall_mem_append.mpr ⟨wl_r26, (List.forall_mem_append.mpr ⟨wl_r27, (List.forall_mem_append.mpr ⟨wl_r28, (List.forall_mem_append.mpr ⟨wl_r29, (List.forall_mem_append.mpr ⟨wl_r30, (List.forall_mem_append.mpr ⟨wl_r31, (List.forall_mem_append.mpr ⟨wl_r32, wl_r33⟩)⟩)⟩)⟩)⟩)⟩)⟩)⟩)⟩)⟩)⟩)⟩)⟩)⟩)⟩)⟩)⟩)⟩)⟩)⟩)⟩)⟩)⟩)⟩)⟩)⟩)⟩)⟩)⟩)⟩)⟩)⟩), wl_X7⟩), wl_X8⟩), wl_X5⟩), wl_X2⟩), wl_X6⟩), wl_X1⟩), wl_X0⟩), wl_X4⟩), wl_X3⟩), fun _ h => absurd h List.not_mem_nil⟩)
theorem inlX0 : ∀ w ∈ wsX00, w ∈ wsL_law := fun _ h => List.mem_append_left _ (List.mem_append_left _ (List.mem_append_left _ (List.mem_append_right _ h)))
theorem inX0 : ∀ w ∈ wsX00, w ∈ lw_tbl := fun w h => wsL_law_in w (inlX0 w h)
theorem inlX1 : ∀ w ∈ wsX10, w ∈ wsL_law := fun _ h => List.mem_append_left _ (List.mem_append_left _ (List.mem_append_left _ (List.mem_append_left _ (List.mem_append_right _ h))))
theorem inX1 : ∀ w ∈ wsX10, w ∈ lw_tbl := fun w h => wsL_law_in w (inlX1 w h)
theorem inlX2 : ∀ w ∈ wsX20, w ∈ wsL_law := fun _ h => List.mem_append_left _ (List.mem_append_left _ (List.mem_append_left _ (List.mem_append_left _ (List.mem_append_left _ (List.mem_append_left _ (List.mem_append_right _ h))))))
theorem inX2 : ∀ w ∈ wsX20, w ∈ lw_tbl := fun w h => wsL_law_in w (inlX2 w h)
theorem inlX3 : ∀ w ∈ wsX30, w ∈ wsL_law := fun _ h => List.mem_append_left _ (List.mem_append_right _ h)
theorem inX3 : ∀ w ∈ wsX30, w ∈ lw_tbl := fun w h => wsL_law_in w (inlX3 w h)
theorem inlX4 : ∀ w ∈ wsX40, w ∈ wsL_law := fun _ h => List.mem_append_left _ (List.mem_append_left _ (List.mem_append_right _ h))
theorem inX4 : ∀ w ∈ wsX40, w ∈ lw_tbl := fun w h => wsL_law_in w (inlX4 w h)
theorem inlX5 : ∀ w ∈ wsX50, w ∈ wsL_law := fun _ h => List.mem_append_left _ (List.mem_append_left _ (List.mem_append_left _ (List.mem_append_left _ (List.mem_append_left _ (List.mem_append_left _ (List.mem_append_left _ (List.mem_append_right _ h)))))))
theorem inX5 : ∀ w ∈ wsX50, w ∈ lw_tbl := fun w h => wsL_law_in w (inlX5 w h)
theorem inlX6 : ∀ w ∈ wsX60, w ∈ wsL_law := fun _ h => List.mem_append_left _ (List.mem_append_left _ (List.mem_append_left _ (List.mem_append_left _ (List.mem_append_left _ (List.mem_append_right _ h)))))
theorem inX6 : ∀ w ∈ wsX60, w ∈ lw_tbl := fun w h => wsL_law_in w (inlX6 w h)
theorem inlX7 : ∀ w ∈ wsX70, w ∈ wsL_law := fun _ h => List.mem_append_left _ (List.mem_append_left _ (List.mem_append_left _ (List.mem_append_left _ (List.mem_append_left _ (List.mem_append_left _ (List.mem_append_left _ (List.mem_append_left _ (List.mem_append_left _ (List.mem_append_right _ h)))))))))
theorem inX7 : ∀ w ∈ wsX70, w ∈ lw_tbl := fun w h => wsL_law_in w (inlX7 w h)
theorem inlX8 : ∀ w ∈ wsX80, w ∈ wsL_law := fun _ h => List.mem_append_left _ (List.mem_append_left _ (List.mem_append_left _ (List.mem_append_left _ (List.mem_append_left _ (List.mem_append_left _ (List.mem_append_left _ (List.mem_append_left _ (List.mem_append_right _ h))))))))
theorem inX8 : ∀ w ∈ wsX80, w ∈ lw_tbl := fun w h => wsL_law_in w (inlX8 w h)
theorem inJ6 : ∀ w ∈ wsJ60, w ∈ lw_tbl := by decide +kernel
theorem inJ9 : ∀ w ∈ wsJ90, w ∈ lw_tbl := by decide +kernel
