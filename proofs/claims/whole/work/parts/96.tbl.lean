/-! every word of the walk is among the tables' words -/
theorem tb_of {ws : List Cond} (ps : List Nat) (h : ws.map some = ps.map (fun i => lw_tbl[i]?)) : ∀ w ∈ ws, w ∈ lw_tbl := by
  intro w hw
  have h1 : some w ∈ ws.map some := List.mem_map.mpr ⟨w, hw, rfl⟩
  rw [h] at h1
  obtain ⟨i, -, hi⟩ := List.mem_map.mp h1
  exact List.mem_of_getElem? hi
theorem tb_app {a b : List Cond} (h1 : ∀ w ∈ a, w ∈ lw_tbl) (h2 : ∀ w ∈ b, w ∈ lw_tbl) : ∀ w ∈ a ++ b, w ∈ lw_tbl := fun w h => (List.mem_append.mp h).elim (h1 w) (h2 w)
set_option maxRecDepth 20000 in
theorem tb_r1 : ∀ w ∈ wsL_law_r1, w ∈ lw_tbl := tb_of [66, 67, 55, 694, 695, 63, 68, 69, 70, 71, 72, 73, 74, 241, 91, 243, 244, 246, 247, 76, 248, 78, 79, 56] (by decide +kernel)
set_option maxRecDepth 20000 in
theorem tb_r2 : ∀ w ∈ wsL_law_r2, w ∈ lw_tbl := tb_of [249, 92, 93, 57, 250, 105, 106, 58, 251, 119, 120, 59, 252, 143, 144, 60, 253, 254, 258, 181, 182, 61, 259, 205] (by decide +kernel)
set_option maxRecDepth 20000 in
theorem tb_r3 : ∀ w ∈ wsL_law_r3, w ∈ lw_tbl := tb_of [62, 81, 82, 83, 84, 95, 96, 97, 98, 99, 108, 109, 110, 111, 122, 123, 124, 125, 126, 127, 128, 145, 146, 147] (by decide +kernel)
set_option maxRecDepth 20000 in
theorem tb_r4 : ∀ w ∈ wsL_law_r4, w ∈ lw_tbl := tb_of [148, 150, 152, 154, 156, 157, 158, 149, 159, 184, 185, 186, 187, 190, 191, 189, 192, 207, 208, 209, 220, 223, 210, 226] (by decide +kernel)
set_option maxRecDepth 20000 in
theorem tb_r5 : ∀ w ∈ wsL_law_r5, w ∈ lw_tbl := tb_of [696, 697, 698, 699, 702, 703, 704, 705, 706, 707, 708, 709, 779, 710, 711, 712, 713, 714, 715, 716, 717, 718, 719, 722] (by decide +kernel)
set_option maxRecDepth 20000 in
theorem tb_r6 : ∀ w ∈ wsL_law_r6, w ∈ lw_tbl := tb_of [723, 724, 299, 300, 301, 302, 245, 303, 304, 305, 780, 781, 782, 783, 701, 784, 785, 786, 787, 788, 789, 306, 307, 308] (by decide +kernel)
set_option maxRecDepth 20000 in
theorem tb_r7 : ∀ w ∈ wsL_law_r7, w ∈ lw_tbl := tb_of [309, 242, 310, 312, 0, 313, 314, 315, 316, 317, 212, 214, 218, 318, 319, 320, 321, 322, 324, 1, 325, 326, 327, 328] (by decide +kernel)
set_option maxRecDepth 20000 in
theorem tb_r8 : ∀ w ∈ wsL_law_r8, w ∈ lw_tbl := tb_of [329, 330, 331, 332, 333, 334, 336, 2, 337, 338, 339, 340, 341, 343, 345, 3, 346, 347, 348, 64, 349, 350, 351, 352] (by decide +kernel)
set_option maxRecDepth 20000 in
theorem tb_r9 : ∀ w ∈ wsL_law_r9, w ∈ lw_tbl := tb_of [353, 354, 64, 355, 356, 358, 4, 359, 86, 360, 362, 5, 363, 364, 366, 6, 367, 227, 368, 369, 370, 371, 372, 373] (by decide +kernel)
set_option maxRecDepth 20000 in
theorem tb_r10 : ∀ w ∈ wsL_law_r10, w ∈ lw_tbl := tb_of [374, 375, 376, 377, 378, 379, 380, 381, 382, 383, 384, 385, 386, 387, 389, 7, 390, 255, 256, 257, 790, 791, 792, 793] (by decide +kernel)
set_option maxRecDepth 20000 in
theorem tb_r11 : ∀ w ∈ wsL_law_r11, w ∈ lw_tbl := tb_of [794, 796, 33, 797, 700, 798, 800, 34, 801, 802, 804, 35, 805, 806, 808, 36, 809, 810, 812, 37, 813, 814, 815, 816] (by decide +kernel)
set_option maxRecDepth 20000 in
theorem tb_r12 : ∀ w ∈ wsL_law_r12, w ∈ lw_tbl := tb_of [817, 818, 819, 391, 392, 393, 394, 820, 821, 822, 823, 395, 396, 397, 398, 824, 825, 826, 827, 399, 400, 401, 402, 828] (by decide +kernel)
set_option maxRecDepth 20000 in
theorem tb_r13 : ∀ w ∈ wsL_law_r13, w ∈ lw_tbl := tb_of [829, 830, 831, 403, 404, 405, 406, 832, 833, 834, 835, 407, 408, 409, 410, 411, 413, 8, 414, 836, 837, 838, 839, 840] (by decide +kernel)
set_option maxRecDepth 20000 in
theorem tb_r14 : ∀ w ∈ wsL_law_r14, w ∈ lw_tbl := tb_of [842, 38, 843, 415, 416, 417, 418, 151, 419, 420, 421, 844, 845, 846, 847, 848, 849, 850, 422, 423, 424, 425, 153, 851] (by decide +kernel)
set_option maxRecDepth 20000 in
theorem tb_r15 : ∀ w ∈ wsL_law_r15, w ∈ lw_tbl := tb_of [852, 853, 854, 426, 427, 428, 429, 863, 864, 865, 866, 430, 431, 432, 433, 213, 216, 219, 434, 435, 436, 437, 438, 439] (by decide +kernel)
set_option maxRecDepth 20000 in
theorem tb_r16 : ∀ w ∈ wsL_law_r16, w ∈ lw_tbl := tb_of [65, 440, 441, 442, 443, 444, 445, 446, 447, 867, 868, 869, 870, 448, 449, 450, 451, 452, 453, 454, 455, 855, 856, 857] (by decide +kernel)
set_option maxRecDepth 20000 in
theorem tb_r17 : ∀ w ∈ wsL_law_r17, w ∈ lw_tbl := tb_of [858, 859, 861, 39, 862, 457, 458, 459, 460, 871, 872, 873, 874, 875, 877, 40, 878, 461, 462, 463, 464, 465, 467, 9] (by decide +kernel)
set_option maxRecDepth 20000 in
theorem tb_r18 : ∀ w ∈ wsL_law_r18, w ∈ lw_tbl := tb_of [468, 469, 470, 471, 472, 217, 473, 474, 475, 476, 477, 478, 221, 224, 479, 481, 10, 482, 483, 879, 880, 881, 882, 883] (by decide +kernel)
set_option maxRecDepth 20000 in
theorem tb_r19 : ∀ w ∈ wsL_law_r19, w ∈ lw_tbl := tb_of [885, 41, 886, 887, 889, 42, 890, 891, 893, 43, 894, 895, 897, 44, 898, 899, 901, 45, 902, 903, 904, 905, 906, 907] (by decide +kernel)
set_option maxRecDepth 20000 in
theorem tb_r20 : ∀ w ∈ wsL_law_r20, w ∈ lw_tbl := tb_of [908, 484, 485, 486, 487, 488, 489, 490, 491, 493, 909, 910, 911, 912, 494, 495, 496, 497, 498, 500, 11, 501, 113, 502] (by decide +kernel)
set_option maxRecDepth 20000 in
theorem tb_r21 : ∀ w ∈ wsL_law_r21, w ∈ lw_tbl := tb_of [504, 12, 505, 506, 508, 13, 509, 510, 511, 512, 513, 215, 112, 515, 516, 518, 517, 913, 914, 915, 916, 917, 919, 46] (by decide +kernel)
set_option maxRecDepth 20000 in
theorem tb_r22 : ∀ w ∈ wsL_law_r22, w ∈ lw_tbl := tb_of [920, 921, 923, 47, 924, 519, 520, 521, 522, 925, 926, 927, 928, 929, 523, 524, 525, 526, 131, 527, 529, 14, 530, 531] (by decide +kernel)
set_option maxRecDepth 20000 in
theorem tb_r23 : ∀ w ∈ wsL_law_r23, w ∈ lw_tbl := tb_of [532, 533, 534, 130, 536, 538, 15, 539, 540, 542, 16, 543, 544, 930, 931, 932, 933, 934, 936, 48, 937, 545, 546, 547] (by decide +kernel)
set_option maxRecDepth 20000 in
theorem tb_r24 : ∀ w ∈ wsL_law_r24, w ∈ lw_tbl := tb_of [548, 129, 938, 939, 940, 941, 942, 549, 550, 551, 552, 553, 555, 17, 556, 155, 557, 559, 18, 560, 561, 562, 563, 564] (by decide +kernel)
set_option maxRecDepth 20000 in
theorem tb_r25 : ∀ w ∈ wsL_law_r25, w ∈ lw_tbl := tb_of [160, 574, 161, 565, 567, 19, 568, 569, 571, 20, 572, 575, 577, 21, 578, 579, 581, 22, 582, 583, 585, 23, 586, 587] (by decide +kernel)
set_option maxRecDepth 20000 in
theorem tb_r26 : ∀ w ∈ wsL_law_r26, w ∈ lw_tbl := tb_of [588, 589, 590, 592, 24, 593, 594, 596, 25, 597, 598, 600, 26, 601, 602, 603, 605, 27, 606, 607, 609, 28, 610, 611] (by decide +kernel)
set_option maxRecDepth 20000 in
theorem tb_r27 : ∀ w ∈ wsL_law_r27, w ∈ lw_tbl := tb_of [613, 29, 614, 615, 616, 617, 618, 951, 952, 953, 954, 947, 949, 49, 950, 720, 721, 955, 957, 50, 958, 619, 620, 621] (by decide +kernel)
set_option maxRecDepth 20000 in
theorem tb_r28 : ∀ w ∈ wsL_law_r28, w ∈ lw_tbl := tb_of [622, 623, 624, 625, 626, 943, 944, 945, 946, 627, 628, 629, 630, 631, 632, 634, 30, 635, 222, 225, 640, 87, 636, 637] (by decide +kernel)
set_option maxRecDepth 20000 in
theorem tb_r29 : ∀ w ∈ wsL_law_r29, w ∈ lw_tbl := tb_of [638, 639, 641, 642, 643, 644, 645, 646, 647, 648, 649, 194, 85, 650, 651, 652, 654, 31, 655, 656, 657, 658, 659, 660] (by decide +kernel)
set_option maxRecDepth 20000 in
theorem tb_r30 : ∀ w ∈ wsL_law_r30, w ∈ lw_tbl := tb_of [661, 662, 663, 664, 666, 32, 667, 668, 669, 670, 671, 672, 673, 674, 675, 676, 677, 678, 679, 680, 681, 959, 960, 961] (by decide +kernel)
set_option maxRecDepth 20000 in
theorem tb_r31 : ∀ w ∈ wsL_law_r31, w ∈ lw_tbl := tb_of [962, 963, 965, 51, 966, 682, 683, 684, 685, 967, 968, 969, 970, 686, 687, 688, 689, 195, 971, 972, 973, 974, 725, 975] (by decide +kernel)
set_option maxRecDepth 20000 in
theorem tb_r32 : ∀ w ∈ wsL_law_r32, w ∈ lw_tbl := tb_of [977, 52, 978, 690, 691, 692, 693, 193, 979, 980, 981, 982, 983, 985, 53, 986] (by decide +kernel)
set_option maxRecDepth 20000 in
theorem tb_wsX70 : ∀ w ∈ wsX70, w ∈ lw_tbl := tb_of [260, 262, 264, 266, 268, 270, 272, 274, 276, 278, 280, 282, 284, 286, 288, 290, 292, 294, 296] (by decide +kernel)
set_option maxRecDepth 20000 in
theorem tb_wsX80 : ∀ w ∈ wsX80, w ∈ lw_tbl := tb_of [726, 728, 730, 732, 734, 736, 738, 740, 742, 744, 746, 748, 750, 752, 754, 756, 758, 760, 762, 764, 766, 768, 770, 772, 774, 776] (by decide +kernel)
set_option maxRecDepth 20000 in
theorem tb_wsX20 : ∀ w ∈ wsX20, w ∈ lw_tbl := tb_of [88] (by decide +kernel)
set_option maxRecDepth 20000 in
theorem tb_wsX40 : ∀ w ∈ wsX40, w ∈ lw_tbl := tb_of [100, 102] (by decide +kernel)
set_option maxRecDepth 20000 in
theorem tb_wsX10 : ∀ w ∈ wsX10, w ∈ lw_tbl := tb_of [114, 116] (by decide +kernel)
set_option maxRecDepth 20000 in
theorem tb_wsX50 : ∀ w ∈ wsX50, w ∈ lw_tbl := tb_of [132, 134, 136, 138, 140] (by decide +kernel)
set_option maxRecDepth 20000 in
theorem tb_wsX60 : ∀ w ∈ wsX60, w ∈ lw_tbl := tb_of [162, 164, 166, 168, 170, 172, 174, 176, 178] (by decide +kernel)
set_option maxRecDepth 20000 in
theorem tb_wsX00 : ∀ w ∈ wsX00, w ∈ lw_tbl := tb_of [196, 198, 200, 202] (by decide +kernel)
set_option maxRecDepth 20000 in
theorem tb_wsX30 : ∀ w ∈ wsX30, w ∈ lw_tbl := tb_of [228, 230, 232, 234, 236, 238] (by decide +kernel)
