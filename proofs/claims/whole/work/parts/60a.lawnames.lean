theorem mem_r {big : List Cond} (ws : List Cond) (ps : List Nat) (hp : ws = ps.filterMap (fun i => big[i]?)) : ∀ w ∈ ws, w ∈ big := by
  intro w hw
  rw [hp] at hw
  obtain ⟨i, -, hi⟩ := List.mem_filterMap.mp hw
  exact List.mem_of_getElem? hi
set_option maxRecDepth 20000 in
theorem wsL_law_r1_in : ∀ w ∈ wsL_law_r1, w ∈ lw_tbl := mem_r _ [55, 56, 44, 664, 665, 51, 1023, 57, 58, 59, 60, 61, 62, 63, 64, 45, 218, 79, 80, 46, 219, 95, 96, 47] (by decide +kernel)
set_option maxRecDepth 20000 in
theorem wsL_law_r2_in : ∀ w ∈ wsL_law_r2, w ∈ lw_tbl := mem_r _ [220, 221, 155, 156, 48, 222, 223, 184, 185, 49, 224, 198, 199, 50, 225, 78, 226, 227, 228, 65, 66, 67, 68, 69] (by decide +kernel)
set_option maxRecDepth 20000 in
theorem wsL_law_r3_in : ∀ w ∈ wsL_law_r3, w ∈ lw_tbl := mem_r _ [70, 81, 82, 83, 84, 85, 86, 87, 97, 98, 99, 100, 101, 103, 106, 108, 110, 113, 116, 118, 121, 125, 128, 157] (by decide +kernel)
set_option maxRecDepth 20000 in
theorem wsL_law_r4_in : ∀ w ∈ wsL_law_r4, w ∈ lw_tbl := mem_r _ [158, 159, 160, 161, 162, 163, 165, 167, 169, 186, 187, 188, 189, 190, 191, 200, 201, 202, 203, 204, 205, 206, 207, 666] (by decide +kernel)
set_option maxRecDepth 20000 in
theorem wsL_law_r5_in : ∀ w ∈ wsL_law_r5, w ∈ lw_tbl := mem_r _ [667, 668, 669, 673, 674, 675, 676, 677, 678, 679, 680, 681, 682, 683, 687, 693, 695, 696, 697, 764, 699, 700, 252, 253] (by decide +kernel)
set_option maxRecDepth 20000 in
theorem wsL_law_r6_in : ∀ w ∈ wsL_law_r6, w ∈ lw_tbl := mem_r _ [254, 255, 71, 256, 257, 258, 259, 260, 261, 262, 264, 265, 765, 766, 767, 768, 769, 688, 770, 771, 772, 266, 267, 268] (by decide +kernel)
set_option maxRecDepth 20000 in
theorem wsL_law_r7_in : ∀ w ∈ wsL_law_r7, w ∈ lw_tbl := mem_r _ [269, 773, 774, 775, 776, 270, 271, 272, 273, 274, 275, 276, 277, 72, 278, 279, 280, 281, 282, 284, 0, 285, 286, 287] (by decide +kernel)
set_option maxRecDepth 20000 in
theorem wsL_law_r8_in : ∀ w ∈ wsL_law_r8, w ∈ lw_tbl := mem_r _ [288, 289, 290, 292, 1, 293, 126, 294, 296, 2, 297, 123, 298, 300, 3, 301, 302, 304, 4, 305, 307, 308, 309, 310] (by decide +kernel)
set_option maxRecDepth 20000 in
theorem wsL_law_r9_in : ∀ w ∈ wsL_law_r9, w ∈ lw_tbl := mem_r _ [312, 313, 314, 315, 316, 318, 5, 319, 320, 322, 6, 323, 131, 324, 326, 7, 327, 328, 330, 8, 331, 332, 333, 334] (by decide +kernel)
set_option maxRecDepth 20000 in
theorem wsL_law_r10_in : ∀ w ∈ wsL_law_r10, w ∈ lw_tbl := mem_r _ [335, 777, 778, 779, 780, 781, 783, 16, 784, 689, 690, 684, 685, 686, 785, 787, 17, 788, 789, 791, 18, 792, 793, 795] (by decide +kernel)
set_option maxRecDepth 20000 in
theorem wsL_law_r11_in : ∀ w ∈ wsL_law_r11, w ∈ lw_tbl := mem_r _ [19, 796, 336, 337, 338, 339, 192, 124, 127, 130, 340, 341, 342, 343, 122, 102, 129, 345, 346, 347, 348, 349, 350, 351] (by decide +kernel)
set_option maxRecDepth 20000 in
theorem wsL_law_r12_in : ∀ w ∈ wsL_law_r12, w ∈ lw_tbl := mem_r _ [352, 353, 354, 355, 356, 357, 358, 359, 360, 361, 362, 797, 798, 799, 800, 670, 671, 672, 691, 365, 366, 367, 368, 104] (by decide +kernel)
set_option maxRecDepth 20000 in
theorem wsL_law_r13_in : ∀ w ∈ wsL_law_r13, w ∈ lw_tbl := mem_r _ [164, 166, 369, 370, 371, 372, 373, 374, 375, 376, 377, 378, 379, 380, 381, 382, 383, 384, 385, 109, 107, 386, 387, 388] (by decide +kernel)
set_option maxRecDepth 20000 in
theorem wsL_law_r14_in : ∀ w ∈ wsL_law_r14, w ∈ lw_tbl := mem_r _ [389, 390, 391, 52, 392, 393, 394, 52, 395, 396, 397, 398, 399, 105, 400, 403, 404, 801, 802, 803, 804, 805, 807, 20] (by decide +kernel)
set_option maxRecDepth 20000 in
theorem wsL_law_r15_in : ∀ w ∈ wsL_law_r15, w ∈ lw_tbl := mem_r _ [808, 809, 811, 21, 812, 813, 815, 22, 816, 817, 819, 23, 820, 821, 823, 24, 824, 825, 827, 25, 828, 829, 831, 26] (by decide +kernel)
set_option maxRecDepth 20000 in
theorem wsL_law_r16_in : ∀ w ∈ wsL_law_r16, w ∈ lw_tbl := mem_r _ [832, 833, 834, 835, 836, 837, 838, 405, 406, 407, 408, 111, 114, 117, 119, 409, 410, 411, 412, 839, 840, 841, 842, 843] (by decide +kernel)
set_option maxRecDepth 20000 in
theorem wsL_law_r17_in : ∀ w ∈ wsL_law_r17, w ∈ lw_tbl := mem_r _ [845, 27, 846, 413, 414, 415, 416, 417, 418, 419, 420, 421, 423, 422, 53, 424, 425, 426, 427, 429, 430, 431, 432, 457] (by decide +kernel)
set_option maxRecDepth 20000 in
theorem wsL_law_r18_in : ∀ w ∈ wsL_law_r18, w ∈ lw_tbl := mem_r _ [458, 459, 433, 434, 435, 436, 437, 438, 440, 9, 441, 112, 115, 442, 444, 10, 445, 120, 446, 447, 54, 448, 449, 450] (by decide +kernel)
set_option maxRecDepth 20000 in
theorem wsL_law_r19_in : ∀ w ∈ wsL_law_r19, w ∈ lw_tbl := mem_r _ [451, 452, 453, 454, 455, 847, 848, 849, 850, 851, 853, 28, 854, 692, 855, 857, 29, 858, 859, 861, 30, 862, 863, 865] (by decide +kernel)
set_option maxRecDepth 20000 in
theorem wsL_law_r20_in : ∀ w ∈ wsL_law_r20, w ∈ lw_tbl := mem_r _ [31, 866, 867, 868, 869, 870, 872, 32, 873, 460, 461, 462, 463, 464, 465, 466, 467, 468, 874, 875, 876, 877, 881, 878] (by decide +kernel)
set_option maxRecDepth 20000 in
theorem wsL_law_r21_in : ∀ w ∈ wsL_law_r21, w ∈ lw_tbl := mem_r _ [879, 880, 469, 470, 471, 472, 473, 474, 475, 476, 477, 478, 479, 480, 481, 482, 882, 883, 884, 885, 886, 888, 33, 889] (by decide +kernel)
set_option maxRecDepth 20000 in
theorem wsL_law_r22_in : ∀ w ∈ wsL_law_r22, w ∈ lw_tbl := mem_r _ [483, 484, 485, 486, 487, 488, 489, 490, 491, 890, 891, 892, 893, 894, 896, 34, 897, 492, 493, 494, 495, 496, 898, 899] (by decide +kernel)
set_option maxRecDepth 20000 in
theorem wsL_law_r23_in : ∀ w ∈ wsL_law_r23, w ∈ lw_tbl := mem_r _ [900, 901, 497, 498, 499, 500, 501, 502, 503, 504, 505, 902, 903, 904, 905, 906, 908, 35, 909, 506, 507, 508, 509, 510] (by decide +kernel)
set_option maxRecDepth 20000 in
theorem wsL_law_r24_in : ∀ w ∈ wsL_law_r24, w ∈ lw_tbl := mem_r _ [511, 512, 513, 514, 515, 516, 517, 910, 911, 912, 913, 518, 519, 520, 521, 168, 522, 523, 524, 525, 526, 527, 528, 529] (by decide +kernel)
set_option maxRecDepth 20000 in
theorem wsL_law_r25_in : ∀ w ∈ wsL_law_r25, w ∈ lw_tbl := mem_r _ [530, 914, 915, 916, 917, 918, 919, 921, 36, 922, 923, 925, 37, 926, 531, 532, 533, 534, 927, 928, 929, 930, 535, 536] (by decide +kernel)
set_option maxRecDepth 20000 in
theorem wsL_law_r26_in : ∀ w ∈ wsL_law_r26, w ∈ lw_tbl := mem_r _ [537, 538, 931, 932, 933, 934, 539, 540, 541, 542, 935, 936, 937, 938, 543, 544, 545, 546, 547, 548, 549, 550, 551, 552] (by decide +kernel)
set_option maxRecDepth 20000 in
theorem wsL_law_r27_in : ∀ w ∈ wsL_law_r27, w ∈ lw_tbl := mem_r _ [553, 554, 556, 11, 557, 558, 559, 560, 561, 562, 563, 564, 565, 566, 567, 568, 569, 570, 571, 572, 573, 574, 575, 576] (by decide +kernel)
set_option maxRecDepth 20000 in
theorem wsL_law_r28_in : ∀ w ∈ wsL_law_r28, w ∈ lw_tbl := mem_r _ [577, 939, 940, 941, 942, 943, 947, 944, 945, 946, 948, 950, 38, 951, 578, 579, 580, 581, 208, 582, 583, 584, 585, 952] (by decide +kernel)
set_option maxRecDepth 20000 in
theorem wsL_law_r29_in : ∀ w ∈ wsL_law_r29, w ∈ lw_tbl := mem_r _ [953, 954, 955, 694, 587, 588, 589, 590, 956, 957, 958, 959, 591, 592, 593, 594, 595, 596, 597, 598, 960, 961, 962, 963] (by decide +kernel)
set_option maxRecDepth 20000 in
theorem wsL_law_r30_in : ∀ w ∈ wsL_law_r30, w ∈ lw_tbl := mem_r _ [601, 602, 603, 604, 605, 606, 607, 608, 612, 609, 610, 611, 964, 965, 966, 967, 968, 969, 970, 971, 973, 39, 974, 975] (by decide +kernel)
set_option maxRecDepth 20000 in
theorem wsL_law_r31_in : ∀ w ∈ wsL_law_r31, w ∈ lw_tbl := mem_r _ [976, 977, 613, 614, 615, 616, 617, 618, 620, 12, 621, 622, 624, 13, 625, 626, 978, 979, 980, 981, 982, 984, 40, 985] (by decide +kernel)
set_option maxRecDepth 20000 in
theorem wsL_law_r32_in : ∀ w ∈ wsL_law_r32, w ∈ lw_tbl := mem_r _ [986, 988, 41, 989, 990, 992, 42, 993, 627, 628, 629, 630, 631, 633, 14, 634, 994, 995, 996, 997, 998, 999, 635, 636] (by decide +kernel)
set_option maxRecDepth 20000 in
theorem wsL_law_r33_in : ∀ w ∈ wsL_law_r33, w ∈ lw_tbl := mem_r _ [637, 638, 1000, 1001, 1002, 1003, 698, 639, 640, 641, 642, 643, 644, 645, 646, 648, 15, 649, 1004, 1005, 1006, 1007, 1008, 1009] (by decide +kernel)
set_option maxRecDepth 20000 in
theorem wsL_law_r34_in : ∀ w ∈ wsL_law_r34, w ∈ lw_tbl := mem_r _ [1010, 650, 651, 652, 653, 170, 654, 1011, 1012, 1013, 1014, 655, 656, 657, 658, 659, 1015, 1016, 1017, 1018, 660, 661, 662, 663] (by decide +kernel)
set_option maxRecDepth 20000 in
theorem wsL_law_r35_in : ∀ w ∈ wsL_law_r35, w ∈ lw_tbl := mem_r _ [1019, 1020, 1021, 1022] (by decide +kernel)
set_option maxRecDepth 20000 in
theorem inX6_law : ∀ w ∈ wsX60, w ∈ lw_tbl := mem_r _ [229, 231, 233, 235, 237, 239, 241, 243, 245, 247, 249] (by decide +kernel)
set_option maxRecDepth 20000 in
theorem inX7_law : ∀ w ∈ wsX70, w ∈ lw_tbl := mem_r _ [701, 703, 705, 707, 709, 711, 713, 715, 717, 719, 721, 723, 725, 727, 729, 731, 733, 735, 737, 739, 741, 743, 745, 747, 749, 751, 753, 755, 757, 759, 761] (by decide +kernel)
set_option maxRecDepth 20000 in
theorem inX5_law : ∀ w ∈ wsX50, w ∈ lw_tbl := mem_r _ [73, 75] (by decide +kernel)
set_option maxRecDepth 20000 in
theorem inX3_law : ∀ w ∈ wsX30, w ∈ lw_tbl := mem_r _ [88, 90, 92] (by decide +kernel)
set_option maxRecDepth 20000 in
theorem inX1_law : ∀ w ∈ wsX10, w ∈ lw_tbl := mem_r _ [132, 134, 136, 138, 140, 142, 144, 146, 148, 150, 152] (by decide +kernel)
set_option maxRecDepth 20000 in
theorem inX4_law : ∀ w ∈ wsX40, w ∈ lw_tbl := mem_r _ [171, 173, 175, 177, 179, 181] (by decide +kernel)
set_option maxRecDepth 20000 in
theorem inX0_law : ∀ w ∈ wsX00, w ∈ lw_tbl := mem_r _ [193, 195] (by decide +kernel)
set_option maxRecDepth 20000 in
theorem inX2_law : ∀ w ∈ wsX20, w ∈ lw_tbl := mem_r _ [209, 211, 213, 215] (by decide +kernel)
theorem mem_app2 {α : Type} {a b : List α} {P : α → Prop} (ha : ∀ w ∈ a, P w) (hb : ∀ w ∈ b, P w) : ∀ w ∈ a ++ b, P w := fun w h => (List.mem_append.mp h).elim (ha w) (hb w)
theorem wsL_law_in : ∀ w ∈ wsL_law, w ∈ lw_tbl := (mem_app2 (mem_app2 (mem_app2 (mem_app2 (mem_app2 (mem_app2 (mem_app2 (mem_app2 (mem_app2 (mem_app2 wsL_law_r1_in (mem_app2 wsL_law_r2_in (mem_app2 wsL_law_r3_in (mem_app2 wsL_law_r4_in (mem_app2 wsL_law_r5_in (mem_app2 wsL_law_r6_in (mem_app2 wsL_law_r7_in (mem_app2 wsL_law_r8_in (mem_app2 wsL_law_r9_in (mem_app2 wsL_law_r10_in (mem_app2 wsL_law_r11_in (mem_app2 wsL_law_r12_in (mem_app2 wsL_law_r13_in (mem_app2 wsL_law_r14_in (mem_app2 wsL_law_r15_in (mem_app2 wsL_law_r16_in (mem_app2 wsL_law_r17_in (mem_app2 wsL_law_r18_in (mem_app2 wsL_law_r19_in (mem_app2 wsL_law_r20_in (mem_app2 wsL_law_r21_in (mem_app2 wsL_law_r22_in (mem_app2 wsL_law_r23_in (mem_app2 wsL_law_r24_in (mem_app2 wsL_law_r25_in (mem_app2 wsL_law_r26_in (mem_app2 wsL_law_r27_in (mem_app2 wsL_law_r28_in (mem_app2 wsL_law_r29_in (mem_app2 wsL_law_r30_in (mem_app2 wsL_law_r31_in (mem_app2 wsL_law_r32_in (mem_app2 wsL_law_r33_in (mem_app2 wsL_law_r34_in wsL_law_r35_in)))))))))))))))))))))))))))))))))) inX6_law) inX7_law) inX5_law) inX3_law) inX1_law) inX4_law) inX0_law) inX2_law) (fun w h => absurd h List.not_mem_nil))
