theorem zm_all {big : List Cond} (ws : List Cond) (ps : List Nat) (hp : ws = ps.filterMap (fun i => big[i]?)) : ∀ w ∈ ws, w ∈ big := by
  intro w hw
  rw [hp] at hw
  obtain ⟨i, -, hi⟩ := List.mem_filterMap.mp hw
  first | exact List.mem_of_getElem? hi | exact List.getElem?_mem hi
theorem zm_app {big a b : List Cond} (ha : ∀ w ∈ a, w ∈ big) (hb : ∀ w ∈ b, w ∈ big) : ∀ w ∈ a ++ b, w ∈ big := fun w h => (List.mem_append.mp h).elim (ha w) (hb w)
set_option maxRecDepth 20000 in
theorem zm_r1 : ∀ w ∈ wsL_law_r1, w ∈ lw_tbl := zm_all _ [62, 63, 51, 723, 724, 58, 1086, 64, 65, 66, 67, 68, 69, 70, 71, 52, 253, 86, 87, 53, 254, 255, 160, 256] (by decide +kernel)
set_option maxRecDepth 20000 in
theorem zm_r2 : ∀ w ∈ wsL_law_r2, w ∈ lw_tbl := zm_all _ [173, 174, 55, 257, 258, 85, 259, 216, 217, 56, 260, 261, 262, 233, 234, 57, 263, 73, 74, 75, 76, 89, 90, 91] (by decide +kernel)
set_option maxRecDepth 20000 in
theorem zm_r3 : ∀ w ∈ wsL_law_r3, w ∈ lw_tbl := zm_all _ [92, 93, 54, 159, 161, 95, 96, 97, 115, 117, 119, 121, 123, 126, 129, 176, 177, 178, 179, 181, 183, 185, 218, 219] (by decide +kernel)
set_option maxRecDepth 20000 in
theorem zm_r4 : ∀ w ∈ wsL_law_r4, w ∈ lw_tbl := zm_all _ [220, 221, 222, 225, 236, 237, 238, 239, 240, 241, 725, 726, 727, 728, 734, 735, 736, 737, 738, 739, 740, 741, 742, 743] (by decide +kernel)
set_option maxRecDepth 20000 in
theorem zm_r5 : ∀ w ∈ wsL_law_r5, w ∈ lw_tbl := zm_all _ [744, 748, 757, 758, 760, 761, 762, 841, 764, 765, 752, 753, 293, 294, 295, 296, 79, 297, 298, 299, 300, 77, 302, 303] (by decide +kernel)
set_option maxRecDepth 20000 in
theorem zm_r6 : ∀ w ∈ wsL_law_r6, w ∈ lw_tbl := zm_all _ [842, 843, 844, 845, 846, 749, 847, 848, 849, 304, 305, 306, 307, 850, 851, 852, 853, 308, 309, 310, 311, 312, 313, 314] (by decide +kernel)
set_option maxRecDepth 20000 in
theorem zm_r7 : ∀ w ∈ wsL_law_r7, w ∈ lw_tbl := zm_all _ [315, 162, 78, 316, 317, 318, 319, 102, 105, 108, 112, 320, 321, 322, 323, 98, 100, 324, 325, 326, 327, 329, 330, 331] (by decide +kernel)
set_option maxRecDepth 20000 in
theorem zm_r8 : ∀ w ∈ wsL_law_r8, w ∈ lw_tbl := zm_all _ [333, 0, 334, 163, 335, 337, 1, 338, 103, 110, 339, 340, 341, 342, 343, 345, 2, 346, 347, 348, 349, 350, 352, 353] (by decide +kernel)
set_option maxRecDepth 20000 in
theorem zm_r9 : ∀ w ∈ wsL_law_r9, w ∈ lw_tbl := zm_all _ [354, 355, 356, 358, 359, 360, 361, 363, 364, 368, 370, 3, 371, 373, 375, 4, 376, 377, 379, 5, 380, 381, 382, 383] (by decide +kernel)
set_option maxRecDepth 20000 in
theorem zm_r10 : ∀ w ∈ wsL_law_r10, w ∈ lw_tbl := zm_all _ [384, 386, 387, 388, 389, 390, 391, 392, 393, 394, 854, 855, 856, 857, 858, 860, 25, 861, 750, 751, 745, 746, 747, 862] (by decide +kernel)
set_option maxRecDepth 20000 in
theorem zm_r11 : ∀ w ∈ wsL_law_r11, w ∈ lw_tbl := zm_all _ [864, 26, 865, 866, 867, 868, 869, 870, 872, 27, 873, 874, 876, 28, 877, 878, 880, 29, 881, 395, 396, 397, 398, 227] (by decide +kernel)
set_option maxRecDepth 20000 in
theorem zm_r12 : ∀ w ∈ wsL_law_r12, w ∈ lw_tbl := zm_all _ [264, 104, 107, 111, 399, 400, 401, 402, 122, 127, 109, 187, 189, 106, 191, 193, 195, 882, 883, 884, 885, 729, 730, 731] (by decide +kernel)
set_option maxRecDepth 20000 in
theorem zm_r13 : ∀ w ∈ wsL_law_r13, w ∈ lw_tbl := zm_all _ [732, 733, 886, 887, 755, 406, 407, 408, 409, 116, 113, 194, 196, 192, 410, 412, 6, 413, 414, 415, 416, 417, 418, 419] (by decide +kernel)
set_option maxRecDepth 20000 in
theorem zm_r14 : ∀ w ∈ wsL_law_r14, w ∈ lw_tbl := zm_all _ [420, 421, 422, 423, 424, 425, 426, 427, 888, 889, 890, 891, 892, 894, 30, 895, 896, 898, 31, 899, 900, 902, 32, 903] (by decide +kernel)
set_option maxRecDepth 20000 in
theorem zm_r15 : ∀ w ∈ wsL_law_r15, w ∈ lw_tbl := zm_all _ [428, 429, 430, 431, 118, 120, 432, 434, 7, 435, 904, 905, 906, 907, 908, 910, 33, 911, 436, 437, 438, 439, 180, 182] (by decide +kernel)
set_option maxRecDepth 20000 in
theorem zm_r16 : ∀ w ∈ wsL_law_r16, w ∈ lw_tbl := zm_all _ [184, 128, 130, 190, 124, 440, 442, 8, 443, 444, 445, 446, 447, 449, 450, 452, 453, 454, 455, 456, 457, 458, 459, 912] (by decide +kernel)
set_option maxRecDepth 20000 in
theorem zm_r17 : ∀ w ∈ wsL_law_r17, w ∈ lw_tbl := zm_all _ [913, 914, 915, 916, 918, 34, 919, 920, 922, 35, 923, 924, 926, 36, 927, 754, 928, 930, 37, 931, 460, 461, 462, 463] (by decide +kernel)
set_option maxRecDepth 20000 in
theorem zm_r18 : ∀ w ∈ wsL_law_r18, w ∈ lw_tbl := zm_all _ [464, 465, 466, 467, 226, 468, 470, 9, 471, 472, 474, 10, 475, 476, 477, 478, 479, 480, 481, 482, 483, 484, 485, 486] (by decide +kernel)
set_option maxRecDepth 20000 in
theorem zm_r19 : ∀ w ∈ wsL_law_r19, w ∈ lw_tbl := zm_all _ [487, 488, 489, 490, 492, 11, 493, 494, 495, 59, 496, 497, 499, 12, 500, 125, 114, 932, 933, 934, 935, 936, 938, 38] (by decide +kernel)
set_option maxRecDepth 20000 in
theorem zm_r20 : ∀ w ∈ wsL_law_r20, w ∈ lw_tbl := zm_all _ [939, 756, 940, 942, 39, 943, 944, 946, 40, 947, 501, 502, 503, 504, 505, 506, 507, 508, 948, 949, 950, 951, 509, 510] (by decide +kernel)
set_option maxRecDepth 20000 in
theorem zm_r21 : ∀ w ∈ wsL_law_r21, w ∈ lw_tbl := zm_all _ [511, 512, 513, 514, 515, 516, 952, 953, 954, 955, 517, 518, 519, 520, 521, 522, 523, 524, 956, 957, 958, 959, 960, 962] (by decide +kernel)
set_option maxRecDepth 20000 in
theorem zm_r22 : ∀ w ∈ wsL_law_r22, w ∈ lw_tbl := zm_all _ [41, 963, 525, 526, 527, 528, 529, 530, 531, 532, 964, 965, 966, 967, 533, 534, 535, 536, 537, 538, 539, 540, 542, 13] (by decide +kernel)
set_option maxRecDepth 20000 in
theorem zm_r23 : ∀ w ∈ wsL_law_r23, w ∈ lw_tbl := zm_all _ [543, 544, 545, 546, 547, 548, 549, 550, 551, 552, 553, 554, 555, 556, 131, 968, 969, 970, 971, 972, 973, 975, 42, 976] (by decide +kernel)
set_option maxRecDepth 20000 in
theorem zm_r24 : ∀ w ∈ wsL_law_r24, w ∈ lw_tbl := zm_all _ [977, 979, 43, 980, 981, 983, 44, 984, 557, 558, 559, 560, 561, 562, 563, 564, 565, 566, 567, 568, 985, 986, 987, 988] (by decide +kernel)
set_option maxRecDepth 20000 in
theorem zm_r25 : ∀ w ∈ wsL_law_r25, w ∈ lw_tbl := zm_all _ [569, 570, 571, 572, 573, 574, 575, 576, 577, 579, 14, 580, 989, 990, 991, 992, 581, 582, 583, 584, 585, 993, 994, 995] (by decide +kernel)
set_option maxRecDepth 20000 in
theorem zm_r26 : ∀ w ∈ wsL_law_r26, w ∈ lw_tbl := zm_all _ [996, 586, 587, 588, 589, 590, 592, 15, 593, 594, 595, 60, 596, 597, 598, 599, 600, 61, 601, 602, 603, 604, 605, 607] (by decide +kernel)
set_option maxRecDepth 20000 in
theorem zm_r27 : ∀ w ∈ wsL_law_r27, w ∈ lw_tbl := zm_all _ [16, 608, 997, 998, 999, 1000, 1001, 1002, 1003, 609, 610, 611, 612, 613, 614, 615, 616, 618, 17, 619, 1004, 1005, 1006, 1007] (by decide +kernel)
set_option maxRecDepth 20000 in
theorem zm_r28 : ∀ w ∈ wsL_law_r28, w ∈ lw_tbl := zm_all _ [1008, 1009, 1010, 1011, 1013, 45, 1014, 620, 621, 622, 623, 243, 624, 625, 626, 627, 242, 1015, 1016, 1017, 1018, 759, 629, 630] (by decide +kernel)
set_option maxRecDepth 20000 in
theorem zm_r29 : ∀ w ∈ wsL_law_r29, w ∈ lw_tbl := zm_all _ [631, 632, 1019, 1020, 1021, 1022, 633, 634, 635, 636, 637, 639, 18, 640, 186, 641, 642, 643, 644, 1023, 1024, 1025, 1026, 1027] (by decide +kernel)
set_option maxRecDepth 20000 in
theorem zm_r30 : ∀ w ∈ wsL_law_r30, w ∈ lw_tbl := zm_all _ [1029, 46, 1030, 646, 647, 648, 649, 658, 650, 652, 19, 653, 188, 654, 656, 20, 657, 660, 661, 662, 663, 664, 665, 666] (by decide +kernel)
set_option maxRecDepth 20000 in
theorem zm_r31 : ∀ w ∈ wsL_law_r31, w ∈ lw_tbl := zm_all _ [667, 668, 1031, 1032, 1033, 1034, 1035, 1036, 1037, 1038, 1040, 47, 1041, 1042, 1043, 1044, 669, 670, 671, 672, 673, 675, 21, 676] (by decide +kernel)
set_option maxRecDepth 20000 in
theorem zm_r32 : ∀ w ∈ wsL_law_r32, w ∈ lw_tbl := zm_all _ [677, 679, 22, 680, 681, 682, 683, 1045, 1046, 1047, 1048, 1049, 1051, 48, 1052, 1053, 1055, 49, 1056, 684, 685, 686, 687, 688] (by decide +kernel)
set_option maxRecDepth 20000 in
theorem zm_r33 : ∀ w ∈ wsL_law_r33, w ∈ lw_tbl := zm_all _ [689, 690, 691, 693, 23, 694, 99, 101, 695, 1057, 1058, 1059, 1060, 1061, 1062, 696, 697, 698, 699, 265, 1063, 1064, 1065, 1066] (by decide +kernel)
set_option maxRecDepth 20000 in
theorem zm_r34 : ∀ w ∈ wsL_law_r34, w ∈ lw_tbl := zm_all _ [763, 700, 701, 702, 703, 704, 705, 706, 1067, 1068, 1069, 1070, 1071, 1072, 1073, 707, 708, 709, 710, 711, 713, 24, 714, 1074] (by decide +kernel)
set_option maxRecDepth 20000 in
theorem zm_r35 : ∀ w ∈ wsL_law_r35, w ∈ lw_tbl := zm_all _ [1075, 1076, 1077, 715, 716, 717, 718, 1078, 1079, 1080, 1081, 719, 720, 721, 722, 1082, 1083, 1084, 1085] (by decide +kernel)
set_option maxRecDepth 20000 in
theorem zm_X6 : ∀ w ∈ wsX60, w ∈ lw_tbl := zm_all _ [266, 268, 270, 272, 274, 276, 278, 280, 282, 284, 286, 288, 290] (by decide +kernel)
set_option maxRecDepth 20000 in
theorem zm_X7 : ∀ w ∈ wsX70, w ∈ lw_tbl := zm_all _ [766, 768, 770, 772, 774, 776, 778, 780, 782, 784, 786, 788, 790, 792, 794, 796, 798, 800, 802, 804, 806, 808, 810, 812, 814, 816, 818, 820, 822, 824, 826, 828, 830, 832, 834, 836, 838] (by decide +kernel)
set_option maxRecDepth 20000 in
theorem zm_X1 : ∀ w ∈ wsX10, w ∈ lw_tbl := zm_all _ [80, 82] (by decide +kernel)
set_option maxRecDepth 20000 in
theorem zm_X4 : ∀ w ∈ wsX40, w ∈ lw_tbl := zm_all _ [164, 166, 168, 170] (by decide +kernel)
set_option maxRecDepth 20000 in
theorem zm_X2 : ∀ w ∈ wsX20, w ∈ lw_tbl := zm_all _ [197, 199, 201, 203, 205, 207, 209, 211, 213] (by decide +kernel)
set_option maxRecDepth 20000 in
theorem zm_X5 : ∀ w ∈ wsX50, w ∈ lw_tbl := zm_all _ [228, 230] (by decide +kernel)
set_option maxRecDepth 20000 in
theorem zm_X0 : ∀ w ∈ wsX00, w ∈ lw_tbl := zm_all _ [244, 246, 248, 250] (by decide +kernel)
set_option maxRecDepth 20000 in
theorem zm_X3 : ∀ w ∈ wsX30, w ∈ lw_tbl := zm_all _ [132, 134, 136, 138, 140, 142, 144, 146, 148, 150, 152, 154, 156] (by decide +kernel)
theorem wsL_law_in : ∀ w ∈ wsL_law, w ∈ lw_tbl := zm_app (zm_app (zm_app (zm_app (zm_app (zm_app (zm_app (zm_app (zm_app (zm_app zm_r1 (zm_app zm_r2 (zm_app zm_r3 (zm_app zm_r4 (zm_app zm_r5 (zm_app zm_r6 (zm_app zm_r7 (zm_app zm_r8 (zm_app zm_r9 (zm_app zm_r10 (zm_app zm_r11 (zm_app zm_r12 (zm_app zm_r13 (zm_app zm_r14 (zm_app zm_r15 (zm_app zm_r16 (zm_app zm_r17 (zm_app zm_r18 (zm_app zm_r19 (zm_app zm_r20 (zm_app zm_r21 (zm_app zm_r22 (zm_app zm_r23 (zm_app zm_r24 (zm_app zm_r25 (zm_app zm_r26 (zm_app zm_r27 (zm_app zm_r28 (zm_app zm_r29 (zm_app zm_r30 (zm_app zm_r31 (zm_app zm_r32 (zm_app zm_r33 (zm_app zm_r34 (zm_r35))))))))))))))))))))))))))))))))))) zm_X6) zm_X7) zm_X1) zm_X4) zm_X2) zm_X5) zm_X0) zm_X3) (fun _ h => absurd h List.not_mem_nil)
theorem inlX0 : ∀ w ∈ wsX00, w ∈ wsL_law := fun _ h => List.mem_append_left _ (List.mem_append_left _ (List.mem_append_right _ h))
theorem inX0 : ∀ w ∈ wsX00, w ∈ lw_tbl := fun w h => wsL_law_in w (inlX0 w h)
theorem inlX1 : ∀ w ∈ wsX10, w ∈ wsL_law := fun _ h => List.mem_append_left _ (List.mem_append_left _ (List.mem_append_left _ (List.mem_append_left _ (List.mem_append_left _ (List.mem_append_left _ (List.mem_append_right _ h))))))
theorem inX1 : ∀ w ∈ wsX10, w ∈ lw_tbl := fun w h => wsL_law_in w (inlX1 w h)
theorem inlX2 : ∀ w ∈ wsX20, w ∈ wsL_law := fun _ h => List.mem_append_left _ (List.mem_append_left _ (List.mem_append_left _ (List.mem_append_left _ (List.mem_append_right _ h))))
theorem inX2 : ∀ w ∈ wsX20, w ∈ lw_tbl := fun w h => wsL_law_in w (inlX2 w h)
theorem inlX3 : ∀ w ∈ wsX30, w ∈ wsL_law := fun _ h => List.mem_append_left _ (List.mem_append_right _ h)
theorem inX3 : ∀ w ∈ wsX30, w ∈ lw_tbl := fun w h => wsL_law_in w (inlX3 w h)
theorem inlX4 : ∀ w ∈ wsX40, w ∈ wsL_law := fun _ h => List.mem_append_left _ (List.mem_append_left _ (List.mem_append_left _ (List.mem_append_left _ (List.mem_append_left _ (List.mem_append_right _ h)))))
theorem inX4 : ∀ w ∈ wsX40, w ∈ lw_tbl := fun w h => wsL_law_in w (inlX4 w h)
theorem inlX5 : ∀ w ∈ wsX50, w ∈ wsL_law := fun _ h => List.mem_append_left _ (List.mem_append_left _ (List.mem_append_left _ (List.mem_append_right _ h)))
theorem inX5 : ∀ w ∈ wsX50, w ∈ lw_tbl := fun w h => wsL_law_in w (inlX5 w h)
theorem inlX6 : ∀ w ∈ wsX60, w ∈ wsL_law := fun _ h => List.mem_append_left _ (List.mem_append_left _ (List.mem_append_left _ (List.mem_append_left _ (List.mem_append_left _ (List.mem_append_left _ (List.mem_append_left _ (List.mem_append_left _ (List.mem_append_right _ h))))))))
theorem inX6 : ∀ w ∈ wsX60, w ∈ lw_tbl := fun w h => wsL_law_in w (inlX6 w h)
theorem inlX7 : ∀ w ∈ wsX70, w ∈ wsL_law := fun _ h => List.mem_append_left _ (List.mem_append_left _ (List.mem_append_left _ (List.mem_append_left _ (List.mem_append_left _ (List.mem_append_left _ (List.mem_append_left _ (List.mem_append_right _ h)))))))
theorem inX7 : ∀ w ∈ wsX70, w ∈ lw_tbl := fun w h => wsL_law_in w (inlX7 w h)
theorem inJ6 : ∀ w ∈ wsJ60, w ∈ lw_tbl := by decide +kernel
theorem inJ9 : ∀ w ∈ wsJ90, w ∈ lw_tbl := by decide +kernel
theorem inJ7 : ∀ w ∈ wsJ70, w ∈ lw_tbl := by decide +kernel
