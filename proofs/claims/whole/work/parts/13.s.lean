/-! THE LAW: its words among the tables' -/
theorem q_memr {big : List Cond} (ws : List Cond) (ps : List Nat) (hp : ws = ps.filterMap (fun i => big[i]?)) : ∀ w ∈ ws, w ∈ big := by
  intro w hw
  rw [hp] at hw
  obtain ⟨i, -, hi⟩ := List.mem_filterMap.mp hw
  exact List.mem_of_getElem? hi
theorem q_memA {big a b : List Cond} (ha : ∀ w ∈ a, w ∈ big) (hb : ∀ w ∈ b, w ∈ big) : ∀ w ∈ a ++ b, w ∈ big := fun w h => (List.mem_append.mp h).elim (ha w) (hb w)
theorem q_memN {big : List Cond} : ∀ w ∈ ([] : List Cond), w ∈ big := fun w h => absurd h List.not_mem_nil
set_option maxRecDepth 100000 in
theorem mi_1 : ∀ w ∈ wsL_law_r1, w ∈ lw_tbl := q_memr _ [76, 77, 64, 718, 719, 68, 78, 79, 80, 81, 82, 83, 84, 85, 65, 206, 122, 123, 66, 207, 208, 209, 210, 205] (by decide +kernel)
set_option maxRecDepth 100000 in
theorem mi_2 : ∀ w ∈ wsL_law_r2, w ∈ lw_tbl := q_memr _ [211, 185, 212, 183, 214, 215, 187, 67, 87, 88, 89, 121, 90, 125, 126, 127, 144, 146, 148, 150, 152, 154, 155, 189] (by decide +kernel)
set_option maxRecDepth 100000 in
theorem mi_3 : ∀ w ∈ wsL_law_r3, w ∈ lw_tbl := q_memr _ [190, 191, 192, 196, 720, 721, 722, 723, 732, 733, 734, 736, 741, 749, 754, 755, 756, 757, 758, 760, 724, 726, 27, 727] (by decide +kernel)
set_option maxRecDepth 100000 in
theorem mi_4 : ∀ w ∈ wsL_law_r4, w ∈ lw_tbl := q_memr _ [737, 738, 739, 740, 728, 730, 28, 731, 735, 237, 238, 239, 240, 92, 241, 242, 243, 244, 245, 246, 247, 91, 820, 821] (by decide +kernel)
set_option maxRecDepth 100000 in
theorem mi_5 : ∀ w ∈ wsL_law_r5, w ∈ lw_tbl := q_memr _ [822, 823, 824, 742, 825, 826, 827, 248, 249, 250, 251, 828, 829, 830, 831, 252, 253, 254, 255, 94, 96, 256, 257, 258] (by decide +kernel)
set_option maxRecDepth 100000 in
theorem mi_6 : ∀ w ∈ wsL_law_r6, w ∈ lw_tbl := q_memr _ [259, 128, 131, 133, 136, 139, 142, 260, 261, 262, 263, 93, 95, 97, 100, 101, 98, 264, 266, 0, 267, 99, 268, 270] (by decide +kernel)
set_option maxRecDepth 100000 in
theorem mi_7 : ∀ w ∈ wsL_law_r7, w ∈ lw_tbl := q_memr _ [1, 271, 272, 274, 2, 275, 276, 278, 3, 279, 280, 282, 4, 283, 284, 285, 286, 294, 296, 5, 297, 298, 299, 300] (by decide +kernel)
set_option maxRecDepth 100000 in
theorem mi_8 : ∀ w ∈ wsL_law_r8, w ∈ lw_tbl := q_memr _ [69, 301, 1158, 302, 303, 304, 305, 306, 1159, 308, 309, 310, 311, 312, 313, 314, 315, 316, 317, 70, 318, 319, 320, 321] (by decide +kernel)
set_option maxRecDepth 100000 in
theorem mi_9 : ∀ w ∈ wsL_law_r9, w ∈ lw_tbl := q_memr _ [322, 324, 325, 71, 326, 327, 328, 72, 329, 330, 331, 332, 333, 334, 335, 336, 337, 338, 339, 340, 342, 344, 346, 348] (by decide +kernel)
set_option maxRecDepth 100000 in
theorem mi_10 : ∀ w ∈ wsL_law_r10, w ∈ lw_tbl := q_memr _ [6, 349, 134, 350, 352, 7, 353, 354, 356, 8, 357, 359, 361, 9, 362, 137, 363, 365, 10, 366, 141, 367, 368, 369] (by decide +kernel)
set_option maxRecDepth 100000 in
theorem mi_11 : ∀ w ∈ wsL_law_r11, w ∈ lw_tbl := q_memr _ [370, 371, 373, 11, 374, 129, 375, 376, 377, 378, 379, 381, 12, 382, 383, 384, 385, 386, 387, 388, 389, 390, 392, 393] (by decide +kernel)
set_option maxRecDepth 100000 in
theorem mi_12 : ∀ w ∈ wsL_law_r12, w ∈ lw_tbl := q_memr _ [394, 395, 396, 398, 397, 73, 832, 833, 834, 835, 747, 743, 745, 748, 836, 838, 29, 839, 744, 844, 845, 846, 847, 746] (by decide +kernel)
set_option maxRecDepth 100000 in
theorem mi_13 : ∀ w ∈ wsL_law_r13, w ∈ lw_tbl := q_memr _ [840, 842, 30, 843, 848, 850, 31, 851, 852, 854, 32, 855, 856, 858, 33, 859, 860, 862, 34, 863, 864, 866, 35, 867] (by decide +kernel)
set_option maxRecDepth 100000 in
theorem mi_14 : ∀ w ∈ wsL_law_r14, w ∈ lw_tbl := q_memr _ [868, 870, 36, 871, 872, 874, 37, 875, 876, 878, 38, 879, 880, 882, 39, 883, 884, 886, 40, 887, 888, 890, 41, 891] (by decide +kernel)
set_option maxRecDepth 100000 in
theorem mi_15 : ∀ w ∈ wsL_law_r15, w ∈ lw_tbl := q_memr _ [399, 400, 401, 402, 892, 893, 894, 895, 403, 404, 405, 406, 130, 132, 135, 140, 407, 408, 409, 410, 411, 412, 413, 414] (by decide +kernel)
set_option maxRecDepth 100000 in
theorem mi_16 : ∀ w ∈ wsL_law_r16, w ∈ lw_tbl := q_memr _ [415, 416, 417, 418, 419, 420, 421, 422, 896, 897, 898, 899, 900, 902, 42, 903, 904, 906, 43, 907, 908, 910, 44, 911] (by decide +kernel)
set_option maxRecDepth 100000 in
theorem mi_17 : ∀ w ∈ wsL_law_r17, w ∈ lw_tbl := q_memr _ [912, 914, 45, 915, 916, 917, 918, 423, 424, 425, 426, 145, 147, 149, 151, 427, 428, 429, 430, 431, 432, 433, 434, 435] (by decide +kernel)
set_option maxRecDepth 100000 in
theorem mi_18 : ∀ w ∈ wsL_law_r18, w ∈ lw_tbl := q_memr _ [436, 437, 438, 439, 440, 442, 13, 443, 919, 920, 921, 922, 927, 923, 925, 46, 926, 928, 930, 47, 931, 932, 934, 48] (by decide +kernel)
set_option maxRecDepth 100000 in
theorem mi_19 : ∀ w ∈ wsL_law_r19, w ∈ lw_tbl := q_memr _ [935, 936, 938, 49, 939, 444, 445, 446, 447, 153, 940, 941, 942, 943, 944, 448, 449, 450, 451, 452, 453, 454, 945, 946] (by decide +kernel)
set_option maxRecDepth 100000 in
theorem mi_20 : ∀ w ∈ wsL_law_r20, w ∈ lw_tbl := q_memr _ [947, 948, 949, 950, 951, 953, 50, 954, 455, 456, 457, 458, 955, 956, 957, 958, 959, 459, 460, 461, 462, 138, 960, 961] (by decide +kernel)
set_option maxRecDepth 100000 in
theorem mi_21 : ∀ w ∈ wsL_law_r21, w ∈ lw_tbl := q_memr _ [962, 963, 463, 464, 465, 466, 467, 964, 965, 966, 967, 468, 469, 470, 471, 968, 969, 970, 971, 472, 473, 474, 475, 476] (by decide +kernel)
set_option maxRecDepth 100000 in
theorem mi_22 : ∀ w ∈ wsL_law_r22, w ∈ lw_tbl := q_memr _ [477, 478, 479, 480, 481, 482, 483, 484, 486, 14, 487, 488, 489, 74, 490, 492, 493, 494, 496, 15, 497, 498, 500, 16] (by decide +kernel)
set_option maxRecDepth 100000 in
theorem mi_23 : ∀ w ∈ wsL_law_r23, w ∈ lw_tbl := q_memr _ [501, 502, 504, 17, 505, 972, 973, 974, 975, 976, 977, 979, 51, 980, 750, 981, 983, 52, 984, 985, 987, 53, 988, 989] (by decide +kernel)
set_option maxRecDepth 100000 in
theorem mi_24 : ∀ w ∈ wsL_law_r24, w ∈ lw_tbl := q_memr _ [991, 54, 992, 993, 994, 995, 996, 998, 55, 999, 1000, 1002, 56, 1003, 506, 507, 508, 509, 510, 1004, 1005, 1006, 1007, 1008] (by decide +kernel)
set_option maxRecDepth 100000 in
theorem mi_25 : ∀ w ∈ wsL_law_r25, w ∈ lw_tbl := q_memr _ [1009, 1010, 1011, 511, 512, 513, 514, 515, 1012, 1013, 1014, 1015, 1016, 1017, 1018, 516, 517, 518, 519, 520, 521, 522, 523, 1019] (by decide +kernel)
set_option maxRecDepth 100000 in
theorem mi_26 : ∀ w ∈ wsL_law_r26, w ∈ lw_tbl := q_memr _ [1020, 1021, 1022, 1023, 1025, 57, 1026, 524, 525, 526, 527, 528, 529, 530, 531, 532, 533, 534, 1027, 1028, 1029, 1030, 1031, 1032] (by decide +kernel)
set_option maxRecDepth 100000 in
theorem mi_27 : ∀ w ∈ wsL_law_r27, w ∈ lw_tbl := q_memr _ [1033, 1034, 1035, 1036, 1037, 535, 536, 537, 538, 1038, 1039, 1040, 1041, 539, 540, 541, 542, 1042, 1043, 1044, 1045, 543, 544, 545] (by decide +kernel)
set_option maxRecDepth 100000 in
theorem mi_28 : ∀ w ∈ wsL_law_r28, w ∈ lw_tbl := q_memr _ [546, 1046, 1047, 1048, 1049, 547, 548, 549, 550, 1050, 1051, 1052, 1053, 551, 552, 553, 554, 555, 556, 557, 558, 559, 1054, 1055] (by decide +kernel)
set_option maxRecDepth 100000 in
theorem mi_29 : ∀ w ∈ wsL_law_r29, w ∈ lw_tbl := q_memr _ [1056, 1057, 560, 561, 562, 563, 564, 566, 18, 567, 568, 569, 570, 571, 572, 573, 574, 75, 575, 576, 577, 578, 579, 581] (by decide +kernel)
set_option maxRecDepth 100000 in
theorem mi_30 : ∀ w ∈ wsL_law_r30, w ∈ lw_tbl := q_memr _ [19, 582, 1058, 1059, 1060, 1061, 1062, 1064, 58, 1065, 1066, 1067, 1068, 583, 584, 585, 586, 587, 589, 20, 590, 1069, 1070, 1071] (by decide +kernel)
set_option maxRecDepth 100000 in
theorem mi_31 : ∀ w ∈ wsL_law_r31, w ∈ lw_tbl := q_memr _ [1072, 591, 592, 593, 594, 595, 597, 21, 598, 606, 599, 600, 601, 602, 604, 22, 605, 1073, 1074, 1075, 1076, 751, 753, 1077] (by decide +kernel)
set_option maxRecDepth 100000 in
theorem mi_32 : ∀ w ∈ wsL_law_r32, w ∈ lw_tbl := q_memr _ [1079, 59, 1080, 1081, 1082, 1083, 1085, 60, 1086, 752, 607, 608, 609, 610, 1087, 1088, 1089, 1090, 611, 612, 613, 614, 143, 615] (by decide +kernel)
set_option maxRecDepth 100000 in
theorem mi_33 : ∀ w ∈ wsL_law_r33, w ∈ lw_tbl := q_memr _ [616, 617, 618, 1091, 1092, 1093, 1094, 619, 620, 621, 622, 1095, 1096, 1097, 1098, 623, 624, 625, 626, 627, 628, 629, 630, 631] (by decide +kernel)
set_option maxRecDepth 100000 in
theorem mi_34 : ∀ w ∈ wsL_law_r34, w ∈ lw_tbl := q_memr _ [632, 633, 634, 1099, 1100, 1101, 1102, 1103, 1105, 61, 1106, 635, 636, 637, 638, 639, 641, 23, 642, 1107, 1108, 1109, 1110, 643] (by decide +kernel)
set_option maxRecDepth 100000 in
theorem mi_35 : ∀ w ∈ wsL_law_r35, w ∈ lw_tbl := q_memr _ [644, 645, 646, 647, 649, 24, 650, 651, 653, 25, 654, 655, 656, 657, 1111, 1112, 1113, 1114, 658, 659, 660, 661, 662, 1115] (by decide +kernel)
set_option maxRecDepth 100000 in
theorem mi_36 : ∀ w ∈ wsL_law_r36, w ∈ lw_tbl := q_memr _ [1116, 1117, 1118, 1119, 663, 664, 665, 666, 1120, 1121, 1122, 1123, 1124, 1126, 62, 1127, 667, 668, 669, 670, 1128, 1129, 1130, 1131] (by decide +kernel)
set_option maxRecDepth 100000 in
theorem mi_37 : ∀ w ∈ wsL_law_r37, w ∈ lw_tbl := q_memr _ [671, 672, 673, 674, 675, 676, 677, 678, 194, 1132, 1133, 1134, 1135, 1136, 1137, 1138, 1139, 679, 680, 681, 682, 683, 684, 685] (by decide +kernel)
set_option maxRecDepth 100000 in
theorem mi_38 : ∀ w ∈ wsL_law_r38, w ∈ lw_tbl := q_memr _ [686, 688, 689, 690, 691, 1140, 1141, 1142, 1143, 692, 693, 694, 695, 197, 213, 696, 697, 698, 699, 700, 701, 703, 26, 704] (by decide +kernel)
set_option maxRecDepth 100000 in
theorem mi_39 : ∀ w ∈ wsL_law_r39, w ∈ lw_tbl := q_memr _ [705, 1144, 1145, 1146, 1147, 759, 1148, 1149, 706, 707, 708, 709, 1150, 1151, 1152, 1153, 710, 711, 712, 713, 193, 195, 714, 715] (by decide +kernel)
set_option maxRecDepth 100000 in
theorem mi_40 : ∀ w ∈ wsL_law_r40, w ∈ lw_tbl := q_memr _ [716, 717, 1154, 1155, 1156, 1157] (by decide +kernel)
set_option maxRecDepth 100000 in
theorem mx_0 : ∀ w ∈ wsX00, w ∈ lw_tbl := q_memr _ [198, 200, 202] (by decide +kernel)
set_option maxRecDepth 100000 in
theorem mx_1 : ∀ w ∈ wsX10, w ∈ lw_tbl := q_memr _ [102, 104, 106, 108, 110, 112, 114, 116, 118] (by decide +kernel)
set_option maxRecDepth 100000 in
theorem mx_2 : ∀ w ∈ wsX20, w ∈ lw_tbl := q_memr _ [156, 158, 160, 162, 164, 166, 168, 170, 172, 174, 176, 178, 180] (by decide +kernel)
set_option maxRecDepth 100000 in
theorem mx_3 : ∀ w ∈ wsX30, w ∈ lw_tbl := q_memr _ [216, 218, 220, 222, 224, 226, 228, 230, 232, 234] (by decide +kernel)
set_option maxRecDepth 100000 in
theorem mx_4 : ∀ w ∈ wsX40, w ∈ lw_tbl := q_memr _ [761, 763, 765, 767, 769, 771, 773, 775, 777, 779, 781, 783, 785, 787, 789, 791, 793, 795, 797, 799, 801, 803, 805, 807, 809, 811, 813, 815, 817] (by decide +kernel)
theorem law_in : ∀ w ∈ wsL_law, w ∈ lw_tbl := by
  unfold wsL_law
  exact q_memA (q_memA (q_memA (q_memA (q_memA (q_memA (q_memA mi_1 (q_memA mi_2 (q_memA mi_3 (q_memA mi_4 (q_memA mi_5 (q_memA mi_6 (q_memA mi_7 (q_memA mi_8 (q_memA mi_9 (q_memA mi_10 (q_memA mi_11 (q_memA mi_12 (q_memA mi_13 (q_memA mi_14 (q_memA mi_15 (q_memA mi_16 (q_memA mi_17 (q_memA mi_18 (q_memA mi_19 (q_memA mi_20 (q_memA mi_21 (q_memA mi_22 (q_memA mi_23 (q_memA mi_24 (q_memA mi_25 (q_memA mi_26 (q_memA mi_27 (q_memA mi_28 (q_memA mi_29 (q_memA mi_30 (q_memA mi_31 (q_memA mi_32 (q_memA mi_33 (q_memA mi_34 (q_memA mi_35 (q_memA mi_36 (q_memA mi_37 (q_memA mi_38 (q_memA mi_39 (mi_40)))))))))))))))))))))))))))))))))))))))) mx_3) mx_4) mx_1) mx_2) mx_0) q_memN
