theorem mem_r {big : List Cond} (ws : List Cond) (ps : List Nat) (hp : ws = ps.filterMap (fun i => big[i]?)) : ∀ w ∈ ws, w ∈ big := by
  intro w hw
  rw [hp] at hw
  obtain ⟨i, -, hi⟩ := List.mem_filterMap.mp hw
  exact List.mem_of_getElem? hi
set_option maxRecDepth 20000 in
theorem wsL_in_r1 : ∀ w ∈ wsL_law_r1, w ∈ lw_tbl := mem_r _ [64, 65, 49, 825, 826, 55, 66, 67, 68, 69, 70, 71, 72, 73, 50, 234, 107, 108, 51, 235, 236, 237, 238, 239] (by decide +kernel)
set_option maxRecDepth 20000 in
theorem wsL_in_r2 : ∀ w ∈ wsL_law_r2, w ∈ lw_tbl := mem_r _ [198, 240, 169, 241, 171, 172, 52, 242, 199, 200, 53, 243, 244, 245, 212, 54, 75, 76, 77, 106, 78, 79, 81, 82] (by decide +kernel)
set_option maxRecDepth 20000 in
theorem wsL_in_r3 : ∀ w ∈ wsL_law_r3, w ∈ lw_tbl := mem_r _ [84, 85, 86, 88, 110, 111, 112, 113, 117, 120, 122, 124, 167, 127, 129, 131, 133, 136, 138, 140, 174, 175, 176, 177] (by decide +kernel)
set_option maxRecDepth 20000 in
theorem wsL_in_r4 : ∀ w ∈ wsL_law_r4, w ∈ lw_tbl := mem_r _ [179, 180, 181, 182, 183, 202, 203, 204, 205, 206, 214, 215, 216, 217, 219, 221, 223, 827, 828, 829, 830, 831, 832, 835] (by decide +kernel)
set_option maxRecDepth 20000 in
theorem wsL_in_r5 : ∀ w ∈ wsL_law_r5, w ∈ lw_tbl := mem_r _ [844, 845, 846, 847, 848, 850, 851, 852, 853, 854, 271, 272, 273, 274, 80, 275, 276, 277, 278, 907, 908, 909, 910, 911] (by decide +kernel)
set_option maxRecDepth 20000 in
theorem wsL_in_r6 : ∀ w ∈ wsL_law_r6, w ∈ lw_tbl := mem_r _ [836, 912, 913, 914, 279, 280, 281, 282, 915, 916, 917, 918, 283, 284, 285, 286, 87, 83, 178, 287, 288, 289, 290, 291] (by decide +kernel)
set_option maxRecDepth 20000 in
theorem wsL_in_r7 : ∀ w ∈ wsL_law_r7, w ∈ lw_tbl := mem_r _ [292, 293, 294, 295, 297, 0, 298, 299, 300, 301, 302, 304, 1, 305, 306, 307, 308, 309, 311, 2, 312, 313, 315, 3] (by decide +kernel)
set_option maxRecDepth 20000 in
theorem wsL_in_r8 : ∀ w ∈ wsL_law_r8, w ∈ lw_tbl := mem_r _ [316, 317, 319, 4, 320, 321, 323, 5, 324, 325, 327, 6, 328, 330, 332, 7, 333, 334, 335, 336, 56, 337, 1231, 338] (by decide +kernel)
set_option maxRecDepth 20000 in
theorem wsL_in_r9 : ∀ w ∈ wsL_law_r9, w ∈ lw_tbl := mem_r _ [339, 340, 341, 342, 1232, 344, 345, 346, 347, 348, 349, 350, 351, 352, 353, 57, 354, 355, 356, 357, 358, 360, 361, 58] (by decide +kernel)
set_option maxRecDepth 20000 in
theorem wsL_in_r10 : ∀ w ∈ wsL_law_r10, w ∈ lw_tbl := mem_r _ [362, 363, 364, 59, 365, 366, 367, 368, 369, 370, 371, 372, 373, 374, 375, 376, 378, 380, 385, 387, 8, 388, 125, 389] (by decide +kernel)
set_option maxRecDepth 20000 in
theorem wsL_in_r11 : ∀ w ∈ wsL_law_r11, w ∈ lw_tbl := mem_r _ [391, 9, 392, 393, 395, 10, 396, 397, 398, 399, 400, 401, 403, 11, 404, 406, 408, 12, 409, 134, 410, 411, 412, 413] (by decide +kernel)
set_option maxRecDepth 20000 in
theorem wsL_in_r12 : ∀ w ∈ wsL_law_r12, w ∈ lw_tbl := mem_r _ [415, 417, 13, 418, 116, 419, 420, 421, 422, 423, 424, 60, 425, 427, 429, 14, 430, 119, 431, 432, 433, 434, 919, 920] (by decide +kernel)
set_option maxRecDepth 20000 in
theorem wsL_in_r13 : ∀ w ∈ wsL_law_r13, w ∈ lw_tbl := mem_r _ [921, 922, 838, 840, 833, 834, 842, 837, 839, 849, 923, 925, 21, 926, 841, 843, 931, 932, 933, 934, 927, 929, 22, 930] (by decide +kernel)
set_option maxRecDepth 20000 in
theorem wsL_in_r14 : ∀ w ∈ wsL_law_r14, w ∈ lw_tbl := mem_r _ [935, 937, 23, 938, 939, 941, 24, 942, 947, 943, 945, 25, 946, 948, 950, 26, 951, 952, 954, 27, 955, 956, 958, 28] (by decide +kernel)
set_option maxRecDepth 20000 in
theorem wsL_in_r15 : ∀ w ∈ wsL_law_r15, w ∈ lw_tbl := mem_r _ [959, 960, 435, 436, 437, 438, 961, 962, 963, 964, 439, 440, 441, 442, 126, 135, 123, 118, 115, 121, 443, 444, 61, 445] (by decide +kernel)
set_option maxRecDepth 20000 in
theorem wsL_in_r16 : ∀ w ∈ wsL_law_r16, w ∈ lw_tbl := mem_r _ [446, 447, 448, 449, 450, 451, 452, 965, 966, 967, 968, 969, 971, 29, 972, 973, 974, 975, 976, 978, 30, 979, 980, 982] (by decide +kernel)
set_option maxRecDepth 20000 in
theorem wsL_in_r17 : ∀ w ∈ wsL_law_r17, w ∈ lw_tbl := mem_r _ [31, 983, 453, 454, 455, 456, 457, 458, 459, 460, 984, 985, 986, 987, 988, 989, 990, 461, 462, 463, 464, 465, 467, 15] (by decide +kernel)
set_option maxRecDepth 20000 in
theorem wsL_in_r18 : ∀ w ∈ wsL_law_r18, w ∈ lw_tbl := mem_r _ [468, 469, 470, 471, 472, 473, 474, 475, 476, 991, 992, 993, 994, 999, 995, 997, 32, 998, 1000, 1002, 33, 1003, 477, 478] (by decide +kernel)
set_option maxRecDepth 20000 in
theorem wsL_in_r19 : ∀ w ∈ wsL_law_r19, w ∈ lw_tbl := mem_r _ [479, 480, 481, 483, 16, 484, 485, 486, 487, 488, 1004, 1005, 1006, 1007, 1012, 1008, 1010, 34, 1011, 489, 490, 491, 492, 493] (by decide +kernel)
set_option maxRecDepth 20000 in
theorem wsL_in_r20 : ∀ w ∈ wsL_law_r20, w ∈ lw_tbl := mem_r _ [494, 495, 496, 497, 498, 499, 500, 501, 1013, 1014, 1015, 1016, 1017, 1018, 1019, 1020, 1021, 1023, 35, 1024, 1025, 1027, 36, 1028] (by decide +kernel)
set_option maxRecDepth 20000 in
theorem wsL_in_r21 : ∀ w ∈ wsL_law_r21, w ∈ lw_tbl := mem_r _ [1029, 1030, 1031, 502, 503, 504, 505, 506, 507, 508, 509, 510, 511, 512, 1032, 1033, 1034, 1035, 1036, 1038, 37, 1039, 513, 514] (by decide +kernel)
set_option maxRecDepth 20000 in
theorem wsL_in_r22 : ∀ w ∈ wsL_law_r22, w ∈ lw_tbl := mem_r _ [515, 516, 517, 518, 519, 520, 1040, 1041, 1042, 1043, 1044, 1046, 38, 1047, 1048, 1050, 39, 1051, 521, 522, 523, 524, 525, 526] (by decide +kernel)
set_option maxRecDepth 20000 in
theorem wsL_in_r23 : ∀ w ∈ wsL_law_r23, w ∈ lw_tbl := mem_r _ [527, 1052, 1053, 1054, 1055, 528, 529, 530, 531, 532, 1056, 1057, 1058, 1059, 1060, 533, 534, 535, 536, 1061, 1062, 1063, 1064, 537] (by decide +kernel)
set_option maxRecDepth 20000 in
theorem wsL_in_r24 : ∀ w ∈ wsL_law_r24, w ∈ lw_tbl := mem_r _ [538, 539, 540, 541, 542, 543, 544, 1065, 1066, 1067, 1068, 1069, 545, 546, 547, 548, 137, 141, 1070, 1071, 1072, 1073, 549, 550] (by decide +kernel)
set_option maxRecDepth 20000 in
theorem wsL_in_r25 : ∀ w ∈ wsL_law_r25, w ∈ lw_tbl := mem_r _ [551, 552, 139, 1074, 1075, 1076, 1077, 553, 554, 555, 556, 1078, 1079, 1080, 1081, 557, 558, 559, 560, 561, 562, 563, 564, 565] (by decide +kernel)
set_option maxRecDepth 20000 in
theorem wsL_in_r26 : ∀ w ∈ wsL_law_r26, w ∈ lw_tbl := mem_r _ [566, 567, 568, 569, 570, 571, 572, 573, 574, 575, 576, 577, 578, 579, 580, 581, 582, 583, 584, 585, 586, 587, 588, 589] (by decide +kernel)
set_option maxRecDepth 20000 in
theorem wsL_in_r27 : ∀ w ∈ wsL_law_r27, w ∈ lw_tbl := mem_r _ [590, 1082, 1083, 1084, 1085, 1086, 1087, 1089, 40, 1090, 1091, 1093, 41, 1094, 1095, 1097, 42, 1098, 591, 592, 593, 594, 595, 596] (by decide +kernel)
set_option maxRecDepth 20000 in
theorem wsL_in_r28 : ∀ w ∈ wsL_law_r28, w ∈ lw_tbl := mem_r _ [597, 1099, 1100, 1101, 1102, 1103, 1105, 43, 1106, 1107, 1109, 44, 1110, 598, 599, 600, 601, 1111, 1112, 1113, 1114, 602, 603, 604] (by decide +kernel)
set_option maxRecDepth 20000 in
theorem wsL_in_r29 : ∀ w ∈ wsL_law_r29, w ∈ lw_tbl := mem_r _ [605, 1115, 1116, 1117, 1118, 606, 607, 608, 609, 610, 612, 17, 613, 1119, 1120, 1121, 1122, 614, 615, 616, 617, 618, 619, 620] (by decide +kernel)
set_option maxRecDepth 20000 in
theorem wsL_in_r30 : ∀ w ∈ wsL_law_r30, w ∈ lw_tbl := mem_r _ [621, 622, 623, 624, 625, 1123, 1124, 1125, 1126, 626, 627, 628, 629, 630, 632, 18, 633, 634, 635, 636, 637, 638, 639, 640] (by decide +kernel)
set_option maxRecDepth 20000 in
theorem wsL_in_r31 : ∀ w ∈ wsL_law_r31, w ∈ lw_tbl := mem_r _ [641, 642, 643, 644, 645, 646, 647, 648, 649, 650, 651, 652, 653, 654, 655, 656, 657, 658, 659, 660, 661, 1127, 1128, 1129] (by decide +kernel)
set_option maxRecDepth 20000 in
theorem wsL_in_r32 : ∀ w ∈ wsL_law_r32, w ∈ lw_tbl := mem_r _ [1130, 662, 663, 664, 665, 1131, 1132, 1133, 1134, 666, 667, 668, 669, 1135, 1136, 1137, 1138, 670, 671, 672, 673, 674, 1139, 1140] (by decide +kernel)
set_option maxRecDepth 20000 in
theorem wsL_in_r33 : ∀ w ∈ wsL_law_r33, w ∈ lw_tbl := mem_r _ [1141, 1142, 675, 676, 677, 678, 679, 680, 681, 682, 683, 1143, 1144, 1145, 1146, 684, 685, 686, 687, 128, 1147, 1148, 1149, 1150] (by decide +kernel)
set_option maxRecDepth 20000 in
theorem wsL_in_r34 : ∀ w ∈ wsL_law_r34, w ∈ lw_tbl := mem_r _ [688, 689, 690, 691, 698, 692, 693, 694, 695, 696, 697, 699, 701, 19, 702, 707, 703, 704, 705, 706, 708, 709, 710, 1151] (by decide +kernel)
set_option maxRecDepth 20000 in
theorem wsL_in_r35 : ∀ w ∈ wsL_law_r35, w ∈ lw_tbl := mem_r _ [1152, 1153, 1154, 1155, 1156, 1164, 1157, 1159, 45, 1160, 1161, 1162, 1163, 711, 712, 713, 714, 1165, 1166, 1167, 1168, 715, 716, 717] (by decide +kernel)
set_option maxRecDepth 20000 in
theorem wsL_in_r36 : ∀ w ∈ wsL_law_r36, w ∈ lw_tbl := mem_r _ [718, 719, 720, 721, 722, 1169, 1170, 1171, 1172, 1173, 723, 724, 725, 726, 1174, 1175, 1176, 1177, 727, 728, 729, 730, 731, 732] (by decide +kernel)
set_option maxRecDepth 20000 in
theorem wsL_in_r37 : ∀ w ∈ wsL_law_r37, w ∈ lw_tbl := mem_r _ [733, 734, 114, 735, 1178, 1179, 1180, 1181, 1182, 1184, 46, 1185, 1186, 1188, 47, 1189, 736, 737, 738, 739, 740, 742, 20, 743] (by decide +kernel)
set_option maxRecDepth 20000 in
theorem wsL_in_r38 : ∀ w ∈ wsL_law_r38, w ∈ lw_tbl := mem_r _ [130, 1190, 1191, 1192, 1193, 744, 745, 746, 747, 184, 759, 760, 63, 761, 748, 749, 750, 751, 752, 753, 62, 754, 755, 756] (by decide +kernel)
set_option maxRecDepth 20000 in
theorem wsL_in_r39 : ∀ w ∈ wsL_law_r39, w ∈ lw_tbl := mem_r _ [757, 758, 1194, 1195, 1196, 1197, 762, 763, 764, 765, 766, 1198, 1199, 1200, 1201, 1202, 767, 768, 769, 770, 771, 772, 773, 1203] (by decide +kernel)
set_option maxRecDepth 20000 in
theorem wsL_in_r40 : ∀ w ∈ wsL_law_r40, w ∈ lw_tbl := mem_r _ [1204, 1205, 1206, 774, 775, 776, 777, 1207, 1208, 1209, 1210, 778, 779, 780, 781, 782, 783, 784, 785, 786, 787, 788, 789, 790] (by decide +kernel)
set_option maxRecDepth 20000 in
theorem wsL_in_r41 : ∀ w ∈ wsL_law_r41, w ∈ lw_tbl := mem_r _ [791, 792, 1211, 1212, 1213, 1214, 793, 794, 795, 796, 220, 797, 798, 799, 800, 801, 802, 803, 804, 1215, 1216, 1217, 1218, 805] (by decide +kernel)
set_option maxRecDepth 20000 in
theorem wsL_in_r42 : ∀ w ∈ wsL_law_r42, w ∈ lw_tbl := mem_r _ [806, 807, 808, 224, 809, 810, 811, 812, 813, 1219, 1220, 1221, 1222, 855, 814, 815, 816, 817, 1223, 1224, 1225, 1226, 818, 819] (by decide +kernel)
set_option maxRecDepth 20000 in
theorem wsL_in_r43 : ∀ w ∈ wsL_law_r43, w ∈ lw_tbl := mem_r _ [820, 821, 218, 222, 132, 822, 823, 824, 1227, 1228, 1229, 1230] (by decide +kernel)
set_option maxRecDepth 20000 in
theorem wsL_in_wsX60 : ∀ w ∈ wsX60, w ∈ lw_tbl := by decide +kernel
set_option maxRecDepth 20000 in
theorem wsL_in_wsX70 : ∀ w ∈ wsX70, w ∈ lw_tbl := by decide +kernel
set_option maxRecDepth 20000 in
theorem wsL_in_wsX30 : ∀ w ∈ wsX30, w ∈ lw_tbl := by decide +kernel
set_option maxRecDepth 20000 in
theorem wsL_in_wsX10 : ∀ w ∈ wsX10, w ∈ lw_tbl := by decide +kernel
set_option maxRecDepth 20000 in
theorem wsL_in_wsX40 : ∀ w ∈ wsX40, w ∈ lw_tbl := by decide +kernel
set_option maxRecDepth 20000 in
theorem wsL_in_wsX00 : ∀ w ∈ wsX00, w ∈ lw_tbl := by decide +kernel
set_option maxRecDepth 20000 in
theorem wsL_in_wsX50 : ∀ w ∈ wsX50, w ∈ lw_tbl := by decide +kernel
theorem wsL_law_in : ∀ w ∈ wsL_law, w ∈ lw_tbl := (List.forall_mem_append.mpr ⟨(List.forall_mem_append.mpr ⟨(List.forall_mem_append.mpr ⟨(List.forall_mem_append.mpr ⟨(List.forall_mem_append.mpr ⟨(List.forall_mem_append.mpr ⟨(List.forall_mem_append.mpr ⟨(List.forall_mem_append.mpr ⟨(List.forall_mem_append.mpr ⟨wsL_in_r1, (List.forall_mem_append.mpr ⟨wsL_in_r2, (List.forall_mem_append.mpr ⟨wsL_in_r3, (List.forall_mem_append.mpr ⟨wsL_in_r4, (List.forall_mem_append.mpr ⟨wsL_in_r5, (List.forall_mem_append.mpr ⟨wsL_in_r6, (List.forall_mem_append.mpr ⟨wsL_in_r7, (List.forall_mem_append.mpr ⟨wsL_in_r8, (List.forall_mem_append.mpr ⟨wsL_in_r9, (List.forall_mem_append.mpr ⟨wsL_in_r10, (List.forall_mem_append.mpr ⟨wsL_in_r11, (List.forall_mem_append.mpr ⟨wsL_in_r12, (List.forall_mem_append.mpr ⟨wsL_in_r13, (List.forall_mem_append.mpr ⟨wsL_in_r14, (List.forall_mem_append.mpr ⟨wsL_in_r15, (List.forall_mem_append.mpr ⟨wsL_in_r16, (List.forall_mem_append.mpr ⟨wsL_in_r17, (List.forall_mem_append.mpr ⟨wsL_in_r18, (List.forall_mem_append.mpr ⟨wsL_in_r19, (List.forall_mem_append.mpr ⟨wsL_in_r20, (List.forall_mem_append.mpr ⟨wsL_in_r21, (List.forall_mem_append.mpr ⟨wsL_in_r22, (List.forall_mem_append.mpr ⟨wsL_in_r23, (List.forall_mem_append.mpr ⟨wsL_in_r24, (List.forall_mem_append.mpr ⟨wsL_in_r25, (List.forall_mem_append.mpr ⟨wsL_in_r26, (List.forall_mem_append.mpr ⟨wsL_in_r27, (List.forall_mem_append.mpr ⟨wsL_in_r28, (List.forall_mem_append.mpr ⟨wsL_in_r29, (List.forall_mem_append.mpr ⟨wsL_in_r30, (List.forall_mem_append.mpr ⟨wsL_in_r31, (List.forall_mem_append.mpr ⟨wsL_in_r32, (List.forall_mem_append.mpr ⟨wsL_in_r33, (List.forall_mem_append.mpr ⟨wsL_in_r34, (List.forall_mem_append.mpr ⟨wsL_in_r35, (List.forall_mem_append.mpr ⟨wsL_in_r36, (List.forall_mem_append.mpr ⟨wsL_in_r37, (List.forall_mem_append.mpr ⟨wsL_in_r38, (List.forall_mem_append.mpr ⟨wsL_in_r39, (List.forall_mem_append.mpr ⟨wsL_in_r40, (List.forall_mem_append.mpr ⟨wsL_in_r41, (List.forall_mem_append.mpr ⟨wsL_in_r42, wsL_in_r43⟩)⟩)⟩)⟩)⟩)⟩)⟩)⟩)⟩)⟩)⟩)⟩)⟩)⟩)⟩)⟩)⟩)⟩)⟩)⟩)⟩)⟩)⟩)⟩)⟩)⟩)⟩)⟩)⟩)⟩)⟩)⟩)⟩)⟩)⟩)⟩)⟩)⟩)⟩)⟩)⟩)⟩), wsL_in_wsX60⟩), wsL_in_wsX70⟩), wsL_in_wsX30⟩), wsL_in_wsX10⟩), wsL_in_wsX40⟩), wsL_in_wsX00⟩), wsL_in_wsX50⟩), (fun _ h => absurd h List.not_mem_nil)⟩)
theorem inlX0 : ∀ w ∈ wsX00, w ∈ wsL_law := fun _ h => List.mem_append_left _ (List.mem_append_left _ (List.mem_append_right _ h))
theorem inX0 : ∀ w ∈ wsX00, w ∈ lw_tbl := fun w h => wsL_law_in w (inlX0 w h)
theorem inlX1 : ∀ w ∈ wsX10, w ∈ wsL_law := fun _ h => List.mem_append_left _ (List.mem_append_left _ (List.mem_append_left _ (List.mem_append_left _ (List.mem_append_right _ h))))
theorem inX1 : ∀ w ∈ wsX10, w ∈ lw_tbl := fun w h => wsL_law_in w (inlX1 w h)
theorem inX2 : ∀ w ∈ wsX20, w ∈ lw_tbl := by decide +kernel
theorem inlX3 : ∀ w ∈ wsX30, w ∈ wsL_law := fun _ h => List.mem_append_left _ (List.mem_append_left _ (List.mem_append_left _ (List.mem_append_left _ (List.mem_append_left _ (List.mem_append_right _ h)))))
theorem inX3 : ∀ w ∈ wsX30, w ∈ lw_tbl := fun w h => wsL_law_in w (inlX3 w h)
theorem inlX4 : ∀ w ∈ wsX40, w ∈ wsL_law := fun _ h => List.mem_append_left _ (List.mem_append_left _ (List.mem_append_left _ (List.mem_append_right _ h)))
theorem inX4 : ∀ w ∈ wsX40, w ∈ lw_tbl := fun w h => wsL_law_in w (inlX4 w h)
theorem inlX5 : ∀ w ∈ wsX50, w ∈ wsL_law := fun _ h => List.mem_append_left _ (List.mem_append_right _ h)
theorem inX5 : ∀ w ∈ wsX50, w ∈ lw_tbl := fun w h => wsL_law_in w (inlX5 w h)
theorem inlX6 : ∀ w ∈ wsX60, w ∈ wsL_law := fun _ h => List.mem_append_left _ (List.mem_append_left _ (List.mem_append_left _ (List.mem_append_left _ (List.mem_append_left _ (List.mem_append_left _ (List.mem_append_left _ (List.mem_append_right _ h)))))))
theorem inX6 : ∀ w ∈ wsX60, w ∈ lw_tbl := fun w h => wsL_law_in w (inlX6 w h)
theorem inlX7 : ∀ w ∈ wsX70, w ∈ wsL_law := fun _ h => List.mem_append_left _ (List.mem_append_left _ (List.mem_append_left _ (List.mem_append_left _ (List.mem_append_left _ (List.mem_append_left _ (List.mem_append_right _ h))))))
theorem inX7 : ∀ w ∈ wsX70, w ∈ lw_tbl := fun w h => wsL_law_in w (inlX7 w h)
theorem inJx145de : ∀ w ∈ wsJx145de0, w ∈ lw_tbl := by decide +kernel
theorem inJx9f9b0 : ∀ w ∈ wsJx9f9b00, w ∈ lw_tbl := by decide +kernel
theorem inJxb160c : ∀ w ∈ wsJxb160c0, w ∈ lw_tbl := by decide +kernel
theorem inJ6 : ∀ w ∈ wsJ60, w ∈ lw_tbl := by decide +kernel
theorem inJ9 : ∀ w ∈ wsJ90, w ∈ lw_tbl := by decide +kernel
theorem inJ0 : ∀ w ∈ wsJ00, w ∈ lw_tbl := by decide +kernel
theorem inJ1 : ∀ w ∈ wsJ10, w ∈ lw_tbl := by decide +kernel
theorem inJ2 : ∀ w ∈ wsJ20, w ∈ lw_tbl := by decide +kernel
theorem inJxfd54e : ∀ w ∈ wsJxfd54e0, w ∈ lw_tbl := by decide +kernel
theorem inJx3cf43 : ∀ w ∈ wsJx3cf430, w ∈ lw_tbl := by decide +kernel
theorem inJ7 : ∀ w ∈ wsJ70, w ∈ lw_tbl := by decide +kernel
theorem inJ3 : ∀ w ∈ wsJ30, w ∈ lw_tbl := by decide +kernel
