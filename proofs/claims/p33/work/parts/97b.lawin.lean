theorem goodIn_m {big : List Cond} (ws : List Cond) (ps : List Nat) (hp : ws = ps.filterMap (fun i => big[i]?)) : ∀ w ∈ ws, w ∈ big := by
  intro w hw
  rw [hp] at hw
  obtain ⟨i, -, hi⟩ := List.mem_filterMap.mp hw
  first | exact List.mem_of_getElem? hi | exact List.getElem?_mem hi
theorem kmem_app {big a b : List Cond} (ha : ∀ w ∈ a, w ∈ big) (hb : ∀ w ∈ b, w ∈ big) : ∀ w ∈ a ++ b, w ∈ big := fun w h => (List.mem_append.mp h).elim (ha w) (hb w)
theorem ini_nil {big : List Cond} : ∀ w ∈ ([] : List Cond), w ∈ big := fun _ h => absurd h List.not_mem_nil
set_option maxRecDepth 20000 in
theorem ini_wsL_law_r1 : ∀ w ∈ wsL_law_r1, w ∈ lw_tbl := goodIn_m wsL_law_r1 [62, 63, 49, 793, 794, 58, 1207, 64, 65, 66, 67, 68, 69, 70, 71, 50, 346, 100, 101, 52, 347, 139, 140, 53] (by decide +kernel)
set_option maxRecDepth 20000 in
theorem ini_wsL_law_r2 : ∀ w ∈ wsL_law_r2, w ∈ lw_tbl := goodIn_m wsL_law_r2 [348, 215, 216, 55, 349, 258, 259, 56, 350, 305, 306, 57, 351, 98, 352, 353, 99, 357, 395, 359, 361, 360, 72, 73] (by decide +kernel)
set_option maxRecDepth 20000 in
theorem ini_wsL_law_r3 : ∀ w ∈ wsL_law_r3, w ∈ lw_tbl := goodIn_m wsL_law_r3 [74, 75, 79, 81, 84, 85, 76, 77, 51, 78, 103, 104, 105, 106, 110, 113, 116, 119, 122, 123, 141, 142, 143, 144] (by decide +kernel)
set_option maxRecDepth 20000 in
theorem ini_wsL_law_r4 : ∀ w ∈ wsL_law_r4, w ∈ lw_tbl := goodIn_m wsL_law_r4 [183, 185, 187, 191, 193, 196, 198, 145, 146, 54, 199, 147, 148, 149, 150, 151, 154, 155, 156, 157, 158, 184, 159, 153] (by decide +kernel)
set_option maxRecDepth 20000 in
theorem ini_wsL_law_r5 : ∀ w ∈ wsL_law_r5, w ∈ lw_tbl := goodIn_m wsL_law_r5 [217, 218, 219, 220, 226, 228, 231, 233, 235, 237, 238, 260, 261, 262, 263, 264, 272, 273, 274, 275, 276, 277, 278, 279] (by decide +kernel)
set_option maxRecDepth 20000 in
theorem ini_wsL_law_r6 : ∀ w ∈ wsL_law_r6, w ∈ lw_tbl := goodIn_m wsL_law_r6 [307, 308, 309, 310, 315, 320, 321, 323, 317, 318, 319, 345, 795, 796, 797, 798, 799, 800, 801, 802, 803, 804, 806, 807] (by decide +kernel)
set_option maxRecDepth 20000 in
theorem ini_wsL_law_r7 : ∀ w ∈ wsL_law_r7, w ∈ lw_tbl := goodIn_m wsL_law_r7 [808, 809, 810, 811, 812, 813, 814, 815, 816, 817, 818, 819, 820, 821, 822, 823, 826, 827, 828, 829, 830, 834, 835, 836] (by decide +kernel)
set_option maxRecDepth 20000 in
theorem ini_wsL_law_r8 : ∀ w ∈ wsL_law_r8, w ∈ lw_tbl := goodIn_m wsL_law_r8 [840, 841, 842, 396, 397, 398, 399, 80, 82, 400, 401, 402, 403, 405, 0, 406, 407, 408, 409, 410, 411, 412, 413, 414] (by decide +kernel)
set_option maxRecDepth 20000 in
theorem ini_wsL_law_r9 : ∀ w ∈ wsL_law_r9, w ∈ lw_tbl := goodIn_m wsL_law_r9 [932, 933, 934, 935, 943, 936, 937, 938, 939, 941, 25, 942, 944, 945, 946, 947, 949, 26, 950, 415, 416, 417, 418, 951] (by decide +kernel)
set_option maxRecDepth 20000 in
theorem ini_wsL_law_r10 : ∀ w ∈ wsL_law_r10, w ∈ lw_tbl := goodIn_m wsL_law_r10 [952, 953, 954, 419, 420, 421, 422, 955, 956, 957, 958, 423, 424, 425, 426, 427, 428, 429, 430, 959, 960, 961, 962, 966] (by decide +kernel)
set_option maxRecDepth 20000 in
theorem ini_wsL_law_r11 : ∀ w ∈ wsL_law_r11, w ∈ lw_tbl := goodIn_m wsL_law_r11 [963, 964, 965, 431, 432, 433, 434, 967, 968, 969, 970, 435, 436, 437, 438, 971, 972, 973, 974, 439, 440, 441, 442, 443] (by decide +kernel)
set_option maxRecDepth 20000 in
theorem ini_wsL_law_r12 : ∀ w ∈ wsL_law_r12, w ∈ lw_tbl := goodIn_m wsL_law_r12 [975, 976, 977, 978, 979, 444, 445, 446, 447, 109, 448, 449, 450, 451, 452, 453, 454, 463, 465, 456, 457, 458, 459, 461] (by decide +kernel)
set_option maxRecDepth 20000 in
theorem ini_wsL_law_r13 : ∀ w ∈ wsL_law_r13, w ∈ lw_tbl := goodIn_m wsL_law_r13 [467, 468, 469, 470, 472, 473, 476, 477, 478, 480, 481, 482, 485, 487, 1, 488, 186, 222, 980, 981, 982, 983, 825, 984] (by decide +kernel)
set_option maxRecDepth 20000 in
theorem ini_wsL_law_r14 : ∀ w ∈ wsL_law_r14, w ∈ lw_tbl := goodIn_m wsL_law_r14 [985, 986, 987, 988, 989, 990, 994, 998, 999, 991, 992, 993, 995, 996, 997, 489, 490, 491, 492, 1000, 1001, 1002, 1003, 493] (by decide +kernel)
set_option maxRecDepth 20000 in
theorem ini_wsL_law_r15 : ∀ w ∈ wsL_law_r15, w ∈ lw_tbl := goodIn_m wsL_law_r15 [494, 495, 496, 112, 115, 118, 121, 497, 499, 2, 500, 501, 502, 503, 504, 505, 506, 507, 508, 509, 1004, 1005, 1006, 1007] (by decide +kernel)
set_option maxRecDepth 20000 in
theorem ini_wsL_law_r16 : ∀ w ∈ wsL_law_r16, w ∈ lw_tbl := goodIn_m wsL_law_r16 [1008, 1010, 27, 1011, 1012, 1013, 1014, 1015, 1016, 1017, 510, 511, 512, 513, 197, 514, 515, 516, 517, 1018, 1019, 1020, 1021, 1022] (by decide +kernel)
set_option maxRecDepth 20000 in
theorem ini_wsL_law_r17 : ∀ w ∈ wsL_law_r17, w ∈ lw_tbl := goodIn_m wsL_law_r17 [518, 519, 520, 521, 522, 523, 524, 525, 526, 1023, 1024, 1025, 1026, 1027, 1029, 28, 1030, 1031, 1033, 29, 1034, 1035, 1037, 30] (by decide +kernel)
set_option maxRecDepth 20000 in
theorem ini_wsL_law_r18 : ∀ w ∈ wsL_law_r18, w ∈ lw_tbl := goodIn_m wsL_law_r18 [1038, 527, 528, 529, 530, 190, 531, 532, 533, 534, 152, 535, 536, 537, 538, 107, 160, 161, 539, 541, 3, 542, 543, 545] (by decide +kernel)
set_option maxRecDepth 20000 in
theorem ini_wsL_law_r19 : ∀ w ∈ wsL_law_r19, w ∈ lw_tbl := goodIn_m wsL_law_r19 [546, 548, 4, 549, 551, 552, 59, 553, 550, 554, 555, 556, 557, 559, 5, 560, 561, 562, 60, 563, 564, 565, 566, 568] (by decide +kernel)
set_option maxRecDepth 20000 in
theorem ini_wsL_law_r20 : ∀ w ∈ wsL_law_r20, w ∈ lw_tbl := goodIn_m wsL_law_r20 [569, 570, 572, 6, 573, 574, 576, 7, 577, 578, 580, 8, 581, 1039, 1040, 1041, 1042, 1043, 1045, 31, 1046, 1047, 1049, 32] (by decide +kernel)
set_option maxRecDepth 20000 in
theorem ini_wsL_law_r21 : ∀ w ∈ wsL_law_r21, w ∈ lw_tbl := goodIn_m wsL_law_r21 [1050, 584, 585, 586, 587, 192, 1051, 1052, 1053, 1054, 588, 589, 590, 591, 592, 593, 594, 595, 596, 1055, 1056, 1057, 1058, 597] (by decide +kernel)
set_option maxRecDepth 20000 in
theorem ini_wsL_law_r22 : ∀ w ∈ wsL_law_r22, w ∈ lw_tbl := goodIn_m wsL_law_r22 [598, 599, 600, 225, 601, 602, 603, 604, 223, 188, 194, 221, 606, 608, 9, 609, 610, 612, 10, 613, 614, 616, 617, 618] (by decide +kernel)
set_option maxRecDepth 20000 in
theorem ini_wsL_law_r23 : ∀ w ∈ wsL_law_r23, w ∈ lw_tbl := goodIn_m wsL_law_r23 [619, 620, 621, 622, 623, 624, 625, 626, 270, 224, 227, 229, 268, 266, 627, 628, 630, 11, 631, 634, 635, 637, 12, 638] (by decide +kernel)
set_option maxRecDepth 20000 in
theorem ini_wsL_law_r24 : ∀ w ∈ wsL_law_r24, w ∈ lw_tbl := goodIn_m wsL_law_r24 [639, 640, 642, 13, 643, 644, 646, 14, 647, 652, 648, 650, 15, 651, 653, 654, 655, 1059, 1060, 1061, 1062, 824, 1063, 1065] (by decide +kernel)
set_option maxRecDepth 20000 in
theorem ini_wsL_law_r25 : ∀ w ∈ wsL_law_r25, w ∈ lw_tbl := goodIn_m wsL_law_r25 [33, 1066, 1067, 1069, 34, 1070, 1071, 1073, 35, 1074, 1075, 1077, 36, 1078, 1079, 1081, 37, 1082, 1083, 1085, 38, 1086, 1087, 1089] (by decide +kernel)
set_option maxRecDepth 20000 in
theorem ini_wsL_law_r26 : ∀ w ∈ wsL_law_r26, w ∈ lw_tbl := goodIn_m wsL_law_r26 [39, 1090, 1091, 1093, 40, 1094, 831, 1095, 1097, 41, 1098, 656, 657, 658, 659, 236, 1099, 1100, 1101, 1102, 660, 661, 662, 663] (by decide +kernel)
set_option maxRecDepth 20000 in
theorem ini_wsL_law_r27 : ∀ w ∈ wsL_law_r27, w ∈ lw_tbl := goodIn_m wsL_law_r27 [230, 232, 234, 664, 1103, 1104, 1105, 1106, 665, 666, 667, 668, 265, 1107, 1108, 1109, 1110, 1111, 669, 670, 671, 672, 269, 267] (by decide +kernel)
set_option maxRecDepth 20000 in
theorem ini_wsL_law_r28 : ∀ w ∈ wsL_law_r28, w ∈ lw_tbl := goodIn_m wsL_law_r28 [271, 1112, 1113, 1114, 1115, 1116, 1117, 1118, 673, 674, 675, 676, 677, 678, 679, 680, 311, 313, 189, 108, 195, 681, 682, 683] (by decide +kernel)
set_option maxRecDepth 20000 in
theorem ini_wsL_law_r29 : ∀ w ∈ wsL_law_r29, w ∈ lw_tbl := goodIn_m wsL_law_r29 [684, 86, 686, 688, 16, 689, 322, 691, 693, 17, 694, 114, 117, 120, 111, 83, 695, 697, 18, 698, 699, 701, 19, 702] (by decide +kernel)
set_option maxRecDepth 20000 in
theorem ini_wsL_law_r30 : ∀ w ∈ wsL_law_r30, w ∈ lw_tbl := goodIn_m wsL_law_r30 [704, 706, 20, 707, 708, 710, 21, 711, 712, 713, 714, 715, 716, 717, 718, 719, 720, 721, 722, 723, 725, 22, 726, 312] (by decide +kernel)
set_option maxRecDepth 20000 in
theorem ini_wsL_law_r31 : ∀ w ∈ wsL_law_r31, w ∈ lw_tbl := goodIn_m wsL_law_r31 [314, 316, 1119, 1120, 1121, 1122, 1123, 1125, 42, 1126, 832, 833, 1127, 1128, 1129, 1130, 1132, 43, 1133, 1134, 1135, 1137, 44, 1138] (by decide +kernel)
set_option maxRecDepth 20000 in
theorem ini_wsL_law_r32 : ∀ w ∈ wsL_law_r32, w ∈ lw_tbl := goodIn_m wsL_law_r32 [1139, 1141, 45, 1142, 1143, 1145, 46, 1146, 1147, 1149, 47, 1150, 727, 728, 729, 730, 1151, 1152, 1153, 1154, 731, 732, 733, 734] (by decide +kernel)
set_option maxRecDepth 20000 in
theorem ini_wsL_law_r33 : ∀ w ∈ wsL_law_r33, w ∈ lw_tbl := goodIn_m wsL_law_r33 [735, 736, 737, 738, 740, 742, 741, 61, 739, 743, 745, 23, 746, 1155, 1156, 1157, 1158, 747, 748, 749, 750, 1159, 1160, 1161] (by decide +kernel)
set_option maxRecDepth 20000 in
theorem ini_wsL_law_r34 : ∀ w ∈ wsL_law_r34, w ∈ lw_tbl := goodIn_m wsL_law_r34 [1162, 1163, 751, 752, 753, 754, 356, 354, 755, 757, 24, 758, 759, 355, 1164, 1165, 1166, 1167, 1168, 839, 1169, 838, 837, 760] (by decide +kernel)
set_option maxRecDepth 20000 in
theorem ini_wsL_law_r35 : ∀ w ∈ wsL_law_r35, w ∈ lw_tbl := goodIn_m wsL_law_r35 [761, 762, 763, 1170, 1171, 1172, 1173, 764, 765, 766, 767, 358, 1174, 1175, 1176, 1177, 805, 768, 769, 770, 771, 1178, 1179, 1180] (by decide +kernel)
set_option maxRecDepth 20000 in
theorem ini_wsL_law_r36 : ∀ w ∈ wsL_law_r36, w ∈ lw_tbl := goodIn_m wsL_law_r36 [1181, 772, 773, 774, 775, 1182, 1183, 1184, 1185, 1186, 1187, 1188, 776, 777, 778, 779, 1189, 1190, 1191, 1192, 780, 781, 782, 783] (by decide +kernel)
set_option maxRecDepth 20000 in
theorem ini_wsL_law_r37 : ∀ w ∈ wsL_law_r37, w ∈ lw_tbl := goodIn_m wsL_law_r37 [1193, 1194, 1195, 1196, 784, 785, 786, 787, 788, 1197, 1198, 1199, 1200, 789, 790, 791, 792, 1201, 1202, 1203, 1204, 1205, 1206] (by decide +kernel)
set_option maxRecDepth 20000 in
theorem ini_wsX70 : ∀ w ∈ wsX70, w ∈ lw_tbl := goodIn_m wsX70 [362, 364, 366, 368, 370, 372, 374, 376, 378, 380, 382, 384, 386, 388, 390, 392] (by decide +kernel)
set_option maxRecDepth 20000 in
theorem ini_wsX80 : ∀ w ∈ wsX80, w ∈ lw_tbl := goodIn_m wsX80 [843, 845, 847, 849, 851, 853, 855, 857, 859, 861, 863, 865, 867, 869, 871, 873, 875, 877, 879, 881, 883, 885, 887, 889, 891, 893, 895, 897, 899, 901, 903, 905, 907, 909, 911, 913, 915, 917, 919, 921, 923, 925, 927, 929] (by decide +kernel)
set_option maxRecDepth 20000 in
theorem ini_wsX20 : ∀ w ∈ wsX20, w ∈ lw_tbl := goodIn_m wsX20 [87, 89, 91, 93, 95] (by decide +kernel)
set_option maxRecDepth 20000 in
theorem ini_wsX50 : ∀ w ∈ wsX50, w ∈ lw_tbl := goodIn_m wsX50 [124, 126, 128, 130, 132, 134, 136] (by decide +kernel)
set_option maxRecDepth 20000 in
theorem ini_wsX30 : ∀ w ∈ wsX30, w ∈ lw_tbl := goodIn_m wsX30 [200, 202, 204, 206, 208, 210, 212] (by decide +kernel)
set_option maxRecDepth 20000 in
theorem ini_wsX40 : ∀ w ∈ wsX40, w ∈ lw_tbl := goodIn_m wsX40 [239, 241, 243, 245, 247, 249, 251, 253, 255] (by decide +kernel)
set_option maxRecDepth 20000 in
theorem ini_wsX10 : ∀ w ∈ wsX10, w ∈ lw_tbl := goodIn_m wsX10 [280, 282, 284, 286, 288, 290, 292, 294, 296, 298, 300, 302] (by decide +kernel)
set_option maxRecDepth 20000 in
theorem ini_wsX00 : ∀ w ∈ wsX00, w ∈ lw_tbl := goodIn_m wsX00 [324, 326, 328, 330, 332, 334, 336, 338, 340, 342] (by decide +kernel)
set_option maxRecDepth 20000 in
theorem ini_wsX60 : ∀ w ∈ wsX60, w ∈ lw_tbl := goodIn_m wsX60 [162, 164, 166, 168, 170, 172, 174, 176, 178, 180] (by decide +kernel)
theorem wsL_law_in : ∀ w ∈ wsL_law, w ∈ lw_tbl := (kmem_app (kmem_app (kmem_app (kmem_app (kmem_app (kmem_app (kmem_app (kmem_app (kmem_app (kmem_app (kmem_app ini_wsL_law_r1 (kmem_app ini_wsL_law_r2 (kmem_app ini_wsL_law_r3 (kmem_app ini_wsL_law_r4 (kmem_app ini_wsL_law_r5 (kmem_app ini_wsL_law_r6 (kmem_app ini_wsL_law_r7 (kmem_app ini_wsL_law_r8 (kmem_app ini_wsL_law_r9 (kmem_app ini_wsL_law_r10 (kmem_app ini_wsL_law_r11 (kmem_app ini_wsL_law_r12 (kmem_app ini_wsL_law_r13 (kmem_app ini_wsL_law_r14 (kmem_app ini_wsL_law_r15 (kmem_app ini_wsL_law_r16 (kmem_app ini_wsL_law_r17 (kmem_app ini_wsL_law_r18 (kmem_app ini_wsL_law_r19 (kmem_app ini_wsL_law_r20 (kmem_app ini_wsL_law_r21 (kmem_app ini_wsL_law_r22 (kmem_app ini_wsL_law_r23 (kmem_app ini_wsL_law_r24 (kmem_app ini_wsL_law_r25 (kmem_app ini_wsL_law_r26 (kmem_app ini_wsL_law_r27 (kmem_app ini_wsL_law_r28 (kmem_app ini_wsL_law_r29 (kmem_app ini_wsL_law_r30 (kmem_app ini_wsL_law_r31 (kmem_app ini_wsL_law_r32 (kmem_app ini_wsL_law_r33 (kmem_app ini_wsL_law_r34 (kmem_app ini_wsL_law_r35 (kmem_app ini_wsL_law_r36 ini_wsL_law_r37)))))))))))))))))))))))))))))))))))) ini_wsX70) ini_wsX80) ini_wsX20) ini_wsX50) ini_wsX30) ini_wsX40) ini_wsX10) ini_wsX00) ini_wsX60) ini_nil)
theorem inlX0 : ∀ w ∈ wsX00, w ∈ wsL_law := fun _ h => List.mem_append_left _ (List.mem_append_left _ (List.mem_append_right _ h))
theorem inX0 : ∀ w ∈ wsX00, w ∈ lw_tbl := fun w h => wsL_law_in w (inlX0 w h)
theorem inlX1 : ∀ w ∈ wsX10, w ∈ wsL_law := fun _ h => List.mem_append_left _ (List.mem_append_left _ (List.mem_append_left _ (List.mem_append_right _ h)))
theorem inX1 : ∀ w ∈ wsX10, w ∈ lw_tbl := fun w h => wsL_law_in w (inlX1 w h)
theorem inlX2 : ∀ w ∈ wsX20, w ∈ wsL_law := fun _ h => List.mem_append_left _ (List.mem_append_left _ (List.mem_append_left _ (List.mem_append_left _ (List.mem_append_left _ (List.mem_append_left _ (List.mem_append_left _ (List.mem_append_right _ h)))))))
theorem inX2 : ∀ w ∈ wsX20, w ∈ lw_tbl := fun w h => wsL_law_in w (inlX2 w h)
theorem inlX3 : ∀ w ∈ wsX30, w ∈ wsL_law := fun _ h => List.mem_append_left _ (List.mem_append_left _ (List.mem_append_left _ (List.mem_append_left _ (List.mem_append_left _ (List.mem_append_right _ h)))))
theorem inX3 : ∀ w ∈ wsX30, w ∈ lw_tbl := fun w h => wsL_law_in w (inlX3 w h)
theorem inlX4 : ∀ w ∈ wsX40, w ∈ wsL_law := fun _ h => List.mem_append_left _ (List.mem_append_left _ (List.mem_append_left _ (List.mem_append_left _ (List.mem_append_right _ h))))
theorem inX4 : ∀ w ∈ wsX40, w ∈ lw_tbl := fun w h => wsL_law_in w (inlX4 w h)
theorem inlX5 : ∀ w ∈ wsX50, w ∈ wsL_law := fun _ h => List.mem_append_left _ (List.mem_append_left _ (List.mem_append_left _ (List.mem_append_left _ (List.mem_append_left _ (List.mem_append_left _ (List.mem_append_right _ h))))))
theorem inX5 : ∀ w ∈ wsX50, w ∈ lw_tbl := fun w h => wsL_law_in w (inlX5 w h)
theorem inlX6 : ∀ w ∈ wsX60, w ∈ wsL_law := fun _ h => List.mem_append_left _ (List.mem_append_right _ h)
theorem inX6 : ∀ w ∈ wsX60, w ∈ lw_tbl := fun w h => wsL_law_in w (inlX6 w h)
theorem inlX7 : ∀ w ∈ wsX70, w ∈ wsL_law := fun _ h => List.mem_append_left _ (List.mem_append_left _ (List.mem_append_left _ (List.mem_append_left _ (List.mem_append_left _ (List.mem_append_left _ (List.mem_append_left _ (List.mem_append_left _ (List.mem_append_left _ (List.mem_append_right _ h)))))))))
theorem inX7 : ∀ w ∈ wsX70, w ∈ lw_tbl := fun w h => wsL_law_in w (inlX7 w h)
theorem inlX8 : ∀ w ∈ wsX80, w ∈ wsL_law := fun _ h => List.mem_append_left _ (List.mem_append_left _ (List.mem_append_left _ (List.mem_append_left _ (List.mem_append_left _ (List.mem_append_left _ (List.mem_append_left _ (List.mem_append_left _ (List.mem_append_right _ h))))))))
theorem inX8 : ∀ w ∈ wsX80, w ∈ lw_tbl := fun w h => wsL_law_in w (inlX8 w h)
