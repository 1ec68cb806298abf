/-! 56.lb: the law's words are words of the tables -/
theorem lw_pls {ws : List Cond} {is : List Nat} (h : ws.map some = is.map (fun i => lw_tbl[i]?)) : ∀ w ∈ ws, w ∈ lw_tbl := fun w hw => by
  have h2 : some w ∈ ws.map some := List.mem_map_of_mem hw
  rw [h] at h2
  obtain ⟨i, _, hi⟩ := List.mem_map.mp h2
  exact List.mem_of_getElem? hi
set_option maxRecDepth 100000 in
theorem lw_g1 : ∀ w ∈ wsL_law_r1, w ∈ lw_tbl := lw_pls (is := [109, 110, 93, 853, 854, 107, 111, 112, 113, 114, 115, 116, 117, 118, 94, 363, 364, 306, 307, 104, 365, 323, 188, 98]) (by decide +kernel)
set_option maxRecDepth 100000 in
theorem lw_g2 : ∀ w ∈ wsL_law_r2, w ∈ lw_tbl := lw_pls (is := [366, 326, 327, 105, 367, 347, 348, 106, 368, 168, 369, 120, 121, 122, 123, 124, 95, 265, 169, 170, 96, 267, 269, 271]) (by decide +kernel)
set_option maxRecDepth 100000 in
theorem lw_g3 : ∀ w ∈ wsL_law_r3, w ∈ lw_tbl := lw_pls (is := [273, 187, 275, 126, 127, 128, 129, 132, 135, 138, 141, 144, 145, 172, 173, 174, 175, 176, 97, 177, 178, 191, 192, 193]) (by decide +kernel)
set_option maxRecDepth 100000 in
theorem lw_g4 : ∀ w ∈ wsL_law_r4, w ∈ lw_tbl := lw_pls (is := [256, 245, 204, 205, 206, 246, 194, 195, 196, 99, 197, 1112, 198, 199, 200, 201, 202, 1113, 207, 208, 209, 210, 211, 212]) (by decide +kernel)
set_option maxRecDepth 100000 in
theorem lw_g5 : ∀ w ∈ wsL_law_r5, w ∈ lw_tbl := lw_pls (is := [213, 214, 215, 216, 100, 217, 218, 219, 220, 221, 223, 224, 101, 225, 226, 227, 102, 228, 229, 230, 231, 232, 233, 234]) (by decide +kernel)
set_option maxRecDepth 100000 in
theorem lw_g6 : ∀ w ∈ wsL_law_r6, w ∈ lw_tbl := lw_pls (is := [235, 236, 237, 238, 239, 241, 243, 260, 261, 262, 264, 263, 103, 309, 310, 311, 312, 315, 329, 330, 331, 350, 351, 352]) (by decide +kernel)
set_option maxRecDepth 100000 in
theorem lw_g7 : ∀ w ∈ wsL_law_r7, w ∈ lw_tbl := lw_pls (is := [353, 354, 855, 856, 857, 858, 859, 860, 861, 863, 866, 867, 868, 385, 386, 387, 388, 389, 390, 391, 392, 393, 394, 397]) (by decide +kernel)
set_option maxRecDepth 100000 in
theorem lw_g8 : ∀ w ∈ wsL_law_r8, w ∈ lw_tbl := lw_pls (is := [0, 398, 399, 401, 1, 402, 405, 2, 406, 179, 408, 409, 412, 3, 413, 417, 4, 418, 419, 421, 5, 422, 423, 425]) (by decide +kernel)
set_option maxRecDepth 100000 in
theorem lw_g9 : ∀ w ∈ wsL_law_r9, w ∈ lw_tbl := lw_pls (is := [6, 426, 428, 429, 431, 7, 432, 433, 435, 8, 436, 439, 9, 440, 316, 441, 443, 10, 444, 445, 447, 11, 448, 451]) (by decide +kernel)
set_option maxRecDepth 100000 in
theorem lw_g10 : ∀ w ∈ wsL_law_r10, w ∈ lw_tbl := lw_pls (is := [12, 452, 277, 279, 281, 283, 455, 13, 456, 148, 460, 14, 461, 465, 15, 466, 467, 469, 16, 470, 473, 17, 474, 477]) (by decide +kernel)
set_option maxRecDepth 100000 in
theorem lw_g11 : ∀ w ∈ wsL_law_r11, w ∈ lw_tbl := lw_pls (is := [18, 478, 480, 481, 484, 19, 485, 487, 489, 20, 490, 493, 21, 494, 497, 22, 498, 499, 501, 23, 502, 506, 24, 507]) (by decide +kernel)
set_option maxRecDepth 100000 in
theorem lw_g12 : ∀ w ∈ wsL_law_r12, w ∈ lw_tbl := lw_pls (is := [510, 25, 511, 512, 514, 26, 515, 890, 891, 892, 893, 894, 895, 896, 897, 899, 64, 900, 901, 903, 65, 904, 905, 907]) (by decide +kernel)
set_option maxRecDepth 100000 in
theorem lw_g13 : ∀ w ∈ wsL_law_r13, w ∈ lw_tbl := lw_pls (is := [66, 908, 909, 911, 67, 912, 862, 913, 915, 68, 916, 917, 919, 69, 920, 921, 923, 70, 924, 925, 927, 71, 928, 929]) (by decide +kernel)
set_option maxRecDepth 100000 in
theorem lw_g14 : ∀ w ∈ wsL_law_r14, w ∈ lw_tbl := lw_pls (is := [931, 72, 932, 933, 935, 73, 936, 937, 939, 74, 940, 516, 517, 518, 519, 522, 27, 523, 524, 527, 28, 528, 531, 29]) (by decide +kernel)
set_option maxRecDepth 100000 in
theorem lw_g15 : ∀ w ∈ wsL_law_r15, w ∈ lw_tbl := lw_pls (is := [532, 535, 30, 536, 941, 942, 943, 944, 945, 947, 75, 948, 537, 538, 539, 540, 543, 31, 544, 949, 950, 951, 952, 953]) (by decide +kernel)
set_option maxRecDepth 100000 in
theorem lw_g16 : ∀ w ∈ wsL_law_r16, w ∈ lw_tbl := lw_pls (is := [955, 76, 956, 545, 546, 547, 548, 549, 552, 32, 553, 554, 556, 33, 557, 560, 34, 561, 562, 564, 35, 565, 571, 569]) (by decide +kernel)
set_option maxRecDepth 100000 in
theorem lw_g17 : ∀ w ∈ wsL_law_r17, w ∈ lw_tbl := lw_pls (is := [570, 572, 574, 36, 575, 584, 576, 578, 37, 579, 587, 589, 38, 590, 591, 594, 39, 595, 596, 598, 40, 599, 600, 603]) (by decide +kernel)
set_option maxRecDepth 100000 in
theorem lw_g18 : ∀ w ∈ wsL_law_r18, w ∈ lw_tbl := lw_pls (is := [41, 604, 605, 607, 42, 608, 957, 958, 959, 960, 961, 962, 964, 77, 965, 966, 968, 78, 969, 970, 972, 79, 973, 974]) (by decide +kernel)
set_option maxRecDepth 100000 in
theorem lw_g19 : ∀ w ∈ wsL_law_r19, w ∈ lw_tbl := lw_pls (is := [975, 976, 977, 978, 979, 980, 981, 982, 983, 984, 985, 986, 988, 80, 989, 990, 992, 81, 993, 994, 996, 82, 997, 609]) (by decide +kernel)
set_option maxRecDepth 100000 in
theorem lw_g20 : ∀ w ∈ wsL_law_r20, w ∈ lw_tbl := lw_pls (is := [610, 611, 612, 613, 616, 615, 618, 998, 999, 1000, 1001, 619, 620, 621, 622, 626, 43, 627, 630, 44, 631, 632, 633, 634]) (by decide +kernel)
set_option maxRecDepth 100000 in
theorem lw_g21 : ∀ w ∈ wsL_law_r21, w ∈ lw_tbl := lw_pls (is := [1002, 1003, 1004, 1005, 1006, 1008, 83, 1009, 1010, 1012, 84, 1013, 1014, 1016, 85, 1017, 635, 636, 637, 638, 1018, 1019, 1020, 1021]) (by decide +kernel)
set_option maxRecDepth 100000 in
theorem lw_g22 : ∀ w ∈ wsL_law_r22, w ∈ lw_tbl := lw_pls (is := [640, 641, 642, 643, 1022, 1023, 1024, 1025, 644, 645, 646, 647, 650, 45, 651, 655, 46, 656, 657, 658, 660, 47, 661, 662]) (by decide +kernel)
set_option maxRecDepth 100000 in
theorem lw_g23 : ∀ w ∈ wsL_law_r23, w ∈ lw_tbl := lw_pls (is := [1026, 1027, 1028, 1029, 1030, 1032, 86, 1033, 663, 664, 665, 666, 670, 48, 671, 672, 1034, 1035, 1036, 1037, 864, 1038, 1040, 87]) (by decide +kernel)
set_option maxRecDepth 100000 in
theorem lw_g24 : ∀ w ∈ wsL_law_r24, w ∈ lw_tbl := lw_pls (is := [1041, 1042, 1044, 88, 1045, 673, 674, 675, 676, 1046, 1047, 1048, 1049, 678, 679, 680, 681, 683, 1050, 1051, 1052, 1053, 1054, 1056]) (by decide +kernel)
set_option maxRecDepth 100000 in
theorem lw_g25 : ∀ w ∈ wsL_law_r25, w ∈ lw_tbl := lw_pls (is := [89, 1057, 684, 685, 686, 687, 692, 690, 49, 691, 1058, 1059, 1060, 1061, 693, 694, 695, 696, 1062, 1063, 1064, 1065, 697, 698]) (by decide +kernel)
set_option maxRecDepth 100000 in
theorem lw_g26 : ∀ w ∈ wsL_law_r26, w ∈ lw_tbl := lw_pls (is := [699, 700, 703, 50, 704, 1066, 1067, 1068, 1069, 705, 706, 707, 708, 711, 51, 712, 1070, 1071, 1072, 1073, 713, 714, 715, 716]) (by decide +kernel)
set_option maxRecDepth 100000 in
theorem lw_g27 : ∀ w ∈ wsL_law_r27, w ∈ lw_tbl := lw_pls (is := [1074, 1075, 1076, 1077, 717, 718, 719, 720, 723, 52, 724, 332, 333, 336, 334, 726, 728, 53, 729, 730, 732, 54, 733, 734]) (by decide +kernel)
set_option maxRecDepth 100000 in
theorem lw_g28 : ∀ w ∈ wsL_law_r28, w ∈ lw_tbl := lw_pls (is := [736, 55, 737, 739, 740, 742, 743, 744, 745, 746, 747, 748, 749, 750, 751, 752, 753, 757, 758, 754, 755, 756, 759, 760]) (by decide +kernel)
set_option maxRecDepth 100000 in
theorem lw_g29 : ∀ w ∈ wsL_law_r29, w ∈ lw_tbl := lw_pls (is := [761, 762, 763, 764, 765, 766, 767, 768, 769, 770, 771, 772, 773, 774, 775, 776, 777, 778, 779, 780, 781, 782, 783, 784]) (by decide +kernel)
set_option maxRecDepth 100000 in
theorem lw_g30 : ∀ w ∈ wsL_law_r30, w ∈ lw_tbl := lw_pls (is := [785, 786, 787, 108, 788, 789, 790, 791, 792, 793, 794, 795, 796, 797, 799, 56, 800, 801, 803, 57, 804, 805, 807, 58]) (by decide +kernel)
set_option maxRecDepth 100000 in
theorem lw_g31 : ∀ w ∈ wsL_law_r31, w ∈ lw_tbl := lw_pls (is := [808, 1078, 1079, 1080, 1081, 865, 1082, 1084, 90, 1085, 1086, 1087, 1088, 809, 810, 811, 812, 816, 59, 817, 818, 1089, 1090, 1091]) (by decide +kernel)
set_option maxRecDepth 100000 in
theorem lw_g32 : ∀ w ∈ wsL_law_r32, w ∈ lw_tbl := lw_pls (is := [1092, 819, 820, 821, 822, 825, 60, 826, 355, 827, 829, 61, 830, 835, 836, 837, 838, 839, 840, 842, 62, 843, 844, 1093]) (by decide +kernel)
set_option maxRecDepth 100000 in
theorem lw_g33 : ∀ w ∈ wsL_law_r33, w ∈ lw_tbl := lw_pls (is := [1094, 1095, 1096, 1097, 1099, 91, 1100, 1101, 1102, 1103, 1104, 1105, 1106, 1107, 845, 846, 847, 848, 849, 851, 63, 852, 1108, 1109]) (by decide +kernel)
set_option maxRecDepth 100000 in
theorem lw_g34 : ∀ w ∈ wsL_law_r34, w ∈ lw_tbl := lw_pls (is := [1110, 1111]) (by decide +kernel)
set_option maxRecDepth 100000 in
theorem lw_w0 : ∀ w ∈ wsX00, w ∈ lw_tbl := fun w h => (goodIn_p wsX00 [] (by decide +kernel) (by decide +kernel) w h).1
set_option maxRecDepth 100000 in
theorem lw_w1 : ∀ w ∈ wsX10, w ∈ lw_tbl := fun w h => (goodIn_p wsX10 [] (by decide +kernel) (by decide +kernel) w h).1
set_option maxRecDepth 100000 in
theorem lw_w2 : ∀ w ∈ wsX20, w ∈ lw_tbl := fun w h => (goodIn_p wsX20 [] (by decide +kernel) (by decide +kernel) w h).1
set_option maxRecDepth 100000 in
theorem lw_w3 : ∀ w ∈ wsX30, w ∈ lw_tbl := fun w h => (goodIn_p wsX30 [] (by decide +kernel) (by decide +kernel) w h).1
set_option maxRecDepth 100000 in
theorem lw_w4 : ∀ w ∈ wsX40, w ∈ lw_tbl := fun w h => (goodIn_p wsX40 [] (by decide +kernel) (by decide +kernel) w h).1
set_option maxRecDepth 100000 in
theorem lw_w5 : ∀ w ∈ wsX50, w ∈ lw_tbl := fun w h => (goodIn_p wsX50 [] (by decide +kernel) (by decide +kernel) w h).1
set_option maxRecDepth 100000 in
theorem lw_w6 : ∀ w ∈ wsX60, w ∈ lw_tbl := fun w h => (goodIn_p wsX60 [] (by decide +kernel) (by decide +kernel) w h).1
set_option maxRecDepth 100000 in
theorem lw_w7 : ∀ w ∈ wsX70, w ∈ lw_tbl := fun w h => (goodIn_p wsX70 [] (by decide +kernel) (by decide +kernel) w h).1
set_option maxRecDepth 100000 in
theorem lw_w8 : ∀ w ∈ wsX80, w ∈ lw_tbl := fun w h => (goodIn_p wsX80 [] (by decide +kernel) (by decide +kernel) w h).1
theorem lw_or {a b : List Cond} (ha : ∀ w ∈ a, w ∈ lw_tbl) (hb : ∀ w ∈ b, w ∈ lw_tbl) : ∀ w ∈ a ++ b, w ∈ lw_tbl := fun w h => (List.mem_append.mp h).elim (ha w) (hb w)
theorem wsL_law_in : ∀ w ∈ wsL_law, w ∈ lw_tbl := lw_or (lw_or (lw_or (lw_or (lw_or (lw_or (lw_or (lw_or (lw_or (lw_or (lw_or lw_g1 (lw_or lw_g2 (lw_or lw_g3 (lw_or lw_g4 (lw_or lw_g5 (lw_or lw_g6 (lw_or lw_g7 (lw_or lw_g8 (lw_or lw_g9 (lw_or lw_g10 (lw_or lw_g11 (lw_or lw_g12 (lw_or lw_g13 (lw_or lw_g14 (lw_or lw_g15 (lw_or lw_g16 (lw_or lw_g17 (lw_or lw_g18 (lw_or lw_g19 (lw_or lw_g20 (lw_or lw_g21 (lw_or lw_g22 (lw_or lw_g23 (lw_or lw_g24 (lw_or lw_g25 (lw_or lw_g26 (lw_or lw_g27 (lw_or lw_g28 (lw_or lw_g29 (lw_or lw_g30 (lw_or lw_g31 (lw_or lw_g32 (lw_or lw_g33 (lw_g34)))))))))))))))))))))))))))))))))) lw_w7) lw_w8) lw_w0) lw_w2) lw_w1) lw_w6) lw_w4) lw_w5) lw_w3) (fun w h => absurd h List.not_mem_nil)
