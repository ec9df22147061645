theorem wsL_in_1 : wsL_law_r1 = [81, 82, 67, 747, 748, 74, 83, 84, 85, 86, 87, 88, 89, 90, 68, 263, 264, 134, 265, 135, 136, 69, 266, 159].filterMap (fun i => lw_tbl[i]?) := by decide +kernel
theorem wsL_in_2 : wsL_law_r2 = [160, 70, 267, 176, 177, 71, 268, 269, 223, 270, 196, 197, 72, 271, 224, 225, 73, 272, 91, 92, 93, 94, 104, 107].filterMap (fun i => lw_tbl[i]?) := by decide +kernel
theorem wsL_in_3 : wsL_law_r3 = [111, 114, 117, 95, 96, 97, 98, 99, 138, 139, 140, 141, 143, 145, 146, 147, 161, 162, 163, 164, 165, 168, 167, 178].filterMap (fun i => lw_tbl[i]?) := by decide +kernel
theorem wsL_in_4 : wsL_law_r4 = [179, 180, 181, 185, 187, 182, 188, 184, 199, 200, 201, 204, 207, 208, 209, 227, 228, 229, 232, 234, 236, 230, 238, 239].filterMap (fun i => lw_tbl[i]?) := by decide +kernel
theorem wsL_in_5 : wsL_law_r5 = [240, 241, 242, 243, 231, 749, 750, 751, 752, 757, 759, 760, 767, 768, 769, 770, 753, 755, 18, 756, 294, 295, 296, 297].filterMap (fun i => lw_tbl[i]?) := by decide +kernel
theorem wsL_in_6 : wsL_law_r6 = [142, 298, 299, 300, 301, 800, 801, 802, 803, 804, 761, 805, 806, 807, 302, 303, 304, 305, 306, 307, 308, 309, 808, 809].filterMap (fun i => lw_tbl[i]?) := by decide +kernel
theorem wsL_in_7 : wsL_law_r7 = [810, 811, 310, 311, 312, 313, 314, 315, 316, 317, 318, 319, 320, 321, 144, 322, 323, 324, 325, 326, 327, 328, 329, 330].filterMap (fun i => lw_tbl[i]?) := by decide +kernel
theorem wsL_in_8 : wsL_law_r8 = [331, 332, 333, 335, 0, 336, 338, 339, 340, 341, 342, 343, 344, 75, 345, 1107, 346, 347, 348, 349, 350, 1108, 352, 353].filterMap (fun i => lw_tbl[i]?) := by decide +kernel
theorem wsL_in_9 : wsL_law_r9 = [354, 355, 356, 357, 358, 359, 360, 361, 76, 362, 363, 364, 365, 366, 368, 369, 77, 370, 371, 372, 78, 373, 374, 375].filterMap (fun i => lw_tbl[i]?) := by decide +kernel
theorem wsL_in_10 : wsL_law_r10 = [376, 377, 378, 379, 380, 381, 382, 383, 384, 386, 388, 390, 392, 1, 393, 394, 396, 2, 397, 398, 399, 400, 401, 402].filterMap (fun i => lw_tbl[i]?) := by decide +kernel
theorem wsL_in_11 : wsL_law_r11 = [404, 406, 3, 407, 106, 408, 410, 4, 411, 102, 413, 415, 5, 416, 112, 417, 418, 419, 420, 422, 423, 425, 427, 6].filterMap (fun i => lw_tbl[i]?) := by decide +kernel
theorem wsL_in_12 : wsL_law_r12 = [428, 110, 429, 430, 431, 432, 434, 435, 437, 439, 7, 440, 120, 441, 442, 443, 444, 445, 446, 447, 448, 450, 451, 454].filterMap (fun i => lw_tbl[i]?) := by decide +kernel
theorem wsL_in_13 : wsL_law_r13 = [456, 8, 457, 459, 460, 461, 462, 464, 465, 466, 467, 468, 469, 470, 471, 472, 473, 474, 475, 812, 813, 814, 815, 762].filterMap (fun i => lw_tbl[i]?) := by decide +kernel
theorem wsL_in_14 : wsL_law_r14 = [816, 818, 19, 819, 766, 763, 765, 764, 820, 822, 20, 823, 824, 825, 826, 827, 828, 829, 830, 831, 832, 833, 834, 836].filterMap (fun i => lw_tbl[i]?) := by decide +kernel
theorem wsL_in_15 : wsL_law_r15 = [21, 837, 838, 840, 22, 841, 842, 844, 23, 845, 846, 848, 24, 849, 850, 852, 25, 853, 854, 856, 26, 857, 858, 860].filterMap (fun i => lw_tbl[i]?) := by decide +kernel
theorem wsL_in_16 : wsL_law_r16 = [27, 861, 862, 863, 864, 865, 866, 868, 28, 869, 870, 872, 29, 873, 874, 876, 30, 877, 878, 880, 31, 881, 882, 884].filterMap (fun i => lw_tbl[i]?) := by decide +kernel
theorem wsL_in_17 : wsL_law_r17 = [32, 885, 886, 888, 33, 889, 477, 478, 479, 480, 166, 481, 482, 483, 484, 890, 891, 892, 893, 758, 485, 486, 487, 488].filterMap (fun i => lw_tbl[i]?) := by decide +kernel
theorem wsL_in_18 : wsL_law_r18 = [105, 489, 490, 491, 492, 493, 494, 495, 496, 498, 499, 79, 500, 497, 986, 987, 988, 989, 990, 914, 916, 37, 917, 991].filterMap (fun i => lw_tbl[i]?) := by decide +kernel
theorem wsL_in_19 : wsL_law_r19 = [993, 51, 994, 995, 997, 52, 998, 999, 1001, 53, 1002, 501, 502, 503, 504, 109, 505, 506, 507, 508, 509, 1003, 1004, 1005].filterMap (fun i => lw_tbl[i]?) := by decide +kernel
theorem wsL_in_20 : wsL_law_r20 = [1006, 982, 983, 984, 985, 510, 511, 512, 513, 113, 1007, 1008, 1009, 1010, 514, 515, 516, 517, 119, 518, 519, 520, 521, 522].filterMap (fun i => lw_tbl[i]?) := by decide +kernel
theorem wsL_in_21 : wsL_law_r21 = [523, 524, 80, 525, 526, 527, 528, 1011, 1012, 1013, 1014, 1015, 1017, 54, 1018, 1019, 1021, 55, 1022, 938, 939, 940, 529, 530].filterMap (fun i => lw_tbl[i]?) := by decide +kernel
theorem wsL_in_22 : wsL_law_r22 = [531, 532, 533, 1023, 1024, 1025, 1026, 534, 535, 536, 537, 538, 540, 9, 541, 542, 543, 544, 545, 546, 547, 548, 549, 550].filterMap (fun i => lw_tbl[i]?) := by decide +kernel
theorem wsL_in_23 : wsL_law_r23 = [551, 552, 553, 554, 555, 556, 557, 558, 559, 560, 561, 562, 563, 1027, 1028, 1029, 1030, 1031, 1033, 56, 1034, 958, 960, 46].filterMap (fun i => lw_tbl[i]?) := by decide +kernel
theorem wsL_in_24 : wsL_law_r24 = [961, 1035, 1037, 57, 1038, 970, 972, 49, 973, 974, 976, 50, 977, 564, 565, 566, 567, 237, 235, 568, 569, 570, 571, 101].filterMap (fun i => lw_tbl[i]?) := by decide +kernel
theorem wsL_in_25 : wsL_law_r25 = [572, 573, 574, 575, 576, 577, 579, 10, 580, 108, 581, 583, 585, 11, 586, 587, 115, 118, 589, 591, 12, 592, 593, 594].filterMap (fun i => lw_tbl[i]?) := by decide +kernel
theorem wsL_in_26 : wsL_law_r26 = [596, 13, 597, 1043, 1044, 1045, 1046, 918, 920, 38, 921, 922, 924, 39, 925, 926, 928, 40, 929, 930, 932, 41, 933, 934].filterMap (fun i => lw_tbl[i]?) := by decide +kernel
theorem wsL_in_27 : wsL_law_r27 = [936, 42, 937, 941, 943, 43, 944, 945, 947, 44, 948, 598, 599, 600, 601, 186, 602, 603, 604, 605, 1047, 1048, 1049, 1050].filterMap (fun i => lw_tbl[i]?) := by decide +kernel
theorem wsL_in_28 : wsL_law_r28 = [606, 607, 608, 609, 116, 1051, 1052, 1053, 1054, 610, 611, 612, 613, 1055, 1056, 1057, 1058, 614, 615, 616, 617, 1059, 1060, 1061].filterMap (fun i => lw_tbl[i]?) := by decide +kernel
theorem wsL_in_29 : wsL_law_r29 = [1062, 618, 619, 620, 621, 622, 623, 624, 625, 626, 627, 628, 629, 630, 631, 632, 633, 634, 635, 636, 637, 638, 639, 640].filterMap (fun i => lw_tbl[i]?) := by decide +kernel
theorem wsL_in_30 : wsL_law_r30 = [641, 642, 643, 100, 206, 644, 647, 648, 649, 650, 1063, 1064, 1065, 1066, 1067, 1069, 58, 1070, 1071, 1073, 59, 1074, 906, 908].filterMap (fun i => lw_tbl[i]?) := by decide +kernel
theorem wsL_in_31 : wsL_law_r31 = [36, 909, 1075, 1077, 60, 1078, 1079, 1081, 61, 1082, 651, 652, 653, 654, 655, 656, 657, 658, 659, 660, 661, 662, 663, 664].filterMap (fun i => lw_tbl[i]?) := by decide +kernel
theorem wsL_in_32 : wsL_law_r32 = [665, 666, 667, 668, 1083, 1084, 1085, 1086, 966, 968, 48, 969, 669, 670, 671, 672, 203, 205, 673, 674, 675, 676, 202, 677].filterMap (fun i => lw_tbl[i]?) := by decide +kernel
theorem wsL_in_33 : wsL_law_r33 = [679, 14, 680, 681, 683, 15, 684, 685, 687, 16, 688, 689, 691, 17, 692, 894, 895, 896, 897, 898, 900, 34, 901, 902].filterMap (fun i => lw_tbl[i]?) := by decide +kernel
theorem wsL_in_34 : wsL_law_r34 = [904, 35, 905, 693, 694, 695, 696, 910, 911, 912, 913, 697, 698, 699, 700, 233, 701, 702, 703, 704, 705, 706, 949, 950].filterMap (fun i => lw_tbl[i]?) := by decide +kernel
theorem wsL_in_35 : wsL_law_r35 = [951, 952, 953, 954, 956, 45, 957, 962, 964, 47, 965, 707, 708, 709, 710, 978, 979, 980, 981, 711, 712, 713, 714, 1039].filterMap (fun i => lw_tbl[i]?) := by decide +kernel
theorem wsL_in_36 : wsL_law_r36 = [1040, 1041, 1042, 715, 716, 717, 718, 103, 719, 720, 721, 722, 723, 724, 725, 726, 727, 728, 729, 730, 731, 732, 733, 734].filterMap (fun i => lw_tbl[i]?) := by decide +kernel
theorem wsL_in_37 : wsL_law_r37 = [735, 736, 737, 738, 739, 740, 741, 742, 743, 744, 745, 746, 1087, 1088, 1089, 1090, 1091, 1093, 62, 1094, 1095, 1097, 63, 1098].filterMap (fun i => lw_tbl[i]?) := by decide +kernel
theorem wsL_in_38 : wsL_law_r38 = [1099, 1101, 64, 1102, 1103, 1105, 65, 1106].filterMap (fun i => lw_tbl[i]?) := by decide +kernel
theorem wsL_in_wsX60 : ∀ w ∈ wsX60, w ∈ lw_tbl := by decide +kernel
theorem wsL_in_wsX70 : ∀ w ∈ wsX70, w ∈ lw_tbl := by decide +kernel
theorem wsL_in_wsX30 : ∀ w ∈ wsX30, w ∈ lw_tbl := by decide +kernel
theorem wsL_in_wsX50 : ∀ w ∈ wsX50, w ∈ lw_tbl := by decide +kernel
theorem wsL_in_wsX10 : ∀ w ∈ wsX10, w ∈ lw_tbl := by decide +kernel
theorem wsL_in_wsX20 : ∀ w ∈ wsX20, w ∈ lw_tbl := by decide +kernel
theorem wsL_in_wsX40 : ∀ w ∈ wsX40, w ∈ lw_tbl := by decide +kernel
theorem wsL_in_wsX00 : ∀ w ∈ wsX00, w ∈ lw_tbl := by decide +kernel
theorem inOf {ws big : List Cond} {ps : List Nat} (h : ws = ps.filterMap (fun i => big[i]?)) : ∀ w ∈ ws, w ∈ big := fun w hw => by
  rw [h] at hw
  obtain ⟨i, -, hi⟩ := List.mem_filterMap.mp hw
  exact List.mem_of_getElem? hi
theorem inApp {a b big : List Cond} (h1 : ∀ w ∈ a, w ∈ big) (h2 : ∀ w ∈ b, w ∈ big) : ∀ w ∈ a ++ b, w ∈ big := fun w h => (List.mem_append.mp h).elim (h1 w) (h2 w)
theorem wsL_law_in : ∀ w ∈ wsL_law, w ∈ lw_tbl := (inApp (inApp (inApp (inApp (inApp (inApp (inApp (inApp (inApp (inApp (inOf wsL_in_1) (inApp (inOf wsL_in_2) (inApp (inOf wsL_in_3) (inApp (inOf wsL_in_4) (inApp (inOf wsL_in_5) (inApp (inOf wsL_in_6) (inApp (inOf wsL_in_7) (inApp (inOf wsL_in_8) (inApp (inOf wsL_in_9) (inApp (inOf wsL_in_10) (inApp (inOf wsL_in_11) (inApp (inOf wsL_in_12) (inApp (inOf wsL_in_13) (inApp (inOf wsL_in_14) (inApp (inOf wsL_in_15) (inApp (inOf wsL_in_16) (inApp (inOf wsL_in_17) (inApp (inOf wsL_in_18) (inApp (inOf wsL_in_19) (inApp (inOf wsL_in_20) (inApp (inOf wsL_in_21) (inApp (inOf wsL_in_22) (inApp (inOf wsL_in_23) (inApp (inOf wsL_in_24) (inApp (inOf wsL_in_25) (inApp (inOf wsL_in_26) (inApp (inOf wsL_in_27) (inApp (inOf wsL_in_28) (inApp (inOf wsL_in_29) (inApp (inOf wsL_in_30) (inApp (inOf wsL_in_31) (inApp (inOf wsL_in_32) (inApp (inOf wsL_in_33) (inApp (inOf wsL_in_34) (inApp (inOf wsL_in_35) (inApp (inOf wsL_in_36) (inApp (inOf wsL_in_37) (inOf wsL_in_38)))))))))))))))))))))))))))))))))))))) wsL_in_wsX60) wsL_in_wsX70) wsL_in_wsX30) wsL_in_wsX50) wsL_in_wsX10) wsL_in_wsX20) wsL_in_wsX40) wsL_in_wsX00) (fun _ h => absurd h List.not_mem_nil))
