theorem in_r {big : List Cond} (ws : List Cond) (ps : List Nat) (hp : ws = ps.filterMap (fun i => big[i]?)) : ∀ w ∈ ws, w ∈ big := by
  intro w hw
  rw [hp] at hw
  obtain ⟨i, -, hi⟩ := List.mem_filterMap.mp hw
  exact List.mem_of_getElem? hi
set_option maxRecDepth 20000 in
theorem wsL_in_1 : ∀ w ∈ wsL_law_r1, w ∈ lw_tbl := in_r _ [79, 80, 62, 744, 745, 68, 81, 82, 83, 84, 85, 86, 87, 88, 63, 238, 120, 121, 64, 239, 240, 158, 159, 65] (by decide +kernel)
set_option maxRecDepth 20000 in
theorem wsL_in_2 : ∀ w ∈ wsL_law_r2, w ∈ lw_tbl := in_r _ [241, 242, 243, 244, 237, 245, 214, 246, 216, 67, 90, 91, 92, 118, 93, 119, 102, 123, 124, 125, 130, 138, 142, 161] (by decide +kernel)
set_option maxRecDepth 20000 in
theorem wsL_in_3 : ∀ w ∈ wsL_law_r3, w ∈ lw_tbl := in_r _ [162, 163, 164, 165, 66, 195, 197, 199, 166, 167, 168, 169, 173, 194, 176, 178, 218, 219, 220, 221, 226, 746, 747, 748] (by decide +kernel)
set_option maxRecDepth 20000 in
theorem wsL_in_4 : ∀ w ∈ wsL_law_r4, w ∈ lw_tbl := in_r _ [749, 757, 758, 759, 760, 761, 763, 764, 773, 774, 775, 776, 750, 752, 29, 753, 762, 272, 273, 274, 275, 824, 825, 826] (by decide +kernel)
set_option maxRecDepth 20000 in
theorem wsL_in_5 : ∀ w ∈ wsL_law_r5, w ∈ lw_tbl := in_r _ [827, 828, 765, 829, 830, 831, 276, 277, 278, 279, 832, 833, 834, 835, 280, 281, 282, 283, 284, 285, 286, 287, 126, 288] (by decide +kernel)
set_option maxRecDepth 20000 in
theorem wsL_in_6 : ∀ w ∈ wsL_law_r6, w ∈ lw_tbl := in_r _ [290, 289, 69, 134, 139, 291, 292, 293, 294, 100, 97, 99, 295, 297, 0, 298, 96, 299, 301, 1, 302, 304, 306, 2] (by decide +kernel)
set_option maxRecDepth 20000 in
theorem wsL_in_7 : ∀ w ∈ wsL_law_r7, w ∈ lw_tbl := in_r _ [307, 308, 309, 310, 70, 311, 1129, 312, 313, 314, 315, 316, 1130, 318, 319, 320, 321, 322, 323, 324, 325, 326, 327, 71] (by decide +kernel)
set_option maxRecDepth 20000 in
theorem wsL_in_8 : ∀ w ∈ wsL_law_r8, w ∈ lw_tbl := in_r _ [328, 329, 330, 331, 332, 334, 335, 72, 336, 337, 338, 73, 339, 340, 341, 342, 343, 344, 345, 346, 347, 348, 349, 350] (by decide +kernel)
set_option maxRecDepth 20000 in
theorem wsL_in_9 : ∀ w ∈ wsL_law_r9, w ∈ lw_tbl := in_r _ [352, 354, 356, 357, 358, 359, 361, 363, 3, 364, 101, 381, 365, 367, 4, 368, 369, 371, 5, 372, 373, 375, 6, 376] (by decide +kernel)
set_option maxRecDepth 20000 in
theorem wsL_in_10 : ∀ w ∈ wsL_law_r10, w ∈ lw_tbl := in_r _ [377, 379, 7, 380, 383, 385, 8, 386, 387, 388, 389, 390, 391, 393, 9, 394, 395, 397, 10, 398, 399, 401, 11, 402] (by decide +kernel)
set_option maxRecDepth 20000 in
theorem wsL_in_11 : ∀ w ∈ wsL_law_r11, w ∈ lw_tbl := in_r _ [408, 410, 12, 411, 413, 415, 13, 416, 417, 419, 14, 420, 836, 837, 838, 839, 766, 840, 842, 30, 843, 771, 767, 770] (by decide +kernel)
set_option maxRecDepth 20000 in
theorem wsL_in_12 : ∀ w ∈ wsL_law_r12, w ∈ lw_tbl := in_r _ [754, 768, 755, 769, 844, 846, 31, 847, 848, 849, 850, 851, 852, 853, 854, 855, 856, 857, 858, 860, 32, 861, 862, 864] (by decide +kernel)
set_option maxRecDepth 20000 in
theorem wsL_in_13 : ∀ w ∈ wsL_law_r13, w ∈ lw_tbl := in_r _ [33, 865, 866, 868, 34, 869, 756, 870, 872, 35, 873, 772, 874, 876, 36, 877, 878, 880, 37, 881, 882, 884, 38, 885] (by decide +kernel)
set_option maxRecDepth 20000 in
theorem wsL_in_14 : ∀ w ∈ wsL_law_r14, w ∈ lw_tbl := in_r _ [886, 888, 39, 889, 890, 892, 40, 893, 894, 896, 41, 897, 898, 899, 900, 901, 903, 42, 904, 905, 907, 43, 908, 422] (by decide +kernel)
set_option maxRecDepth 20000 in
theorem wsL_in_15 : ∀ w ∈ wsL_law_r15, w ∈ lw_tbl := in_r _ [423, 424, 425, 426, 428, 15, 429, 248, 430, 431, 432, 433, 202, 434, 435, 436, 437, 170, 172, 438, 440, 16, 441, 174] (by decide +kernel)
set_option maxRecDepth 20000 in
theorem wsL_in_16 : ∀ w ∈ wsL_law_r16, w ∈ lw_tbl := in_r _ [175, 442, 443, 74, 444, 445, 446, 447, 448, 449, 450, 451, 452, 453, 454, 455, 223, 224, 456, 909, 910, 911, 912, 457] (by decide +kernel)
set_option maxRecDepth 20000 in
theorem wsL_in_17 : ∀ w ∈ wsL_law_r17, w ∈ lw_tbl := in_r _ [458, 459, 460, 461, 463, 17, 464, 465, 466, 467, 913, 914, 915, 916, 921, 917, 919, 44, 920, 468, 469, 470, 471, 472] (by decide +kernel)
set_option maxRecDepth 20000 in
theorem wsL_in_18 : ∀ w ∈ wsL_law_r18, w ∈ lw_tbl := in_r _ [473, 474, 475, 922, 923, 924, 925, 926, 476, 477, 478, 479, 480, 482, 18, 483, 247, 494, 495, 75, 496, 484, 485, 486] (by decide +kernel)
set_option maxRecDepth 20000 in
theorem wsL_in_19 : ∀ w ∈ wsL_law_r19, w ∈ lw_tbl := in_r _ [487, 493, 488, 489, 490, 491, 492, 927, 928, 929, 930, 935, 936, 931, 932, 933, 934, 937, 939, 45, 940, 941, 943, 46] (by decide +kernel)
set_option maxRecDepth 20000 in
theorem wsL_in_20 : ∀ w ∈ wsL_law_r20, w ∈ lw_tbl := in_r _ [944, 497, 498, 499, 500, 501, 502, 503, 504, 505, 506, 507, 508, 509, 510, 511, 945, 946, 947, 948, 949, 950, 951, 512] (by decide +kernel)
set_option maxRecDepth 20000 in
theorem wsL_in_21 : ∀ w ∈ wsL_law_r21, w ∈ lw_tbl := in_r _ [513, 514, 515, 516, 517, 518, 519, 520, 521, 522, 523, 555, 524, 525, 526, 527, 528, 529, 531, 19, 532, 533, 535, 20] (by decide +kernel)
set_option maxRecDepth 20000 in
theorem wsL_in_22 : ∀ w ∈ wsL_law_r22, w ∈ lw_tbl := in_r _ [536, 537, 538, 539, 540, 541, 542, 544, 21, 545, 546, 547, 548, 549, 550, 551, 553, 22, 554, 556, 558, 23, 559, 952] (by decide +kernel)
set_option maxRecDepth 20000 in
theorem wsL_in_23 : ∀ w ∈ wsL_law_r23, w ∈ lw_tbl := in_r _ [953, 954, 955, 956, 958, 47, 959, 960, 962, 48, 963, 964, 966, 49, 967, 968, 970, 50, 971, 972, 974, 51, 975, 976] (by decide +kernel)
set_option maxRecDepth 20000 in
theorem wsL_in_24 : ∀ w ∈ wsL_law_r24, w ∈ lw_tbl := in_r _ [978, 52, 979, 560, 561, 562, 563, 980, 981, 982, 983, 564, 565, 566, 567, 568, 569, 570, 571, 573, 24, 574, 984, 985] (by decide +kernel)
set_option maxRecDepth 20000 in
theorem wsL_in_25 : ∀ w ∈ wsL_law_r25, w ∈ lw_tbl := in_r _ [986, 987, 988, 990, 53, 991, 575, 576, 577, 578, 992, 993, 994, 995, 579, 580, 581, 582, 583, 584, 585, 586, 587, 588] (by decide +kernel)
set_option maxRecDepth 20000 in
theorem wsL_in_26 : ∀ w ∈ wsL_law_r26, w ∈ lw_tbl := in_r _ [589, 590, 591, 592, 593, 996, 997, 998, 999, 1003, 1000, 1001, 1002, 594, 595, 596, 597, 598, 1004, 1005, 1006, 1007, 1008, 599] (by decide +kernel)
set_option maxRecDepth 20000 in
theorem wsL_in_27 : ∀ w ∈ wsL_law_r27, w ∈ lw_tbl := in_r _ [600, 601, 602, 603, 604, 605, 606, 1009, 1010, 1011, 1012, 1013, 1014, 77, 1015, 1019, 1021, 1020, 77, 1022, 1016, 1017, 1018, 607] (by decide +kernel)
set_option maxRecDepth 20000 in
theorem wsL_in_28 : ∀ w ∈ wsL_law_r28, w ∈ lw_tbl := in_r _ [608, 609, 610, 629, 630, 611, 613, 25, 614, 615, 616, 617, 618, 619, 620, 621, 622, 623, 624, 626, 26, 627, 628, 1023] (by decide +kernel)
set_option maxRecDepth 20000 in
theorem wsL_in_29 : ∀ w ∈ wsL_law_r29, w ∈ lw_tbl := in_r _ [1024, 1025, 1026, 1037, 1038, 1027, 1029, 54, 1030, 1036, 1031, 1033, 55, 1034, 1035, 631, 632, 633, 634, 635, 636, 641, 637, 639] (by decide +kernel)
set_option maxRecDepth 20000 in
theorem wsL_in_30 : ∀ w ∈ wsL_law_r30, w ∈ lw_tbl := in_r _ [27, 640, 642, 643, 644, 645, 646, 647, 1039, 1040, 1041, 1042, 1043, 1044, 1045, 1046, 78, 1047, 1051, 1053, 1052, 78, 1054, 1048] (by decide +kernel)
set_option maxRecDepth 20000 in
theorem wsL_in_31 : ∀ w ∈ wsL_law_r31, w ∈ lw_tbl := in_r _ [1049, 1050, 648, 649, 650, 651, 656, 652, 653, 654, 655, 1055, 1056, 1057, 1058, 1059, 657, 658, 659, 660, 661, 662, 663, 664] (by decide +kernel)
set_option maxRecDepth 20000 in
theorem wsL_in_32 : ∀ w ∈ wsL_law_r32, w ∈ lw_tbl := in_r _ [1060, 1061, 1062, 1063, 1064, 1066, 56, 1067, 665, 666, 667, 668, 1068, 1069, 1070, 1071, 669, 670, 671, 672, 1072, 1073, 1074, 1075] (by decide +kernel)
set_option maxRecDepth 20000 in
theorem wsL_in_33 : ∀ w ∈ wsL_law_r33, w ∈ lw_tbl := in_r _ [673, 674, 675, 676, 1076, 1077, 1078, 1079, 677, 678, 679, 680, 681, 682, 683, 684, 1080, 1081, 1082, 1083, 685, 686, 687, 688] (by decide +kernel)
set_option maxRecDepth 20000 in
theorem wsL_in_34 : ∀ w ∈ wsL_law_r34, w ∈ lw_tbl := in_r _ [689, 690, 691, 692, 693, 694, 695, 696, 697, 698, 699, 700, 1084, 1085, 1086, 1087, 1088, 1089, 1091, 57, 1092, 1093, 1095, 58] (by decide +kernel)
set_option maxRecDepth 20000 in
theorem wsL_in_35 : ∀ w ∈ wsL_law_r35, w ∈ lw_tbl := in_r _ [1096, 701, 702, 703, 704, 705, 706, 707, 708, 1097, 1098, 1099, 1100, 1101, 1103, 59, 1104, 709, 710, 711, 712, 1105, 1106, 1107] (by decide +kernel)
set_option maxRecDepth 20000 in
theorem wsL_in_36 : ∀ w ∈ wsL_law_r36, w ∈ lw_tbl := in_r _ [1108, 713, 714, 715, 716, 717, 718, 719, 720, 721, 1109, 1110, 1111, 1112, 722, 723, 724, 725, 726, 727, 1113, 1114, 1115, 1116] (by decide +kernel)
set_option maxRecDepth 20000 in
theorem wsL_in_37 : ∀ w ∈ wsL_law_r37, w ∈ lw_tbl := in_r _ [728, 729, 730, 731, 1117, 1118, 1119, 1120, 732, 733, 734, 735, 736, 738, 28, 739, 740, 741, 742, 743, 1121, 1122, 1123, 1124] (by decide +kernel)
set_option maxRecDepth 20000 in
theorem wsL_in_38 : ∀ w ∈ wsL_law_r38, w ∈ lw_tbl := in_r _ [1125, 1127, 60, 1128] (by decide +kernel)
set_option maxRecDepth 20000 in
theorem inX0 : ∀ w ∈ wsX00, w ∈ lw_tbl := by decide +kernel
set_option maxRecDepth 20000 in
theorem inX1 : ∀ w ∈ wsX10, w ∈ lw_tbl := by decide +kernel
set_option maxRecDepth 20000 in
theorem inX2 : ∀ w ∈ wsX20, w ∈ lw_tbl := by decide +kernel
set_option maxRecDepth 20000 in
theorem inX3 : ∀ w ∈ wsX30, w ∈ lw_tbl := by decide +kernel
set_option maxRecDepth 20000 in
theorem inX4 : ∀ w ∈ wsX40, w ∈ lw_tbl := by decide +kernel
set_option maxRecDepth 20000 in
theorem inX5 : ∀ w ∈ wsX50, w ∈ lw_tbl := by decide +kernel
set_option maxRecDepth 20000 in
theorem inX6 : ∀ w ∈ wsX60, w ∈ lw_tbl := by decide +kernel
set_option maxRecDepth 20000 in
theorem wsL_law_in : ∀ w ∈ wsL_law, w ∈ lw_tbl := List.forall_mem_append.mpr ⟨List.forall_mem_append.mpr ⟨List.forall_mem_append.mpr ⟨List.forall_mem_append.mpr ⟨List.forall_mem_append.mpr ⟨List.forall_mem_append.mpr ⟨List.forall_mem_append.mpr ⟨List.forall_mem_append.mpr ⟨List.forall_mem_append.mpr ⟨wsL_in_1, List.forall_mem_append.mpr ⟨wsL_in_2, List.forall_mem_append.mpr ⟨wsL_in_3, List.forall_mem_append.mpr ⟨wsL_in_4, List.forall_mem_append.mpr ⟨wsL_in_5, List.forall_mem_append.mpr ⟨wsL_in_6, List.forall_mem_append.mpr ⟨wsL_in_7, List.forall_mem_append.mpr ⟨wsL_in_8, List.forall_mem_append.mpr ⟨wsL_in_9, List.forall_mem_append.mpr ⟨wsL_in_10, List.forall_mem_append.mpr ⟨wsL_in_11, List.forall_mem_append.mpr ⟨wsL_in_12, List.forall_mem_append.mpr ⟨wsL_in_13, List.forall_mem_append.mpr ⟨wsL_in_14, List.forall_mem_append.mpr ⟨wsL_in_15, List.forall_mem_append.mpr ⟨wsL_in_16, List.forall_mem_append.mpr ⟨wsL_in_17, List.forall_mem_append.mpr ⟨wsL_in_18, List.forall_mem_append.mpr ⟨wsL_in_19, List.forall_mem_append.mpr ⟨wsL_in_20, List.forall_mem_append.mpr ⟨wsL_in_21, List.forall_mem_append.mpr ⟨wsL_in_22, List.forall_mem_append.mpr ⟨wsL_in_23, List.forall_mem_append.mpr ⟨wsL_in_24, List.forall_mem_append.mpr ⟨wsL_in_25, List.forall_mem_append.mpr ⟨wsL_in_26, List.forall_mem_append.mpr ⟨wsL_in_27, List.forall_mem_append.mpr ⟨wsL_in_28, List.forall_mem_append.mpr ⟨wsL_in_29, List.forall_mem_append.mpr ⟨wsL_in_30, List.forall_mem_append.mpr ⟨wsL_in_31, List.forall_mem_append.mpr ⟨wsL_in_32, List.forall_mem_append.mpr ⟨wsL_in_33, List.forall_mem_append.mpr ⟨wsL_in_34, List.forall_mem_append.mpr ⟨wsL_in_35, List.forall_mem_append.mpr ⟨wsL_in_36, List.forall_mem_append.mpr ⟨wsL_in_37, wsL_in_38⟩⟩⟩⟩⟩⟩⟩⟩⟩⟩⟩⟩⟩⟩⟩⟩⟩⟩⟩⟩⟩⟩⟩⟩⟩⟩⟩⟩⟩⟩⟩⟩⟩⟩⟩⟩⟩, inX5⟩, inX6⟩, inX4⟩, inX0⟩, inX2⟩, inX3⟩, inX1⟩, fun _ h => absurd h List.not_mem_nil⟩
theorem inlX0 : ∀ w ∈ wsX00, w ∈ wsL_law := fun _ h => List.mem_append_left _ (List.mem_append_left _ (List.mem_append_left _ (List.mem_append_left _ (List.mem_append_right _ h))))
theorem inlX1 : ∀ w ∈ wsX10, w ∈ wsL_law := fun _ h => List.mem_append_left _ (List.mem_append_right _ h)
theorem inlX2 : ∀ w ∈ wsX20, w ∈ wsL_law := fun _ h => List.mem_append_left _ (List.mem_append_left _ (List.mem_append_left _ (List.mem_append_right _ h)))
theorem inlX3 : ∀ w ∈ wsX30, w ∈ wsL_law := fun _ h => List.mem_append_left _ (List.mem_append_left _ (List.mem_append_right _ h))
theorem inlX4 : ∀ w ∈ wsX40, w ∈ wsL_law := fun _ h => List.mem_append_left _ (List.mem_append_left _ (List.mem_append_left _ (List.mem_append_left _ (List.mem_append_left _ (List.mem_append_right _ h)))))
theorem inlX5 : ∀ w ∈ wsX50, w ∈ wsL_law := fun _ h => List.mem_append_left _ (List.mem_append_left _ (List.mem_append_left _ (List.mem_append_left _ (List.mem_append_left _ (List.mem_append_left _ (List.mem_append_left _ (List.mem_append_right _ h)))))))
theorem inlX6 : ∀ w ∈ wsX60, w ∈ wsL_law := fun _ h => List.mem_append_left _ (List.mem_append_left _ (List.mem_append_left _ (List.mem_append_left _ (List.mem_append_left _ (List.mem_append_left _ (List.mem_append_right _ h))))))
