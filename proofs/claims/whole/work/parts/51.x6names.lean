theorem dX6_taken_0 : decode cX6_taken 0 = .ok (.aload_n 0, 1) := by decide +kernel
theorem dX6_taken_1 : decode cX6_taken 1 = .ok (.getfield 20, 3) := by decide +kernel
theorem dX6_taken_4 : decode cX6_taken 4 = .ok (.bipush 14, 2) := by decide +kernel
theorem dX6_taken_6 : decode cX6_taken 6 = .ok (.iload_n 1, 1) := by decide +kernel
theorem dX6_taken_7 : decode cX6_taken 7 = .ok (.imul, 1) := by decide +kernel
theorem dX6_taken_8 : decode cX6_taken 8 = .ok (.iconst 5, 1) := by decide +kernel
theorem dX6_taken_9 : decode cX6_taken 9 = .ok (.iload_n 2, 1) := by decide +kernel
theorem dX6_taken_10 : decode cX6_taken 10 = .ok (.imul, 1) := by decide +kernel
theorem dX6_taken_11 : decode cX6_taken 11 = .ok (.iadd, 1) := by decide +kernel
theorem dX6_taken_12 : decode cX6_taken 12 = .ok (.iconst 0, 1) := by decide +kernel
theorem dX6_taken_13 : decode cX6_taken 13 = .ok (.iadd, 1) := by decide +kernel
theorem dX6_taken_14 : decode cX6_taken 14 = .ok (.iaload, 1) := by decide +kernel
theorem dX6_taken_15 : decode cX6_taken 15 = .ok (.istore_n 3, 1) := by decide +kernel
theorem dX6_taken_16 : decode cX6_taken 16 = .ok (.iconst 0, 1) := by decide +kernel
theorem dX6_taken_17 : decode cX6_taken 17 = .ok (.istore 4, 2) := by decide +kernel
theorem dX6_taken_19 : decode cX6_taken 19 = .ok (.iload 4, 2) := by decide +kernel
theorem dX6_taken_21 : decode cX6_taken 21 = .ok (.aload_n 0, 1) := by decide +kernel
theorem dX6_taken_22 : decode cX6_taken 22 = .ok (.getfield 147, 3) := by decide +kernel
theorem dX6_taken_25 : decode cX6_taken 25 = .ok (.if_icmp .ge 66, 3) := by decide +kernel
theorem dX6_taken_28 : decode cX6_taken 28 = .ok (.aload_n 0, 1) := by decide +kernel
theorem dX6_taken_29 : decode cX6_taken 29 = .ok (.getfield 17, 3) := by decide +kernel
theorem dX6_taken_32 : decode cX6_taken 32 = .ok (.bipush 8, 2) := by decide +kernel
theorem dX6_taken_34 : decode cX6_taken 34 = .ok (.iload 4, 2) := by decide +kernel
theorem dX6_taken_36 : decode cX6_taken 36 = .ok (.imul, 1) := by decide +kernel
theorem dX6_taken_37 : decode cX6_taken 37 = .ok (.iconst 0, 1) := by decide +kernel
theorem dX6_taken_38 : decode cX6_taken 38 = .ok (.iadd, 1) := by decide +kernel
theorem dX6_taken_39 : decode cX6_taken 39 = .ok (.iaload, 1) := by decide +kernel
theorem dX6_taken_40 : decode cX6_taken 40 = .ok (.istore 5, 2) := by decide +kernel
theorem dX6_taken_42 : decode cX6_taken 42 = .ok (.iload 5, 2) := by decide +kernel
theorem dX6_taken_44 : decode cX6_taken 44 = .ok (.iload_n 3, 1) := by decide +kernel
theorem dX6_taken_45 : decode cX6_taken 45 = .ok (.if_icmp .eq 10, 3) := by decide +kernel
theorem dX6_taken_48 : decode cX6_taken 48 = .ok (.iload 5, 2) := by decide +kernel
theorem dX6_taken_50 : decode cX6_taken 50 = .ok (.bipush 9, 2) := by decide +kernel
theorem dX6_taken_52 : decode cX6_taken 52 = .ok (.if_icmp .ne 33, 3) := by decide +kernel
theorem dX6_taken_55 : decode cX6_taken 55 = .ok (.aload_n 0, 1) := by decide +kernel
theorem dX6_taken_56 : decode cX6_taken 56 = .ok (.getfield 17, 3) := by decide +kernel
theorem dX6_taken_59 : decode cX6_taken 59 = .ok (.bipush 8, 2) := by decide +kernel
theorem dX6_taken_61 : decode cX6_taken 61 = .ok (.iload 4, 2) := by decide +kernel
theorem dX6_taken_63 : decode cX6_taken 63 = .ok (.imul, 1) := by decide +kernel
theorem dX6_taken_64 : decode cX6_taken 64 = .ok (.iconst 1, 1) := by decide +kernel
theorem dX6_taken_65 : decode cX6_taken 65 = .ok (.iadd, 1) := by decide +kernel
theorem dX6_taken_66 : decode cX6_taken 66 = .ok (.iaload, 1) := by decide +kernel
theorem dX6_taken_67 : decode cX6_taken 67 = .ok (.iload_n 3, 1) := by decide +kernel
theorem dX6_taken_68 : decode cX6_taken 68 = .ok (.if_icmp .eq 17, 3) := by decide +kernel
theorem dX6_taken_71 : decode cX6_taken 71 = .ok (.aload_n 0, 1) := by decide +kernel
theorem dX6_taken_72 : decode cX6_taken 72 = .ok (.iload_n 1, 1) := by decide +kernel
theorem dX6_taken_73 : decode cX6_taken 73 = .ok (.iload_n 2, 1) := by decide +kernel
theorem dX6_taken_74 : decode cX6_taken 74 = .ok (.iload 4, 2) := by decide +kernel
theorem dX6_taken_76 : decode cX6_taken 76 = .ok (.invokevirtual 182, 3) := by decide +kernel
theorem dX6_taken_79 : decode cX6_taken 79 = .ok (.ifCond .eq 6, 3) := by decide +kernel
theorem dX6_taken_82 : decode cX6_taken 82 = .ok (.iload 4, 2) := by decide +kernel
theorem dX6_taken_84 : decode cX6_taken 84 = .ok (.ireturn, 1) := by decide +kernel
theorem dX6_taken_85 : decode cX6_taken 85 = .ok (.iinc 4 1, 3) := by decide +kernel
theorem dX6_taken_88 : decode cX6_taken 88 = .ok (.goto (-69), 3) := by decide +kernel
theorem dX6_taken_91 : decode cX6_taken 91 = .ok (.iconst (-1), 1) := by decide +kernel
theorem dX6_taken_92 : decode cX6_taken 92 = .ok (.ireturn, 1) := by decide +kernel
theorem dX6_steadies_0 : decode cX6_steadies 0 = .ok (.bipush 14, 2) := by decide +kernel
theorem dX6_steadies_2 : decode cX6_steadies 2 = .ok (.iload_n 1, 1) := by decide +kernel
theorem dX6_steadies_3 : decode cX6_steadies 3 = .ok (.imul, 1) := by decide +kernel
theorem dX6_steadies_4 : decode cX6_steadies 4 = .ok (.iconst 5, 1) := by decide +kernel
theorem dX6_steadies_5 : decode cX6_steadies 5 = .ok (.iload_n 2, 1) := by decide +kernel
theorem dX6_steadies_6 : decode cX6_steadies 6 = .ok (.imul, 1) := by decide +kernel
theorem dX6_steadies_7 : decode cX6_steadies 7 = .ok (.iadd, 1) := by decide +kernel
theorem dX6_steadies_8 : decode cX6_steadies 8 = .ok (.istore_n 3, 1) := by decide +kernel
theorem dX6_steadies_9 : decode cX6_steadies 9 = .ok (.aload_n 0, 1) := by decide +kernel
theorem dX6_steadies_10 : decode cX6_steadies 10 = .ok (.getfield 20, 3) := by decide +kernel
theorem dX6_steadies_13 : decode cX6_steadies 13 = .ok (.iload_n 3, 1) := by decide +kernel
theorem dX6_steadies_14 : decode cX6_steadies 14 = .ok (.iconst 2, 1) := by decide +kernel
theorem dX6_steadies_15 : decode cX6_steadies 15 = .ok (.iadd, 1) := by decide +kernel
theorem dX6_steadies_16 : decode cX6_steadies 16 = .ok (.iconst 0, 1) := by decide +kernel
theorem dX6_steadies_17 : decode cX6_steadies 17 = .ok (.iastore, 1) := by decide +kernel
theorem dX6_steadies_18 : decode cX6_steadies 18 = .ok (.aload_n 0, 1) := by decide +kernel
theorem dX6_steadies_19 : decode cX6_steadies 19 = .ok (.getfield 20, 3) := by decide +kernel
theorem dX6_steadies_22 : decode cX6_steadies 22 = .ok (.iload_n 3, 1) := by decide +kernel
theorem dX6_steadies_23 : decode cX6_steadies 23 = .ok (.iconst 3, 1) := by decide +kernel
theorem dX6_steadies_24 : decode cX6_steadies 24 = .ok (.iadd, 1) := by decide +kernel
theorem dX6_steadies_25 : decode cX6_steadies 25 = .ok (.iconst 0, 1) := by decide +kernel
theorem dX6_steadies_26 : decode cX6_steadies 26 = .ok (.iastore, 1) := by decide +kernel
theorem dX6_steadies_27 : decode cX6_steadies 27 = .ok (.aload_n 0, 1) := by decide +kernel
theorem dX6_steadies_28 : decode cX6_steadies 28 = .ok (.getfield 20, 3) := by decide +kernel
theorem dX6_steadies_31 : decode cX6_steadies 31 = .ok (.iload_n 3, 1) := by decide +kernel
theorem dX6_steadies_32 : decode cX6_steadies 32 = .ok (.iconst 4, 1) := by decide +kernel
theorem dX6_steadies_33 : decode cX6_steadies 33 = .ok (.iadd, 1) := by decide +kernel
theorem dX6_steadies_34 : decode cX6_steadies 34 = .ok (.iconst (-1), 1) := by decide +kernel
theorem dX6_steadies_35 : decode cX6_steadies 35 = .ok (.iastore, 1) := by decide +kernel
theorem dX6_steadies_36 : decode cX6_steadies 36 = .ok (.iconst 0, 1) := by decide +kernel
theorem dX6_steadies_37 : decode cX6_steadies 37 = .ok (.istore 4, 2) := by decide +kernel
theorem dX6_steadies_39 : decode cX6_steadies 39 = .ok (.iload 4, 2) := by decide +kernel
theorem dX6_steadies_41 : decode cX6_steadies 41 = .ok (.bipush 6, 2) := by decide +kernel
theorem dX6_steadies_43 : decode cX6_steadies 43 = .ok (.if_icmp .ge 44, 3) := by decide +kernel
theorem dX6_steadies_46 : decode cX6_steadies 46 = .ok (.aload_n 0, 1) := by decide +kernel
theorem dX6_steadies_47 : decode cX6_steadies 47 = .ok (.getfield 23, 3) := by decide +kernel
theorem dX6_steadies_50 : decode cX6_steadies 50 = .ok (.bipush 24, 2) := by decide +kernel
theorem dX6_steadies_52 : decode cX6_steadies 52 = .ok (.iload_n 1, 1) := by decide +kernel
theorem dX6_steadies_53 : decode cX6_steadies 53 = .ok (.imul, 1) := by decide +kernel
theorem dX6_steadies_54 : decode cX6_steadies 54 = .ok (.bipush 6, 2) := by decide +kernel
theorem dX6_steadies_56 : decode cX6_steadies 56 = .ok (.iload_n 2, 1) := by decide +kernel
theorem dX6_steadies_57 : decode cX6_steadies 57 = .ok (.imul, 1) := by decide +kernel
theorem dX6_steadies_58 : decode cX6_steadies 58 = .ok (.iadd, 1) := by decide +kernel
theorem dX6_steadies_59 : decode cX6_steadies 59 = .ok (.iload 4, 2) := by decide +kernel
theorem dX6_steadies_61 : decode cX6_steadies 61 = .ok (.iadd, 1) := by decide +kernel
theorem dX6_steadies_62 : decode cX6_steadies 62 = .ok (.iload 4, 2) := by decide +kernel
theorem dX6_steadies_64 : decode cX6_steadies 64 = .ok (.aload_n 0, 1) := by decide +kernel
theorem dX6_steadies_65 : decode cX6_steadies 65 = .ok (.getfield 20, 3) := by decide +kernel
theorem dX6_steadies_68 : decode cX6_steadies 68 = .ok (.iload_n 3, 1) := by decide +kernel
theorem dX6_steadies_69 : decode cX6_steadies 69 = .ok (.iconst 0, 1) := by decide +kernel
theorem dX6_steadies_70 : decode cX6_steadies 70 = .ok (.iadd, 1) := by decide +kernel
theorem dX6_steadies_71 : decode cX6_steadies 71 = .ok (.iaload, 1) := by decide +kernel
theorem dX6_steadies_72 : decode cX6_steadies 72 = .ok (.if_icmp .ne 7, 3) := by decide +kernel
theorem dX6_steadies_75 : decode cX6_steadies 75 = .ok (.fconst 1, 1) := by decide +kernel
theorem dX6_steadies_76 : decode cX6_steadies 76 = .ok (.goto 4, 3) := by decide +kernel
theorem dX6_steadies_79 : decode cX6_steadies 79 = .ok (.fconst 0, 1) := by decide +kernel
theorem dX6_steadies_80 : decode cX6_steadies 80 = .ok (.fastore, 1) := by decide +kernel
theorem dX6_steadies_81 : decode cX6_steadies 81 = .ok (.iinc 4 1, 3) := by decide +kernel
theorem dX6_steadies_84 : decode cX6_steadies 84 = .ok (.goto (-45), 3) := by decide +kernel
theorem dX6_steadies_87 : decode cX6_steadies 87 = .ok (.return_, 1) := by decide +kernel
set_option maxRecDepth 20000 in
theorem ggX6_takes_X6_steadies : GoodIn wsX6_takes wsX6_steadies := goodIn_r _ [8, 2, 3, 9, 10, 11, 12, 13, 14, 15, 16, 17, 18, 19, 20, 21, 22, 23, 24, 25, 26, 27, 28, 29, 30, 31] (by decide +kernel) (by decide +kernel)
set_option maxRecDepth 20000 in
theorem gX6_takes_X6_steadies : GoodIn wsX6_takes (wsV RX6 186 RX6 yX6_steadies wsX6_steadies) := goodIn_app (goodIn_of _ (by decide +kernel)) ggX6_takes_X6_steadies
theorem dX6_takes_0 : decode cX6_takes 0 = .ok (.bipush 14, 2) := by decide +kernel
theorem dX6_takes_2 : decode cX6_takes 2 = .ok (.iload_n 1, 1) := by decide +kernel
theorem dX6_takes_3 : decode cX6_takes 3 = .ok (.imul, 1) := by decide +kernel
theorem dX6_takes_4 : decode cX6_takes 4 = .ok (.iconst 5, 1) := by decide +kernel
theorem dX6_takes_5 : decode cX6_takes 5 = .ok (.iload_n 2, 1) := by decide +kernel
theorem dX6_takes_6 : decode cX6_takes 6 = .ok (.imul, 1) := by decide +kernel
theorem dX6_takes_7 : decode cX6_takes 7 = .ok (.iadd, 1) := by decide +kernel
theorem dX6_takes_8 : decode cX6_takes 8 = .ok (.istore 4, 2) := by decide +kernel
theorem dX6_takes_10 : decode cX6_takes 10 = .ok (.aload_n 0, 1) := by decide +kernel
theorem dX6_takes_11 : decode cX6_takes 11 = .ok (.getfield 17, 3) := by decide +kernel
theorem dX6_takes_14 : decode cX6_takes 14 = .ok (.bipush 8, 2) := by decide +kernel
theorem dX6_takes_16 : decode cX6_takes 16 = .ok (.iload_n 3, 1) := by decide +kernel
theorem dX6_takes_17 : decode cX6_takes 17 = .ok (.imul, 1) := by decide +kernel
theorem dX6_takes_18 : decode cX6_takes 18 = .ok (.iconst 4, 1) := by decide +kernel
theorem dX6_takes_19 : decode cX6_takes 19 = .ok (.iadd, 1) := by decide +kernel
theorem dX6_takes_20 : decode cX6_takes 20 = .ok (.iaload, 1) := by decide +kernel
theorem dX6_takes_21 : decode cX6_takes 21 = .ok (.iconst 3, 1) := by decide +kernel
theorem dX6_takes_22 : decode cX6_takes 22 = .ok (.if_icmp .ne 33, 3) := by decide +kernel
theorem dX6_takes_25 : decode cX6_takes 25 = .ok (.aload_n 0, 1) := by decide +kernel
theorem dX6_takes_26 : decode cX6_takes 26 = .ok (.getfield 20, 3) := by decide +kernel
theorem dX6_takes_29 : decode cX6_takes 29 = .ok (.bipush 14, 2) := by decide +kernel
theorem dX6_takes_31 : decode cX6_takes 31 = .ok (.iload_n 1, 1) := by decide +kernel
theorem dX6_takes_32 : decode cX6_takes 32 = .ok (.imul, 1) := by decide +kernel
theorem dX6_takes_33 : decode cX6_takes 33 = .ok (.bipush 13, 2) := by decide +kernel
theorem dX6_takes_35 : decode cX6_takes 35 = .ok (.iadd, 1) := by decide +kernel
theorem dX6_takes_36 : decode cX6_takes 36 = .ok (.dup2, 1) := by decide +kernel
theorem dX6_takes_37 : decode cX6_takes 37 = .ok (.iaload, 1) := by decide +kernel
theorem dX6_takes_38 : decode cX6_takes 38 = .ok (.iconst 1, 1) := by decide +kernel
theorem dX6_takes_39 : decode cX6_takes 39 = .ok (.aload_n 0, 1) := by decide +kernel
theorem dX6_takes_40 : decode cX6_takes 40 = .ok (.getfield 17, 3) := by decide +kernel
theorem dX6_takes_43 : decode cX6_takes 43 = .ok (.bipush 8, 2) := by decide +kernel
theorem dX6_takes_45 : decode cX6_takes 45 = .ok (.iload_n 3, 1) := by decide +kernel
theorem dX6_takes_46 : decode cX6_takes 46 = .ok (.imul, 1) := by decide +kernel
theorem dX6_takes_47 : decode cX6_takes 47 = .ok (.iconst 5, 1) := by decide +kernel
theorem dX6_takes_48 : decode cX6_takes 48 = .ok (.iadd, 1) := by decide +kernel
theorem dX6_takes_49 : decode cX6_takes 49 = .ok (.iaload, 1) := by decide +kernel
theorem dX6_takes_50 : decode cX6_takes 50 = .ok (.ishl, 1) := by decide +kernel
theorem dX6_takes_51 : decode cX6_takes 51 = .ok (.iconst (-1), 1) := by decide +kernel
theorem dX6_takes_52 : decode cX6_takes 52 = .ok (.ixor, 1) := by decide +kernel
theorem dX6_takes_53 : decode cX6_takes 53 = .ok (.iand, 1) := by decide +kernel
theorem dX6_takes_54 : decode cX6_takes 54 = .ok (.iastore, 1) := by decide +kernel
theorem dX6_takes_55 : decode cX6_takes 55 = .ok (.aload_n 0, 1) := by decide +kernel
theorem dX6_takes_56 : decode cX6_takes 56 = .ok (.getfield 20, 3) := by decide +kernel
theorem dX6_takes_59 : decode cX6_takes 59 = .ok (.iload 4, 2) := by decide +kernel
theorem dX6_takes_61 : decode cX6_takes 61 = .ok (.iconst 0, 1) := by decide +kernel
theorem dX6_takes_62 : decode cX6_takes 62 = .ok (.iadd, 1) := by decide +kernel
theorem dX6_takes_63 : decode cX6_takes 63 = .ok (.aload_n 0, 1) := by decide +kernel
theorem dX6_takes_64 : decode cX6_takes 64 = .ok (.getfield 17, 3) := by decide +kernel
theorem dX6_takes_67 : decode cX6_takes 67 = .ok (.bipush 8, 2) := by decide +kernel
theorem dX6_takes_69 : decode cX6_takes 69 = .ok (.iload_n 3, 1) := by decide +kernel
theorem dX6_takes_70 : decode cX6_takes 70 = .ok (.imul, 1) := by decide +kernel
theorem dX6_takes_71 : decode cX6_takes 71 = .ok (.iconst 1, 1) := by decide +kernel
theorem dX6_takes_72 : decode cX6_takes 72 = .ok (.iadd, 1) := by decide +kernel
theorem dX6_takes_73 : decode cX6_takes 73 = .ok (.iaload, 1) := by decide +kernel
theorem dX6_takes_74 : decode cX6_takes 74 = .ok (.iastore, 1) := by decide +kernel
theorem dX6_takes_75 : decode cX6_takes 75 = .ok (.aload_n 0, 1) := by decide +kernel
theorem dX6_takes_76 : decode cX6_takes 76 = .ok (.getfield 20, 3) := by decide +kernel
theorem dX6_takes_79 : decode cX6_takes 79 = .ok (.iload 4, 2) := by decide +kernel
theorem dX6_takes_81 : decode cX6_takes 81 = .ok (.iconst 1, 1) := by decide +kernel
theorem dX6_takes_82 : decode cX6_takes 82 = .ok (.iadd, 1) := by decide +kernel
theorem dX6_takes_83 : decode cX6_takes 83 = .ok (.iconst 0, 1) := by decide +kernel
theorem dX6_takes_84 : decode cX6_takes 84 = .ok (.iastore, 1) := by decide +kernel
theorem dX6_takes_85 : decode cX6_takes 85 = .ok (.aload_n 0, 1) := by decide +kernel
theorem dX6_takes_86 : decode cX6_takes 86 = .ok (.getfield 20, 3) := by decide +kernel
theorem dX6_takes_89 : decode cX6_takes 89 = .ok (.iload 4, 2) := by decide +kernel
theorem dX6_takes_91 : decode cX6_takes 91 = .ok (.iconst 2, 1) := by decide +kernel
theorem dX6_takes_92 : decode cX6_takes 92 = .ok (.iadd, 1) := by decide +kernel
theorem dX6_takes_93 : decode cX6_takes 93 = .ok (.aload_n 0, 1) := by decide +kernel
theorem dX6_takes_94 : decode cX6_takes 94 = .ok (.getfield 17, 3) := by decide +kernel
theorem dX6_takes_97 : decode cX6_takes 97 = .ok (.bipush 8, 2) := by decide +kernel
theorem dX6_takes_99 : decode cX6_takes 99 = .ok (.iload_n 3, 1) := by decide +kernel
theorem dX6_takes_100 : decode cX6_takes 100 = .ok (.imul, 1) := by decide +kernel
theorem dX6_takes_101 : decode cX6_takes 101 = .ok (.iconst 2, 1) := by decide +kernel
theorem dX6_takes_102 : decode cX6_takes 102 = .ok (.iadd, 1) := by decide +kernel
theorem dX6_takes_103 : decode cX6_takes 103 = .ok (.iaload, 1) := by decide +kernel
theorem dX6_takes_104 : decode cX6_takes 104 = .ok (.iastore, 1) := by decide +kernel
theorem dX6_takes_105 : decode cX6_takes 105 = .ok (.aload_n 0, 1) := by decide +kernel
theorem dX6_takes_106 : decode cX6_takes 106 = .ok (.getfield 20, 3) := by decide +kernel
theorem dX6_takes_109 : decode cX6_takes 109 = .ok (.iload 4, 2) := by decide +kernel
theorem dX6_takes_111 : decode cX6_takes 111 = .ok (.iconst 3, 1) := by decide +kernel
theorem dX6_takes_112 : decode cX6_takes 112 = .ok (.iadd, 1) := by decide +kernel
theorem dX6_takes_113 : decode cX6_takes 113 = .ok (.iconst 0, 1) := by decide +kernel
theorem dX6_takes_114 : decode cX6_takes 114 = .ok (.iastore, 1) := by decide +kernel
theorem dX6_takes_115 : decode cX6_takes 115 = .ok (.aload_n 0, 1) := by decide +kernel
theorem dX6_takes_116 : decode cX6_takes 116 = .ok (.getfield 20, 3) := by decide +kernel
theorem dX6_takes_119 : decode cX6_takes 119 = .ok (.iload 4, 2) := by decide +kernel
theorem dX6_takes_121 : decode cX6_takes 121 = .ok (.iconst 4, 1) := by decide +kernel
theorem dX6_takes_122 : decode cX6_takes 122 = .ok (.iadd, 1) := by decide +kernel
theorem dX6_takes_123 : decode cX6_takes 123 = .ok (.iload_n 3, 1) := by decide +kernel
theorem dX6_takes_124 : decode cX6_takes 124 = .ok (.iastore, 1) := by decide +kernel
theorem dX6_takes_125 : decode cX6_takes 125 = .ok (.iconst 0, 1) := by decide +kernel
theorem dX6_takes_126 : decode cX6_takes 126 = .ok (.istore 5, 2) := by decide +kernel
theorem dX6_takes_128 : decode cX6_takes 128 = .ok (.iload 5, 2) := by decide +kernel
theorem dX6_takes_130 : decode cX6_takes 130 = .ok (.bipush 6, 2) := by decide +kernel
theorem dX6_takes_132 : decode cX6_takes 132 = .ok (.if_icmp .ge 46, 3) := by decide +kernel
theorem dX6_takes_135 : decode cX6_takes 135 = .ok (.aload_n 0, 1) := by decide +kernel
theorem dX6_takes_136 : decode cX6_takes 136 = .ok (.getfield 23, 3) := by decide +kernel
theorem dX6_takes_139 : decode cX6_takes 139 = .ok (.bipush 24, 2) := by decide +kernel
theorem dX6_takes_141 : decode cX6_takes 141 = .ok (.iload_n 1, 1) := by decide +kernel
theorem dX6_takes_142 : decode cX6_takes 142 = .ok (.imul, 1) := by decide +kernel
theorem dX6_takes_143 : decode cX6_takes 143 = .ok (.bipush 12, 2) := by decide +kernel
theorem dX6_takes_145 : decode cX6_takes 145 = .ok (.iadd, 1) := by decide +kernel
theorem dX6_takes_146 : decode cX6_takes 146 = .ok (.bipush 6, 2) := by decide +kernel
theorem dX6_takes_148 : decode cX6_takes 148 = .ok (.iload_n 2, 1) := by decide +kernel
theorem dX6_takes_149 : decode cX6_takes 149 = .ok (.imul, 1) := by decide +kernel
theorem dX6_takes_150 : decode cX6_takes 150 = .ok (.iadd, 1) := by decide +kernel
theorem dX6_takes_151 : decode cX6_takes 151 = .ok (.iload 5, 2) := by decide +kernel
theorem dX6_takes_153 : decode cX6_takes 153 = .ok (.iadd, 1) := by decide +kernel
theorem dX6_takes_154 : decode cX6_takes 154 = .ok (.aload_n 0, 1) := by decide +kernel
theorem dX6_takes_155 : decode cX6_takes 155 = .ok (.getfield 23, 3) := by decide +kernel
theorem dX6_takes_158 : decode cX6_takes 158 = .ok (.bipush 24, 2) := by decide +kernel
theorem dX6_takes_160 : decode cX6_takes 160 = .ok (.iload_n 1, 1) := by decide +kernel
theorem dX6_takes_161 : decode cX6_takes 161 = .ok (.imul, 1) := by decide +kernel
theorem dX6_takes_162 : decode cX6_takes 162 = .ok (.bipush 6, 2) := by decide +kernel
theorem dX6_takes_164 : decode cX6_takes 164 = .ok (.iload_n 2, 1) := by decide +kernel
theorem dX6_takes_165 : decode cX6_takes 165 = .ok (.imul, 1) := by decide +kernel
theorem dX6_takes_166 : decode cX6_takes 166 = .ok (.iadd, 1) := by decide +kernel
theorem dX6_takes_167 : decode cX6_takes 167 = .ok (.iload 5, 2) := by decide +kernel
theorem dX6_takes_169 : decode cX6_takes 169 = .ok (.iadd, 1) := by decide +kernel
theorem dX6_takes_170 : decode cX6_takes 170 = .ok (.faload, 1) := by decide +kernel
theorem dX6_takes_171 : decode cX6_takes 171 = .ok (.fastore, 1) := by decide +kernel
theorem dX6_takes_172 : decode cX6_takes 172 = .ok (.iinc 5 1, 3) := by decide +kernel
theorem dX6_takes_175 : decode cX6_takes 175 = .ok (.goto (-47), 3) := by decide +kernel
theorem dX6_takes_178 : decode cX6_takes 178 = .ok (.aload_n 0, 1) := by decide +kernel
theorem dX6_takes_179 : decode cX6_takes 179 = .ok (.getfield 17, 3) := by decide +kernel
theorem dX6_takes_182 : decode cX6_takes 182 = .ok (.bipush 8, 2) := by decide +kernel
theorem dX6_takes_184 : decode cX6_takes 184 = .ok (.iload_n 3, 1) := by decide +kernel
theorem dX6_takes_185 : decode cX6_takes 185 = .ok (.imul, 1) := by decide +kernel
theorem dX6_takes_186 : decode cX6_takes 186 = .ok (.iconst 2, 1) := by decide +kernel
theorem dX6_takes_187 : decode cX6_takes 187 = .ok (.iadd, 1) := by decide +kernel
theorem dX6_takes_188 : decode cX6_takes 188 = .ok (.iaload, 1) := by decide +kernel
theorem dX6_takes_189 : decode cX6_takes 189 = .ok (.ifCond .ne 9, 3) := by decide +kernel
theorem dX6_takes_192 : decode cX6_takes 192 = .ok (.aload_n 0, 1) := by decide +kernel
theorem dX6_takes_193 : decode cX6_takes 193 = .ok (.iload_n 1, 1) := by decide +kernel
theorem dX6_takes_194 : decode cX6_takes 194 = .ok (.iload_n 2, 1) := by decide +kernel
theorem dX6_takes_195 : decode cX6_takes 195 = .ok (.invokevirtual 186, 3) := by decide +kernel
theorem dX6_takes_198 : decode cX6_takes 198 = .ok (.return_, 1) := by decide +kernel
set_option maxRecDepth 20000 in
theorem ggX6_frames_X6_taken : GoodIn wsX6_frames wsX6_taken := goodIn_r _ [8, 1, 9, 2, 10, 11, 12, 7, 13, 14, 15, 16, 25, 26, 27, 28, 29, 30, 31, 32, 33, 34, 35, 36, 37, 38, 39, 40, 41, 42, 43, 44, 45, 46, 47] (by decide +kernel) (by decide +kernel)
set_option maxRecDepth 20000 in
theorem gX6_frames_X6_taken : GoodIn wsX6_frames (wsV RX6 189 RX6 yX6_taken wsX6_taken) := goodIn_app (goodIn_of _ (by decide +kernel)) ggX6_frames_X6_taken
set_option maxRecDepth 20000 in
theorem ggX6_frames_X6_takes : GoodIn wsX6_frames wsX6_takes := goodIn_r _ [20, 2, 1, 3, 21, 22, 23, 7, 24, 25, 26, 27, 28, 29, 30, 31, 32, 33, 34, 35, 36, 37, 38, 39, 40, 41, 42, 43, 44, 45, 46, 47] (by decide +kernel) (by decide +kernel)
set_option maxRecDepth 20000 in
theorem gX6_frames_X6_takes : GoodIn wsX6_frames (wsV RX6 192 RX6 yX6_takes wsX6_takes) := goodIn_app (goodIn_of _ (by decide +kernel)) ggX6_frames_X6_takes
set_option maxRecDepth 20000 in
theorem ggX6_frames_X6_steadies : GoodIn wsX6_frames wsX6_steadies := goodIn_r _ [24, 1, 3, 25, 26, 27, 28, 29, 30, 31, 32, 33, 34, 35, 36, 37, 38, 39, 40, 41, 42, 43, 44, 45, 46, 47] (by decide +kernel) (by decide +kernel)
set_option maxRecDepth 20000 in
theorem gX6_frames_X6_steadies : GoodIn wsX6_frames (wsV RX6 186 RX6 yX6_steadies wsX6_steadies) := goodIn_app (goodIn_of _ (by decide +kernel)) ggX6_frames_X6_steadies
theorem dX6_frames_0 : decode cX6_frames 0 = .ok (.bipush 14, 2) := by decide +kernel
theorem dX6_frames_2 : decode cX6_frames 2 = .ok (.iload_n 1, 1) := by decide +kernel
theorem dX6_frames_3 : decode cX6_frames 3 = .ok (.imul, 1) := by decide +kernel
theorem dX6_frames_4 : decode cX6_frames 4 = .ok (.iconst 5, 1) := by decide +kernel
theorem dX6_frames_5 : decode cX6_frames 5 = .ok (.iload_n 2, 1) := by decide +kernel
theorem dX6_frames_6 : decode cX6_frames 6 = .ok (.imul, 1) := by decide +kernel
theorem dX6_frames_7 : decode cX6_frames 7 = .ok (.iadd, 1) := by decide +kernel
theorem dX6_frames_8 : decode cX6_frames 8 = .ok (.istore_n 3, 1) := by decide +kernel
theorem dX6_frames_9 : decode cX6_frames 9 = .ok (.aload_n 0, 1) := by decide +kernel
theorem dX6_frames_10 : decode cX6_frames 10 = .ok (.getfield 20, 3) := by decide +kernel
theorem dX6_frames_13 : decode cX6_frames 13 = .ok (.iload_n 3, 1) := by decide +kernel
theorem dX6_frames_14 : decode cX6_frames 14 = .ok (.iconst 4, 1) := by decide +kernel
theorem dX6_frames_15 : decode cX6_frames 15 = .ok (.iadd, 1) := by decide +kernel
theorem dX6_frames_16 : decode cX6_frames 16 = .ok (.iaload, 1) := by decide +kernel
theorem dX6_frames_17 : decode cX6_frames 17 = .ok (.istore 4, 2) := by decide +kernel
theorem dX6_frames_19 : decode cX6_frames 19 = .ok (.iload 4, 2) := by decide +kernel
theorem dX6_frames_21 : decode cX6_frames 21 = .ok (.iconst (-1), 1) := by decide +kernel
theorem dX6_frames_22 : decode cX6_frames 22 = .ok (.if_icmp .eq 19, 3) := by decide +kernel
theorem dX6_frames_25 : decode cX6_frames 25 = .ok (.aload_n 0, 1) := by decide +kernel
theorem dX6_frames_26 : decode cX6_frames 26 = .ok (.getfield 17, 3) := by decide +kernel
theorem dX6_frames_29 : decode cX6_frames 29 = .ok (.bipush 8, 2) := by decide +kernel
theorem dX6_frames_31 : decode cX6_frames 31 = .ok (.iload 4, 2) := by decide +kernel
theorem dX6_frames_33 : decode cX6_frames 33 = .ok (.imul, 1) := by decide +kernel
theorem dX6_frames_34 : decode cX6_frames 34 = .ok (.iconst 3, 1) := by decide +kernel
theorem dX6_frames_35 : decode cX6_frames 35 = .ok (.iadd, 1) := by decide +kernel
theorem dX6_frames_36 : decode cX6_frames 36 = .ok (.iaload, 1) := by decide +kernel
theorem dX6_frames_37 : decode cX6_frames 37 = .ok (.iconst 1, 1) := by decide +kernel
theorem dX6_frames_38 : decode cX6_frames 38 = .ok (.if_icmp .ne 25, 3) := by decide +kernel
theorem dX6_frames_41 : decode cX6_frames 41 = .ok (.aload_n 0, 1) := by decide +kernel
theorem dX6_frames_42 : decode cX6_frames 42 = .ok (.iload_n 1, 1) := by decide +kernel
theorem dX6_frames_43 : decode cX6_frames 43 = .ok (.iload_n 2, 1) := by decide +kernel
theorem dX6_frames_44 : decode cX6_frames 44 = .ok (.invokevirtual 189, 3) := by decide +kernel
theorem dX6_frames_47 : decode cX6_frames 47 = .ok (.istore 5, 2) := by decide +kernel
theorem dX6_frames_49 : decode cX6_frames 49 = .ok (.iload 5, 2) := by decide +kernel
theorem dX6_frames_51 : decode cX6_frames 51 = .ok (.iconst (-1), 1) := by decide +kernel
theorem dX6_frames_52 : decode cX6_frames 52 = .ok (.if_icmp .eq 11, 3) := by decide +kernel
theorem dX6_frames_55 : decode cX6_frames 55 = .ok (.aload_n 0, 1) := by decide +kernel
theorem dX6_frames_56 : decode cX6_frames 56 = .ok (.iload_n 1, 1) := by decide +kernel
theorem dX6_frames_57 : decode cX6_frames 57 = .ok (.iload_n 2, 1) := by decide +kernel
theorem dX6_frames_58 : decode cX6_frames 58 = .ok (.iload 5, 2) := by decide +kernel
theorem dX6_frames_60 : decode cX6_frames 60 = .ok (.invokevirtual 192, 3) := by decide +kernel
theorem dX6_frames_63 : decode cX6_frames 63 = .ok (.aload_n 0, 1) := by decide +kernel
theorem dX6_frames_64 : decode cX6_frames 64 = .ok (.getfield 20, 3) := by decide +kernel
theorem dX6_frames_67 : decode cX6_frames 67 = .ok (.iload_n 3, 1) := by decide +kernel
theorem dX6_frames_68 : decode cX6_frames 68 = .ok (.iconst 1, 1) := by decide +kernel
theorem dX6_frames_69 : decode cX6_frames 69 = .ok (.iadd, 1) := by decide +kernel
theorem dX6_frames_70 : decode cX6_frames 70 = .ok (.aload_n 0, 1) := by decide +kernel
theorem dX6_frames_71 : decode cX6_frames 71 = .ok (.getfield 20, 3) := by decide +kernel
theorem dX6_frames_74 : decode cX6_frames 74 = .ok (.iload_n 3, 1) := by decide +kernel
theorem dX6_frames_75 : decode cX6_frames 75 = .ok (.iconst 1, 1) := by decide +kernel
theorem dX6_frames_76 : decode cX6_frames 76 = .ok (.iadd, 1) := by decide +kernel
theorem dX6_frames_77 : decode cX6_frames 77 = .ok (.iaload, 1) := by decide +kernel
theorem dX6_frames_78 : decode cX6_frames 78 = .ok (.sipush 9999, 3) := by decide +kernel
theorem dX6_frames_81 : decode cX6_frames 81 = .ok (.if_icmp .ge 16, 3) := by decide +kernel
theorem dX6_frames_84 : decode cX6_frames 84 = .ok (.aload_n 0, 1) := by decide +kernel
theorem dX6_frames_85 : decode cX6_frames 85 = .ok (.getfield 20, 3) := by decide +kernel
theorem dX6_frames_88 : decode cX6_frames 88 = .ok (.iload_n 3, 1) := by decide +kernel
theorem dX6_frames_89 : decode cX6_frames 89 = .ok (.iconst 1, 1) := by decide +kernel
theorem dX6_frames_90 : decode cX6_frames 90 = .ok (.iadd, 1) := by decide +kernel
theorem dX6_frames_91 : decode cX6_frames 91 = .ok (.iaload, 1) := by decide +kernel
theorem dX6_frames_92 : decode cX6_frames 92 = .ok (.iconst 1, 1) := by decide +kernel
theorem dX6_frames_93 : decode cX6_frames 93 = .ok (.iadd, 1) := by decide +kernel
theorem dX6_frames_94 : decode cX6_frames 94 = .ok (.goto 6, 3) := by decide +kernel
theorem dX6_frames_97 : decode cX6_frames 97 = .ok (.sipush 9999, 3) := by decide +kernel
theorem dX6_frames_100 : decode cX6_frames 100 = .ok (.iastore, 1) := by decide +kernel
theorem dX6_frames_101 : decode cX6_frames 101 = .ok (.aload_n 0, 1) := by decide +kernel
theorem dX6_frames_102 : decode cX6_frames 102 = .ok (.getfield 20, 3) := by decide +kernel
theorem dX6_frames_105 : decode cX6_frames 105 = .ok (.iload_n 3, 1) := by decide +kernel
theorem dX6_frames_106 : decode cX6_frames 106 = .ok (.iconst 4, 1) := by decide +kernel
theorem dX6_frames_107 : decode cX6_frames 107 = .ok (.iadd, 1) := by decide +kernel
theorem dX6_frames_108 : decode cX6_frames 108 = .ok (.iaload, 1) := by decide +kernel
theorem dX6_frames_109 : decode cX6_frames 109 = .ok (.iconst (-1), 1) := by decide +kernel
theorem dX6_frames_110 : decode cX6_frames 110 = .ok (.if_icmp .eq 148, 3) := by decide +kernel
theorem dX6_frames_113 : decode cX6_frames 113 = .ok (.aload_n 0, 1) := by decide +kernel
theorem dX6_frames_114 : decode cX6_frames 114 = .ok (.getfield 20, 3) := by decide +kernel
theorem dX6_frames_117 : decode cX6_frames 117 = .ok (.iload_n 3, 1) := by decide +kernel
theorem dX6_frames_118 : decode cX6_frames 118 = .ok (.iconst 3, 1) := by decide +kernel
theorem dX6_frames_119 : decode cX6_frames 119 = .ok (.iadd, 1) := by decide +kernel
theorem dX6_frames_120 : decode cX6_frames 120 = .ok (.dup2, 1) := by decide +kernel
theorem dX6_frames_121 : decode cX6_frames 121 = .ok (.iaload, 1) := by decide +kernel
theorem dX6_frames_122 : decode cX6_frames 122 = .ok (.iconst 1, 1) := by decide +kernel
theorem dX6_frames_123 : decode cX6_frames 123 = .ok (.iadd, 1) := by decide +kernel
theorem dX6_frames_124 : decode cX6_frames 124 = .ok (.iastore, 1) := by decide +kernel
theorem dX6_frames_125 : decode cX6_frames 125 = .ok (.aload_n 0, 1) := by decide +kernel
theorem dX6_frames_126 : decode cX6_frames 126 = .ok (.getfield 20, 3) := by decide +kernel
theorem dX6_frames_129 : decode cX6_frames 129 = .ok (.iload_n 3, 1) := by decide +kernel
theorem dX6_frames_130 : decode cX6_frames 130 = .ok (.iconst 3, 1) := by decide +kernel
theorem dX6_frames_131 : decode cX6_frames 131 = .ok (.iadd, 1) := by decide +kernel
theorem dX6_frames_132 : decode cX6_frames 132 = .ok (.iaload, 1) := by decide +kernel
theorem dX6_frames_133 : decode cX6_frames 133 = .ok (.i2f, 1) := by decide +kernel
theorem dX6_frames_134 : decode cX6_frames 134 = .ok (.aload_n 0, 1) := by decide +kernel
theorem dX6_frames_135 : decode cX6_frames 135 = .ok (.getfield 20, 3) := by decide +kernel
theorem dX6_frames_138 : decode cX6_frames 138 = .ok (.iload_n 3, 1) := by decide +kernel
theorem dX6_frames_139 : decode cX6_frames 139 = .ok (.iconst 2, 1) := by decide +kernel
theorem dX6_frames_140 : decode cX6_frames 140 = .ok (.iadd, 1) := by decide +kernel
theorem dX6_frames_141 : decode cX6_frames 141 = .ok (.iaload, 1) := by decide +kernel
theorem dX6_frames_142 : decode cX6_frames 142 = .ok (.i2f, 1) := by decide +kernel
theorem dX6_frames_143 : decode cX6_frames 143 = .ok (.fdiv, 1) := by decide +kernel
theorem dX6_frames_144 : decode cX6_frames 144 = .ok (.fstore 5, 2) := by decide +kernel
theorem dX6_frames_146 : decode cX6_frames 146 = .ok (.fconst 1, 1) := by decide +kernel
theorem dX6_frames_147 : decode cX6_frames 147 = .ok (.fload 5, 2) := by decide +kernel
theorem dX6_frames_149 : decode cX6_frames 149 = .ok (.fsub, 1) := by decide +kernel
theorem dX6_frames_150 : decode cX6_frames 150 = .ok (.fstore 6, 2) := by decide +kernel
theorem dX6_frames_152 : decode cX6_frames 152 = .ok (.iconst 0, 1) := by decide +kernel
theorem dX6_frames_153 : decode cX6_frames 153 = .ok (.istore 7, 2) := by decide +kernel
theorem dX6_frames_155 : decode cX6_frames 155 = .ok (.iload 7, 2) := by decide +kernel
theorem dX6_frames_157 : decode cX6_frames 157 = .ok (.bipush 6, 2) := by decide +kernel
theorem dX6_frames_159 : decode cX6_frames 159 = .ok (.if_icmp .ge 74, 3) := by decide +kernel
theorem dX6_frames_162 : decode cX6_frames 162 = .ok (.aload_n 0, 1) := by decide +kernel
theorem dX6_frames_163 : decode cX6_frames 163 = .ok (.getfield 23, 3) := by decide +kernel
theorem dX6_frames_166 : decode cX6_frames 166 = .ok (.bipush 24, 2) := by decide +kernel
theorem dX6_frames_168 : decode cX6_frames 168 = .ok (.iload_n 1, 1) := by decide +kernel
theorem dX6_frames_169 : decode cX6_frames 169 = .ok (.imul, 1) := by decide +kernel
theorem dX6_frames_170 : decode cX6_frames 170 = .ok (.bipush 12, 2) := by decide +kernel
theorem dX6_frames_172 : decode cX6_frames 172 = .ok (.iadd, 1) := by decide +kernel
theorem dX6_frames_173 : decode cX6_frames 173 = .ok (.bipush 6, 2) := by decide +kernel
theorem dX6_frames_175 : decode cX6_frames 175 = .ok (.iload_n 2, 1) := by decide +kernel
theorem dX6_frames_176 : decode cX6_frames 176 = .ok (.imul, 1) := by decide +kernel
theorem dX6_frames_177 : decode cX6_frames 177 = .ok (.iadd, 1) := by decide +kernel
theorem dX6_frames_178 : decode cX6_frames 178 = .ok (.iload 7, 2) := by decide +kernel
theorem dX6_frames_180 : decode cX6_frames 180 = .ok (.iadd, 1) := by decide +kernel
theorem dX6_frames_181 : decode cX6_frames 181 = .ok (.faload, 1) := by decide +kernel
theorem dX6_frames_182 : decode cX6_frames 182 = .ok (.fload 6, 2) := by decide +kernel
theorem dX6_frames_184 : decode cX6_frames 184 = .ok (.fmul, 1) := by decide +kernel
theorem dX6_frames_185 : decode cX6_frames 185 = .ok (.fstore 8, 2) := by decide +kernel
theorem dX6_frames_187 : decode cX6_frames 187 = .ok (.aload_n 0, 1) := by decide +kernel
theorem dX6_frames_188 : decode cX6_frames 188 = .ok (.getfield 23, 3) := by decide +kernel
theorem dX6_frames_191 : decode cX6_frames 191 = .ok (.bipush 24, 2) := by decide +kernel
theorem dX6_frames_193 : decode cX6_frames 193 = .ok (.iload_n 1, 1) := by decide +kernel
theorem dX6_frames_194 : decode cX6_frames 194 = .ok (.imul, 1) := by decide +kernel
theorem dX6_frames_195 : decode cX6_frames 195 = .ok (.bipush 6, 2) := by decide +kernel
theorem dX6_frames_197 : decode cX6_frames 197 = .ok (.iload_n 2, 1) := by decide +kernel
theorem dX6_frames_198 : decode cX6_frames 198 = .ok (.imul, 1) := by decide +kernel
theorem dX6_frames_199 : decode cX6_frames 199 = .ok (.iadd, 1) := by decide +kernel
theorem dX6_frames_200 : decode cX6_frames 200 = .ok (.iload 7, 2) := by decide +kernel
theorem dX6_frames_202 : decode cX6_frames 202 = .ok (.iadd, 1) := by decide +kernel
theorem dX6_frames_203 : decode cX6_frames 203 = .ok (.iload 7, 2) := by decide +kernel
theorem dX6_frames_205 : decode cX6_frames 205 = .ok (.aload_n 0, 1) := by decide +kernel
theorem dX6_frames_206 : decode cX6_frames 206 = .ok (.getfield 20, 3) := by decide +kernel
theorem dX6_frames_209 : decode cX6_frames 209 = .ok (.iload_n 3, 1) := by decide +kernel
theorem dX6_frames_210 : decode cX6_frames 210 = .ok (.iconst 0, 1) := by decide +kernel
theorem dX6_frames_211 : decode cX6_frames 211 = .ok (.iadd, 1) := by decide +kernel
theorem dX6_frames_212 : decode cX6_frames 212 = .ok (.iaload, 1) := by decide +kernel
theorem dX6_frames_213 : decode cX6_frames 213 = .ok (.if_icmp .ne 11, 3) := by decide +kernel
theorem dX6_frames_216 : decode cX6_frames 216 = .ok (.fload 8, 2) := by decide +kernel
theorem dX6_frames_218 : decode cX6_frames 218 = .ok (.fload 5, 2) := by decide +kernel
theorem dX6_frames_220 : decode cX6_frames 220 = .ok (.fadd, 1) := by decide +kernel
theorem dX6_frames_221 : decode cX6_frames 221 = .ok (.goto 5, 3) := by decide +kernel
theorem dX6_frames_224 : decode cX6_frames 224 = .ok (.fload 8, 2) := by decide +kernel
theorem dX6_frames_226 : decode cX6_frames 226 = .ok (.fastore, 1) := by decide +kernel
theorem dX6_frames_227 : decode cX6_frames 227 = .ok (.iinc 7 1, 3) := by decide +kernel
theorem dX6_frames_230 : decode cX6_frames 230 = .ok (.goto (-75), 3) := by decide +kernel
theorem dX6_frames_233 : decode cX6_frames 233 = .ok (.aload_n 0, 1) := by decide +kernel
theorem dX6_frames_234 : decode cX6_frames 234 = .ok (.getfield 20, 3) := by decide +kernel
theorem dX6_frames_237 : decode cX6_frames 237 = .ok (.iload_n 3, 1) := by decide +kernel
theorem dX6_frames_238 : decode cX6_frames 238 = .ok (.iconst 3, 1) := by decide +kernel
theorem dX6_frames_239 : decode cX6_frames 239 = .ok (.iadd, 1) := by decide +kernel
theorem dX6_frames_240 : decode cX6_frames 240 = .ok (.iaload, 1) := by decide +kernel
theorem dX6_frames_241 : decode cX6_frames 241 = .ok (.aload_n 0, 1) := by decide +kernel
theorem dX6_frames_242 : decode cX6_frames 242 = .ok (.getfield 20, 3) := by decide +kernel
theorem dX6_frames_245 : decode cX6_frames 245 = .ok (.iload_n 3, 1) := by decide +kernel
theorem dX6_frames_246 : decode cX6_frames 246 = .ok (.iconst 2, 1) := by decide +kernel
theorem dX6_frames_247 : decode cX6_frames 247 = .ok (.iadd, 1) := by decide +kernel
theorem dX6_frames_248 : decode cX6_frames 248 = .ok (.iaload, 1) := by decide +kernel
theorem dX6_frames_249 : decode cX6_frames 249 = .ok (.if_icmp .ne 9, 3) := by decide +kernel
theorem dX6_frames_252 : decode cX6_frames 252 = .ok (.aload_n 0, 1) := by decide +kernel
theorem dX6_frames_253 : decode cX6_frames 253 = .ok (.iload_n 1, 1) := by decide +kernel
theorem dX6_frames_254 : decode cX6_frames 254 = .ok (.iload_n 2, 1) := by decide +kernel
theorem dX6_frames_255 : decode cX6_frames 255 = .ok (.invokevirtual 186, 3) := by decide +kernel
theorem dX6_frames_258 : decode cX6_frames 258 = .ok (.return_, 1) := by decide +kernel
set_option maxRecDepth 20000 in
theorem ggX6_frame_X6_frames : GoodIn wsX6_frame wsX6_frames := goodIn_r _ [5, 6, 7, 8, 9, 10, 11, 4, 12, 13, 14, 15, 16, 17, 18, 19, 20, 21, 22, 23, 24, 25, 26, 27, 28, 29, 30, 31, 32, 33, 34, 35, 36, 37, 38, 39, 40, 41, 42, 43, 44, 45, 46, 47, 48, 49, 50, 51] (by decide +kernel) (by decide +kernel)
set_option maxRecDepth 20000 in
theorem gX6_frame_X6_frames : GoodIn wsX6_frame (wsV RX6 196 RX6 yX6_frames wsX6_frames) := goodIn_app (goodIn_of _ (by decide +kernel)) ggX6_frame_X6_frames
theorem dX6_frame_0 : decode cX6_frame 0 = .ok (.aload_n 0, 1) := by decide +kernel
theorem dX6_frame_1 : decode cX6_frame 1 = .ok (.iload_n 1, 1) := by decide +kernel
theorem dX6_frame_2 : decode cX6_frame 2 = .ok (.iconst 0, 1) := by decide +kernel
theorem dX6_frame_3 : decode cX6_frame 3 = .ok (.invokevirtual 196, 3) := by decide +kernel
theorem dX6_frame_6 : decode cX6_frame 6 = .ok (.aload_n 0, 1) := by decide +kernel
theorem dX6_frame_7 : decode cX6_frame 7 = .ok (.iload_n 1, 1) := by decide +kernel
theorem dX6_frame_8 : decode cX6_frame 8 = .ok (.iconst 1, 1) := by decide +kernel
theorem dX6_frame_9 : decode cX6_frame 9 = .ok (.invokevirtual 196, 3) := by decide +kernel
theorem dX6_frame_12 : decode cX6_frame 12 = .ok (.return_, 1) := by decide +kernel
set_option maxRecDepth 20000 in
theorem ggX6_step_X6_in : GoodIn wsX6_step wsX6_in := goodIn_r _ [7] (by decide +kernel) (by decide +kernel)
set_option maxRecDepth 20000 in
theorem gX6_step_X6_in : GoodIn wsX6_step (va_wsS RX6 54 yX6_in wsX6_in) := goodIn_app (goodIn_of _ (by decide +kernel)) ggX6_step_X6_in
set_option maxRecDepth 20000 in
theorem ggX6_step_X6_minds : GoodIn wsX6_step wsX6_minds := goodIn_r _ [11, 12, 13, 14, 15, 6, 16, 3, 17, 47, 48, 49, 50, 51, 52, 53, 54, 55, 56, 57, 58, 59, 60, 61, 62, 63, 64, 65, 66, 67, 68, 69] (by decide +kernel) (by decide +kernel)
set_option maxRecDepth 20000 in
theorem gX6_step_X6_minds : GoodIn wsX6_step (wsV RX6 176 RX6 yX6_minds wsX6_minds) := goodIn_app (goodIn_of _ (by decide +kernel)) ggX6_step_X6_minds
set_option maxRecDepth 20000 in
theorem ggX6_step_X6_frame : GoodIn wsX6_step wsX6_frame := goodIn_r _ [21, 22, 23, 24, 6, 25, 3, 26, 17, 27, 28, 29, 30, 31, 32, 33, 34, 35, 36, 37, 38, 39, 40, 41, 42, 43, 44, 45, 46, 47, 48, 49, 50, 51, 52, 53, 54, 55, 56, 57, 58, 59, 60, 61, 62, 63, 64, 65, 66, 67, 68, 69] (by decide +kernel) (by decide +kernel)
set_option maxRecDepth 20000 in
theorem gX6_step_X6_frame : GoodIn wsX6_step (wsV RX6 199 RX6 yX6_frame wsX6_frame) := goodIn_app (goodIn_of _ (by decide +kernel)) ggX6_step_X6_frame
theorem dX6_step_0 : decode cX6_step 0 = .ok (.iload_n 1, 1) := by decide +kernel
theorem dX6_step_1 : decode cX6_step 1 = .ok (.i2l, 1) := by decide +kernel
theorem dX6_step_2 : decode cX6_step 2 = .ok (.lconst 1, 1) := by decide +kernel
theorem dX6_step_3 : decode cX6_step 3 = .ok (.ldc2_w 174, 3) := by decide +kernel
theorem dX6_step_6 : decode cX6_step 6 = .ok (.invokestatic 54, 3) := by decide +kernel
theorem dX6_step_9 : decode cX6_step 9 = .ok (.ifCond .ne 6, 3) := by decide +kernel
theorem dX6_step_12 : decode cX6_step 12 = .ok (.bipush (-3), 2) := by decide +kernel
theorem dX6_step_14 : decode cX6_step 14 = .ok (.ireturn, 1) := by decide +kernel
theorem dX6_step_15 : decode cX6_step 15 = .ok (.aload_n 0, 1) := by decide +kernel
theorem dX6_step_16 : decode cX6_step 16 = .ok (.getfield 144, 3) := by decide +kernel
theorem dX6_step_19 : decode cX6_step 19 = .ok (.ifCond .ne 6, 3) := by decide +kernel
theorem dX6_step_22 : decode cX6_step 22 = .ok (.bipush (-4), 2) := by decide +kernel
theorem dX6_step_24 : decode cX6_step 24 = .ok (.ireturn, 1) := by decide +kernel
theorem dX6_step_25 : decode cX6_step 25 = .ok (.aload_n 0, 1) := by decide +kernel
theorem dX6_step_26 : decode cX6_step 26 = .ok (.invokevirtual 176, 3) := by decide +kernel
theorem dX6_step_29 : decode cX6_step 29 = .ok (.iconst 0, 1) := by decide +kernel
theorem dX6_step_30 : decode cX6_step 30 = .ok (.istore_n 2, 1) := by decide +kernel
theorem dX6_step_31 : decode cX6_step 31 = .ok (.iload_n 2, 1) := by decide +kernel
theorem dX6_step_32 : decode cX6_step 32 = .ok (.iload_n 1, 1) := by decide +kernel
theorem dX6_step_33 : decode cX6_step 33 = .ok (.if_icmp .ge 14, 3) := by decide +kernel
theorem dX6_step_36 : decode cX6_step 36 = .ok (.aload_n 0, 1) := by decide +kernel
theorem dX6_step_37 : decode cX6_step 37 = .ok (.iconst 0, 1) := by decide +kernel
theorem dX6_step_38 : decode cX6_step 38 = .ok (.invokevirtual 199, 3) := by decide +kernel
theorem dX6_step_41 : decode cX6_step 41 = .ok (.iinc 2 1, 3) := by decide +kernel
theorem dX6_step_44 : decode cX6_step 44 = .ok (.goto (-13), 3) := by decide +kernel
theorem dX6_step_47 : decode cX6_step 47 = .ok (.aload_n 0, 1) := by decide +kernel
theorem dX6_step_48 : decode cX6_step 48 = .ok (.getfield 20, 3) := by decide +kernel
theorem dX6_step_51 : decode cX6_step 51 = .ok (.iconst 0, 1) := by decide +kernel
theorem dX6_step_52 : decode cX6_step 52 = .ok (.iaload, 1) := by decide +kernel
theorem dX6_step_53 : decode cX6_step 53 = .ok (.ireturn, 1) := by decide +kernel
set_option maxRecDepth 20000 in
theorem ggX6_undo_X6_copy : GoodIn wsX6_undo wsX6_copy := goodIn_r _ [6, 7, 8, 9, 10, 11, 12, 13, 14, 15, 16, 17, 18, 19, 20, 21, 22, 23, 24, 25, 26, 27, 28, 29, 30, 31] (by decide +kernel) (by decide +kernel)
set_option maxRecDepth 20000 in
theorem gX6_undo_X6_copy : GoodIn wsX6_undo (wsV RX6 166 RX6 yX6_copy wsX6_copy) := goodIn_app (goodIn_of _ (by decide +kernel)) ggX6_undo_X6_copy
theorem dX6_undo_0 : decode cX6_undo 0 = .ok (.aload_n 0, 1) := by decide +kernel
theorem dX6_undo_1 : decode cX6_undo 1 = .ok (.getfield 49, 3) := by decide +kernel
theorem dX6_undo_4 : decode cX6_undo 4 = .ok (.ifCond .ne 6, 3) := by decide +kernel
theorem dX6_undo_7 : decode cX6_undo 7 = .ok (.bipush (-4), 2) := by decide +kernel
theorem dX6_undo_9 : decode cX6_undo 9 = .ok (.ireturn, 1) := by decide +kernel
theorem dX6_undo_10 : decode cX6_undo 10 = .ok (.aload_n 0, 1) := by decide +kernel
theorem dX6_undo_11 : decode cX6_undo 11 = .ok (.dup, 1) := by decide +kernel
theorem dX6_undo_12 : decode cX6_undo 12 = .ok (.getfield 49, 3) := by decide +kernel
theorem dX6_undo_15 : decode cX6_undo 15 = .ok (.iconst 1, 1) := by decide +kernel
theorem dX6_undo_16 : decode cX6_undo 16 = .ok (.isub, 1) := by decide +kernel
theorem dX6_undo_17 : decode cX6_undo 17 = .ok (.putfield 49, 3) := by decide +kernel
theorem dX6_undo_20 : decode cX6_undo 20 = .ok (.aload_n 0, 1) := by decide +kernel
theorem dX6_undo_21 : decode cX6_undo 21 = .ok (.iconst 4, 1) := by decide +kernel
theorem dX6_undo_22 : decode cX6_undo 22 = .ok (.aload_n 0, 1) := by decide +kernel
theorem dX6_undo_23 : decode cX6_undo 23 = .ok (.getfield 49, 3) := by decide +kernel
theorem dX6_undo_26 : decode cX6_undo 26 = .ok (.iadd, 1) := by decide +kernel
theorem dX6_undo_27 : decode cX6_undo 27 = .ok (.iconst 0, 1) := by decide +kernel
theorem dX6_undo_28 : decode cX6_undo 28 = .ok (.invokevirtual 166, 3) := by decide +kernel
theorem dX6_undo_31 : decode cX6_undo 31 = .ok (.aload_n 0, 1) := by decide +kernel
theorem dX6_undo_32 : decode cX6_undo 32 = .ok (.getfield 49, 3) := by decide +kernel
theorem dX6_undo_35 : decode cX6_undo 35 = .ok (.ireturn, 1) := by decide +kernel
theorem dX6_stateNow_0 : decode cX6_stateNow 0 = .ok (.aload_n 0, 1) := by decide +kernel
theorem dX6_stateNow_1 : decode cX6_stateNow 1 = .ok (.getfield 144, 3) := by decide +kernel
theorem dX6_stateNow_4 : decode cX6_stateNow 4 = .ok (.ifCond .ne 7, 3) := by decide +kernel
theorem dX6_stateNow_7 : decode cX6_stateNow 7 = .ok (.iconst (-1), 1) := by decide +kernel
theorem dX6_stateNow_8 : decode cX6_stateNow 8 = .ok (.goto 9, 3) := by decide +kernel
theorem dX6_stateNow_11 : decode cX6_stateNow 11 = .ok (.aload_n 0, 1) := by decide +kernel
theorem dX6_stateNow_12 : decode cX6_stateNow 12 = .ok (.getfield 20, 3) := by decide +kernel
theorem dX6_stateNow_15 : decode cX6_stateNow 15 = .ok (.iconst 0, 1) := by decide +kernel
theorem dX6_stateNow_16 : decode cX6_stateNow 16 = .ok (.iaload, 1) := by decide +kernel
theorem dX6_stateNow_17 : decode cX6_stateNow 17 = .ok (.ireturn, 1) := by decide +kernel
set_option maxRecDepth 20000 in
theorem ggX6_keep_X6_in : GoodIn wsX6_keep wsX6_in := goodIn_r _ [5] (by decide +kernel) (by decide +kernel)
set_option maxRecDepth 20000 in
theorem gX6_keep_X6_in : GoodIn wsX6_keep (va_wsS RX6 54 yX6_in wsX6_in) := goodIn_app (goodIn_of _ (by decide +kernel)) ggX6_keep_X6_in
set_option maxRecDepth 20000 in
theorem ggX6_keep_X6_copy : GoodIn wsX6_keep wsX6_copy := goodIn_r _ [9, 10, 11, 17, 18, 19, 20, 21, 22, 23, 24, 25, 26, 27, 28, 29, 30, 31, 32, 33, 34, 35, 36, 37, 38, 39] (by decide +kernel) (by decide +kernel)
set_option maxRecDepth 20000 in
theorem gX6_keep_X6_copy : GoodIn wsX6_keep (wsV RX6 166 RX6 yX6_copy wsX6_copy) := goodIn_app (goodIn_of _ (by decide +kernel)) ggX6_keep_X6_copy
set_option maxRecDepth 20000 in
theorem ggX6_keep_X6_stateNow : GoodIn wsX6_keep wsX6_stateNow := goodIn_r _ [15, 16, 10, 17, 18, 19, 20, 21, 22, 23, 24, 25, 26, 27, 28, 29, 30, 31, 32, 33, 34, 35, 36, 37, 38, 39] (by decide +kernel) (by decide +kernel)
set_option maxRecDepth 20000 in
theorem gX6_keep_X6_stateNow : GoodIn wsX6_keep (wsV RX6 203 RX6 yX6_stateNow wsX6_stateNow) := goodIn_app (goodIn_of _ (by decide +kernel)) ggX6_keep_X6_stateNow
theorem dX6_keep_0 : decode cX6_keep 0 = .ok (.iload_n 1, 1) := by decide +kernel
theorem dX6_keep_1 : decode cX6_keep 1 = .ok (.i2l, 1) := by decide +kernel
theorem dX6_keep_2 : decode cX6_keep 2 = .ok (.lconst 0, 1) := by decide +kernel
theorem dX6_keep_3 : decode cX6_keep 3 = .ok (.lconst 1, 1) := by decide +kernel
theorem dX6_keep_4 : decode cX6_keep 4 = .ok (.invokestatic 54, 3) := by decide +kernel
theorem dX6_keep_7 : decode cX6_keep 7 = .ok (.ifCond .ne 6, 3) := by decide +kernel
theorem dX6_keep_10 : decode cX6_keep 10 = .ok (.bipush (-2), 2) := by decide +kernel
theorem dX6_keep_12 : decode cX6_keep 12 = .ok (.ireturn, 1) := by decide +kernel
theorem dX6_keep_13 : decode cX6_keep 13 = .ok (.aload_n 0, 1) := by decide +kernel
theorem dX6_keep_14 : decode cX6_keep 14 = .ok (.iconst 0, 1) := by decide +kernel
theorem dX6_keep_15 : decode cX6_keep 15 = .ok (.iconst 2, 1) := by decide +kernel
theorem dX6_keep_16 : decode cX6_keep 16 = .ok (.iload_n 1, 1) := by decide +kernel
theorem dX6_keep_17 : decode cX6_keep 17 = .ok (.iadd, 1) := by decide +kernel
theorem dX6_keep_18 : decode cX6_keep 18 = .ok (.invokevirtual 166, 3) := by decide +kernel
theorem dX6_keep_21 : decode cX6_keep 21 = .ok (.aload_n 0, 1) := by decide +kernel
theorem dX6_keep_22 : decode cX6_keep 22 = .ok (.getfield 27, 3) := by decide +kernel
theorem dX6_keep_25 : decode cX6_keep 25 = .ok (.iload_n 1, 1) := by decide +kernel
theorem dX6_keep_26 : decode cX6_keep 26 = .ok (.iconst 1, 1) := by decide +kernel
theorem dX6_keep_27 : decode cX6_keep 27 = .ok (.bastore, 1) := by decide +kernel
theorem dX6_keep_28 : decode cX6_keep 28 = .ok (.aload_n 0, 1) := by decide +kernel
theorem dX6_keep_29 : decode cX6_keep 29 = .ok (.invokevirtual 203, 3) := by decide +kernel
theorem dX6_keep_32 : decode cX6_keep 32 = .ok (.ireturn, 1) := by decide +kernel
set_option maxRecDepth 20000 in
theorem ggX6_back_X6_in : GoodIn wsX6_back wsX6_in := goodIn_r _ [6] (by decide +kernel) (by decide +kernel)
set_option maxRecDepth 20000 in
theorem gX6_back_X6_in : GoodIn wsX6_back (va_wsS RX6 54 yX6_in wsX6_in) := goodIn_app (goodIn_of _ (by decide +kernel)) ggX6_back_X6_in
set_option maxRecDepth 20000 in
theorem ggX6_back_X6_copy : GoodIn wsX6_back wsX6_copy := goodIn_r _ [10, 11, 12, 18, 19, 20, 21, 22, 23, 24, 25, 26, 27, 28, 29, 30, 31, 32, 33, 34, 35, 36, 37, 38, 39, 40] (by decide +kernel) (by decide +kernel)
set_option maxRecDepth 20000 in
theorem gX6_back_X6_copy : GoodIn wsX6_back (wsV RX6 166 RX6 yX6_copy wsX6_copy) := goodIn_app (goodIn_of _ (by decide +kernel)) ggX6_back_X6_copy
set_option maxRecDepth 20000 in
theorem ggX6_back_X6_stateNow : GoodIn wsX6_back wsX6_stateNow := goodIn_r _ [16, 17, 11, 18, 19, 20, 21, 22, 23, 24, 25, 26, 27, 28, 29, 30, 31, 32, 33, 34, 35, 36, 37, 38, 39, 40] (by decide +kernel) (by decide +kernel)
set_option maxRecDepth 20000 in
theorem gX6_back_X6_stateNow : GoodIn wsX6_back (wsV RX6 203 RX6 yX6_stateNow wsX6_stateNow) := goodIn_app (goodIn_of _ (by decide +kernel)) ggX6_back_X6_stateNow
theorem dX6_back_0 : decode cX6_back 0 = .ok (.iload_n 1, 1) := by decide +kernel
theorem dX6_back_1 : decode cX6_back 1 = .ok (.i2l, 1) := by decide +kernel
theorem dX6_back_2 : decode cX6_back 2 = .ok (.lconst 0, 1) := by decide +kernel
theorem dX6_back_3 : decode cX6_back 3 = .ok (.lconst 1, 1) := by decide +kernel
theorem dX6_back_4 : decode cX6_back 4 = .ok (.invokestatic 54, 3) := by decide +kernel
theorem dX6_back_7 : decode cX6_back 7 = .ok (.ifCond .ne 6, 3) := by decide +kernel
theorem dX6_back_10 : decode cX6_back 10 = .ok (.bipush (-2), 2) := by decide +kernel
theorem dX6_back_12 : decode cX6_back 12 = .ok (.ireturn, 1) := by decide +kernel
theorem dX6_back_13 : decode cX6_back 13 = .ok (.aload_n 0, 1) := by decide +kernel
theorem dX6_back_14 : decode cX6_back 14 = .ok (.getfield 27, 3) := by decide +kernel
theorem dX6_back_17 : decode cX6_back 17 = .ok (.iload_n 1, 1) := by decide +kernel
theorem dX6_back_18 : decode cX6_back 18 = .ok (.baload, 1) := by decide +kernel
theorem dX6_back_19 : decode cX6_back 19 = .ok (.ifCond .ne 6, 3) := by decide +kernel
theorem dX6_back_22 : decode cX6_back 22 = .ok (.bipush (-4), 2) := by decide +kernel
theorem dX6_back_24 : decode cX6_back 24 = .ok (.ireturn, 1) := by decide +kernel
theorem dX6_back_25 : decode cX6_back 25 = .ok (.aload_n 0, 1) := by decide +kernel
theorem dX6_back_26 : decode cX6_back 26 = .ok (.iconst 2, 1) := by decide +kernel
theorem dX6_back_27 : decode cX6_back 27 = .ok (.iload_n 1, 1) := by decide +kernel
theorem dX6_back_28 : decode cX6_back 28 = .ok (.iadd, 1) := by decide +kernel
theorem dX6_back_29 : decode cX6_back 29 = .ok (.iconst 0, 1) := by decide +kernel
theorem dX6_back_30 : decode cX6_back 30 = .ok (.invokevirtual 166, 3) := by decide +kernel
theorem dX6_back_33 : decode cX6_back 33 = .ok (.aload_n 0, 1) := by decide +kernel
theorem dX6_back_34 : decode cX6_back 34 = .ok (.iconst 0, 1) := by decide +kernel
theorem dX6_back_35 : decode cX6_back 35 = .ok (.putfield 49, 3) := by decide +kernel
theorem dX6_back_38 : decode cX6_back 38 = .ok (.aload_n 0, 1) := by decide +kernel
theorem dX6_back_39 : decode cX6_back 39 = .ok (.invokevirtual 203, 3) := by decide +kernel
theorem dX6_back_42 : decode cX6_back 42 = .ok (.ireturn, 1) := by decide +kernel
set_option maxRecDepth 20000 in
theorem ggX6_layer_X6_isLayer : GoodIn wsX6_layer wsX6_isLayer := goodIn_r _ [7, 8, 9, 6, 10] (by decide +kernel) (by decide +kernel)
set_option maxRecDepth 20000 in
theorem gX6_layer_X6_isLayer : GoodIn wsX6_layer (va_wsS RX6 207 yX6_isLayer wsX6_isLayer) := goodIn_app (goodIn_of _ (by decide +kernel)) ggX6_layer_X6_isLayer
set_option maxRecDepth 20000 in
theorem ggX6_layer_X6_in : GoodIn wsX6_layer wsX6_in := goodIn_r _ [10] (by decide +kernel) (by decide +kernel)
set_option maxRecDepth 20000 in
theorem gX6_layer_X6_in : GoodIn wsX6_layer (va_wsS RX6 54 yX6_in wsX6_in) := goodIn_app (goodIn_of _ (by decide +kernel)) ggX6_layer_X6_in
theorem dX6_layer_0 : decode cX6_layer 0 = .ok (.iload_n 1, 1) := by decide +kernel
theorem dX6_layer_1 : decode cX6_layer 1 = .ok (.invokestatic 207, 3) := by decide +kernel
theorem dX6_layer_4 : decode cX6_layer 4 = .ok (.ifCond .ne 6, 3) := by decide +kernel
theorem dX6_layer_7 : decode cX6_layer 7 = .ok (.bipush (-2), 2) := by decide +kernel
theorem dX6_layer_9 : decode cX6_layer 9 = .ok (.ireturn, 1) := by decide +kernel
theorem dX6_layer_10 : decode cX6_layer 10 = .ok (.iload_n 2, 1) := by decide +kernel
theorem dX6_layer_11 : decode cX6_layer 11 = .ok (.i2l, 1) := by decide +kernel
theorem dX6_layer_12 : decode cX6_layer 12 = .ok (.lconst 0, 1) := by decide +kernel
theorem dX6_layer_13 : decode cX6_layer 13 = .ok (.ldc2_w 210, 3) := by decide +kernel
theorem dX6_layer_16 : decode cX6_layer 16 = .ok (.invokestatic 54, 3) := by decide +kernel
theorem dX6_layer_19 : decode cX6_layer 19 = .ok (.ifCond .ne 6, 3) := by decide +kernel
theorem dX6_layer_22 : decode cX6_layer 22 = .ok (.bipush (-3), 2) := by decide +kernel
theorem dX6_layer_24 : decode cX6_layer 24 = .ok (.ireturn, 1) := by decide +kernel
theorem dX6_layer_25 : decode cX6_layer 25 = .ok (.aload_n 0, 1) := by decide +kernel
theorem dX6_layer_26 : decode cX6_layer 26 = .ok (.getfield 144, 3) := by decide +kernel
theorem dX6_layer_29 : decode cX6_layer 29 = .ok (.ifCond .ne 6, 3) := by decide +kernel
theorem dX6_layer_32 : decode cX6_layer 32 = .ok (.bipush (-4), 2) := by decide +kernel
theorem dX6_layer_34 : decode cX6_layer 34 = .ok (.ireturn, 1) := by decide +kernel
theorem dX6_layer_35 : decode cX6_layer 35 = .ok (.iconst 5, 1) := by decide +kernel
theorem dX6_layer_36 : decode cX6_layer 36 = .ok (.iload_n 1, 1) := by decide +kernel
theorem dX6_layer_37 : decode cX6_layer 37 = .ok (.imul, 1) := by decide +kernel
theorem dX6_layer_38 : decode cX6_layer 38 = .ok (.istore_n 3, 1) := by decide +kernel
theorem dX6_layer_39 : decode cX6_layer 39 = .ok (.iload_n 2, 1) := by decide +kernel
theorem dX6_layer_40 : decode cX6_layer 40 = .ok (.iconst 4, 1) := by decide +kernel
theorem dX6_layer_41 : decode cX6_layer 41 = .ok (.if_icmp .ne 23, 3) := by decide +kernel
theorem dX6_layer_44 : decode cX6_layer 44 = .ok (.aload_n 0, 1) := by decide +kernel
theorem dX6_layer_45 : decode cX6_layer 45 = .ok (.getfield 20, 3) := by decide +kernel
theorem dX6_layer_48 : decode cX6_layer 48 = .ok (.iload_n 3, 1) := by decide +kernel
theorem dX6_layer_49 : decode cX6_layer 49 = .ok (.iconst 4, 1) := by decide +kernel
theorem dX6_layer_50 : decode cX6_layer 50 = .ok (.iadd, 1) := by decide +kernel
theorem dX6_layer_51 : decode cX6_layer 51 = .ok (.iaload, 1) := by decide +kernel
theorem dX6_layer_52 : decode cX6_layer 52 = .ok (.iconst (-1), 1) := by decide +kernel
theorem dX6_layer_53 : decode cX6_layer 53 = .ok (.if_icmp .ne 7, 3) := by decide +kernel
theorem dX6_layer_56 : decode cX6_layer 56 = .ok (.iconst 1, 1) := by decide +kernel
theorem dX6_layer_57 : decode cX6_layer 57 = .ok (.goto 31, 3) := by decide +kernel
theorem dX6_layer_60 : decode cX6_layer 60 = .ok (.iconst 0, 1) := by decide +kernel
theorem dX6_layer_61 : decode cX6_layer 61 = .ok (.goto 27, 3) := by decide +kernel
theorem dX6_layer_64 : decode cX6_layer 64 = .ok (.iload_n 2, 1) := by decide +kernel
theorem dX6_layer_65 : decode cX6_layer 65 = .ok (.iconst 5, 1) := by decide +kernel
theorem dX6_layer_66 : decode cX6_layer 66 = .ok (.if_icmp .ne 14, 3) := by decide +kernel
theorem dX6_layer_69 : decode cX6_layer 69 = .ok (.aload_n 0, 1) := by decide +kernel
theorem dX6_layer_70 : decode cX6_layer 70 = .ok (.getfield 20, 3) := by decide +kernel
theorem dX6_layer_73 : decode cX6_layer 73 = .ok (.iload_n 3, 1) := by decide +kernel
theorem dX6_layer_74 : decode cX6_layer 74 = .ok (.iconst 4, 1) := by decide +kernel
theorem dX6_layer_75 : decode cX6_layer 75 = .ok (.iadd, 1) := by decide +kernel
theorem dX6_layer_76 : decode cX6_layer 76 = .ok (.iaload, 1) := by decide +kernel
theorem dX6_layer_77 : decode cX6_layer 77 = .ok (.goto 11, 3) := by decide +kernel
theorem dX6_layer_80 : decode cX6_layer 80 = .ok (.aload_n 0, 1) := by decide +kernel
theorem dX6_layer_81 : decode cX6_layer 81 = .ok (.getfield 20, 3) := by decide +kernel
theorem dX6_layer_84 : decode cX6_layer 84 = .ok (.iload_n 3, 1) := by decide +kernel
theorem dX6_layer_85 : decode cX6_layer 85 = .ok (.iload_n 2, 1) := by decide +kernel
theorem dX6_layer_86 : decode cX6_layer 86 = .ok (.iadd, 1) := by decide +kernel
theorem dX6_layer_87 : decode cX6_layer 87 = .ok (.iaload, 1) := by decide +kernel
theorem dX6_layer_88 : decode cX6_layer 88 = .ok (.ireturn, 1) := by decide +kernel
set_option maxRecDepth 20000 in
theorem ggX6_share_X6_isLayer : GoodIn wsX6_share wsX6_isLayer := goodIn_r _ [6, 7, 8, 5, 9] (by decide +kernel) (by decide +kernel)
set_option maxRecDepth 20000 in
theorem gX6_share_X6_isLayer : GoodIn wsX6_share (va_wsS RX6 207 yX6_isLayer wsX6_isLayer) := goodIn_app (goodIn_of _ (by decide +kernel)) ggX6_share_X6_isLayer
set_option maxRecDepth 20000 in
theorem ggX6_share_X6_isState : GoodIn wsX6_share wsX6_isState := goodIn_r _ [13, 14, 7, 8, 5, 9, 15, 16, 17, 18, 19, 20, 21, 22, 23, 24, 25, 26, 27, 28, 29, 30, 31, 32, 33, 34, 35, 36, 37] (by decide +kernel) (by decide +kernel)
set_option maxRecDepth 20000 in
theorem gX6_share_X6_isState : GoodIn wsX6_share (wsV RX6 159 RX6 yX6_isState wsX6_isState) := goodIn_app (goodIn_of _ (by decide +kernel)) ggX6_share_X6_isState
theorem dX6_share_0 : decode cX6_share 0 = .ok (.iload_n 1, 1) := by decide +kernel
theorem dX6_share_1 : decode cX6_share 1 = .ok (.invokestatic 207, 3) := by decide +kernel
theorem dX6_share_4 : decode cX6_share 4 = .ok (.ifCond .eq 29, 3) := by decide +kernel
theorem dX6_share_7 : decode cX6_share 7 = .ok (.aload_n 0, 1) := by decide +kernel
theorem dX6_share_8 : decode cX6_share 8 = .ok (.iload_n 2, 1) := by decide +kernel
theorem dX6_share_9 : decode cX6_share 9 = .ok (.invokevirtual 159, 3) := by decide +kernel
theorem dX6_share_12 : decode cX6_share 12 = .ok (.ifCond .eq 21, 3) := by decide +kernel
theorem dX6_share_15 : decode cX6_share 15 = .ok (.aload_n 0, 1) := by decide +kernel
theorem dX6_share_16 : decode cX6_share 16 = .ok (.getfield 23, 3) := by decide +kernel
theorem dX6_share_19 : decode cX6_share 19 = .ok (.bipush 6, 2) := by decide +kernel
theorem dX6_share_21 : decode cX6_share 21 = .ok (.iload_n 1, 1) := by decide +kernel
theorem dX6_share_22 : decode cX6_share 22 = .ok (.imul, 1) := by decide +kernel
theorem dX6_share_23 : decode cX6_share 23 = .ok (.iload_n 2, 1) := by decide +kernel
theorem dX6_share_24 : decode cX6_share 24 = .ok (.iadd, 1) := by decide +kernel
theorem dX6_share_25 : decode cX6_share 25 = .ok (.faload, 1) := by decide +kernel
theorem dX6_share_26 : decode cX6_share 26 = .ok (.ldc 212, 2) := by decide +kernel
theorem dX6_share_28 : decode cX6_share 28 = .ok (.fmul, 1) := by decide +kernel
theorem dX6_share_29 : decode cX6_share 29 = .ok (.f2i, 1) := by decide +kernel
theorem dX6_share_30 : decode cX6_share 30 = .ok (.goto 5, 3) := by decide +kernel
theorem dX6_share_33 : decode cX6_share 33 = .ok (.bipush (-2), 2) := by decide +kernel
theorem dX6_share_35 : decode cX6_share 35 = .ok (.ireturn, 1) := by decide +kernel
set_option maxRecDepth 20000 in
theorem ggX6_bits_X6_isLayer : GoodIn wsX6_bits wsX6_isLayer := goodIn_r _ [5, 6, 7, 4, 8] (by decide +kernel) (by decide +kernel)
set_option maxRecDepth 20000 in
theorem gX6_bits_X6_isLayer : GoodIn wsX6_bits (va_wsS RX6 207 yX6_isLayer wsX6_isLayer) := goodIn_app (goodIn_of _ (by decide +kernel)) ggX6_bits_X6_isLayer
set_option maxRecDepth 20000 in
theorem ggX6_bits_X6_isState : GoodIn wsX6_bits wsX6_isState := goodIn_r _ [12, 13, 6, 7, 4, 8, 26, 27, 28, 29, 30, 31, 32, 33, 34, 35, 36, 37, 38, 39, 40, 41, 42, 43, 44, 45, 46, 47, 48] (by decide +kernel) (by decide +kernel)
set_option maxRecDepth 20000 in
theorem gX6_bits_X6_isState : GoodIn wsX6_bits (wsV RX6 159 RX6 yX6_isState wsX6_isState) := goodIn_app (goodIn_of _ (by decide +kernel)) ggX6_bits_X6_isState
set_option maxRecDepth 20000 in
theorem ggX6_bits_Jxf58ca_floatToIntBits_5c35a : GoodIn wsX6_bits wsJxf58ca_floatToIntBits_5c35a := goodIn_r _ [17, 18, 19, 20, 21, 22, 23, 24, 16, 25] (by decide +kernel) (by decide +kernel)
set_option maxRecDepth 20000 in
theorem gX6_bits_Jxf58ca_floatToIntBits_5c35a : GoodIn wsX6_bits (va_wsS RX6 213 yJxf58ca_floatToIntBits_5c35a wsJxf58ca_floatToIntBits_5c35a) := goodIn_app (goodIn_of _ (by decide +kernel)) ggX6_bits_Jxf58ca_floatToIntBits_5c35a
theorem dX6_bits_0 : decode cX6_bits 0 = .ok (.iload_n 1, 1) := by decide +kernel
theorem dX6_bits_1 : decode cX6_bits 1 = .ok (.invokestatic 207, 3) := by decide +kernel
theorem dX6_bits_4 : decode cX6_bits 4 = .ok (.ifCond .eq 28, 3) := by decide +kernel
theorem dX6_bits_7 : decode cX6_bits 7 = .ok (.aload_n 0, 1) := by decide +kernel
theorem dX6_bits_8 : decode cX6_bits 8 = .ok (.iload_n 2, 1) := by decide +kernel
theorem dX6_bits_9 : decode cX6_bits 9 = .ok (.invokevirtual 159, 3) := by decide +kernel
theorem dX6_bits_12 : decode cX6_bits 12 = .ok (.ifCond .eq 20, 3) := by decide +kernel
theorem dX6_bits_15 : decode cX6_bits 15 = .ok (.aload_n 0, 1) := by decide +kernel
theorem dX6_bits_16 : decode cX6_bits 16 = .ok (.getfield 23, 3) := by decide +kernel
theorem dX6_bits_19 : decode cX6_bits 19 = .ok (.bipush 6, 2) := by decide +kernel
theorem dX6_bits_21 : decode cX6_bits 21 = .ok (.iload_n 1, 1) := by decide +kernel
theorem dX6_bits_22 : decode cX6_bits 22 = .ok (.imul, 1) := by decide +kernel
theorem dX6_bits_23 : decode cX6_bits 23 = .ok (.iload_n 2, 1) := by decide +kernel
theorem dX6_bits_24 : decode cX6_bits 24 = .ok (.iadd, 1) := by decide +kernel
theorem dX6_bits_25 : decode cX6_bits 25 = .ok (.faload, 1) := by decide +kernel
theorem dX6_bits_26 : decode cX6_bits 26 = .ok (.invokestatic 213, 3) := by decide +kernel
theorem dX6_bits_29 : decode cX6_bits 29 = .ok (.goto 5, 3) := by decide +kernel
theorem dX6_bits_32 : decode cX6_bits 32 = .ok (.bipush (-2), 2) := by decide +kernel
theorem dX6_bits_34 : decode cX6_bits 34 = .ok (.ireturn, 1) := by decide +kernel
theorem dX6_limbOf_0 : decode cX6_limbOf 0 = .ok (.fconst 0, 1) := by decide +kernel
theorem dX6_limbOf_1 : decode cX6_limbOf 1 = .ok (.fstore_n 3, 1) := by decide +kernel
theorem dX6_limbOf_2 : decode cX6_limbOf 2 = .ok (.iconst 0, 1) := by decide +kernel
theorem dX6_limbOf_3 : decode cX6_limbOf 3 = .ok (.istore 4, 2) := by decide +kernel
theorem dX6_limbOf_5 : decode cX6_limbOf 5 = .ok (.iload 4, 2) := by decide +kernel
theorem dX6_limbOf_7 : decode cX6_limbOf 7 = .ok (.aload_n 0, 1) := by decide +kernel
theorem dX6_limbOf_8 : decode cX6_limbOf 8 = .ok (.getfield 144, 3) := by decide +kernel
theorem dX6_limbOf_11 : decode cX6_limbOf 11 = .ok (.if_icmp .ge 48, 3) := by decide +kernel
theorem dX6_limbOf_14 : decode cX6_limbOf 14 = .ok (.aload_n 0, 1) := by decide +kernel
theorem dX6_limbOf_15 : decode cX6_limbOf 15 = .ok (.getfield 13, 3) := by decide +kernel
theorem dX6_limbOf_18 : decode cX6_limbOf 18 = .ok (.iconst 4, 1) := by decide +kernel
theorem dX6_limbOf_19 : decode cX6_limbOf 19 = .ok (.iload 4, 2) := by decide +kernel
theorem dX6_limbOf_21 : decode cX6_limbOf 21 = .ok (.imul, 1) := by decide +kernel
theorem dX6_limbOf_22 : decode cX6_limbOf 22 = .ok (.iload_n 2, 1) := by decide +kernel
theorem dX6_limbOf_23 : decode cX6_limbOf 23 = .ok (.iadd, 1) := by decide +kernel
theorem dX6_limbOf_24 : decode cX6_limbOf 24 = .ok (.iaload, 1) := by decide +kernel
theorem dX6_limbOf_25 : decode cX6_limbOf 25 = .ok (.i2f, 1) := by decide +kernel
theorem dX6_limbOf_26 : decode cX6_limbOf 26 = .ok (.ldc 219, 2) := by decide +kernel
theorem dX6_limbOf_28 : decode cX6_limbOf 28 = .ok (.fdiv, 1) := by decide +kernel
theorem dX6_limbOf_29 : decode cX6_limbOf 29 = .ok (.fstore 5, 2) := by decide +kernel
theorem dX6_limbOf_31 : decode cX6_limbOf 31 = .ok (.fload 5, 2) := by decide +kernel
theorem dX6_limbOf_33 : decode cX6_limbOf 33 = .ok (.aload_n 0, 1) := by decide +kernel
theorem dX6_limbOf_34 : decode cX6_limbOf 34 = .ok (.getfield 23, 3) := by decide +kernel
theorem dX6_limbOf_37 : decode cX6_limbOf 37 = .ok (.bipush 6, 2) := by decide +kernel
theorem dX6_limbOf_39 : decode cX6_limbOf 39 = .ok (.iload_n 1, 1) := by decide +kernel
theorem dX6_limbOf_40 : decode cX6_limbOf 40 = .ok (.imul, 1) := by decide +kernel
theorem dX6_limbOf_41 : decode cX6_limbOf 41 = .ok (.iload 4, 2) := by decide +kernel
theorem dX6_limbOf_43 : decode cX6_limbOf 43 = .ok (.iadd, 1) := by decide +kernel
theorem dX6_limbOf_44 : decode cX6_limbOf 44 = .ok (.faload, 1) := by decide +kernel
theorem dX6_limbOf_45 : decode cX6_limbOf 45 = .ok (.fmul, 1) := by decide +kernel
theorem dX6_limbOf_46 : decode cX6_limbOf 46 = .ok (.fstore 5, 2) := by decide +kernel
theorem dX6_limbOf_48 : decode cX6_limbOf 48 = .ok (.fload_n 3, 1) := by decide +kernel
theorem dX6_limbOf_49 : decode cX6_limbOf 49 = .ok (.fload 5, 2) := by decide +kernel
theorem dX6_limbOf_51 : decode cX6_limbOf 51 = .ok (.fadd, 1) := by decide +kernel
theorem dX6_limbOf_52 : decode cX6_limbOf 52 = .ok (.fstore_n 3, 1) := by decide +kernel
theorem dX6_limbOf_53 : decode cX6_limbOf 53 = .ok (.iinc 4 1, 3) := by decide +kernel
theorem dX6_limbOf_56 : decode cX6_limbOf 56 = .ok (.goto (-51), 3) := by decide +kernel
theorem dX6_limbOf_59 : decode cX6_limbOf 59 = .ok (.fload_n 3, 1) := by decide +kernel
theorem dX6_limbOf_60 : decode cX6_limbOf 60 = .ok (.freturn, 1) := by decide +kernel
set_option maxRecDepth 20000 in
theorem ggX6_theLimb_X6_limbOf : GoodIn wsX6_theLimb wsX6_limbOf := goodIn_r _ [8, 9, 10, 11, 12, 16, 17, 18, 19, 20, 21, 22, 23, 24, 25, 26, 27, 28, 29, 30, 31, 32, 33, 34, 35, 36, 37, 38] (by decide +kernel) (by decide +kernel)
set_option maxRecDepth 20000 in
theorem gX6_theLimb_X6_limbOf : GoodIn wsX6_theLimb (wsV RX6 220 RX6 yX6_limbOf wsX6_limbOf) := goodIn_app (goodIn_of _ (by decide +kernel)) ggX6_theLimb_X6_limbOf
set_option maxRecDepth 20000 in
theorem ggX6_theLimb_X6_has : GoodIn wsX6_theLimb wsX6_has := goodIn_r _ [15] (by decide +kernel) (by decide +kernel)
set_option maxRecDepth 20000 in
theorem gX6_theLimb_X6_has : GoodIn wsX6_theLimb (va_wsS RX6 179 yX6_has wsX6_has) := goodIn_app (goodIn_of _ (by decide +kernel)) ggX6_theLimb_X6_has
theorem dX6_theLimb_0 : decode cX6_theLimb 0 = .ok (.aload_n 0, 1) := by decide +kernel
theorem dX6_theLimb_1 : decode cX6_theLimb 1 = .ok (.iconst 0, 1) := by decide +kernel
theorem dX6_theLimb_2 : decode cX6_theLimb 2 = .ok (.iload_n 1, 1) := by decide +kernel
theorem dX6_theLimb_3 : decode cX6_theLimb 3 = .ok (.invokevirtual 220, 3) := by decide +kernel
theorem dX6_theLimb_6 : decode cX6_theLimb 6 = .ok (.fstore_n 2, 1) := by decide +kernel
theorem dX6_theLimb_7 : decode cX6_theLimb 7 = .ok (.aload_n 0, 1) := by decide +kernel
theorem dX6_theLimb_8 : decode cX6_theLimb 8 = .ok (.getfield 126, 3) := by decide +kernel
theorem dX6_theLimb_11 : decode cX6_theLimb 11 = .ok (.iload_n 1, 1) := by decide +kernel
theorem dX6_theLimb_12 : decode cX6_theLimb 12 = .ok (.invokestatic 179, 3) := by decide +kernel
theorem dX6_theLimb_15 : decode cX6_theLimb 15 = .ok (.ifCond .ne 5, 3) := by decide +kernel
theorem dX6_theLimb_18 : decode cX6_theLimb 18 = .ok (.fload_n 2, 1) := by decide +kernel
theorem dX6_theLimb_19 : decode cX6_theLimb 19 = .ok (.freturn, 1) := by decide +kernel
theorem dX6_theLimb_20 : decode cX6_theLimb 20 = .ok (.aload_n 0, 1) := by decide +kernel
theorem dX6_theLimb_21 : decode cX6_theLimb 21 = .ok (.getfield 7, 3) := by decide +kernel
theorem dX6_theLimb_24 : decode cX6_theLimb 24 = .ok (.i2f, 1) := by decide +kernel
theorem dX6_theLimb_25 : decode cX6_theLimb 25 = .ok (.ldc 224, 2) := by decide +kernel
theorem dX6_theLimb_27 : decode cX6_theLimb 27 = .ok (.fdiv, 1) := by decide +kernel
theorem dX6_theLimb_28 : decode cX6_theLimb 28 = .ok (.fstore_n 3, 1) := by decide +kernel
theorem dX6_theLimb_29 : decode cX6_theLimb 29 = .ok (.fconst 1, 1) := by decide +kernel
theorem dX6_theLimb_30 : decode cX6_theLimb 30 = .ok (.fload_n 3, 1) := by decide +kernel
theorem dX6_theLimb_31 : decode cX6_theLimb 31 = .ok (.fsub, 1) := by decide +kernel
theorem dX6_theLimb_32 : decode cX6_theLimb 32 = .ok (.fstore 4, 2) := by decide +kernel
theorem dX6_theLimb_34 : decode cX6_theLimb 34 = .ok (.fload_n 2, 1) := by decide +kernel
theorem dX6_theLimb_35 : decode cX6_theLimb 35 = .ok (.fload 4, 2) := by decide +kernel
theorem dX6_theLimb_37 : decode cX6_theLimb 37 = .ok (.fmul, 1) := by decide +kernel
theorem dX6_theLimb_38 : decode cX6_theLimb 38 = .ok (.fstore 5, 2) := by decide +kernel
theorem dX6_theLimb_40 : decode cX6_theLimb 40 = .ok (.aload_n 0, 1) := by decide +kernel
theorem dX6_theLimb_41 : decode cX6_theLimb 41 = .ok (.iconst 1, 1) := by decide +kernel
theorem dX6_theLimb_42 : decode cX6_theLimb 42 = .ok (.iload_n 1, 1) := by decide +kernel
theorem dX6_theLimb_43 : decode cX6_theLimb 43 = .ok (.invokevirtual 220, 3) := by decide +kernel
theorem dX6_theLimb_46 : decode cX6_theLimb 46 = .ok (.fload_n 3, 1) := by decide +kernel
theorem dX6_theLimb_47 : decode cX6_theLimb 47 = .ok (.fmul, 1) := by decide +kernel
theorem dX6_theLimb_48 : decode cX6_theLimb 48 = .ok (.fstore 6, 2) := by decide +kernel
theorem dX6_theLimb_50 : decode cX6_theLimb 50 = .ok (.fload 5, 2) := by decide +kernel
theorem dX6_theLimb_52 : decode cX6_theLimb 52 = .ok (.fload 6, 2) := by decide +kernel
theorem dX6_theLimb_54 : decode cX6_theLimb 54 = .ok (.fadd, 1) := by decide +kernel
theorem dX6_theLimb_55 : decode cX6_theLimb 55 = .ok (.freturn, 1) := by decide +kernel
set_option maxRecDepth 20000 in
theorem ggX6_limb_X6_in : GoodIn wsX6_limb wsX6_in := goodIn_r _ [8] (by decide +kernel) (by decide +kernel)
set_option maxRecDepth 20000 in
theorem gX6_limb_X6_in : GoodIn wsX6_limb (va_wsS RX6 54 yX6_in wsX6_in) := goodIn_app (goodIn_of _ (by decide +kernel)) ggX6_limb_X6_in
set_option maxRecDepth 20000 in
theorem ggX6_limb_X6_theLimb : GoodIn wsX6_limb wsX6_theLimb := goodIn_r _ [12, 13, 14, 15, 16, 17, 18, 7, 19, 2, 20, 21, 22, 23, 24, 25, 26, 27, 28, 29, 30, 31, 32, 33, 34, 35, 36, 37, 38, 39, 40, 41, 42, 43, 44, 45, 46, 47, 48] (by decide +kernel) (by decide +kernel)
set_option maxRecDepth 20000 in
theorem gX6_limb_X6_theLimb : GoodIn wsX6_limb (wsV RX6 225 RX6 yX6_theLimb wsX6_theLimb) := goodIn_app (goodIn_of _ (by decide +kernel)) ggX6_limb_X6_theLimb
theorem dX6_limb_0 : decode cX6_limb 0 = .ok (.iload_n 1, 1) := by decide +kernel
theorem dX6_limb_1 : decode cX6_limb 1 = .ok (.i2l, 1) := by decide +kernel
theorem dX6_limb_2 : decode cX6_limb 2 = .ok (.lconst 0, 1) := by decide +kernel
theorem dX6_limb_3 : decode cX6_limb 3 = .ok (.ldc2_w 162, 3) := by decide +kernel
theorem dX6_limb_6 : decode cX6_limb 6 = .ok (.invokestatic 54, 3) := by decide +kernel
theorem dX6_limb_9 : decode cX6_limb 9 = .ok (.ifCond .ne 6, 3) := by decide +kernel
theorem dX6_limb_12 : decode cX6_limb 12 = .ok (.bipush (-2), 2) := by decide +kernel
theorem dX6_limb_14 : decode cX6_limb 14 = .ok (.ireturn, 1) := by decide +kernel
theorem dX6_limb_15 : decode cX6_limb 15 = .ok (.aload_n 0, 1) := by decide +kernel
theorem dX6_limb_16 : decode cX6_limb 16 = .ok (.getfield 144, 3) := by decide +kernel
theorem dX6_limb_19 : decode cX6_limb 19 = .ok (.ifCond .ne 8, 3) := by decide +kernel
theorem dX6_limb_22 : decode cX6_limb 22 = .ok (.bipush (-4), 2) := by decide +kernel
theorem dX6_limb_24 : decode cX6_limb 24 = .ok (.goto 15, 3) := by decide +kernel
theorem dX6_limb_27 : decode cX6_limb 27 = .ok (.aload_n 0, 1) := by decide +kernel
theorem dX6_limb_28 : decode cX6_limb 28 = .ok (.iload_n 1, 1) := by decide +kernel
theorem dX6_limb_29 : decode cX6_limb 29 = .ok (.invokevirtual 225, 3) := by decide +kernel
theorem dX6_limb_32 : decode cX6_limb 32 = .ok (.ldc 229, 2) := by decide +kernel
theorem dX6_limb_34 : decode cX6_limb 34 = .ok (.fmul, 1) := by decide +kernel
theorem dX6_limb_35 : decode cX6_limb 35 = .ok (.f2i, 1) := by decide +kernel
theorem dX6_limb_36 : decode cX6_limb 36 = .ok (.ldc 230, 2) := by decide +kernel
theorem dX6_limb_38 : decode cX6_limb 38 = .ok (.iadd, 1) := by decide +kernel
theorem dX6_limb_39 : decode cX6_limb 39 = .ok (.ireturn, 1) := by decide +kernel
set_option maxRecDepth 20000 in
theorem ggX6_exact_X6_in : GoodIn wsX6_exact wsX6_in := goodIn_r _ [8] (by decide +kernel) (by decide +kernel)
set_option maxRecDepth 20000 in
theorem gX6_exact_X6_in : GoodIn wsX6_exact (va_wsS RX6 54 yX6_in wsX6_in) := goodIn_app (goodIn_of _ (by decide +kernel)) ggX6_exact_X6_in
set_option maxRecDepth 20000 in
theorem ggX6_exact_X6_theLimb : GoodIn wsX6_exact wsX6_theLimb := goodIn_r _ [12, 13, 14, 15, 16, 17, 18, 7, 19, 3, 20, 21, 22, 23, 24, 25, 38, 39, 40, 41, 42, 43, 44, 45, 46, 47, 48, 49, 50, 51, 52, 53, 54, 55, 56, 57, 58, 59, 60] (by decide +kernel) (by decide +kernel)
set_option maxRecDepth 20000 in
theorem gX6_exact_X6_theLimb : GoodIn wsX6_exact (wsV RX6 225 RX6 yX6_theLimb wsX6_theLimb) := goodIn_app (goodIn_of _ (by decide +kernel)) ggX6_exact_X6_theLimb
set_option maxRecDepth 20000 in
theorem ggX6_exact_Jxe99ae_doubleToLongBits_ccdee : GoodIn wsX6_exact wsJxe99ae_doubleToLongBits_ccdee := goodIn_r _ [29, 30, 31, 32, 33, 34, 35, 36, 28, 37] (by decide +kernel) (by decide +kernel)
set_option maxRecDepth 20000 in
theorem gX6_exact_Jxe99ae_doubleToLongBits_ccdee : GoodIn wsX6_exact (va_wsS RX6 235 yJxe99ae_doubleToLongBits_ccdee wsJxe99ae_doubleToLongBits_ccdee) := goodIn_app (goodIn_of _ (by decide +kernel)) ggX6_exact_Jxe99ae_doubleToLongBits_ccdee
theorem dX6_exact_0 : decode cX6_exact 0 = .ok (.iload_n 1, 1) := by decide +kernel
theorem dX6_exact_1 : decode cX6_exact 1 = .ok (.i2l, 1) := by decide +kernel
theorem dX6_exact_2 : decode cX6_exact 2 = .ok (.lconst 0, 1) := by decide +kernel
theorem dX6_exact_3 : decode cX6_exact 3 = .ok (.ldc2_w 162, 3) := by decide +kernel
theorem dX6_exact_6 : decode cX6_exact 6 = .ok (.invokestatic 54, 3) := by decide +kernel
theorem dX6_exact_9 : decode cX6_exact 9 = .ok (.ifCond .ne 7, 3) := by decide +kernel
theorem dX6_exact_12 : decode cX6_exact 12 = .ok (.ldc2_w 231, 3) := by decide +kernel
theorem dX6_exact_15 : decode cX6_exact 15 = .ok (.lreturn, 1) := by decide +kernel
theorem dX6_exact_16 : decode cX6_exact 16 = .ok (.aload_n 0, 1) := by decide +kernel
theorem dX6_exact_17 : decode cX6_exact 17 = .ok (.getfield 144, 3) := by decide +kernel
theorem dX6_exact_20 : decode cX6_exact 20 = .ok (.ifCond .ne 9, 3) := by decide +kernel
theorem dX6_exact_23 : decode cX6_exact 23 = .ok (.ldc2_w 233, 3) := by decide +kernel
theorem dX6_exact_26 : decode cX6_exact 26 = .ok (.goto 12, 3) := by decide +kernel
theorem dX6_exact_29 : decode cX6_exact 29 = .ok (.aload_n 0, 1) := by decide +kernel
theorem dX6_exact_30 : decode cX6_exact 30 = .ok (.iload_n 1, 1) := by decide +kernel
theorem dX6_exact_31 : decode cX6_exact 31 = .ok (.invokevirtual 225, 3) := by decide +kernel
theorem dX6_exact_34 : decode cX6_exact 34 = .ok (.f2d, 1) := by decide +kernel
theorem dX6_exact_35 : decode cX6_exact 35 = .ok (.invokestatic 235, 3) := by decide +kernel
theorem dX6_exact_38 : decode cX6_exact 38 = .ok (.lreturn, 1) := by decide +kernel
set_option maxRecDepth 20000 in
theorem ggX6_whole_X6_isLayer : GoodIn wsX6_whole wsX6_isLayer := goodIn_r _ [7, 8, 9, 6, 10] (by decide +kernel) (by decide +kernel)
set_option maxRecDepth 20000 in
theorem gX6_whole_X6_isLayer : GoodIn wsX6_whole (va_wsS RX6 207 yX6_isLayer wsX6_isLayer) := goodIn_app (goodIn_of _ (by decide +kernel)) ggX6_whole_X6_isLayer
theorem dX6_whole_0 : decode cX6_whole 0 = .ok (.iload_n 1, 1) := by decide +kernel
theorem dX6_whole_1 : decode cX6_whole 1 = .ok (.invokestatic 207, 3) := by decide +kernel
theorem dX6_whole_4 : decode cX6_whole 4 = .ok (.ifCond .ne 6, 3) := by decide +kernel
theorem dX6_whole_7 : decode cX6_whole 7 = .ok (.bipush (-2), 2) := by decide +kernel
theorem dX6_whole_9 : decode cX6_whole 9 = .ok (.ireturn, 1) := by decide +kernel
theorem dX6_whole_10 : decode cX6_whole 10 = .ok (.aload_n 0, 1) := by decide +kernel
theorem dX6_whole_11 : decode cX6_whole 11 = .ok (.getfield 144, 3) := by decide +kernel
theorem dX6_whole_14 : decode cX6_whole 14 = .ok (.ifCond .ne 6, 3) := by decide +kernel
theorem dX6_whole_17 : decode cX6_whole 17 = .ok (.bipush (-4), 2) := by decide +kernel
theorem dX6_whole_19 : decode cX6_whole 19 = .ok (.ireturn, 1) := by decide +kernel
theorem dX6_whole_20 : decode cX6_whole 20 = .ok (.fconst 0, 1) := by decide +kernel
theorem dX6_whole_21 : decode cX6_whole 21 = .ok (.fstore_n 2, 1) := by decide +kernel
theorem dX6_whole_22 : decode cX6_whole 22 = .ok (.iconst 0, 1) := by decide +kernel
theorem dX6_whole_23 : decode cX6_whole 23 = .ok (.istore_n 3, 1) := by decide +kernel
theorem dX6_whole_24 : decode cX6_whole 24 = .ok (.iload_n 3, 1) := by decide +kernel
theorem dX6_whole_25 : decode cX6_whole 25 = .ok (.bipush 6, 2) := by decide +kernel
theorem dX6_whole_27 : decode cX6_whole 27 = .ok (.if_icmp .ge 23, 3) := by decide +kernel
theorem dX6_whole_30 : decode cX6_whole 30 = .ok (.fload_n 2, 1) := by decide +kernel
theorem dX6_whole_31 : decode cX6_whole 31 = .ok (.aload_n 0, 1) := by decide +kernel
theorem dX6_whole_32 : decode cX6_whole 32 = .ok (.getfield 23, 3) := by decide +kernel
theorem dX6_whole_35 : decode cX6_whole 35 = .ok (.bipush 6, 2) := by decide +kernel
theorem dX6_whole_37 : decode cX6_whole 37 = .ok (.iload_n 1, 1) := by decide +kernel
theorem dX6_whole_38 : decode cX6_whole 38 = .ok (.imul, 1) := by decide +kernel
theorem dX6_whole_39 : decode cX6_whole 39 = .ok (.iload_n 3, 1) := by decide +kernel
theorem dX6_whole_40 : decode cX6_whole 40 = .ok (.iadd, 1) := by decide +kernel
theorem dX6_whole_41 : decode cX6_whole 41 = .ok (.faload, 1) := by decide +kernel
theorem dX6_whole_42 : decode cX6_whole 42 = .ok (.fadd, 1) := by decide +kernel
theorem dX6_whole_43 : decode cX6_whole 43 = .ok (.fstore_n 2, 1) := by decide +kernel
theorem dX6_whole_44 : decode cX6_whole 44 = .ok (.iinc 3 1, 3) := by decide +kernel
theorem dX6_whole_47 : decode cX6_whole 47 = .ok (.goto (-23), 3) := by decide +kernel
theorem dX6_whole_50 : decode cX6_whole 50 = .ok (.fload_n 2, 1) := by decide +kernel
theorem dX6_whole_51 : decode cX6_whole 51 = .ok (.fconst 1, 1) := by decide +kernel
theorem dX6_whole_52 : decode cX6_whole 52 = .ok (.fsub, 1) := by decide +kernel
theorem dX6_whole_53 : decode cX6_whole 53 = .ok (.ldc 241, 2) := by decide +kernel
theorem dX6_whole_55 : decode cX6_whole 55 = .ok (.fmul, 1) := by decide +kernel
theorem dX6_whole_56 : decode cX6_whole 56 = .ok (.f2i, 1) := by decide +kernel
theorem dX6_whole_57 : decode cX6_whole 57 = .ok (.bipush 100, 2) := by decide +kernel
theorem dX6_whole_59 : decode cX6_whole 59 = .ok (.iadd, 1) := by decide +kernel
theorem dX6_whole_60 : decode cX6_whole 60 = .ok (.ireturn, 1) := by decide +kernel
theorem dX6_nextOf_0 : decode cX6_nextOf 0 = .ok (.iconst 0, 1) := by decide +kernel
theorem dX6_nextOf_1 : decode cX6_nextOf 1 = .ok (.istore_n 2, 1) := by decide +kernel
theorem dX6_nextOf_2 : decode cX6_nextOf 2 = .ok (.iconst 0, 1) := by decide +kernel
theorem dX6_nextOf_3 : decode cX6_nextOf 3 = .ok (.istore_n 3, 1) := by decide +kernel
theorem dX6_nextOf_4 : decode cX6_nextOf 4 = .ok (.iload_n 3, 1) := by decide +kernel
theorem dX6_nextOf_5 : decode cX6_nextOf 5 = .ok (.aload_n 0, 1) := by decide +kernel
theorem dX6_nextOf_6 : decode cX6_nextOf 6 = .ok (.getfield 147, 3) := by decide +kernel
theorem dX6_nextOf_9 : decode cX6_nextOf 9 = .ok (.if_icmp .ge 60, 3) := by decide +kernel
theorem dX6_nextOf_12 : decode cX6_nextOf 12 = .ok (.iload_n 2, 1) := by decide +kernel
theorem dX6_nextOf_13 : decode cX6_nextOf 13 = .ok (.aload_n 0, 1) := by decide +kernel
theorem dX6_nextOf_14 : decode cX6_nextOf 14 = .ok (.getfield 17, 3) := by decide +kernel
theorem dX6_nextOf_17 : decode cX6_nextOf 17 = .ok (.bipush 8, 2) := by decide +kernel
theorem dX6_nextOf_19 : decode cX6_nextOf 19 = .ok (.iload_n 3, 1) := by decide +kernel
theorem dX6_nextOf_20 : decode cX6_nextOf 20 = .ok (.imul, 1) := by decide +kernel
theorem dX6_nextOf_21 : decode cX6_nextOf 21 = .ok (.iconst 0, 1) := by decide +kernel
theorem dX6_nextOf_22 : decode cX6_nextOf 22 = .ok (.iadd, 1) := by decide +kernel
theorem dX6_nextOf_23 : decode cX6_nextOf 23 = .ok (.iaload, 1) := by decide +kernel
theorem dX6_nextOf_24 : decode cX6_nextOf 24 = .ok (.iload_n 1, 1) := by decide +kernel
theorem dX6_nextOf_25 : decode cX6_nextOf 25 = .ok (.if_icmp .eq 19, 3) := by decide +kernel
theorem dX6_nextOf_28 : decode cX6_nextOf 28 = .ok (.aload_n 0, 1) := by decide +kernel
theorem dX6_nextOf_29 : decode cX6_nextOf 29 = .ok (.getfield 17, 3) := by decide +kernel
theorem dX6_nextOf_32 : decode cX6_nextOf 32 = .ok (.bipush 8, 2) := by decide +kernel
theorem dX6_nextOf_34 : decode cX6_nextOf 34 = .ok (.iload_n 3, 1) := by decide +kernel
theorem dX6_nextOf_35 : decode cX6_nextOf 35 = .ok (.imul, 1) := by decide +kernel
theorem dX6_nextOf_36 : decode cX6_nextOf 36 = .ok (.iconst 0, 1) := by decide +kernel
theorem dX6_nextOf_37 : decode cX6_nextOf 37 = .ok (.iadd, 1) := by decide +kernel
theorem dX6_nextOf_38 : decode cX6_nextOf 38 = .ok (.iaload, 1) := by decide +kernel
theorem dX6_nextOf_39 : decode cX6_nextOf 39 = .ok (.bipush 9, 2) := by decide +kernel
theorem dX6_nextOf_41 : decode cX6_nextOf 41 = .ok (.if_icmp .ne 19, 3) := by decide +kernel
theorem dX6_nextOf_44 : decode cX6_nextOf 44 = .ok (.iconst 1, 1) := by decide +kernel
theorem dX6_nextOf_45 : decode cX6_nextOf 45 = .ok (.aload_n 0, 1) := by decide +kernel
theorem dX6_nextOf_46 : decode cX6_nextOf 46 = .ok (.getfield 17, 3) := by decide +kernel
theorem dX6_nextOf_49 : decode cX6_nextOf 49 = .ok (.bipush 8, 2) := by decide +kernel
theorem dX6_nextOf_51 : decode cX6_nextOf 51 = .ok (.iload_n 3, 1) := by decide +kernel
theorem dX6_nextOf_52 : decode cX6_nextOf 52 = .ok (.imul, 1) := by decide +kernel
theorem dX6_nextOf_53 : decode cX6_nextOf 53 = .ok (.iconst 1, 1) := by decide +kernel
theorem dX6_nextOf_54 : decode cX6_nextOf 54 = .ok (.iadd, 1) := by decide +kernel
theorem dX6_nextOf_55 : decode cX6_nextOf 55 = .ok (.iaload, 1) := by decide +kernel
theorem dX6_nextOf_56 : decode cX6_nextOf 56 = .ok (.ishl, 1) := by decide +kernel
theorem dX6_nextOf_57 : decode cX6_nextOf 57 = .ok (.goto 4, 3) := by decide +kernel
theorem dX6_nextOf_60 : decode cX6_nextOf 60 = .ok (.iconst 0, 1) := by decide +kernel
theorem dX6_nextOf_61 : decode cX6_nextOf 61 = .ok (.ior, 1) := by decide +kernel
theorem dX6_nextOf_62 : decode cX6_nextOf 62 = .ok (.istore_n 2, 1) := by decide +kernel
theorem dX6_nextOf_63 : decode cX6_nextOf 63 = .ok (.iinc 3 1, 3) := by decide +kernel
theorem dX6_nextOf_66 : decode cX6_nextOf 66 = .ok (.goto (-62), 3) := by decide +kernel
theorem dX6_nextOf_69 : decode cX6_nextOf 69 = .ok (.iload_n 2, 1) := by decide +kernel
theorem dX6_nextOf_70 : decode cX6_nextOf 70 = .ok (.ireturn, 1) := by decide +kernel
set_option maxRecDepth 20000 in
theorem ggX6_reach_X6_isState : GoodIn wsX6_reach wsX6_isState := goodIn_r _ [6, 1, 7, 8, 5, 9, 19, 20, 21, 22, 23, 24, 25, 26, 27, 28, 29, 30, 31, 32, 33, 34, 35, 36, 37, 38, 39, 40, 41] (by decide +kernel) (by decide +kernel)
set_option maxRecDepth 20000 in
theorem gX6_reach_X6_isState : GoodIn wsX6_reach (wsV RX6 159 RX6 yX6_isState wsX6_isState) := goodIn_app (goodIn_of _ (by decide +kernel)) ggX6_reach_X6_isState
set_option maxRecDepth 20000 in
theorem ggX6_reach_X6_has : GoodIn wsX6_reach wsX6_has := goodIn_r _ [12] (by decide +kernel) (by decide +kernel)
set_option maxRecDepth 20000 in
theorem gX6_reach_X6_has : GoodIn wsX6_reach (va_wsS RX6 179 yX6_has wsX6_has) := goodIn_app (goodIn_of _ (by decide +kernel)) ggX6_reach_X6_has
set_option maxRecDepth 20000 in
theorem ggX6_reach_X6_nextOf : GoodIn wsX6_reach wsX6_nextOf := goodIn_r _ [16, 17, 18, 19, 20, 21, 22, 23, 24, 25, 26, 27, 28, 29, 30, 31, 32, 33, 34, 35, 36, 37, 38, 39, 40, 41] (by decide +kernel) (by decide +kernel)
set_option maxRecDepth 20000 in
theorem gX6_reach_X6_nextOf : GoodIn wsX6_reach (wsV RX6 242 RX6 yX6_nextOf wsX6_nextOf) := goodIn_app (goodIn_of _ (by decide +kernel)) ggX6_reach_X6_nextOf
theorem dX6_reach_0 : decode cX6_reach 0 = .ok (.aload_n 0, 1) := by decide +kernel
theorem dX6_reach_1 : decode cX6_reach 1 = .ok (.iload_n 1, 1) := by decide +kernel
theorem dX6_reach_2 : decode cX6_reach 2 = .ok (.invokevirtual 159, 3) := by decide +kernel
theorem dX6_reach_5 : decode cX6_reach 5 = .ok (.ifCond .ne 6, 3) := by decide +kernel
theorem dX6_reach_8 : decode cX6_reach 8 = .ok (.bipush (-2), 2) := by decide +kernel
theorem dX6_reach_10 : decode cX6_reach 10 = .ok (.ireturn, 1) := by decide +kernel
theorem dX6_reach_11 : decode cX6_reach 11 = .ok (.iconst 1, 1) := by decide +kernel
theorem dX6_reach_12 : decode cX6_reach 12 = .ok (.iload_n 1, 1) := by decide +kernel
theorem dX6_reach_13 : decode cX6_reach 13 = .ok (.ishl, 1) := by decide +kernel
theorem dX6_reach_14 : decode cX6_reach 14 = .ok (.istore_n 2, 1) := by decide +kernel
theorem dX6_reach_15 : decode cX6_reach 15 = .ok (.iconst 0, 1) := by decide +kernel
theorem dX6_reach_16 : decode cX6_reach 16 = .ok (.istore_n 3, 1) := by decide +kernel
theorem dX6_reach_17 : decode cX6_reach 17 = .ok (.iload_n 3, 1) := by decide +kernel
theorem dX6_reach_18 : decode cX6_reach 18 = .ok (.bipush 6, 2) := by decide +kernel
theorem dX6_reach_20 : decode cX6_reach 20 = .ok (.if_icmp .ge 49, 3) := by decide +kernel
theorem dX6_reach_23 : decode cX6_reach 23 = .ok (.iconst 0, 1) := by decide +kernel
theorem dX6_reach_24 : decode cX6_reach 24 = .ok (.istore 4, 2) := by decide +kernel
theorem dX6_reach_26 : decode cX6_reach 26 = .ok (.iload 4, 2) := by decide +kernel
theorem dX6_reach_28 : decode cX6_reach 28 = .ok (.aload_n 0, 1) := by decide +kernel
theorem dX6_reach_29 : decode cX6_reach 29 = .ok (.getfield 144, 3) := by decide +kernel
theorem dX6_reach_32 : decode cX6_reach 32 = .ok (.if_icmp .ge 31, 3) := by decide +kernel
theorem dX6_reach_35 : decode cX6_reach 35 = .ok (.iload_n 2, 1) := by decide +kernel
theorem dX6_reach_36 : decode cX6_reach 36 = .ok (.iload_n 2, 1) := by decide +kernel
theorem dX6_reach_37 : decode cX6_reach 37 = .ok (.iload 4, 2) := by decide +kernel
theorem dX6_reach_39 : decode cX6_reach 39 = .ok (.invokestatic 179, 3) := by decide +kernel
theorem dX6_reach_42 : decode cX6_reach 42 = .ok (.ifCond .eq 12, 3) := by decide +kernel
theorem dX6_reach_45 : decode cX6_reach 45 = .ok (.aload_n 0, 1) := by decide +kernel
theorem dX6_reach_46 : decode cX6_reach 46 = .ok (.iload 4, 2) := by decide +kernel
theorem dX6_reach_48 : decode cX6_reach 48 = .ok (.invokevirtual 242, 3) := by decide +kernel
theorem dX6_reach_51 : decode cX6_reach 51 = .ok (.goto 4, 3) := by decide +kernel
theorem dX6_reach_54 : decode cX6_reach 54 = .ok (.iconst 0, 1) := by decide +kernel
theorem dX6_reach_55 : decode cX6_reach 55 = .ok (.ior, 1) := by decide +kernel
theorem dX6_reach_56 : decode cX6_reach 56 = .ok (.istore_n 2, 1) := by decide +kernel
theorem dX6_reach_57 : decode cX6_reach 57 = .ok (.iinc 4 1, 3) := by decide +kernel
theorem dX6_reach_60 : decode cX6_reach 60 = .ok (.goto (-34), 3) := by decide +kernel
theorem dX6_reach_63 : decode cX6_reach 63 = .ok (.iinc 3 1, 3) := by decide +kernel
theorem dX6_reach_66 : decode cX6_reach 66 = .ok (.goto (-49), 3) := by decide +kernel
theorem dX6_reach_69 : decode cX6_reach 69 = .ok (.iload_n 2, 1) := by decide +kernel
theorem dX6_reach_70 : decode cX6_reach 70 = .ok (.ireturn, 1) := by decide +kernel
set_option maxRecDepth 20000 in
theorem ggX6_dead_X6_nextOf : GoodIn wsX6_dead wsX6_nextOf := goodIn_r _ [6, 7, 8, 9, 10, 11, 12, 13, 14, 15, 16, 17, 18, 19, 20, 21, 22, 23, 24, 25, 26, 27, 28, 29, 30, 31] (by decide +kernel) (by decide +kernel)
set_option maxRecDepth 20000 in
theorem gX6_dead_X6_nextOf : GoodIn wsX6_dead (wsV RX6 242 RX6 yX6_nextOf wsX6_nextOf) := goodIn_app (goodIn_of _ (by decide +kernel)) ggX6_dead_X6_nextOf
theorem dX6_dead_0 : decode cX6_dead 0 = .ok (.aload_n 0, 1) := by decide +kernel
theorem dX6_dead_1 : decode cX6_dead 1 = .ok (.getfield 144, 3) := by decide +kernel
theorem dX6_dead_4 : decode cX6_dead 4 = .ok (.ifCond .ne 6, 3) := by decide +kernel
theorem dX6_dead_7 : decode cX6_dead 7 = .ok (.bipush (-4), 2) := by decide +kernel
theorem dX6_dead_9 : decode cX6_dead 9 = .ok (.ireturn, 1) := by decide +kernel
theorem dX6_dead_10 : decode cX6_dead 10 = .ok (.iconst 0, 1) := by decide +kernel
theorem dX6_dead_11 : decode cX6_dead 11 = .ok (.istore_n 1, 1) := by decide +kernel
theorem dX6_dead_12 : decode cX6_dead 12 = .ok (.iconst 0, 1) := by decide +kernel
theorem dX6_dead_13 : decode cX6_dead 13 = .ok (.istore_n 2, 1) := by decide +kernel
theorem dX6_dead_14 : decode cX6_dead 14 = .ok (.iload_n 2, 1) := by decide +kernel
theorem dX6_dead_15 : decode cX6_dead 15 = .ok (.aload_n 0, 1) := by decide +kernel
theorem dX6_dead_16 : decode cX6_dead 16 = .ok (.getfield 144, 3) := by decide +kernel
theorem dX6_dead_19 : decode cX6_dead 19 = .ok (.if_icmp .ge 33, 3) := by decide +kernel
theorem dX6_dead_22 : decode cX6_dead 22 = .ok (.iload_n 1, 1) := by decide +kernel
theorem dX6_dead_23 : decode cX6_dead 23 = .ok (.aload_n 0, 1) := by decide +kernel
theorem dX6_dead_24 : decode cX6_dead 24 = .ok (.iload_n 2, 1) := by decide +kernel
theorem dX6_dead_25 : decode cX6_dead 25 = .ok (.invokevirtual 242, 3) := by decide +kernel
theorem dX6_dead_28 : decode cX6_dead 28 = .ok (.iconst 1, 1) := by decide +kernel
theorem dX6_dead_29 : decode cX6_dead 29 = .ok (.iload_n 2, 1) := by decide +kernel
theorem dX6_dead_30 : decode cX6_dead 30 = .ok (.ishl, 1) := by decide +kernel
theorem dX6_dead_31 : decode cX6_dead 31 = .ok (.iconst (-1), 1) := by decide +kernel
theorem dX6_dead_32 : decode cX6_dead 32 = .ok (.ixor, 1) := by decide +kernel
theorem dX6_dead_33 : decode cX6_dead 33 = .ok (.iand, 1) := by decide +kernel
theorem dX6_dead_34 : decode cX6_dead 34 = .ok (.ifCond .ne 9, 3) := by decide +kernel
theorem dX6_dead_37 : decode cX6_dead 37 = .ok (.iconst 1, 1) := by decide +kernel
theorem dX6_dead_38 : decode cX6_dead 38 = .ok (.iload_n 2, 1) := by decide +kernel
theorem dX6_dead_39 : decode cX6_dead 39 = .ok (.ishl, 1) := by decide +kernel
theorem dX6_dead_40 : decode cX6_dead 40 = .ok (.goto 4, 3) := by decide +kernel
theorem dX6_dead_43 : decode cX6_dead 43 = .ok (.iconst 0, 1) := by decide +kernel
theorem dX6_dead_44 : decode cX6_dead 44 = .ok (.ior, 1) := by decide +kernel
theorem dX6_dead_45 : decode cX6_dead 45 = .ok (.istore_n 1, 1) := by decide +kernel
theorem dX6_dead_46 : decode cX6_dead 46 = .ok (.iinc 2 1, 3) := by decide +kernel
theorem dX6_dead_49 : decode cX6_dead 49 = .ok (.goto (-35), 3) := by decide +kernel
theorem dX6_dead_52 : decode cX6_dead 52 = .ok (.iload_n 1, 1) := by decide +kernel
theorem dX6_dead_53 : decode cX6_dead 53 = .ok (.ireturn, 1) := by decide +kernel
set_option maxRecDepth 20000 in
theorem ggX6_until_X6_isLayer : GoodIn wsX6_until wsX6_isLayer := goodIn_r _ [5, 6, 7, 4, 8] (by decide +kernel) (by decide +kernel)
set_option maxRecDepth 20000 in
theorem gX6_until_X6_isLayer : GoodIn wsX6_until (va_wsS RX6 207 yX6_isLayer wsX6_isLayer) := goodIn_app (goodIn_of _ (by decide +kernel)) ggX6_until_X6_isLayer
set_option maxRecDepth 20000 in
theorem ggX6_until_X6_isState : GoodIn wsX6_until wsX6_isState := goodIn_r _ [12, 13, 6, 7, 4, 8, 48, 49, 50, 51, 52, 53, 54, 55, 56, 57, 58, 59, 60, 61, 62, 63, 64, 65, 66, 67, 68, 69, 70] (by decide +kernel) (by decide +kernel)
set_option maxRecDepth 20000 in
theorem gX6_until_X6_isState : GoodIn wsX6_until (wsV RX6 159 RX6 yX6_isState wsX6_isState) := goodIn_app (goodIn_of _ (by decide +kernel)) ggX6_until_X6_isState
set_option maxRecDepth 20000 in
theorem ggX6_until_X6_copy : GoodIn wsX6_until wsX6_copy := goodIn_r _ [17, 1, 18, 48, 49, 50, 51, 52, 53, 54, 55, 56, 57, 58, 59, 60, 61, 62, 63, 64, 65, 66, 67, 68, 69, 70] (by decide +kernel) (by decide +kernel)
set_option maxRecDepth 20000 in
theorem gX6_until_X6_copy : GoodIn wsX6_until (wsV RX6 166 RX6 yX6_copy wsX6_copy) := goodIn_app (goodIn_of _ (by decide +kernel)) ggX6_until_X6_copy
set_option maxRecDepth 20000 in
theorem ggX6_until_X6_frame : GoodIn wsX6_until wsX6_frame := goodIn_r _ [22, 23, 24, 25, 4, 26, 1, 27, 18, 28, 29, 30, 31, 32, 33, 34, 35, 36, 37, 38, 39, 40, 41, 42, 43, 44, 45, 46, 47, 48, 49, 50, 51, 52, 53, 54, 55, 56, 57, 58, 59, 60, 61, 62, 63, 64, 65, 66, 67, 68, 69, 70] (by decide +kernel) (by decide +kernel)
set_option maxRecDepth 20000 in
theorem gX6_until_X6_frame : GoodIn wsX6_until (wsV RX6 199 RX6 yX6_frame wsX6_frame) := goodIn_app (goodIn_of _ (by decide +kernel)) ggX6_until_X6_frame
theorem dX6_until_0 : decode cX6_until 0 = .ok (.iload_n 1, 1) := by decide +kernel
theorem dX6_until_1 : decode cX6_until 1 = .ok (.invokestatic 207, 3) := by decide +kernel
theorem dX6_until_4 : decode cX6_until 4 = .ok (.ifCond .eq 11, 3) := by decide +kernel
theorem dX6_until_7 : decode cX6_until 7 = .ok (.aload_n 0, 1) := by decide +kernel
theorem dX6_until_8 : decode cX6_until 8 = .ok (.iload_n 2, 1) := by decide +kernel
theorem dX6_until_9 : decode cX6_until 9 = .ok (.invokevirtual 159, 3) := by decide +kernel
theorem dX6_until_12 : decode cX6_until 12 = .ok (.ifCond .ne 6, 3) := by decide +kernel
theorem dX6_until_15 : decode cX6_until 15 = .ok (.bipush (-2), 2) := by decide +kernel
theorem dX6_until_17 : decode cX6_until 17 = .ok (.ireturn, 1) := by decide +kernel
theorem dX6_until_18 : decode cX6_until 18 = .ok (.aload_n 0, 1) := by decide +kernel
theorem dX6_until_19 : decode cX6_until 19 = .ok (.iconst 0, 1) := by decide +kernel
theorem dX6_until_20 : decode cX6_until 20 = .ok (.iconst 1, 1) := by decide +kernel
theorem dX6_until_21 : decode cX6_until 21 = .ok (.invokevirtual 166, 3) := by decide +kernel
theorem dX6_until_24 : decode cX6_until 24 = .ok (.iconst 0, 1) := by decide +kernel
theorem dX6_until_25 : decode cX6_until 25 = .ok (.istore_n 3, 1) := by decide +kernel
theorem dX6_until_26 : decode cX6_until 26 = .ok (.aload_n 0, 1) := by decide +kernel
theorem dX6_until_27 : decode cX6_until 27 = .ok (.getfield 20, 3) := by decide +kernel
theorem dX6_until_30 : decode cX6_until 30 = .ok (.bipush 14, 2) := by decide +kernel
theorem dX6_until_32 : decode cX6_until 32 = .ok (.iconst 5, 1) := by decide +kernel
theorem dX6_until_33 : decode cX6_until 33 = .ok (.iload_n 1, 1) := by decide +kernel
theorem dX6_until_34 : decode cX6_until 34 = .ok (.imul, 1) := by decide +kernel
theorem dX6_until_35 : decode cX6_until 35 = .ok (.iadd, 1) := by decide +kernel
theorem dX6_until_36 : decode cX6_until 36 = .ok (.iconst 0, 1) := by decide +kernel
theorem dX6_until_37 : decode cX6_until 37 = .ok (.iadd, 1) := by decide +kernel
theorem dX6_until_38 : decode cX6_until 38 = .ok (.iaload, 1) := by decide +kernel
theorem dX6_until_39 : decode cX6_until 39 = .ok (.iload_n 2, 1) := by decide +kernel
theorem dX6_until_40 : decode cX6_until 40 = .ok (.if_icmp .eq 23, 3) := by decide +kernel
theorem dX6_until_43 : decode cX6_until 43 = .ok (.iload_n 3, 1) := by decide +kernel
theorem dX6_until_44 : decode cX6_until 44 = .ok (.sipush 300, 3) := by decide +kernel
theorem dX6_until_47 : decode cX6_until 47 = .ok (.if_icmp .ne 5, 3) := by decide +kernel
theorem dX6_until_50 : decode cX6_until 50 = .ok (.iconst (-1), 1) := by decide +kernel
theorem dX6_until_51 : decode cX6_until 51 = .ok (.ireturn, 1) := by decide +kernel
theorem dX6_until_52 : decode cX6_until 52 = .ok (.aload_n 0, 1) := by decide +kernel
theorem dX6_until_53 : decode cX6_until 53 = .ok (.iconst 1, 1) := by decide +kernel
theorem dX6_until_54 : decode cX6_until 54 = .ok (.invokevirtual 199, 3) := by decide +kernel
theorem dX6_until_57 : decode cX6_until 57 = .ok (.iinc 3 1, 3) := by decide +kernel
theorem dX6_until_60 : decode cX6_until 60 = .ok (.goto (-34), 3) := by decide +kernel
theorem dX6_until_63 : decode cX6_until 63 = .ok (.iload_n 3, 1) := by decide +kernel
theorem dX6_until_64 : decode cX6_until 64 = .ok (.ireturn, 1) := by decide +kernel
set_option maxRecDepth 20000 in
theorem ggX6_pulled_X6_isLayer : GoodIn wsX6_pulled wsX6_isLayer := goodIn_r _ [6, 7, 8, 5, 9] (by decide +kernel) (by decide +kernel)
set_option maxRecDepth 20000 in
theorem gX6_pulled_X6_isLayer : GoodIn wsX6_pulled (va_wsS RX6 207 yX6_isLayer wsX6_isLayer) := goodIn_app (goodIn_of _ (by decide +kernel)) ggX6_pulled_X6_isLayer
set_option maxRecDepth 20000 in
theorem ggX6_pulled_X6_isThird : GoodIn wsX6_pulled wsX6_isThird := goodIn_r _ [12, 13, 7, 8, 5, 9] (by decide +kernel) (by decide +kernel)
set_option maxRecDepth 20000 in
theorem gX6_pulled_X6_isThird : GoodIn wsX6_pulled (va_wsS RX6 169 yX6_isThird wsX6_isThird) := goodIn_app (goodIn_of _ (by decide +kernel)) ggX6_pulled_X6_isThird
set_option maxRecDepth 20000 in
theorem ggX6_pulled_X6_has : GoodIn wsX6_pulled wsX6_has := goodIn_r _ [16] (by decide +kernel) (by decide +kernel)
set_option maxRecDepth 20000 in
theorem gX6_pulled_X6_has : GoodIn wsX6_pulled (va_wsS RX6 179 yX6_has wsX6_has) := goodIn_app (goodIn_of _ (by decide +kernel)) ggX6_pulled_X6_has
set_option maxRecDepth 20000 in
theorem ggX6_pulled_X6_copy : GoodIn wsX6_pulled wsX6_copy := goodIn_r _ [20, 2, 21, 48, 49, 50, 51, 52, 53, 54, 55, 56, 57, 58, 59, 60, 61, 62, 63, 64, 65, 66, 67, 68, 69, 70] (by decide +kernel) (by decide +kernel)
set_option maxRecDepth 20000 in
theorem gX6_pulled_X6_copy : GoodIn wsX6_pulled (wsV RX6 166 RX6 yX6_copy wsX6_copy) := goodIn_app (goodIn_of _ (by decide +kernel)) ggX6_pulled_X6_copy
set_option maxRecDepth 20000 in
theorem ggX6_pulled_X6_frame : GoodIn wsX6_pulled wsX6_frame := goodIn_r _ [25, 26, 27, 28, 5, 29, 2, 30, 21, 31, 32, 33, 34, 35, 36, 37, 38, 39, 14, 15, 16, 40, 41, 42, 43, 44, 45, 46, 47, 48, 49, 50, 51, 52, 53, 54, 55, 56, 57, 58, 59, 60, 61, 62, 63, 64, 65, 66, 67, 68, 69, 70] (by decide +kernel) (by decide +kernel)
set_option maxRecDepth 20000 in
theorem gX6_pulled_X6_frame : GoodIn wsX6_pulled (wsV RX6 199 RX6 yX6_frame wsX6_frame) := goodIn_app (goodIn_of _ (by decide +kernel)) ggX6_pulled_X6_frame
theorem dX6_pulled_0 : decode cX6_pulled 0 = .ok (.iload_n 1, 1) := by decide +kernel
theorem dX6_pulled_1 : decode cX6_pulled 1 = .ok (.invokestatic 207, 3) := by decide +kernel
theorem dX6_pulled_4 : decode cX6_pulled 4 = .ok (.ifCond .eq 10, 3) := by decide +kernel
theorem dX6_pulled_7 : decode cX6_pulled 7 = .ok (.iload_n 2, 1) := by decide +kernel
theorem dX6_pulled_8 : decode cX6_pulled 8 = .ok (.invokestatic 169, 3) := by decide +kernel
theorem dX6_pulled_11 : decode cX6_pulled 11 = .ok (.ifCond .ne 6, 3) := by decide +kernel
theorem dX6_pulled_14 : decode cX6_pulled 14 = .ok (.bipush (-2), 2) := by decide +kernel
theorem dX6_pulled_16 : decode cX6_pulled 16 = .ok (.ireturn, 1) := by decide +kernel
theorem dX6_pulled_17 : decode cX6_pulled 17 = .ok (.aload_n 0, 1) := by decide +kernel
theorem dX6_pulled_18 : decode cX6_pulled 18 = .ok (.getfield 144, 3) := by decide +kernel
theorem dX6_pulled_21 : decode cX6_pulled 21 = .ok (.ifCond .eq 17, 3) := by decide +kernel
theorem dX6_pulled_24 : decode cX6_pulled 24 = .ok (.aload_n 0, 1) := by decide +kernel
theorem dX6_pulled_25 : decode cX6_pulled 25 = .ok (.getfield 20, 3) := by decide +kernel
theorem dX6_pulled_28 : decode cX6_pulled 28 = .ok (.bipush 13, 2) := by decide +kernel
theorem dX6_pulled_30 : decode cX6_pulled 30 = .ok (.iaload, 1) := by decide +kernel
theorem dX6_pulled_31 : decode cX6_pulled 31 = .ok (.iload_n 2, 1) := by decide +kernel
theorem dX6_pulled_32 : decode cX6_pulled 32 = .ok (.invokestatic 179, 3) := by decide +kernel
theorem dX6_pulled_35 : decode cX6_pulled 35 = .ok (.ifCond .eq 6, 3) := by decide +kernel
theorem dX6_pulled_38 : decode cX6_pulled 38 = .ok (.bipush (-4), 2) := by decide +kernel
theorem dX6_pulled_40 : decode cX6_pulled 40 = .ok (.ireturn, 1) := by decide +kernel
theorem dX6_pulled_41 : decode cX6_pulled 41 = .ok (.aload_n 0, 1) := by decide +kernel
theorem dX6_pulled_42 : decode cX6_pulled 42 = .ok (.iconst 0, 1) := by decide +kernel
theorem dX6_pulled_43 : decode cX6_pulled 43 = .ok (.iconst 1, 1) := by decide +kernel
theorem dX6_pulled_44 : decode cX6_pulled 44 = .ok (.invokevirtual 166, 3) := by decide +kernel
theorem dX6_pulled_47 : decode cX6_pulled 47 = .ok (.aload_n 0, 1) := by decide +kernel
theorem dX6_pulled_48 : decode cX6_pulled 48 = .ok (.getfield 20, 3) := by decide +kernel
theorem dX6_pulled_51 : decode cX6_pulled 51 = .ok (.bipush 27, 2) := by decide +kernel
theorem dX6_pulled_53 : decode cX6_pulled 53 = .ok (.dup2, 1) := by decide +kernel
theorem dX6_pulled_54 : decode cX6_pulled 54 = .ok (.iaload, 1) := by decide +kernel
theorem dX6_pulled_55 : decode cX6_pulled 55 = .ok (.iconst 1, 1) := by decide +kernel
theorem dX6_pulled_56 : decode cX6_pulled 56 = .ok (.iload_n 2, 1) := by decide +kernel
theorem dX6_pulled_57 : decode cX6_pulled 57 = .ok (.ishl, 1) := by decide +kernel
theorem dX6_pulled_58 : decode cX6_pulled 58 = .ok (.ior, 1) := by decide +kernel
theorem dX6_pulled_59 : decode cX6_pulled 59 = .ok (.iastore, 1) := by decide +kernel
theorem dX6_pulled_60 : decode cX6_pulled 60 = .ok (.aload_n 0, 1) := by decide +kernel
theorem dX6_pulled_61 : decode cX6_pulled 61 = .ok (.iconst 1, 1) := by decide +kernel
theorem dX6_pulled_62 : decode cX6_pulled 62 = .ok (.invokevirtual 199, 3) := by decide +kernel
theorem dX6_pulled_65 : decode cX6_pulled 65 = .ok (.aload_n 0, 1) := by decide +kernel
theorem dX6_pulled_66 : decode cX6_pulled 66 = .ok (.getfield 20, 3) := by decide +kernel
theorem dX6_pulled_69 : decode cX6_pulled 69 = .ok (.bipush 14, 2) := by decide +kernel
theorem dX6_pulled_71 : decode cX6_pulled 71 = .ok (.iconst 5, 1) := by decide +kernel
theorem dX6_pulled_72 : decode cX6_pulled 72 = .ok (.iload_n 1, 1) := by decide +kernel
theorem dX6_pulled_73 : decode cX6_pulled 73 = .ok (.imul, 1) := by decide +kernel
theorem dX6_pulled_74 : decode cX6_pulled 74 = .ok (.iadd, 1) := by decide +kernel
theorem dX6_pulled_75 : decode cX6_pulled 75 = .ok (.iconst 0, 1) := by decide +kernel
theorem dX6_pulled_76 : decode cX6_pulled 76 = .ok (.iadd, 1) := by decide +kernel
theorem dX6_pulled_77 : decode cX6_pulled 77 = .ok (.iaload, 1) := by decide +kernel
theorem dX6_pulled_78 : decode cX6_pulled 78 = .ok (.ireturn, 1) := by decide +kernel
set_option maxRecDepth 20000 in
theorem ggX6_shelf_X6_isThird : GoodIn wsX6_shelf wsX6_isThird := goodIn_r _ [7, 8, 9, 10, 6, 11] (by decide +kernel) (by decide +kernel)
set_option maxRecDepth 20000 in
theorem gX6_shelf_X6_isThird : GoodIn wsX6_shelf (va_wsS RX6 169 yX6_isThird wsX6_isThird) := goodIn_app (goodIn_of _ (by decide +kernel)) ggX6_shelf_X6_isThird
theorem dX6_shelf_0 : decode cX6_shelf 0 = .ok (.iload_n 1, 1) := by decide +kernel
theorem dX6_shelf_1 : decode cX6_shelf 1 = .ok (.invokestatic 169, 3) := by decide +kernel
theorem dX6_shelf_4 : decode cX6_shelf 4 = .ok (.ifCond .ne 6, 3) := by decide +kernel
theorem dX6_shelf_7 : decode cX6_shelf 7 = .ok (.bipush (-2), 2) := by decide +kernel
theorem dX6_shelf_9 : decode cX6_shelf 9 = .ok (.ireturn, 1) := by decide +kernel
theorem dX6_shelf_10 : decode cX6_shelf 10 = .ok (.iload_n 2, 1) := by decide +kernel
theorem dX6_shelf_11 : decode cX6_shelf 11 = .ok (.invokestatic 169, 3) := by decide +kernel
theorem dX6_shelf_14 : decode cX6_shelf 14 = .ok (.ifCond .eq 9, 3) := by decide +kernel
theorem dX6_shelf_17 : decode cX6_shelf 17 = .ok (.iload_n 3, 1) := by decide +kernel
theorem dX6_shelf_18 : decode cX6_shelf 18 = .ok (.bipush 8, 2) := by decide +kernel
theorem dX6_shelf_20 : decode cX6_shelf 20 = .ok (.if_icmp .le 6, 3) := by decide +kernel
theorem dX6_shelf_23 : decode cX6_shelf 23 = .ok (.bipush (-3), 2) := by decide +kernel
theorem dX6_shelf_25 : decode cX6_shelf 25 = .ok (.ireturn, 1) := by decide +kernel
theorem dX6_shelf_26 : decode cX6_shelf 26 = .ok (.iload_n 3, 1) := by decide +kernel
theorem dX6_shelf_27 : decode cX6_shelf 27 = .ok (.ifCond .ge 6, 3) := by decide +kernel
theorem dX6_shelf_30 : decode cX6_shelf 30 = .ok (.bipush (-12), 2) := by decide +kernel
theorem dX6_shelf_32 : decode cX6_shelf 32 = .ok (.ireturn, 1) := by decide +kernel
theorem dX6_shelf_33 : decode cX6_shelf 33 = .ok (.aload_n 0, 1) := by decide +kernel
theorem dX6_shelf_34 : decode cX6_shelf 34 = .ok (.getfield 37, 3) := by decide +kernel
theorem dX6_shelf_37 : decode cX6_shelf 37 = .ok (.iload_n 1, 1) := by decide +kernel
theorem dX6_shelf_38 : decode cX6_shelf 38 = .ok (.iload_n 3, 1) := by decide +kernel
theorem dX6_shelf_39 : decode cX6_shelf 39 = .ok (.iastore, 1) := by decide +kernel
theorem dX6_shelf_40 : decode cX6_shelf 40 = .ok (.aload_n 0, 1) := by decide +kernel
theorem dX6_shelf_41 : decode cX6_shelf 41 = .ok (.getfield 40, 3) := by decide +kernel
theorem dX6_shelf_44 : decode cX6_shelf 44 = .ok (.iload_n 1, 1) := by decide +kernel
theorem dX6_shelf_45 : decode cX6_shelf 45 = .ok (.iload_n 2, 1) := by decide +kernel
theorem dX6_shelf_46 : decode cX6_shelf 46 = .ok (.iastore, 1) := by decide +kernel
theorem dX6_shelf_47 : decode cX6_shelf 47 = .ok (.iconst 0, 1) := by decide +kernel
theorem dX6_shelf_48 : decode cX6_shelf 48 = .ok (.istore 4, 2) := by decide +kernel
theorem dX6_shelf_50 : decode cX6_shelf 50 = .ok (.iload 4, 2) := by decide +kernel
theorem dX6_shelf_52 : decode cX6_shelf 52 = .ok (.bipush 8, 2) := by decide +kernel
theorem dX6_shelf_54 : decode cX6_shelf 54 = .ok (.if_icmp .ge 22, 3) := by decide +kernel
theorem dX6_shelf_57 : decode cX6_shelf 57 = .ok (.aload_n 0, 1) := by decide +kernel
theorem dX6_shelf_58 : decode cX6_shelf 58 = .ok (.getfield 43, 3) := by decide +kernel
theorem dX6_shelf_61 : decode cX6_shelf 61 = .ok (.bipush 8, 2) := by decide +kernel
theorem dX6_shelf_63 : decode cX6_shelf 63 = .ok (.iload_n 1, 1) := by decide +kernel
theorem dX6_shelf_64 : decode cX6_shelf 64 = .ok (.imul, 1) := by decide +kernel
theorem dX6_shelf_65 : decode cX6_shelf 65 = .ok (.iload 4, 2) := by decide +kernel
theorem dX6_shelf_67 : decode cX6_shelf 67 = .ok (.iadd, 1) := by decide +kernel
theorem dX6_shelf_68 : decode cX6_shelf 68 = .ok (.iconst (-1), 1) := by decide +kernel
theorem dX6_shelf_69 : decode cX6_shelf 69 = .ok (.iastore, 1) := by decide +kernel
theorem dX6_shelf_70 : decode cX6_shelf 70 = .ok (.iinc 4 1, 3) := by decide +kernel
theorem dX6_shelf_73 : decode cX6_shelf 73 = .ok (.goto (-23), 3) := by decide +kernel
theorem dX6_shelf_76 : decode cX6_shelf 76 = .ok (.iload_n 3, 1) := by decide +kernel
theorem dX6_shelf_77 : decode cX6_shelf 77 = .ok (.ireturn, 1) := by decide +kernel
set_option maxRecDepth 20000 in
theorem ggX6_against_X6_in : GoodIn wsX6_against wsX6_in := goodIn_r _ [5] (by decide +kernel) (by decide +kernel)
set_option maxRecDepth 20000 in
theorem gX6_against_X6_in : GoodIn wsX6_against (va_wsS RX6 54 yX6_in wsX6_in) := goodIn_app (goodIn_of _ (by decide +kernel)) ggX6_against_X6_in
theorem dX6_against_0 : decode cX6_against 0 = .ok (.aload_n 0, 1) := by decide +kernel
theorem dX6_against_1 : decode cX6_against 1 = .ok (.getfield 37, 3) := by decide +kernel
theorem dX6_against_4 : decode cX6_against 4 = .ok (.iload_n 1, 1) := by decide +kernel
theorem dX6_against_5 : decode cX6_against 5 = .ok (.iaload, 1) := by decide +kernel
theorem dX6_against_6 : decode cX6_against 6 = .ok (.ifCond .ge 8, 3) := by decide +kernel
theorem dX6_against_9 : decode cX6_against 9 = .ok (.bipush (-11), 2) := by decide +kernel
theorem dX6_against_11 : decode cX6_against 11 = .ok (.goto 27, 3) := by decide +kernel
theorem dX6_against_14 : decode cX6_against 14 = .ok (.iload_n 2, 1) := by decide +kernel
theorem dX6_against_15 : decode cX6_against 15 = .ok (.i2l, 1) := by decide +kernel
theorem dX6_against_16 : decode cX6_against 16 = .ok (.lconst 0, 1) := by decide +kernel
theorem dX6_against_17 : decode cX6_against 17 = .ok (.aload_n 0, 1) := by decide +kernel
theorem dX6_against_18 : decode cX6_against 18 = .ok (.getfield 37, 3) := by decide +kernel
theorem dX6_against_21 : decode cX6_against 21 = .ok (.iload_n 1, 1) := by decide +kernel
theorem dX6_against_22 : decode cX6_against 22 = .ok (.iaload, 1) := by decide +kernel
theorem dX6_against_23 : decode cX6_against 23 = .ok (.iconst 1, 1) := by decide +kernel
theorem dX6_against_24 : decode cX6_against 24 = .ok (.isub, 1) := by decide +kernel
theorem dX6_against_25 : decode cX6_against 25 = .ok (.i2l, 1) := by decide +kernel
theorem dX6_against_26 : decode cX6_against 26 = .ok (.invokestatic 54, 3) := by decide +kernel
theorem dX6_against_29 : decode cX6_against 29 = .ok (.ifCond .eq 7, 3) := by decide +kernel
theorem dX6_against_32 : decode cX6_against 32 = .ok (.iconst 0, 1) := by decide +kernel
theorem dX6_against_33 : decode cX6_against 33 = .ok (.goto 5, 3) := by decide +kernel
theorem dX6_against_36 : decode cX6_against 36 = .ok (.bipush (-13), 2) := by decide +kernel
theorem dX6_against_38 : decode cX6_against 38 = .ok (.ireturn, 1) := by decide +kernel
theorem dX6_isOther_0 : decode cX6_isOther 0 = .ok (.aload_n 0, 1) := by decide +kernel
theorem dX6_isOther_1 : decode cX6_isOther 1 = .ok (.getfield 40, 3) := by decide +kernel
theorem dX6_isOther_4 : decode cX6_isOther 4 = .ok (.iload_n 1, 1) := by decide +kernel
theorem dX6_isOther_5 : decode cX6_isOther 5 = .ok (.iaload, 1) := by decide +kernel
theorem dX6_isOther_6 : decode cX6_isOther 6 = .ok (.ifCond .eq 17, 3) := by decide +kernel
theorem dX6_isOther_9 : decode cX6_isOther 9 = .ok (.aload_n 0, 1) := by decide +kernel
theorem dX6_isOther_10 : decode cX6_isOther 10 = .ok (.getfield 40, 3) := by decide +kernel
theorem dX6_isOther_13 : decode cX6_isOther 13 = .ok (.iload_n 1, 1) := by decide +kernel
theorem dX6_isOther_14 : decode cX6_isOther 14 = .ok (.iaload, 1) := by decide +kernel
theorem dX6_isOther_15 : decode cX6_isOther 15 = .ok (.iload_n 2, 1) := by decide +kernel
theorem dX6_isOther_16 : decode cX6_isOther 16 = .ok (.if_icmp .eq 7, 3) := by decide +kernel
theorem dX6_isOther_19 : decode cX6_isOther 19 = .ok (.iconst 1, 1) := by decide +kernel
theorem dX6_isOther_20 : decode cX6_isOther 20 = .ok (.goto 4, 3) := by decide +kernel
theorem dX6_isOther_23 : decode cX6_isOther 23 = .ok (.iconst 0, 1) := by decide +kernel
theorem dX6_isOther_24 : decode cX6_isOther 24 = .ok (.ireturn, 1) := by decide +kernel
set_option maxRecDepth 20000 in
theorem ggX6_lay_X6_isThird : GoodIn wsX6_lay wsX6_isThird := goodIn_r _ [7, 1, 8, 9, 6, 10] (by decide +kernel) (by decide +kernel)
set_option maxRecDepth 20000 in
theorem gX6_lay_X6_isThird : GoodIn wsX6_lay (va_wsS RX6 169 yX6_isThird wsX6_isThird) := goodIn_app (goodIn_of _ (by decide +kernel)) ggX6_lay_X6_isThird
set_option maxRecDepth 20000 in
theorem ggX6_lay_X6_in : GoodIn wsX6_lay wsX6_in := goodIn_r _ [10] (by decide +kernel) (by decide +kernel)
set_option maxRecDepth 20000 in
theorem gX6_lay_X6_in : GoodIn wsX6_lay (va_wsS RX6 54 yX6_in wsX6_in) := goodIn_app (goodIn_of _ (by decide +kernel)) ggX6_lay_X6_in
set_option maxRecDepth 20000 in
theorem ggX6_lay_X6_against : GoodIn wsX6_lay wsX6_against := goodIn_r _ [14, 15, 8, 9, 6, 10, 21, 22, 23, 24, 25, 26, 27, 28, 29, 30, 31, 32, 33, 34, 35, 36, 37, 38, 39, 40, 41, 42, 43] (by decide +kernel) (by decide +kernel)
set_option maxRecDepth 20000 in
theorem gX6_lay_X6_against : GoodIn wsX6_lay (wsV RX6 248 RX6 yX6_against wsX6_against) := goodIn_app (goodIn_of _ (by decide +kernel)) ggX6_lay_X6_against
set_option maxRecDepth 20000 in
theorem ggX6_lay_X6_isOther : GoodIn wsX6_lay wsX6_isOther := goodIn_r _ [19, 20, 21, 22, 23, 24, 25, 26, 27, 28, 29, 30, 31, 32, 33, 34, 35, 36, 37, 38, 39, 40, 41, 42, 43] (by decide +kernel) (by decide +kernel)
set_option maxRecDepth 20000 in
theorem gX6_lay_X6_isOther : GoodIn wsX6_lay (wsV RX6 251 RX6 yX6_isOther wsX6_isOther) := goodIn_app (goodIn_of _ (by decide +kernel)) ggX6_lay_X6_isOther
theorem dX6_lay_0 : decode cX6_lay 0 = .ok (.iload_n 1, 1) := by decide +kernel
theorem dX6_lay_1 : decode cX6_lay 1 = .ok (.invokestatic 169, 3) := by decide +kernel
theorem dX6_lay_4 : decode cX6_lay 4 = .ok (.ifCond .ne 6, 3) := by decide +kernel
theorem dX6_lay_7 : decode cX6_lay 7 = .ok (.bipush (-2), 2) := by decide +kernel
theorem dX6_lay_9 : decode cX6_lay 9 = .ok (.ireturn, 1) := by decide +kernel
theorem dX6_lay_10 : decode cX6_lay 10 = .ok (.iload_n 3, 1) := by decide +kernel
theorem dX6_lay_11 : decode cX6_lay 11 = .ok (.i2l, 1) := by decide +kernel
theorem dX6_lay_12 : decode cX6_lay 12 = .ok (.lconst 1, 1) := by decide +kernel
theorem dX6_lay_13 : decode cX6_lay 13 = .ok (.ldc2_w 157, 3) := by decide +kernel
theorem dX6_lay_16 : decode cX6_lay 16 = .ok (.invokestatic 54, 3) := by decide +kernel
theorem dX6_lay_19 : decode cX6_lay 19 = .ok (.ifCond .eq 16, 3) := by decide +kernel
theorem dX6_lay_22 : decode cX6_lay 22 = .ok (.iload 4, 2) := by decide +kernel
theorem dX6_lay_24 : decode cX6_lay 24 = .ok (.i2l, 1) := by decide +kernel
theorem dX6_lay_25 : decode cX6_lay 25 = .ok (.lconst 0, 1) := by decide +kernel
theorem dX6_lay_26 : decode cX6_lay 26 = .ok (.ldc2_w 246, 3) := by decide +kernel
theorem dX6_lay_29 : decode cX6_lay 29 = .ok (.invokestatic 54, 3) := by decide +kernel
theorem dX6_lay_32 : decode cX6_lay 32 = .ok (.ifCond .ne 6, 3) := by decide +kernel
theorem dX6_lay_35 : decode cX6_lay 35 = .ok (.bipush (-3), 2) := by decide +kernel
theorem dX6_lay_37 : decode cX6_lay 37 = .ok (.ireturn, 1) := by decide +kernel
theorem dX6_lay_38 : decode cX6_lay 38 = .ok (.aload_n 0, 1) := by decide +kernel
theorem dX6_lay_39 : decode cX6_lay 39 = .ok (.iload_n 1, 1) := by decide +kernel
theorem dX6_lay_40 : decode cX6_lay 40 = .ok (.iload_n 2, 1) := by decide +kernel
theorem dX6_lay_41 : decode cX6_lay 41 = .ok (.invokevirtual 248, 3) := by decide +kernel
theorem dX6_lay_44 : decode cX6_lay 44 = .ok (.istore 5, 2) := by decide +kernel
theorem dX6_lay_46 : decode cX6_lay 46 = .ok (.iload 5, 2) := by decide +kernel
theorem dX6_lay_48 : decode cX6_lay 48 = .ok (.ifCond .eq 6, 3) := by decide +kernel
theorem dX6_lay_51 : decode cX6_lay 51 = .ok (.iload 5, 2) := by decide +kernel
theorem dX6_lay_53 : decode cX6_lay 53 = .ok (.ireturn, 1) := by decide +kernel
theorem dX6_lay_54 : decode cX6_lay 54 = .ok (.aload_n 0, 1) := by decide +kernel
theorem dX6_lay_55 : decode cX6_lay 55 = .ok (.iload_n 1, 1) := by decide +kernel
theorem dX6_lay_56 : decode cX6_lay 56 = .ok (.iload_n 3, 1) := by decide +kernel
theorem dX6_lay_57 : decode cX6_lay 57 = .ok (.invokevirtual 251, 3) := by decide +kernel
theorem dX6_lay_60 : decode cX6_lay 60 = .ok (.ifCond .eq 6, 3) := by decide +kernel
theorem dX6_lay_63 : decode cX6_lay 63 = .ok (.bipush (-14), 2) := by decide +kernel
theorem dX6_lay_65 : decode cX6_lay 65 = .ok (.ireturn, 1) := by decide +kernel
theorem dX6_lay_66 : decode cX6_lay 66 = .ok (.aload_n 0, 1) := by decide +kernel
theorem dX6_lay_67 : decode cX6_lay 67 = .ok (.getfield 43, 3) := by decide +kernel
theorem dX6_lay_70 : decode cX6_lay 70 = .ok (.bipush 8, 2) := by decide +kernel
theorem dX6_lay_72 : decode cX6_lay 72 = .ok (.iload_n 1, 1) := by decide +kernel
theorem dX6_lay_73 : decode cX6_lay 73 = .ok (.imul, 1) := by decide +kernel
theorem dX6_lay_74 : decode cX6_lay 74 = .ok (.iload_n 2, 1) := by decide +kernel
theorem dX6_lay_75 : decode cX6_lay 75 = .ok (.iadd, 1) := by decide +kernel
theorem dX6_lay_76 : decode cX6_lay 76 = .ok (.iload_n 3, 1) := by decide +kernel
theorem dX6_lay_77 : decode cX6_lay 77 = .ok (.iconst 1, 1) := by decide +kernel
theorem dX6_lay_78 : decode cX6_lay 78 = .ok (.if_icmp .ne 8, 3) := by decide +kernel
theorem dX6_lay_81 : decode cX6_lay 81 = .ok (.iload 4, 2) := by decide +kernel
theorem dX6_lay_83 : decode cX6_lay 83 = .ok (.goto 9, 3) := by decide +kernel
theorem dX6_lay_86 : decode cX6_lay 86 = .ok (.sipush 1000, 3) := by decide +kernel
theorem dX6_lay_89 : decode cX6_lay 89 = .ok (.iload 4, 2) := by decide +kernel
theorem dX6_lay_91 : decode cX6_lay 91 = .ok (.iadd, 1) := by decide +kernel
theorem dX6_lay_92 : decode cX6_lay 92 = .ok (.iastore, 1) := by decide +kernel
theorem dX6_lay_93 : decode cX6_lay 93 = .ok (.iload 4, 2) := by decide +kernel
theorem dX6_lay_95 : decode cX6_lay 95 = .ok (.ireturn, 1) := by decide +kernel
set_option maxRecDepth 20000 in
theorem ggX6_lookOf_X6_against : GoodIn wsX6_lookOf wsX6_against := goodIn_r _ [6, 7, 8, 9, 5, 10, 11, 12, 13, 14, 15, 16, 17, 18, 19, 20, 21, 22, 23, 24, 25, 26, 27, 28, 29, 30, 31, 32, 33] (by decide +kernel) (by decide +kernel)
set_option maxRecDepth 20000 in
theorem gX6_lookOf_X6_against : GoodIn wsX6_lookOf (wsV RX6 248 RX6 yX6_against wsX6_against) := goodIn_app (goodIn_of _ (by decide +kernel)) ggX6_lookOf_X6_against
theorem dX6_lookOf_0 : decode cX6_lookOf 0 = .ok (.aload_n 0, 1) := by decide +kernel
theorem dX6_lookOf_1 : decode cX6_lookOf 1 = .ok (.iload_n 1, 1) := by decide +kernel
theorem dX6_lookOf_2 : decode cX6_lookOf 2 = .ok (.iload_n 2, 1) := by decide +kernel
theorem dX6_lookOf_3 : decode cX6_lookOf 3 = .ok (.invokevirtual 248, 3) := by decide +kernel
theorem dX6_lookOf_6 : decode cX6_lookOf 6 = .ok (.istore_n 3, 1) := by decide +kernel
theorem dX6_lookOf_7 : decode cX6_lookOf 7 = .ok (.iload_n 3, 1) := by decide +kernel
theorem dX6_lookOf_8 : decode cX6_lookOf 8 = .ok (.ifCond .eq 7, 3) := by decide +kernel
theorem dX6_lookOf_11 : decode cX6_lookOf 11 = .ok (.iload_n 3, 1) := by decide +kernel
theorem dX6_lookOf_12 : decode cX6_lookOf 12 = .ok (.goto 34, 3) := by decide +kernel
theorem dX6_lookOf_15 : decode cX6_lookOf 15 = .ok (.aload_n 0, 1) := by decide +kernel
theorem dX6_lookOf_16 : decode cX6_lookOf 16 = .ok (.getfield 43, 3) := by decide +kernel
theorem dX6_lookOf_19 : decode cX6_lookOf 19 = .ok (.bipush 8, 2) := by decide +kernel
theorem dX6_lookOf_21 : decode cX6_lookOf 21 = .ok (.iload_n 1, 1) := by decide +kernel
theorem dX6_lookOf_22 : decode cX6_lookOf 22 = .ok (.imul, 1) := by decide +kernel
theorem dX6_lookOf_23 : decode cX6_lookOf 23 = .ok (.iload_n 2, 1) := by decide +kernel
theorem dX6_lookOf_24 : decode cX6_lookOf 24 = .ok (.iadd, 1) := by decide +kernel
theorem dX6_lookOf_25 : decode cX6_lookOf 25 = .ok (.iaload, 1) := by decide +kernel
theorem dX6_lookOf_26 : decode cX6_lookOf 26 = .ok (.iconst (-1), 1) := by decide +kernel
theorem dX6_lookOf_27 : decode cX6_lookOf 27 = .ok (.if_icmp .ne 8, 3) := by decide +kernel
theorem dX6_lookOf_30 : decode cX6_lookOf 30 = .ok (.bipush (-15), 2) := by decide +kernel
theorem dX6_lookOf_32 : decode cX6_lookOf 32 = .ok (.goto 14, 3) := by decide +kernel
theorem dX6_lookOf_35 : decode cX6_lookOf 35 = .ok (.aload_n 0, 1) := by decide +kernel
theorem dX6_lookOf_36 : decode cX6_lookOf 36 = .ok (.getfield 43, 3) := by decide +kernel
theorem dX6_lookOf_39 : decode cX6_lookOf 39 = .ok (.bipush 8, 2) := by decide +kernel
theorem dX6_lookOf_41 : decode cX6_lookOf 41 = .ok (.iload_n 1, 1) := by decide +kernel
theorem dX6_lookOf_42 : decode cX6_lookOf 42 = .ok (.imul, 1) := by decide +kernel
theorem dX6_lookOf_43 : decode cX6_lookOf 43 = .ok (.iload_n 2, 1) := by decide +kernel
theorem dX6_lookOf_44 : decode cX6_lookOf 44 = .ok (.iadd, 1) := by decide +kernel
theorem dX6_lookOf_45 : decode cX6_lookOf 45 = .ok (.iaload, 1) := by decide +kernel
theorem dX6_lookOf_46 : decode cX6_lookOf 46 = .ok (.ireturn, 1) := by decide +kernel
set_option maxRecDepth 20000 in
theorem ggX6_look_X6_isThird : GoodIn wsX6_look wsX6_isThird := goodIn_r _ [4, 5, 6, 7, 3, 8] (by decide +kernel) (by decide +kernel)
set_option maxRecDepth 20000 in
theorem gX6_look_X6_isThird : GoodIn wsX6_look (va_wsS RX6 169 yX6_isThird wsX6_isThird) := goodIn_app (goodIn_of _ (by decide +kernel)) ggX6_look_X6_isThird
set_option maxRecDepth 20000 in
theorem ggX6_look_X6_lookOf : GoodIn wsX6_look wsX6_lookOf := goodIn_r _ [12, 13, 14, 15, 16, 3, 17, 18, 6, 7, 8, 19, 20, 21, 22, 23, 24, 25, 26, 27, 28, 29, 30, 31, 32, 33, 34, 35, 36, 37, 38, 39, 40, 41] (by decide +kernel) (by decide +kernel)
set_option maxRecDepth 20000 in
theorem gX6_look_X6_lookOf : GoodIn wsX6_look (wsV RX6 254 RX6 yX6_lookOf wsX6_lookOf) := goodIn_app (goodIn_of _ (by decide +kernel)) ggX6_look_X6_lookOf
theorem dX6_look_0 : decode cX6_look 0 = .ok (.iload_n 1, 1) := by decide +kernel
theorem dX6_look_1 : decode cX6_look 1 = .ok (.invokestatic 169, 3) := by decide +kernel
theorem dX6_look_4 : decode cX6_look 4 = .ok (.ifCond .eq 12, 3) := by decide +kernel
theorem dX6_look_7 : decode cX6_look 7 = .ok (.aload_n 0, 1) := by decide +kernel
theorem dX6_look_8 : decode cX6_look 8 = .ok (.iload_n 1, 1) := by decide +kernel
theorem dX6_look_9 : decode cX6_look 9 = .ok (.iload_n 2, 1) := by decide +kernel
theorem dX6_look_10 : decode cX6_look 10 = .ok (.invokevirtual 254, 3) := by decide +kernel
theorem dX6_look_13 : decode cX6_look 13 = .ok (.goto 5, 3) := by decide +kernel
theorem dX6_look_16 : decode cX6_look 16 = .ok (.bipush (-2), 2) := by decide +kernel
theorem dX6_look_18 : decode cX6_look 18 = .ok (.ireturn, 1) := by decide +kernel
set_option maxRecDepth 20000 in
theorem ggX6_lift_X6_isThird : GoodIn wsX6_lift wsX6_isThird := goodIn_r _ [5, 6, 7, 8, 4, 9] (by decide +kernel) (by decide +kernel)
set_option maxRecDepth 20000 in
theorem gX6_lift_X6_isThird : GoodIn wsX6_lift (va_wsS RX6 169 yX6_isThird wsX6_isThird) := goodIn_app (goodIn_of _ (by decide +kernel)) ggX6_lift_X6_isThird
set_option maxRecDepth 20000 in
theorem ggX6_lift_X6_lookOf : GoodIn wsX6_lift wsX6_lookOf := goodIn_r _ [13, 1, 14, 15, 16, 4, 17, 18, 7, 8, 9, 19, 20, 21, 22, 23, 24, 25, 26, 27, 28, 29, 30, 31, 32, 33, 34, 35, 36, 37, 38, 39, 40, 41] (by decide +kernel) (by decide +kernel)
set_option maxRecDepth 20000 in
theorem gX6_lift_X6_lookOf : GoodIn wsX6_lift (wsV RX6 254 RX6 yX6_lookOf wsX6_lookOf) := goodIn_app (goodIn_of _ (by decide +kernel)) ggX6_lift_X6_lookOf
theorem dX6_lift_0 : decode cX6_lift 0 = .ok (.iload_n 1, 1) := by decide +kernel
theorem dX6_lift_1 : decode cX6_lift 1 = .ok (.invokestatic 169, 3) := by decide +kernel
theorem dX6_lift_4 : decode cX6_lift 4 = .ok (.ifCond .ne 6, 3) := by decide +kernel
theorem dX6_lift_7 : decode cX6_lift 7 = .ok (.bipush (-2), 2) := by decide +kernel
theorem dX6_lift_9 : decode cX6_lift 9 = .ok (.ireturn, 1) := by decide +kernel
theorem dX6_lift_10 : decode cX6_lift 10 = .ok (.aload_n 0, 1) := by decide +kernel
theorem dX6_lift_11 : decode cX6_lift 11 = .ok (.iload_n 1, 1) := by decide +kernel
theorem dX6_lift_12 : decode cX6_lift 12 = .ok (.iload_n 2, 1) := by decide +kernel
theorem dX6_lift_13 : decode cX6_lift 13 = .ok (.invokevirtual 254, 3) := by decide +kernel
theorem dX6_lift_16 : decode cX6_lift 16 = .ok (.istore_n 3, 1) := by decide +kernel
theorem dX6_lift_17 : decode cX6_lift 17 = .ok (.iload_n 3, 1) := by decide +kernel
theorem dX6_lift_18 : decode cX6_lift 18 = .ok (.ifCond .lt 15, 3) := by decide +kernel
theorem dX6_lift_21 : decode cX6_lift 21 = .ok (.aload_n 0, 1) := by decide +kernel
theorem dX6_lift_22 : decode cX6_lift 22 = .ok (.getfield 43, 3) := by decide +kernel
theorem dX6_lift_25 : decode cX6_lift 25 = .ok (.bipush 8, 2) := by decide +kernel
theorem dX6_lift_27 : decode cX6_lift 27 = .ok (.iload_n 1, 1) := by decide +kernel
theorem dX6_lift_28 : decode cX6_lift 28 = .ok (.imul, 1) := by decide +kernel
theorem dX6_lift_29 : decode cX6_lift 29 = .ok (.iload_n 2, 1) := by decide +kernel
theorem dX6_lift_30 : decode cX6_lift 30 = .ok (.iadd, 1) := by decide +kernel
theorem dX6_lift_31 : decode cX6_lift 31 = .ok (.iconst (-1), 1) := by decide +kernel
theorem dX6_lift_32 : decode cX6_lift 32 = .ok (.iastore, 1) := by decide +kernel
theorem dX6_lift_33 : decode cX6_lift 33 = .ok (.iload_n 3, 1) := by decide +kernel
theorem dX6_lift_34 : decode cX6_lift 34 = .ok (.ireturn, 1) := by decide +kernel
set_option maxRecDepth 20000 in
theorem ggX6_likeness_X6_isThird : GoodIn wsX6_likeness wsX6_isThird := goodIn_r _ [7, 8, 9, 10, 6, 11] (by decide +kernel) (by decide +kernel)
set_option maxRecDepth 20000 in
theorem gX6_likeness_X6_isThird : GoodIn wsX6_likeness (va_wsS RX6 169 yX6_isThird wsX6_isThird) := goodIn_app (goodIn_of _ (by decide +kernel)) ggX6_likeness_X6_isThird
theorem dX6_likeness_0 : decode cX6_likeness 0 = .ok (.iload_n 1, 1) := by decide +kernel
theorem dX6_likeness_1 : decode cX6_likeness 1 = .ok (.invokestatic 169, 3) := by decide +kernel
theorem dX6_likeness_4 : decode cX6_likeness 4 = .ok (.ifCond .eq 10, 3) := by decide +kernel
theorem dX6_likeness_7 : decode cX6_likeness 7 = .ok (.iload_n 2, 1) := by decide +kernel
theorem dX6_likeness_8 : decode cX6_likeness 8 = .ok (.invokestatic 169, 3) := by decide +kernel
theorem dX6_likeness_11 : decode cX6_likeness 11 = .ok (.ifCond .ne 6, 3) := by decide +kernel
theorem dX6_likeness_14 : decode cX6_likeness 14 = .ok (.bipush (-2), 2) := by decide +kernel
theorem dX6_likeness_16 : decode cX6_likeness 16 = .ok (.ireturn, 1) := by decide +kernel
theorem dX6_likeness_17 : decode cX6_likeness 17 = .ok (.aload_n 0, 1) := by decide +kernel
theorem dX6_likeness_18 : decode cX6_likeness 18 = .ok (.getfield 37, 3) := by decide +kernel
theorem dX6_likeness_21 : decode cX6_likeness 21 = .ok (.iload_n 2, 1) := by decide +kernel
theorem dX6_likeness_22 : decode cX6_likeness 22 = .ok (.iaload, 1) := by decide +kernel
theorem dX6_likeness_23 : decode cX6_likeness 23 = .ok (.ifCond .ge 6, 3) := by decide +kernel
theorem dX6_likeness_26 : decode cX6_likeness 26 = .ok (.bipush (-11), 2) := by decide +kernel
theorem dX6_likeness_28 : decode cX6_likeness 28 = .ok (.ireturn, 1) := by decide +kernel
theorem dX6_likeness_29 : decode cX6_likeness 29 = .ok (.aload_n 0, 1) := by decide +kernel
theorem dX6_likeness_30 : decode cX6_likeness 30 = .ok (.getfield 37, 3) := by decide +kernel
theorem dX6_likeness_33 : decode cX6_likeness 33 = .ok (.iload_n 1, 1) := by decide +kernel
theorem dX6_likeness_34 : decode cX6_likeness 34 = .ok (.aload_n 0, 1) := by decide +kernel
theorem dX6_likeness_35 : decode cX6_likeness 35 = .ok (.getfield 37, 3) := by decide +kernel
theorem dX6_likeness_38 : decode cX6_likeness 38 = .ok (.iload_n 2, 1) := by decide +kernel
theorem dX6_likeness_39 : decode cX6_likeness 39 = .ok (.iaload, 1) := by decide +kernel
theorem dX6_likeness_40 : decode cX6_likeness 40 = .ok (.iastore, 1) := by decide +kernel
theorem dX6_likeness_41 : decode cX6_likeness 41 = .ok (.aload_n 0, 1) := by decide +kernel
theorem dX6_likeness_42 : decode cX6_likeness 42 = .ok (.getfield 40, 3) := by decide +kernel
theorem dX6_likeness_45 : decode cX6_likeness 45 = .ok (.iload_n 1, 1) := by decide +kernel
theorem dX6_likeness_46 : decode cX6_likeness 46 = .ok (.aload_n 0, 1) := by decide +kernel
theorem dX6_likeness_47 : decode cX6_likeness 47 = .ok (.getfield 40, 3) := by decide +kernel
theorem dX6_likeness_50 : decode cX6_likeness 50 = .ok (.iload_n 2, 1) := by decide +kernel
theorem dX6_likeness_51 : decode cX6_likeness 51 = .ok (.iaload, 1) := by decide +kernel
theorem dX6_likeness_52 : decode cX6_likeness 52 = .ok (.iastore, 1) := by decide +kernel
theorem dX6_likeness_53 : decode cX6_likeness 53 = .ok (.iconst 0, 1) := by decide +kernel
theorem dX6_likeness_54 : decode cX6_likeness 54 = .ok (.istore_n 3, 1) := by decide +kernel
theorem dX6_likeness_55 : decode cX6_likeness 55 = .ok (.iload_n 3, 1) := by decide +kernel
theorem dX6_likeness_56 : decode cX6_likeness 56 = .ok (.bipush 8, 2) := by decide +kernel
theorem dX6_likeness_58 : decode cX6_likeness 58 = .ok (.if_icmp .ge 31, 3) := by decide +kernel
theorem dX6_likeness_61 : decode cX6_likeness 61 = .ok (.aload_n 0, 1) := by decide +kernel
theorem dX6_likeness_62 : decode cX6_likeness 62 = .ok (.getfield 43, 3) := by decide +kernel
theorem dX6_likeness_65 : decode cX6_likeness 65 = .ok (.bipush 8, 2) := by decide +kernel
theorem dX6_likeness_67 : decode cX6_likeness 67 = .ok (.iload_n 1, 1) := by decide +kernel
theorem dX6_likeness_68 : decode cX6_likeness 68 = .ok (.imul, 1) := by decide +kernel
theorem dX6_likeness_69 : decode cX6_likeness 69 = .ok (.iload_n 3, 1) := by decide +kernel
theorem dX6_likeness_70 : decode cX6_likeness 70 = .ok (.iadd, 1) := by decide +kernel
theorem dX6_likeness_71 : decode cX6_likeness 71 = .ok (.aload_n 0, 1) := by decide +kernel
theorem dX6_likeness_72 : decode cX6_likeness 72 = .ok (.getfield 43, 3) := by decide +kernel
theorem dX6_likeness_75 : decode cX6_likeness 75 = .ok (.bipush 8, 2) := by decide +kernel
theorem dX6_likeness_77 : decode cX6_likeness 77 = .ok (.iload_n 2, 1) := by decide +kernel
theorem dX6_likeness_78 : decode cX6_likeness 78 = .ok (.imul, 1) := by decide +kernel
theorem dX6_likeness_79 : decode cX6_likeness 79 = .ok (.iload_n 3, 1) := by decide +kernel
theorem dX6_likeness_80 : decode cX6_likeness 80 = .ok (.iadd, 1) := by decide +kernel
theorem dX6_likeness_81 : decode cX6_likeness 81 = .ok (.iaload, 1) := by decide +kernel
theorem dX6_likeness_82 : decode cX6_likeness 82 = .ok (.iastore, 1) := by decide +kernel
theorem dX6_likeness_83 : decode cX6_likeness 83 = .ok (.iinc 3 1, 3) := by decide +kernel
theorem dX6_likeness_86 : decode cX6_likeness 86 = .ok (.goto (-31), 3) := by decide +kernel
theorem dX6_likeness_89 : decode cX6_likeness 89 = .ok (.aload_n 0, 1) := by decide +kernel
theorem dX6_likeness_90 : decode cX6_likeness 90 = .ok (.getfield 37, 3) := by decide +kernel
theorem dX6_likeness_93 : decode cX6_likeness 93 = .ok (.iload_n 1, 1) := by decide +kernel
theorem dX6_likeness_94 : decode cX6_likeness 94 = .ok (.iaload, 1) := by decide +kernel
theorem dX6_likeness_95 : decode cX6_likeness 95 = .ok (.ireturn, 1) := by decide +kernel
set_option maxRecDepth 20000 in
theorem ggX6_hand_X6_isThird : GoodIn wsX6_hand wsX6_isThird := goodIn_r _ [6, 7, 8, 9, 5, 10] (by decide +kernel) (by decide +kernel)
set_option maxRecDepth 20000 in
theorem gX6_hand_X6_isThird : GoodIn wsX6_hand (va_wsS RX6 169 yX6_isThird wsX6_isThird) := goodIn_app (goodIn_of _ (by decide +kernel)) ggX6_hand_X6_isThird
set_option maxRecDepth 20000 in
theorem ggX6_hand_X6_against : GoodIn wsX6_hand wsX6_against := goodIn_r _ [14, 1, 8, 9, 5, 10, 20, 21, 22, 23, 24, 25, 26, 27, 28, 29, 30, 31, 32, 33, 34, 35, 36, 37, 38, 39, 40, 41, 42] (by decide +kernel) (by decide +kernel)
set_option maxRecDepth 20000 in
theorem gX6_hand_X6_against : GoodIn wsX6_hand (wsV RX6 248 RX6 yX6_against wsX6_against) := goodIn_app (goodIn_of _ (by decide +kernel)) ggX6_hand_X6_against
set_option maxRecDepth 20000 in
theorem ggX6_hand_X6_isOther : GoodIn wsX6_hand wsX6_isOther := goodIn_r _ [18, 19, 20, 21, 22, 23, 24, 25, 26, 27, 28, 29, 30, 31, 32, 33, 34, 35, 36, 37, 38, 39, 40, 41, 42] (by decide +kernel) (by decide +kernel)
set_option maxRecDepth 20000 in
theorem gX6_hand_X6_isOther : GoodIn wsX6_hand (wsV RX6 251 RX6 yX6_isOther wsX6_isOther) := goodIn_app (goodIn_of _ (by decide +kernel)) ggX6_hand_X6_isOther
theorem dX6_hand_0 : decode cX6_hand 0 = .ok (.iload_n 1, 1) := by decide +kernel
theorem dX6_hand_1 : decode cX6_hand 1 = .ok (.invokestatic 169, 3) := by decide +kernel
theorem dX6_hand_4 : decode cX6_hand 4 = .ok (.ifCond .eq 10, 3) := by decide +kernel
theorem dX6_hand_7 : decode cX6_hand 7 = .ok (.iload_n 3, 1) := by decide +kernel
theorem dX6_hand_8 : decode cX6_hand 8 = .ok (.invokestatic 169, 3) := by decide +kernel
theorem dX6_hand_11 : decode cX6_hand 11 = .ok (.ifCond .ne 6, 3) := by decide +kernel
theorem dX6_hand_14 : decode cX6_hand 14 = .ok (.bipush (-2), 2) := by decide +kernel
theorem dX6_hand_16 : decode cX6_hand 16 = .ok (.ireturn, 1) := by decide +kernel
theorem dX6_hand_17 : decode cX6_hand 17 = .ok (.aload_n 0, 1) := by decide +kernel
theorem dX6_hand_18 : decode cX6_hand 18 = .ok (.getfield 37, 3) := by decide +kernel
theorem dX6_hand_21 : decode cX6_hand 21 = .ok (.iload_n 1, 1) := by decide +kernel
theorem dX6_hand_22 : decode cX6_hand 22 = .ok (.iaload, 1) := by decide +kernel
theorem dX6_hand_23 : decode cX6_hand 23 = .ok (.ifCond .lt 12, 3) := by decide +kernel
theorem dX6_hand_26 : decode cX6_hand 26 = .ok (.aload_n 0, 1) := by decide +kernel
theorem dX6_hand_27 : decode cX6_hand 27 = .ok (.getfield 37, 3) := by decide +kernel
theorem dX6_hand_30 : decode cX6_hand 30 = .ok (.iload_n 3, 1) := by decide +kernel
theorem dX6_hand_31 : decode cX6_hand 31 = .ok (.iaload, 1) := by decide +kernel
theorem dX6_hand_32 : decode cX6_hand 32 = .ok (.ifCond .ge 6, 3) := by decide +kernel
theorem dX6_hand_35 : decode cX6_hand 35 = .ok (.bipush (-11), 2) := by decide +kernel
theorem dX6_hand_37 : decode cX6_hand 37 = .ok (.ireturn, 1) := by decide +kernel
theorem dX6_hand_38 : decode cX6_hand 38 = .ok (.aload_n 0, 1) := by decide +kernel
theorem dX6_hand_39 : decode cX6_hand 39 = .ok (.iload_n 1, 1) := by decide +kernel
theorem dX6_hand_40 : decode cX6_hand 40 = .ok (.iload_n 2, 1) := by decide +kernel
theorem dX6_hand_41 : decode cX6_hand 41 = .ok (.invokevirtual 248, 3) := by decide +kernel
theorem dX6_hand_44 : decode cX6_hand 44 = .ok (.ifCond .ne 13, 3) := by decide +kernel
theorem dX6_hand_47 : decode cX6_hand 47 = .ok (.aload_n 0, 1) := by decide +kernel
theorem dX6_hand_48 : decode cX6_hand 48 = .ok (.iload_n 3, 1) := by decide +kernel
theorem dX6_hand_49 : decode cX6_hand 49 = .ok (.iload 4, 2) := by decide +kernel
theorem dX6_hand_51 : decode cX6_hand 51 = .ok (.invokevirtual 248, 3) := by decide +kernel
theorem dX6_hand_54 : decode cX6_hand 54 = .ok (.ifCond .eq 6, 3) := by decide +kernel
theorem dX6_hand_57 : decode cX6_hand 57 = .ok (.bipush (-13), 2) := by decide +kernel
theorem dX6_hand_59 : decode cX6_hand 59 = .ok (.ireturn, 1) := by decide +kernel
theorem dX6_hand_60 : decode cX6_hand 60 = .ok (.aload_n 0, 1) := by decide +kernel
theorem dX6_hand_61 : decode cX6_hand 61 = .ok (.getfield 43, 3) := by decide +kernel
theorem dX6_hand_64 : decode cX6_hand 64 = .ok (.bipush 8, 2) := by decide +kernel
theorem dX6_hand_66 : decode cX6_hand 66 = .ok (.iload_n 1, 1) := by decide +kernel
theorem dX6_hand_67 : decode cX6_hand 67 = .ok (.imul, 1) := by decide +kernel
theorem dX6_hand_68 : decode cX6_hand 68 = .ok (.iload_n 2, 1) := by decide +kernel
theorem dX6_hand_69 : decode cX6_hand 69 = .ok (.iadd, 1) := by decide +kernel
theorem dX6_hand_70 : decode cX6_hand 70 = .ok (.iaload, 1) := by decide +kernel
theorem dX6_hand_71 : decode cX6_hand 71 = .ok (.istore 5, 2) := by decide +kernel
theorem dX6_hand_73 : decode cX6_hand 73 = .ok (.iload 5, 2) := by decide +kernel
theorem dX6_hand_75 : decode cX6_hand 75 = .ok (.iconst (-1), 1) := by decide +kernel
theorem dX6_hand_76 : decode cX6_hand 76 = .ok (.if_icmp .ne 6, 3) := by decide +kernel
theorem dX6_hand_79 : decode cX6_hand 79 = .ok (.bipush (-15), 2) := by decide +kernel
theorem dX6_hand_81 : decode cX6_hand 81 = .ok (.ireturn, 1) := by decide +kernel
theorem dX6_hand_82 : decode cX6_hand 82 = .ok (.aload_n 0, 1) := by decide +kernel
theorem dX6_hand_83 : decode cX6_hand 83 = .ok (.iload_n 3, 1) := by decide +kernel
theorem dX6_hand_84 : decode cX6_hand 84 = .ok (.iload 5, 2) := by decide +kernel
theorem dX6_hand_86 : decode cX6_hand 86 = .ok (.sipush 1000, 3) := by decide +kernel
theorem dX6_hand_89 : decode cX6_hand 89 = .ok (.if_icmp .ge 7, 3) := by decide +kernel
theorem dX6_hand_92 : decode cX6_hand 92 = .ok (.iconst 1, 1) := by decide +kernel
theorem dX6_hand_93 : decode cX6_hand 93 = .ok (.goto 4, 3) := by decide +kernel
theorem dX6_hand_96 : decode cX6_hand 96 = .ok (.iconst 2, 1) := by decide +kernel
theorem dX6_hand_97 : decode cX6_hand 97 = .ok (.invokevirtual 251, 3) := by decide +kernel
theorem dX6_hand_100 : decode cX6_hand 100 = .ok (.ifCond .eq 6, 3) := by decide +kernel
theorem dX6_hand_103 : decode cX6_hand 103 = .ok (.bipush (-14), 2) := by decide +kernel
theorem dX6_hand_105 : decode cX6_hand 105 = .ok (.ireturn, 1) := by decide +kernel
theorem dX6_hand_106 : decode cX6_hand 106 = .ok (.aload_n 0, 1) := by decide +kernel
theorem dX6_hand_107 : decode cX6_hand 107 = .ok (.getfield 43, 3) := by decide +kernel
theorem dX6_hand_110 : decode cX6_hand 110 = .ok (.bipush 8, 2) := by decide +kernel
theorem dX6_hand_112 : decode cX6_hand 112 = .ok (.iload_n 3, 1) := by decide +kernel
theorem dX6_hand_113 : decode cX6_hand 113 = .ok (.imul, 1) := by decide +kernel
theorem dX6_hand_114 : decode cX6_hand 114 = .ok (.iload 4, 2) := by decide +kernel
theorem dX6_hand_116 : decode cX6_hand 116 = .ok (.iadd, 1) := by decide +kernel
theorem dX6_hand_117 : decode cX6_hand 117 = .ok (.iload 5, 2) := by decide +kernel
theorem dX6_hand_119 : decode cX6_hand 119 = .ok (.iastore, 1) := by decide +kernel
theorem dX6_hand_120 : decode cX6_hand 120 = .ok (.iconst 1, 1) := by decide +kernel
theorem dX6_hand_121 : decode cX6_hand 121 = .ok (.ireturn, 1) := by decide +kernel
set_option maxRecDepth 20000 in
theorem ggX6_drop_X6_isThird : GoodIn wsX6_drop wsX6_isThird := goodIn_r _ [5, 6, 7, 8, 4, 9] (by decide +kernel) (by decide +kernel)
set_option maxRecDepth 20000 in
theorem gX6_drop_X6_isThird : GoodIn wsX6_drop (va_wsS RX6 169 yX6_isThird wsX6_isThird) := goodIn_app (goodIn_of _ (by decide +kernel)) ggX6_drop_X6_isThird
theorem dX6_drop_0 : decode cX6_drop 0 = .ok (.iload_n 1, 1) := by decide +kernel
theorem dX6_drop_1 : decode cX6_drop 1 = .ok (.invokestatic 169, 3) := by decide +kernel
theorem dX6_drop_4 : decode cX6_drop 4 = .ok (.ifCond .ne 6, 3) := by decide +kernel
theorem dX6_drop_7 : decode cX6_drop 7 = .ok (.bipush (-2), 2) := by decide +kernel
theorem dX6_drop_9 : decode cX6_drop 9 = .ok (.ireturn, 1) := by decide +kernel
theorem dX6_drop_10 : decode cX6_drop 10 = .ok (.aload_n 0, 1) := by decide +kernel
theorem dX6_drop_11 : decode cX6_drop 11 = .ok (.getfield 37, 3) := by decide +kernel
theorem dX6_drop_14 : decode cX6_drop 14 = .ok (.iload_n 1, 1) := by decide +kernel
theorem dX6_drop_15 : decode cX6_drop 15 = .ok (.iaload, 1) := by decide +kernel
theorem dX6_drop_16 : decode cX6_drop 16 = .ok (.istore_n 2, 1) := by decide +kernel
theorem dX6_drop_17 : decode cX6_drop 17 = .ok (.aload_n 0, 1) := by decide +kernel
theorem dX6_drop_18 : decode cX6_drop 18 = .ok (.getfield 37, 3) := by decide +kernel
theorem dX6_drop_21 : decode cX6_drop 21 = .ok (.iload_n 1, 1) := by decide +kernel
theorem dX6_drop_22 : decode cX6_drop 22 = .ok (.iconst (-1), 1) := by decide +kernel
theorem dX6_drop_23 : decode cX6_drop 23 = .ok (.iastore, 1) := by decide +kernel
theorem dX6_drop_24 : decode cX6_drop 24 = .ok (.iload_n 2, 1) := by decide +kernel
theorem dX6_drop_25 : decode cX6_drop 25 = .ok (.ifCond .ge 8, 3) := by decide +kernel
theorem dX6_drop_28 : decode cX6_drop 28 = .ok (.bipush (-11), 2) := by decide +kernel
theorem dX6_drop_30 : decode cX6_drop 30 = .ok (.goto 4, 3) := by decide +kernel
theorem dX6_drop_33 : decode cX6_drop 33 = .ok (.iload_n 2, 1) := by decide +kernel
theorem dX6_drop_34 : decode cX6_drop 34 = .ok (.ireturn, 1) := by decide +kernel
theorem dX6_things_0 : decode cX6_things 0 = .ok (.iconst 0, 1) := by decide +kernel
theorem dX6_things_1 : decode cX6_things 1 = .ok (.istore_n 1, 1) := by decide +kernel
theorem dX6_things_2 : decode cX6_things 2 = .ok (.iconst 0, 1) := by decide +kernel
theorem dX6_things_3 : decode cX6_things 3 = .ok (.istore_n 2, 1) := by decide +kernel
theorem dX6_things_4 : decode cX6_things 4 = .ok (.iload_n 2, 1) := by decide +kernel
theorem dX6_things_5 : decode cX6_things 5 = .ok (.iconst 3, 1) := by decide +kernel
theorem dX6_things_6 : decode cX6_things 6 = .ok (.if_icmp .ge 50, 3) := by decide +kernel
theorem dX6_things_9 : decode cX6_things 9 = .ok (.iconst 0, 1) := by decide +kernel
theorem dX6_things_10 : decode cX6_things 10 = .ok (.istore_n 3, 1) := by decide +kernel
theorem dX6_things_11 : decode cX6_things 11 = .ok (.iload_n 3, 1) := by decide +kernel
theorem dX6_things_12 : decode cX6_things 12 = .ok (.aload_n 0, 1) := by decide +kernel
theorem dX6_things_13 : decode cX6_things 13 = .ok (.getfield 37, 3) := by decide +kernel
theorem dX6_things_16 : decode cX6_things 16 = .ok (.iload_n 2, 1) := by decide +kernel
theorem dX6_things_17 : decode cX6_things 17 = .ok (.iaload, 1) := by decide +kernel
theorem dX6_things_18 : decode cX6_things 18 = .ok (.if_icmp .ge 32, 3) := by decide +kernel
theorem dX6_things_21 : decode cX6_things 21 = .ok (.iload_n 1, 1) := by decide +kernel
theorem dX6_things_22 : decode cX6_things 22 = .ok (.aload_n 0, 1) := by decide +kernel
theorem dX6_things_23 : decode cX6_things 23 = .ok (.getfield 43, 3) := by decide +kernel
theorem dX6_things_26 : decode cX6_things 26 = .ok (.bipush 8, 2) := by decide +kernel
theorem dX6_things_28 : decode cX6_things 28 = .ok (.iload_n 2, 1) := by decide +kernel
theorem dX6_things_29 : decode cX6_things 29 = .ok (.imul, 1) := by decide +kernel
theorem dX6_things_30 : decode cX6_things 30 = .ok (.iload_n 3, 1) := by decide +kernel
theorem dX6_things_31 : decode cX6_things 31 = .ok (.iadd, 1) := by decide +kernel
theorem dX6_things_32 : decode cX6_things 32 = .ok (.iaload, 1) := by decide +kernel
theorem dX6_things_33 : decode cX6_things 33 = .ok (.iconst (-1), 1) := by decide +kernel
theorem dX6_things_34 : decode cX6_things 34 = .ok (.if_icmp .ne 7, 3) := by decide +kernel
theorem dX6_things_37 : decode cX6_things 37 = .ok (.iconst 0, 1) := by decide +kernel
theorem dX6_things_38 : decode cX6_things 38 = .ok (.goto 4, 3) := by decide +kernel
theorem dX6_things_41 : decode cX6_things 41 = .ok (.iconst 1, 1) := by decide +kernel
theorem dX6_things_42 : decode cX6_things 42 = .ok (.iadd, 1) := by decide +kernel
theorem dX6_things_43 : decode cX6_things 43 = .ok (.istore_n 1, 1) := by decide +kernel
theorem dX6_things_44 : decode cX6_things 44 = .ok (.iinc 3 1, 3) := by decide +kernel
theorem dX6_things_47 : decode cX6_things 47 = .ok (.goto (-36), 3) := by decide +kernel
theorem dX6_things_50 : decode cX6_things 50 = .ok (.iinc 2 1, 3) := by decide +kernel
theorem dX6_things_53 : decode cX6_things 53 = .ok (.goto (-49), 3) := by decide +kernel
theorem dX6_things_56 : decode cX6_things 56 = .ok (.iload_n 1, 1) := by decide +kernel
theorem dX6_things_57 : decode cX6_things 57 = .ok (.ireturn, 1) := by decide +kernel
set_option maxRecDepth 20000 in
theorem ggX6_count_X6_things : GoodIn wsX6_count wsX6_things := goodIn_r _ [12, 13, 14, 15, 16, 17, 18, 19, 20, 21, 22, 23, 24, 25, 26, 27, 28, 29, 30, 31, 32, 33, 34, 35, 36, 37] (by decide +kernel) (by decide +kernel)
set_option maxRecDepth 20000 in
theorem gX6_count_X6_things : GoodIn wsX6_count (wsV RX6 257 RX6 yX6_things wsX6_things) := goodIn_app (goodIn_of _ (by decide +kernel)) ggX6_count_X6_things
theorem dX6_count_0 : decode cX6_count 0 = .ok (.iload_n 1, 1) := by decide +kernel
theorem dX6_count_1 : decode cX6_count 1 = .ok (.tableswitch 117 0 10 #[59, 64, 69, 77, 77, 77, 92, 97, 102, 107, 112], 59) := by decide +kernel
theorem dX6_count_60 : decode cX6_count 60 = .ok (.aload_n 0, 1) := by decide +kernel
theorem dX6_count_61 : decode cX6_count 61 = .ok (.getfield 144, 3) := by decide +kernel
theorem dX6_count_64 : decode cX6_count 64 = .ok (.ireturn, 1) := by decide +kernel
theorem dX6_count_65 : decode cX6_count 65 = .ok (.aload_n 0, 1) := by decide +kernel
theorem dX6_count_66 : decode cX6_count 66 = .ok (.getfield 147, 3) := by decide +kernel
theorem dX6_count_69 : decode cX6_count 69 = .ok (.ireturn, 1) := by decide +kernel
theorem dX6_count_70 : decode cX6_count 70 = .ok (.aload_n 0, 1) := by decide +kernel
theorem dX6_count_71 : decode cX6_count 71 = .ok (.getfield 20, 3) := by decide +kernel
theorem dX6_count_74 : decode cX6_count 74 = .ok (.bipush 13, 2) := by decide +kernel
theorem dX6_count_76 : decode cX6_count 76 = .ok (.iaload, 1) := by decide +kernel
theorem dX6_count_77 : decode cX6_count 77 = .ok (.ireturn, 1) := by decide +kernel
theorem dX6_count_78 : decode cX6_count 78 = .ok (.aload_n 0, 1) := by decide +kernel
theorem dX6_count_79 : decode cX6_count 79 = .ok (.getfield 20, 3) := by decide +kernel
theorem dX6_count_82 : decode cX6_count 82 = .ok (.bipush 10, 2) := by decide +kernel
theorem dX6_count_84 : decode cX6_count 84 = .ok (.iload_n 1, 1) := by decide +kernel
theorem dX6_count_85 : decode cX6_count 85 = .ok (.iadd, 1) := by decide +kernel
theorem dX6_count_86 : decode cX6_count 86 = .ok (.iconst 3, 1) := by decide +kernel
theorem dX6_count_87 : decode cX6_count 87 = .ok (.isub, 1) := by decide +kernel
theorem dX6_count_88 : decode cX6_count 88 = .ok (.iaload, 1) := by decide +kernel
theorem dX6_count_89 : decode cX6_count 89 = .ok (.bipush 100, 2) := by decide +kernel
theorem dX6_count_91 : decode cX6_count 91 = .ok (.iadd, 1) := by decide +kernel
theorem dX6_count_92 : decode cX6_count 92 = .ok (.ireturn, 1) := by decide +kernel
theorem dX6_count_93 : decode cX6_count 93 = .ok (.aload_n 0, 1) := by decide +kernel
theorem dX6_count_94 : decode cX6_count 94 = .ok (.getfield 126, 3) := by decide +kernel
theorem dX6_count_97 : decode cX6_count 97 = .ok (.ireturn, 1) := by decide +kernel
theorem dX6_count_98 : decode cX6_count 98 = .ok (.aload_n 0, 1) := by decide +kernel
theorem dX6_count_99 : decode cX6_count 99 = .ok (.getfield 7, 3) := by decide +kernel
theorem dX6_count_102 : decode cX6_count 102 = .ok (.ireturn, 1) := by decide +kernel
theorem dX6_count_103 : decode cX6_count 103 = .ok (.aload_n 0, 1) := by decide +kernel
theorem dX6_count_104 : decode cX6_count 104 = .ok (.invokevirtual 257, 3) := by decide +kernel
theorem dX6_count_107 : decode cX6_count 107 = .ok (.ireturn, 1) := by decide +kernel
theorem dX6_count_108 : decode cX6_count 108 = .ok (.aload_n 0, 1) := by decide +kernel
theorem dX6_count_109 : decode cX6_count 109 = .ok (.getfield 49, 3) := by decide +kernel
theorem dX6_count_112 : decode cX6_count 112 = .ok (.ireturn, 1) := by decide +kernel
theorem dX6_count_113 : decode cX6_count 113 = .ok (.aload_n 0, 1) := by decide +kernel
theorem dX6_count_114 : decode cX6_count 114 = .ok (.getfield 58, 3) := by decide +kernel
theorem dX6_count_117 : decode cX6_count 117 = .ok (.ireturn, 1) := by decide +kernel
theorem dX6_count_118 : decode cX6_count 118 = .ok (.bipush (-3), 2) := by decide +kernel
theorem dX6_count_120 : decode cX6_count 120 = .ok (.ireturn, 1) := by decide +kernel
