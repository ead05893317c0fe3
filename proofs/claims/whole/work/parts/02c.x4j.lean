theorem dX4_init_0 : decode cX4_init 0 = .ok (.aload_n 0, 1) := by decide +kernel
theorem dX4_init_1 : decode cX4_init 1 = .ok (.invokespecial 3, 3) := by decide +kernel
theorem dX4_init_4 : decode cX4_init 4 = .ok (.aload_n 0, 1) := by decide +kernel
theorem dX4_init_5 : decode cX4_init 5 = .ok (.sipush 200, 3) := by decide +kernel
theorem dX4_init_8 : decode cX4_init 8 = .ok (.newarray .char, 2) := by decide +kernel
theorem dX4_init_10 : decode cX4_init 10 = .ok (.putfield 9, 3) := by decide +kernel
theorem dX4_init_13 : decode cX4_init 13 = .ok (.aload_n 0, 1) := by decide +kernel
theorem dX4_init_14 : decode cX4_init 14 = .ok (.iconst 4, 1) := by decide +kernel
theorem dX4_init_15 : decode cX4_init 15 = .ok (.newarray .int, 2) := by decide +kernel
theorem dX4_init_17 : decode cX4_init 17 = .ok (.putfield 15, 3) := by decide +kernel
theorem dX4_init_20 : decode cX4_init 20 = .ok (.return_, 1) := by decide +kernel
set_option maxRecDepth 20000 in
theorem ggX4_readOnto_X4_advance : GoodIn wsX4_readOnto wsX4_advance := goodIn_r _ [8, 1, 3, 9, 10, 136, 137, 138, 139, 140, 141, 142] (by decide +kernel) (by decide +kernel)
set_option maxRecDepth 20000 in
theorem gX4_readOnto_X4_advance : GoodIn wsX4_readOnto (wsV RX4 23 RX4 yX4_advance wsX4_advance) := goodIn_app (goodIn_of _ (by decide +kernel)) ggX4_readOnto_X4_advance
set_option maxRecDepth 20000 in
theorem ggX4_readOnto_X4_readClause : GoodIn wsX4_readOnto wsX4_readClause := goodIn_r _ [14, 15, 16, 17, 7, 18, 1, 3, 10, 19, 20, 21, 22, 23, 24, 25, 26, 27, 28, 29, 30, 31, 32, 33, 34, 35, 36, 37, 38, 39, 40, 41, 42, 43, 44, 45, 46, 47, 48, 49, 50, 51, 52, 53, 54, 55, 56, 57, 58, 59, 60, 61, 62, 63, 64, 65, 66, 67, 68, 69, 70, 71, 72, 73, 74, 75, 76, 4, 5, 6, 8, 9, 77, 78, 79, 80, 81, 82, 83, 84, 85, 86, 87, 88, 89, 90, 91, 92, 93, 94, 95, 96, 97, 98, 99, 100, 101, 102, 103, 104, 105, 106, 107, 108, 109, 110, 111, 112, 113, 114, 115, 116, 117, 118, 119, 120, 121, 122, 123, 124, 125, 126, 127, 128, 129, 130, 131, 136, 137, 138, 139, 140, 141, 142, 143, 144, 145, 146, 147, 148] (by decide +kernel) (by decide +kernel)
set_option maxRecDepth 20000 in
theorem gX4_readOnto_X4_readClause : GoodIn wsX4_readOnto (wsV RX4 29 RX4 yX4_readClause wsX4_readClause) := goodIn_app (goodIn_of _ (by decide +kernel)) ggX4_readOnto_X4_readClause
set_option maxRecDepth 20000 in
theorem ggX4_readOnto_X4_isAtEnd : GoodIn wsX4_readOnto wsX4_isAtEnd := goodIn_r _ [135, 3, 9, 136, 137, 138, 139, 140, 141, 142] (by decide +kernel) (by decide +kernel)
set_option maxRecDepth 20000 in
theorem gX4_readOnto_X4_isAtEnd : GoodIn wsX4_readOnto (wsV RX4 36 RX4 yX4_isAtEnd wsX4_isAtEnd) := goodIn_app (goodIn_of _ (by decide +kernel)) ggX4_readOnto_X4_isAtEnd
set_option maxRecDepth 20000 in
theorem ggX4_readOnto_X4_isSign : GoodIn wsX4_readOnto wsX4_isSign := goodIn_r _ [94, 1, 3, 10, 136, 137, 138, 139, 140, 141, 142] (by decide +kernel) (by decide +kernel)
set_option maxRecDepth 20000 in
theorem gX4_readOnto_X4_isSign : GoodIn wsX4_readOnto (wsV RX4 40 RX4 yX4_isSign wsX4_isSign) := goodIn_app (goodIn_of _ (by decide +kernel)) ggX4_readOnto_X4_isSign
theorem dX4_readOnto_0 : decode cX4_readOnto 0 = .ok (.aload_n 0, 1) := by decide +kernel
theorem dX4_readOnto_1 : decode cX4_readOnto 1 = .ok (.iconst 0, 1) := by decide +kernel
theorem dX4_readOnto_2 : decode cX4_readOnto 2 = .ok (.putfield 19, 3) := by decide +kernel
theorem dX4_readOnto_5 : decode cX4_readOnto 5 = .ok (.aload_n 0, 1) := by decide +kernel
theorem dX4_readOnto_6 : decode cX4_readOnto 6 = .ok (.invokevirtual 23, 3) := by decide +kernel
theorem dX4_readOnto_9 : decode cX4_readOnto 9 = .ok (.aload_n 0, 1) := by decide +kernel
theorem dX4_readOnto_10 : decode cX4_readOnto 10 = .ok (.iconst 1, 1) := by decide +kernel
theorem dX4_readOnto_11 : decode cX4_readOnto 11 = .ok (.putfield 26, 3) := by decide +kernel
theorem dX4_readOnto_14 : decode cX4_readOnto 14 = .ok (.aload_n 0, 1) := by decide +kernel
theorem dX4_readOnto_15 : decode cX4_readOnto 15 = .ok (.getfield 26, 3) := by decide +kernel
theorem dX4_readOnto_18 : decode cX4_readOnto 18 = .ok (.bipush 24, 2) := by decide +kernel
theorem dX4_readOnto_20 : decode cX4_readOnto 20 = .ok (.if_icmp .gt 65, 3) := by decide +kernel
theorem dX4_readOnto_23 : decode cX4_readOnto 23 = .ok (.aload_n 0, 1) := by decide +kernel
theorem dX4_readOnto_24 : decode cX4_readOnto 24 = .ok (.aload_n 1, 1) := by decide +kernel
theorem dX4_readOnto_25 : decode cX4_readOnto 25 = .ok (.invokevirtual 29, 3) := by decide +kernel
theorem dX4_readOnto_28 : decode cX4_readOnto 28 = .ok (.ifCond .ne 8, 3) := by decide +kernel
theorem dX4_readOnto_31 : decode cX4_readOnto 31 = .ok (.aload_n 0, 1) := by decide +kernel
theorem dX4_readOnto_32 : decode cX4_readOnto 32 = .ok (.getfield 33, 3) := by decide +kernel
theorem dX4_readOnto_35 : decode cX4_readOnto 35 = .ok (.ireturn, 1) := by decide +kernel
theorem dX4_readOnto_36 : decode cX4_readOnto 36 = .ok (.aload_n 0, 1) := by decide +kernel
theorem dX4_readOnto_37 : decode cX4_readOnto 37 = .ok (.invokevirtual 36, 3) := by decide +kernel
theorem dX4_readOnto_40 : decode cX4_readOnto 40 = .ok (.ifCond .eq 5, 3) := by decide +kernel
theorem dX4_readOnto_43 : decode cX4_readOnto 43 = .ok (.iconst (-1), 1) := by decide +kernel
theorem dX4_readOnto_44 : decode cX4_readOnto 44 = .ok (.ireturn, 1) := by decide +kernel
theorem dX4_readOnto_45 : decode cX4_readOnto 45 = .ok (.aload_n 0, 1) := by decide +kernel
theorem dX4_readOnto_46 : decode cX4_readOnto 46 = .ok (.getfield 26, 3) := by decide +kernel
theorem dX4_readOnto_49 : decode cX4_readOnto 49 = .ok (.bipush 24, 2) := by decide +kernel
theorem dX4_readOnto_51 : decode cX4_readOnto 51 = .ok (.if_icmp .eq 12, 3) := by decide +kernel
theorem dX4_readOnto_54 : decode cX4_readOnto 54 = .ok (.aload_n 0, 1) := by decide +kernel
theorem dX4_readOnto_55 : decode cX4_readOnto 55 = .ok (.bipush 59, 2) := by decide +kernel
theorem dX4_readOnto_57 : decode cX4_readOnto 57 = .ok (.invokevirtual 40, 3) := by decide +kernel
theorem dX4_readOnto_60 : decode cX4_readOnto 60 = .ok (.ifCond .ne 8, 3) := by decide +kernel
theorem dX4_readOnto_63 : decode cX4_readOnto 63 = .ok (.aload_n 0, 1) := by decide +kernel
theorem dX4_readOnto_64 : decode cX4_readOnto 64 = .ok (.getfield 33, 3) := by decide +kernel
theorem dX4_readOnto_67 : decode cX4_readOnto 67 = .ok (.ireturn, 1) := by decide +kernel
theorem dX4_readOnto_68 : decode cX4_readOnto 68 = .ok (.aload_n 0, 1) := by decide +kernel
theorem dX4_readOnto_69 : decode cX4_readOnto 69 = .ok (.invokevirtual 23, 3) := by decide +kernel
theorem dX4_readOnto_72 : decode cX4_readOnto 72 = .ok (.aload_n 0, 1) := by decide +kernel
theorem dX4_readOnto_73 : decode cX4_readOnto 73 = .ok (.dup, 1) := by decide +kernel
theorem dX4_readOnto_74 : decode cX4_readOnto 74 = .ok (.getfield 26, 3) := by decide +kernel
theorem dX4_readOnto_77 : decode cX4_readOnto 77 = .ok (.iconst 1, 1) := by decide +kernel
theorem dX4_readOnto_78 : decode cX4_readOnto 78 = .ok (.iadd, 1) := by decide +kernel
theorem dX4_readOnto_79 : decode cX4_readOnto 79 = .ok (.putfield 26, 3) := by decide +kernel
theorem dX4_readOnto_82 : decode cX4_readOnto 82 = .ok (.goto (-68), 3) := by decide +kernel
theorem dX4_readOnto_85 : decode cX4_readOnto 85 = .ok (.aload_n 0, 1) := by decide +kernel
theorem dX4_readOnto_86 : decode cX4_readOnto 86 = .ok (.getfield 33, 3) := by decide +kernel
theorem dX4_readOnto_89 : decode cX4_readOnto 89 = .ok (.ireturn, 1) := by decide +kernel
set_option maxRecDepth 20000 in
theorem ggX4_readClause_X4_isWord : GoodIn wsX4_readClause wsX4_isWord := goodIn_r _ [5, 6, 7, 8, 9, 10, 11, 12, 13, 14, 15, 16, 17, 18, 19, 20, 21, 22, 23, 24, 25, 26, 27, 28, 29, 30, 31, 32, 33, 34, 35, 36, 37, 38, 39, 40, 41, 42, 43, 44, 45, 46, 47, 48, 49, 50, 51, 52, 53, 54, 55, 56, 57, 127, 128, 129, 130, 131, 132, 133] (by decide +kernel) (by decide +kernel)
set_option maxRecDepth 20000 in
theorem gX4_readClause_X4_isWord : GoodIn wsX4_readClause (wsV RX4 46 RX4 yX4_isWord wsX4_isWord) := goodIn_app (goodIn_of _ (by decide +kernel)) ggX4_readClause_X4_isWord
set_option maxRecDepth 20000 in
theorem ggX4_readClause_X0_reset : GoodIn wsX4_readClause wsX0_reset := goodIn_r _ [62, 63, 64, 65, 66, 134, 135, 136, 137, 138, 139] (by decide +kernel) (by decide +kernel)
set_option maxRecDepth 20000 in
theorem gX4_readClause_X0_reset : GoodIn wsX4_readClause (wsV RX4 50 RX0 yX0_reset wsX0_reset) := goodIn_app (goodIn_of _ (by decide +kernel)) ggX4_readClause_X0_reset
set_option maxRecDepth 20000 in
theorem ggX4_readClause_X4_advance : GoodIn wsX4_readClause wsX4_advance := goodIn_r _ [70, 6, 7, 71, 8, 127, 128, 129, 130, 131, 132, 133] (by decide +kernel) (by decide +kernel)
set_option maxRecDepth 20000 in
theorem gX4_readClause_X4_advance : GoodIn wsX4_readClause (wsV RX4 23 RX4 yX4_advance wsX4_advance) := goodIn_app (goodIn_of _ (by decide +kernel)) ggX4_readClause_X4_advance
set_option maxRecDepth 20000 in
theorem ggX4_readClause_X4_readState : GoodIn wsX4_readClause wsX4_readState := goodIn_r _ [75, 76, 77, 78, 79, 80, 81, 67, 68, 69, 4, 70, 6, 7, 71, 8, 82, 83, 84, 85, 86, 87, 88, 89, 90, 91, 92, 93, 94, 95, 96, 97, 134, 135, 136, 137, 138, 139, 127, 128, 129, 130, 131, 132, 133] (by decide +kernel) (by decide +kernel)
set_option maxRecDepth 20000 in
theorem gX4_readClause_X4_readState : GoodIn wsX4_readClause (wsV RX4 57 RX4 yX4_readState wsX4_readState) := goodIn_app (goodIn_of _ (by decide +kernel)) ggX4_readClause_X4_readState
set_option maxRecDepth 20000 in
theorem ggX4_readClause_X4_readWay : GoodIn wsX4_readClause wsX4_readWay := goodIn_r _ [101, 77, 67, 68, 69, 4, 70, 6, 7, 71, 8, 94, 95, 96, 97, 90, 91, 92, 93, 102, 103, 104, 61, 105, 106, 107, 108, 109, 110, 134, 135, 136, 137, 138, 139, 127, 128, 129, 130, 131, 132, 133] (by decide +kernel) (by decide +kernel)
set_option maxRecDepth 20000 in
theorem gX4_readClause_X4_readWay : GoodIn wsX4_readClause (wsV RX4 62 RX4 yX4_readWay wsX4_readWay) := goodIn_app (goodIn_of _ (by decide +kernel)) ggX4_readClause_X4_readWay
set_option maxRecDepth 20000 in
theorem ggX4_readClause_X4_readCondition : GoodIn wsX4_readClause wsX4_readCondition := goodIn_r _ [114, 77, 115, 116, 117, 4, 118, 1, 2, 3, 5, 6, 7, 8, 9, 10, 11, 12, 13, 14, 15, 16, 17, 18, 19, 20, 21, 22, 23, 24, 25, 26, 27, 28, 29, 30, 31, 32, 33, 34, 35, 36, 37, 38, 39, 40, 41, 42, 43, 44, 45, 46, 47, 48, 49, 50, 51, 52, 53, 54, 55, 56, 57, 67, 68, 69, 70, 71, 90, 91, 92, 93, 94, 95, 96, 97, 82, 83, 84, 85, 86, 87, 88, 89, 102, 103, 104, 61, 105, 106, 127, 128, 129, 130, 131, 132, 133, 134, 135, 136, 137, 138, 139] (by decide +kernel) (by decide +kernel)
set_option maxRecDepth 20000 in
theorem gX4_readClause_X4_readCondition : GoodIn wsX4_readClause (wsV RX4 65 RX4 yX4_readCondition wsX4_readCondition) := goodIn_app (goodIn_of _ (by decide +kernel)) ggX4_readClause_X4_readCondition
set_option maxRecDepth 20000 in
theorem ggX4_readClause_X4_readBreaking : GoodIn wsX4_readClause wsX4_readBreaking := goodIn_r _ [122, 102, 103, 104, 61, 105, 106, 67, 68, 69, 4, 70, 6, 7, 71, 8, 134, 135, 136, 137, 138, 139, 127, 128, 129, 130, 131, 132, 133] (by decide +kernel) (by decide +kernel)
set_option maxRecDepth 20000 in
theorem gX4_readClause_X4_readBreaking : GoodIn wsX4_readClause (wsV RX4 70 RX4 yX4_readBreaking wsX4_readBreaking) := goodIn_app (goodIn_of _ (by decide +kernel)) ggX4_readClause_X4_readBreaking
set_option maxRecDepth 20000 in
theorem ggX4_readClause_X4_readMask : GoodIn wsX4_readClause wsX4_readMask := goodIn_r _ [126, 77, 67, 68, 69, 4, 70, 6, 7, 71, 8, 90, 91, 92, 93, 94, 95, 96, 97, 127, 128, 129, 130, 131, 132, 133, 134, 135, 136, 137, 138, 139] (by decide +kernel) (by decide +kernel)
set_option maxRecDepth 20000 in
theorem gX4_readClause_X4_readMask : GoodIn wsX4_readClause (wsV RX4 75 RX4 yX4_readMask wsX4_readMask) := goodIn_app (goodIn_of _ (by decide +kernel)) ggX4_readClause_X4_readMask
theorem dX4_readClause_0 : decode cX4_readClause 0 = .ok (.aload_n 0, 1) := by decide +kernel
theorem dX4_readClause_1 : decode cX4_readClause 1 = .ok (.ldc 44, 2) := by decide +kernel
theorem dX4_readClause_3 : decode cX4_readClause 3 = .ok (.invokevirtual 46, 3) := by decide +kernel
theorem dX4_readClause_6 : decode cX4_readClause 6 = .ok (.ifCond .eq 13, 3) := by decide +kernel
theorem dX4_readClause_9 : decode cX4_readClause 9 = .ok (.aload_n 1, 1) := by decide +kernel
theorem dX4_readClause_10 : decode cX4_readClause 10 = .ok (.invokevirtual 50, 3) := by decide +kernel
theorem dX4_readClause_13 : decode cX4_readClause 13 = .ok (.aload_n 0, 1) := by decide +kernel
theorem dX4_readClause_14 : decode cX4_readClause 14 = .ok (.invokevirtual 23, 3) := by decide +kernel
theorem dX4_readClause_17 : decode cX4_readClause 17 = .ok (.iconst 1, 1) := by decide +kernel
theorem dX4_readClause_18 : decode cX4_readClause 18 = .ok (.ireturn, 1) := by decide +kernel
theorem dX4_readClause_19 : decode cX4_readClause 19 = .ok (.aload_n 0, 1) := by decide +kernel
theorem dX4_readClause_20 : decode cX4_readClause 20 = .ok (.ldc 55, 2) := by decide +kernel
theorem dX4_readClause_22 : decode cX4_readClause 22 = .ok (.invokevirtual 46, 3) := by decide +kernel
theorem dX4_readClause_25 : decode cX4_readClause 25 = .ok (.ifCond .eq 9, 3) := by decide +kernel
theorem dX4_readClause_28 : decode cX4_readClause 28 = .ok (.aload_n 0, 1) := by decide +kernel
theorem dX4_readClause_29 : decode cX4_readClause 29 = .ok (.aload_n 1, 1) := by decide +kernel
theorem dX4_readClause_30 : decode cX4_readClause 30 = .ok (.invokevirtual 57, 3) := by decide +kernel
theorem dX4_readClause_33 : decode cX4_readClause 33 = .ok (.ireturn, 1) := by decide +kernel
theorem dX4_readClause_34 : decode cX4_readClause 34 = .ok (.aload_n 0, 1) := by decide +kernel
theorem dX4_readClause_35 : decode cX4_readClause 35 = .ok (.ldc 60, 2) := by decide +kernel
theorem dX4_readClause_37 : decode cX4_readClause 37 = .ok (.invokevirtual 46, 3) := by decide +kernel
theorem dX4_readClause_40 : decode cX4_readClause 40 = .ok (.ifCond .eq 25, 3) := by decide +kernel
theorem dX4_readClause_43 : decode cX4_readClause 43 = .ok (.aload_n 0, 1) := by decide +kernel
theorem dX4_readClause_44 : decode cX4_readClause 44 = .ok (.aload_n 1, 1) := by decide +kernel
theorem dX4_readClause_45 : decode cX4_readClause 45 = .ok (.invokevirtual 62, 3) := by decide +kernel
theorem dX4_readClause_48 : decode cX4_readClause 48 = .ok (.ifCond .eq 15, 3) := by decide +kernel
theorem dX4_readClause_51 : decode cX4_readClause 51 = .ok (.aload_n 0, 1) := by decide +kernel
theorem dX4_readClause_52 : decode cX4_readClause 52 = .ok (.aload_n 1, 1) := by decide +kernel
theorem dX4_readClause_53 : decode cX4_readClause 53 = .ok (.invokevirtual 65, 3) := by decide +kernel
theorem dX4_readClause_56 : decode cX4_readClause 56 = .ok (.ifCond .eq 7, 3) := by decide +kernel
theorem dX4_readClause_59 : decode cX4_readClause 59 = .ok (.iconst 1, 1) := by decide +kernel
theorem dX4_readClause_60 : decode cX4_readClause 60 = .ok (.goto 4, 3) := by decide +kernel
theorem dX4_readClause_63 : decode cX4_readClause 63 = .ok (.iconst 0, 1) := by decide +kernel
theorem dX4_readClause_64 : decode cX4_readClause 64 = .ok (.ireturn, 1) := by decide +kernel
theorem dX4_readClause_65 : decode cX4_readClause 65 = .ok (.aload_n 0, 1) := by decide +kernel
theorem dX4_readClause_66 : decode cX4_readClause 66 = .ok (.ldc 68, 2) := by decide +kernel
theorem dX4_readClause_68 : decode cX4_readClause 68 = .ok (.invokevirtual 46, 3) := by decide +kernel
theorem dX4_readClause_71 : decode cX4_readClause 71 = .ok (.ifCond .eq 9, 3) := by decide +kernel
theorem dX4_readClause_74 : decode cX4_readClause 74 = .ok (.aload_n 0, 1) := by decide +kernel
theorem dX4_readClause_75 : decode cX4_readClause 75 = .ok (.aload_n 1, 1) := by decide +kernel
theorem dX4_readClause_76 : decode cX4_readClause 76 = .ok (.invokevirtual 70, 3) := by decide +kernel
theorem dX4_readClause_79 : decode cX4_readClause 79 = .ok (.ireturn, 1) := by decide +kernel
theorem dX4_readClause_80 : decode cX4_readClause 80 = .ok (.aload_n 0, 1) := by decide +kernel
theorem dX4_readClause_81 : decode cX4_readClause 81 = .ok (.ldc 73, 2) := by decide +kernel
theorem dX4_readClause_83 : decode cX4_readClause 83 = .ok (.invokevirtual 46, 3) := by decide +kernel
theorem dX4_readClause_86 : decode cX4_readClause 86 = .ok (.ifCond .eq 15, 3) := by decide +kernel
theorem dX4_readClause_89 : decode cX4_readClause 89 = .ok (.aload_n 0, 1) := by decide +kernel
theorem dX4_readClause_90 : decode cX4_readClause 90 = .ok (.aload_n 1, 1) := by decide +kernel
theorem dX4_readClause_91 : decode cX4_readClause 91 = .ok (.invokevirtual 75, 3) := by decide +kernel
theorem dX4_readClause_94 : decode cX4_readClause 94 = .ok (.ifCond .eq 7, 3) := by decide +kernel
theorem dX4_readClause_97 : decode cX4_readClause 97 = .ok (.iconst 1, 1) := by decide +kernel
theorem dX4_readClause_98 : decode cX4_readClause 98 = .ok (.goto 4, 3) := by decide +kernel
theorem dX4_readClause_101 : decode cX4_readClause 101 = .ok (.iconst 0, 1) := by decide +kernel
theorem dX4_readClause_102 : decode cX4_readClause 102 = .ok (.ireturn, 1) := by decide +kernel
set_option maxRecDepth 20000 in
theorem ggX4_readState_X4_advance : GoodIn wsX4_readState wsX4_advance := goodIn_r _ [11, 12, 13, 14, 15, 38, 39, 40, 41, 42, 43, 44] (by decide +kernel) (by decide +kernel)
set_option maxRecDepth 20000 in
theorem gX4_readState_X4_advance : GoodIn wsX4_readState (wsV RX4 23 RX4 yX4_advance wsX4_advance) := goodIn_app (goodIn_of _ (by decide +kernel)) ggX4_readState_X4_advance
set_option maxRecDepth 20000 in
theorem ggX4_readState_X4_readSigned : GoodIn wsX4_readState wsX4_readSigned := goodIn_r _ [19, 2, 20, 21, 22, 10, 23, 12, 13, 15, 7, 8, 9, 11, 14, 24, 25, 26, 27, 28, 29, 30, 31, 38, 39, 40, 41, 42, 43, 44] (by decide +kernel) (by decide +kernel)
set_option maxRecDepth 20000 in
theorem gX4_readState_X4_readSigned : GoodIn wsX4_readState (wsV RX4 81 RX4 yX4_readSigned wsX4_readSigned) := goodIn_app (goodIn_of _ (by decide +kernel)) ggX4_readState_X4_readSigned
theorem dX4_readState_0 : decode cX4_readState 0 = .ok (.aload_n 1, 1) := by decide +kernel
theorem dX4_readState_1 : decode cX4_readState 1 = .ok (.getfield 78, 3) := by decide +kernel
theorem dX4_readState_4 : decode cX4_readState 4 = .ok (.bipush 6, 2) := by decide +kernel
theorem dX4_readState_6 : decode cX4_readState 6 = .ok (.if_icmp .lt 5, 3) := by decide +kernel
theorem dX4_readState_9 : decode cX4_readState 9 = .ok (.iconst 0, 1) := by decide +kernel
theorem dX4_readState_10 : decode cX4_readState 10 = .ok (.ireturn, 1) := by decide +kernel
theorem dX4_readState_11 : decode cX4_readState 11 = .ok (.aload_n 0, 1) := by decide +kernel
theorem dX4_readState_12 : decode cX4_readState 12 = .ok (.invokevirtual 23, 3) := by decide +kernel
theorem dX4_readState_15 : decode cX4_readState 15 = .ok (.iconst 0, 1) := by decide +kernel
theorem dX4_readState_16 : decode cX4_readState 16 = .ok (.istore_n 2, 1) := by decide +kernel
theorem dX4_readState_17 : decode cX4_readState 17 = .ok (.iload_n 2, 1) := by decide +kernel
theorem dX4_readState_18 : decode cX4_readState 18 = .ok (.iconst 4, 1) := by decide +kernel
theorem dX4_readState_19 : decode cX4_readState 19 = .ok (.if_icmp .ge 28, 3) := by decide +kernel
theorem dX4_readState_22 : decode cX4_readState 22 = .ok (.aload_n 0, 1) := by decide +kernel
theorem dX4_readState_23 : decode cX4_readState 23 = .ok (.invokevirtual 81, 3) := by decide +kernel
theorem dX4_readState_26 : decode cX4_readState 26 = .ok (.ifCond .ne 5, 3) := by decide +kernel
theorem dX4_readState_29 : decode cX4_readState 29 = .ok (.iconst 0, 1) := by decide +kernel
theorem dX4_readState_30 : decode cX4_readState 30 = .ok (.ireturn, 1) := by decide +kernel
theorem dX4_readState_31 : decode cX4_readState 31 = .ok (.aload_n 0, 1) := by decide +kernel
theorem dX4_readState_32 : decode cX4_readState 32 = .ok (.getfield 15, 3) := by decide +kernel
theorem dX4_readState_35 : decode cX4_readState 35 = .ok (.iload_n 2, 1) := by decide +kernel
theorem dX4_readState_36 : decode cX4_readState 36 = .ok (.aload_n 0, 1) := by decide +kernel
theorem dX4_readState_37 : decode cX4_readState 37 = .ok (.getfield 84, 3) := by decide +kernel
theorem dX4_readState_40 : decode cX4_readState 40 = .ok (.iastore, 1) := by decide +kernel
theorem dX4_readState_41 : decode cX4_readState 41 = .ok (.iinc 2 1, 3) := by decide +kernel
theorem dX4_readState_44 : decode cX4_readState 44 = .ok (.goto (-27), 3) := by decide +kernel
theorem dX4_readState_47 : decode cX4_readState 47 = .ok (.aload_n 0, 1) := by decide +kernel
theorem dX4_readState_48 : decode cX4_readState 48 = .ok (.getfield 15, 3) := by decide +kernel
theorem dX4_readState_51 : decode cX4_readState 51 = .ok (.iconst 0, 1) := by decide +kernel
theorem dX4_readState_52 : decode cX4_readState 52 = .ok (.aload_n 1, 1) := by decide +kernel
theorem dX4_readState_53 : decode cX4_readState 53 = .ok (.getfield 87, 3) := by decide +kernel
theorem dX4_readState_56 : decode cX4_readState 56 = .ok (.aload_n 1, 1) := by decide +kernel
theorem dX4_readState_57 : decode cX4_readState 57 = .ok (.getfield 78, 3) := by decide +kernel
theorem dX4_readState_60 : decode cX4_readState 60 = .ok (.iconst 4, 1) := by decide +kernel
theorem dX4_readState_61 : decode cX4_readState 61 = .ok (.imul, 1) := by decide +kernel
theorem dX4_readState_62 : decode cX4_readState 62 = .ok (.iconst 4, 1) := by decide +kernel
theorem dX4_readState_63 : decode cX4_readState 63 = .ok (.invokestatic 90, 3) := by decide +kernel
theorem dX4_readState_66 : decode cX4_readState 66 = .ok (.aload_n 1, 1) := by decide +kernel
theorem dX4_readState_67 : decode cX4_readState 67 = .ok (.dup, 1) := by decide +kernel
theorem dX4_readState_68 : decode cX4_readState 68 = .ok (.getfield 78, 3) := by decide +kernel
theorem dX4_readState_71 : decode cX4_readState 71 = .ok (.iconst 1, 1) := by decide +kernel
theorem dX4_readState_72 : decode cX4_readState 72 = .ok (.iadd, 1) := by decide +kernel
theorem dX4_readState_73 : decode cX4_readState 73 = .ok (.putfield 78, 3) := by decide +kernel
theorem dX4_readState_76 : decode cX4_readState 76 = .ok (.iconst 1, 1) := by decide +kernel
theorem dX4_readState_77 : decode cX4_readState 77 = .ok (.ireturn, 1) := by decide +kernel
set_option maxRecDepth 20000 in
theorem ggX4_readWay_X4_advance : GoodIn wsX4_readWay wsX4_advance := goodIn_r _ [6, 7, 8, 9, 10, 35, 36, 37, 38, 39, 40, 41] (by decide +kernel) (by decide +kernel)
set_option maxRecDepth 20000 in
theorem gX4_readWay_X4_advance : GoodIn wsX4_readWay (wsV RX4 23 RX4 yX4_advance wsX4_advance) := goodIn_app (goodIn_of _ (by decide +kernel)) ggX4_readWay_X4_advance
set_option maxRecDepth 20000 in
theorem ggX4_readWay_X4_numberHere : GoodIn wsX4_readWay wsX4_numberHere := goodIn_r _ [14, 7, 8, 10, 35, 36, 37, 38, 39, 40, 41] (by decide +kernel) (by decide +kernel)
set_option maxRecDepth 20000 in
theorem gX4_readWay_X4_numberHere : GoodIn wsX4_readWay (wsV RX4 99 RX4 yX4_numberHere wsX4_numberHere) := goodIn_app (goodIn_of _ (by decide +kernel)) ggX4_readWay_X4_numberHere
set_option maxRecDepth 20000 in
theorem ggX4_readWay_X4_readUpTo : GoodIn wsX4_readWay wsX4_readUpTo := goodIn_r _ [18, 1, 11, 12, 13, 5, 14, 7, 8, 10, 2, 3, 4, 6, 9, 35, 36, 37, 38, 39, 40, 41] (by decide +kernel) (by decide +kernel)
set_option maxRecDepth 20000 in
theorem gX4_readWay_X4_readUpTo : GoodIn wsX4_readWay (wsV RX4 103 RX4 yX4_readUpTo wsX4_readUpTo) := goodIn_app (goodIn_of _ (by decide +kernel)) ggX4_readWay_X4_readUpTo
set_option maxRecDepth 20000 in
theorem ggX4_readWay_X0_putPart : GoodIn wsX4_readWay wsX0_putPart := goodIn_r _ [23, 24, 29, 30, 31, 32, 33, 34] (by decide +kernel) (by decide +kernel)
set_option maxRecDepth 20000 in
theorem gX4_readWay_X0_putPart : GoodIn wsX4_readWay (wsV RX4 107 RX0 yX0_putPart wsX0_putPart) := goodIn_app (goodIn_of _ (by decide +kernel)) ggX4_readWay_X0_putPart
set_option maxRecDepth 20000 in
theorem ggX4_readWay_X4_readFrames : GoodIn wsX4_readWay wsX4_readFrames := goodIn_r _ [28, 11, 12, 13, 5, 14, 7, 8, 10, 15, 16, 17, 18, 1, 2, 3, 4, 6, 9, 35, 36, 37, 38, 39, 40, 41] (by decide +kernel) (by decide +kernel)
set_option maxRecDepth 20000 in
theorem gX4_readWay_X4_readFrames : GoodIn wsX4_readWay (wsV RX4 111 RX4 yX4_readFrames wsX4_readFrames) := goodIn_app (goodIn_of _ (by decide +kernel)) ggX4_readWay_X4_readFrames
theorem dX4_readWay_0 : decode cX4_readWay 0 = .ok (.aload_n 1, 1) := by decide +kernel
theorem dX4_readWay_1 : decode cX4_readWay 1 = .ok (.getfield 96, 3) := by decide +kernel
theorem dX4_readWay_4 : decode cX4_readWay 4 = .ok (.bipush 12, 2) := by decide +kernel
theorem dX4_readWay_6 : decode cX4_readWay 6 = .ok (.if_icmp .lt 5, 3) := by decide +kernel
theorem dX4_readWay_9 : decode cX4_readWay 9 = .ok (.iconst 0, 1) := by decide +kernel
theorem dX4_readWay_10 : decode cX4_readWay 10 = .ok (.ireturn, 1) := by decide +kernel
theorem dX4_readWay_11 : decode cX4_readWay 11 = .ok (.aload_n 0, 1) := by decide +kernel
theorem dX4_readWay_12 : decode cX4_readWay 12 = .ok (.invokevirtual 23, 3) := by decide +kernel
theorem dX4_readWay_15 : decode cX4_readWay 15 = .ok (.aload_n 1, 1) := by decide +kernel
theorem dX4_readWay_16 : decode cX4_readWay 16 = .ok (.getfield 96, 3) := by decide +kernel
theorem dX4_readWay_19 : decode cX4_readWay 19 = .ok (.istore_n 2, 1) := by decide +kernel
theorem dX4_readWay_20 : decode cX4_readWay 20 = .ok (.aload_n 0, 1) := by decide +kernel
theorem dX4_readWay_21 : decode cX4_readWay 21 = .ok (.aload_n 0, 1) := by decide +kernel
theorem dX4_readWay_22 : decode cX4_readWay 22 = .ok (.invokevirtual 99, 3) := by decide +kernel
theorem dX4_readWay_25 : decode cX4_readWay 25 = .ok (.bipush 9, 2) := by decide +kernel
theorem dX4_readWay_27 : decode cX4_readWay 27 = .ok (.if_icmp .ne 8, 3) := by decide +kernel
theorem dX4_readWay_30 : decode cX4_readWay 30 = .ok (.bipush 9, 2) := by decide +kernel
theorem dX4_readWay_32 : decode cX4_readWay 32 = .ok (.goto 9, 3) := by decide +kernel
theorem dX4_readWay_35 : decode cX4_readWay 35 = .ok (.aload_n 1, 1) := by decide +kernel
theorem dX4_readWay_36 : decode cX4_readWay 36 = .ok (.getfield 78, 3) := by decide +kernel
theorem dX4_readWay_39 : decode cX4_readWay 39 = .ok (.iconst 1, 1) := by decide +kernel
theorem dX4_readWay_40 : decode cX4_readWay 40 = .ok (.isub, 1) := by decide +kernel
theorem dX4_readWay_41 : decode cX4_readWay 41 = .ok (.invokevirtual 103, 3) := by decide +kernel
theorem dX4_readWay_44 : decode cX4_readWay 44 = .ok (.ifCond .ne 5, 3) := by decide +kernel
theorem dX4_readWay_47 : decode cX4_readWay 47 = .ok (.iconst 0, 1) := by decide +kernel
theorem dX4_readWay_48 : decode cX4_readWay 48 = .ok (.ireturn, 1) := by decide +kernel
theorem dX4_readWay_49 : decode cX4_readWay 49 = .ok (.aload_n 1, 1) := by decide +kernel
theorem dX4_readWay_50 : decode cX4_readWay 50 = .ok (.iload_n 2, 1) := by decide +kernel
theorem dX4_readWay_51 : decode cX4_readWay 51 = .ok (.iconst 0, 1) := by decide +kernel
theorem dX4_readWay_52 : decode cX4_readWay 52 = .ok (.aload_n 0, 1) := by decide +kernel
theorem dX4_readWay_53 : decode cX4_readWay 53 = .ok (.getfield 84, 3) := by decide +kernel
theorem dX4_readWay_56 : decode cX4_readWay 56 = .ok (.invokevirtual 107, 3) := by decide +kernel
theorem dX4_readWay_59 : decode cX4_readWay 59 = .ok (.aload_n 0, 1) := by decide +kernel
theorem dX4_readWay_60 : decode cX4_readWay 60 = .ok (.aload_n 1, 1) := by decide +kernel
theorem dX4_readWay_61 : decode cX4_readWay 61 = .ok (.getfield 78, 3) := by decide +kernel
theorem dX4_readWay_64 : decode cX4_readWay 64 = .ok (.iconst 1, 1) := by decide +kernel
theorem dX4_readWay_65 : decode cX4_readWay 65 = .ok (.isub, 1) := by decide +kernel
theorem dX4_readWay_66 : decode cX4_readWay 66 = .ok (.invokevirtual 103, 3) := by decide +kernel
theorem dX4_readWay_69 : decode cX4_readWay 69 = .ok (.ifCond .ne 5, 3) := by decide +kernel
theorem dX4_readWay_72 : decode cX4_readWay 72 = .ok (.iconst 0, 1) := by decide +kernel
theorem dX4_readWay_73 : decode cX4_readWay 73 = .ok (.ireturn, 1) := by decide +kernel
theorem dX4_readWay_74 : decode cX4_readWay 74 = .ok (.aload_n 1, 1) := by decide +kernel
theorem dX4_readWay_75 : decode cX4_readWay 75 = .ok (.iload_n 2, 1) := by decide +kernel
theorem dX4_readWay_76 : decode cX4_readWay 76 = .ok (.iconst 1, 1) := by decide +kernel
theorem dX4_readWay_77 : decode cX4_readWay 77 = .ok (.aload_n 0, 1) := by decide +kernel
theorem dX4_readWay_78 : decode cX4_readWay 78 = .ok (.getfield 84, 3) := by decide +kernel
theorem dX4_readWay_81 : decode cX4_readWay 81 = .ok (.invokevirtual 107, 3) := by decide +kernel
theorem dX4_readWay_84 : decode cX4_readWay 84 = .ok (.aload_n 0, 1) := by decide +kernel
theorem dX4_readWay_85 : decode cX4_readWay 85 = .ok (.invokevirtual 111, 3) := by decide +kernel
theorem dX4_readWay_88 : decode cX4_readWay 88 = .ok (.ifCond .ne 5, 3) := by decide +kernel
theorem dX4_readWay_91 : decode cX4_readWay 91 = .ok (.iconst 0, 1) := by decide +kernel
theorem dX4_readWay_92 : decode cX4_readWay 92 = .ok (.ireturn, 1) := by decide +kernel
theorem dX4_readWay_93 : decode cX4_readWay 93 = .ok (.aload_n 1, 1) := by decide +kernel
theorem dX4_readWay_94 : decode cX4_readWay 94 = .ok (.iload_n 2, 1) := by decide +kernel
theorem dX4_readWay_95 : decode cX4_readWay 95 = .ok (.iconst 2, 1) := by decide +kernel
theorem dX4_readWay_96 : decode cX4_readWay 96 = .ok (.aload_n 0, 1) := by decide +kernel
theorem dX4_readWay_97 : decode cX4_readWay 97 = .ok (.getfield 84, 3) := by decide +kernel
theorem dX4_readWay_100 : decode cX4_readWay 100 = .ok (.invokevirtual 107, 3) := by decide +kernel
theorem dX4_readWay_103 : decode cX4_readWay 103 = .ok (.aload_n 1, 1) := by decide +kernel
theorem dX4_readWay_104 : decode cX4_readWay 104 = .ok (.iload_n 2, 1) := by decide +kernel
theorem dX4_readWay_105 : decode cX4_readWay 105 = .ok (.iconst 3, 1) := by decide +kernel
theorem dX4_readWay_106 : decode cX4_readWay 106 = .ok (.iconst 0, 1) := by decide +kernel
theorem dX4_readWay_107 : decode cX4_readWay 107 = .ok (.invokevirtual 107, 3) := by decide +kernel
theorem dX4_readWay_110 : decode cX4_readWay 110 = .ok (.iconst 1, 1) := by decide +kernel
theorem dX4_readWay_111 : decode cX4_readWay 111 = .ok (.ireturn, 1) := by decide +kernel
set_option maxRecDepth 20000 in
theorem ggX4_readCondition_X4_conditionHere : GoodIn wsX4_readCondition wsX4_conditionHere := goodIn_r _ [6, 7, 8, 9, 5, 10, 11, 12, 13, 14, 15, 16, 17, 18, 19, 20, 21, 22, 23, 24, 25, 26, 27, 28, 29, 30, 31, 32, 33, 34, 35, 36, 37, 38, 39, 40, 41, 42, 43, 44, 45, 46, 47, 48, 49, 50, 51, 52, 53, 54, 55, 56, 57, 58, 59, 60, 61, 62, 90, 91, 92, 93, 94, 95, 96] (by decide +kernel) (by decide +kernel)
set_option maxRecDepth 20000 in
theorem gX4_readCondition_X4_conditionHere : GoodIn wsX4_readCondition (wsV RX4 114 RX4 yX4_conditionHere wsX4_conditionHere) := goodIn_app (goodIn_of _ (by decide +kernel)) ggX4_readCondition_X4_conditionHere
set_option maxRecDepth 20000 in
theorem ggX4_readCondition_X4_advance : GoodIn wsX4_readCondition wsX4_advance := goodIn_r _ [66, 11, 12, 67, 13, 90, 91, 92, 93, 94, 95, 96] (by decide +kernel) (by decide +kernel)
set_option maxRecDepth 20000 in
theorem gX4_readCondition_X4_advance : GoodIn wsX4_readCondition (wsV RX4 23 RX4 yX4_advance wsX4_advance) := goodIn_app (goodIn_of _ (by decide +kernel)) ggX4_readCondition_X4_advance
set_option maxRecDepth 20000 in
theorem ggX4_readCondition_X4_readUpTo : GoodIn wsX4_readCondition wsX4_readUpTo := goodIn_r _ [71, 1, 72, 73, 74, 5, 75, 11, 12, 13, 63, 64, 65, 66, 67, 90, 91, 92, 93, 94, 95, 96] (by decide +kernel) (by decide +kernel)
set_option maxRecDepth 20000 in
theorem gX4_readCondition_X4_readUpTo : GoodIn wsX4_readCondition (wsV RX4 103 RX4 yX4_readUpTo wsX4_readUpTo) := goodIn_app (goodIn_of _ (by decide +kernel)) ggX4_readCondition_X4_readUpTo
set_option maxRecDepth 20000 in
theorem ggX4_readCondition_X4_readSigned : GoodIn wsX4_readCondition wsX4_readSigned := goodIn_r _ [79, 1, 80, 81, 82, 5, 83, 11, 12, 13, 63, 64, 65, 66, 67, 68, 69, 70, 71, 72, 73, 74, 75, 90, 91, 92, 93, 94, 95, 96] (by decide +kernel) (by decide +kernel)
set_option maxRecDepth 20000 in
theorem gX4_readCondition_X4_readSigned : GoodIn wsX4_readCondition (wsV RX4 81 RX4 yX4_readSigned wsX4_readSigned) := goodIn_app (goodIn_of _ (by decide +kernel)) ggX4_readCondition_X4_readSigned
set_option maxRecDepth 20000 in
theorem ggX4_readCondition_X0_putPart : GoodIn wsX4_readCondition wsX0_putPart := goodIn_r _ [88, 89, 97, 98, 99, 100, 101, 102] (by decide +kernel) (by decide +kernel)
set_option maxRecDepth 20000 in
theorem gX4_readCondition_X0_putPart : GoodIn wsX4_readCondition (wsV RX4 107 RX0 yX0_putPart wsX0_putPart) := goodIn_app (goodIn_of _ (by decide +kernel)) ggX4_readCondition_X0_putPart
theorem dX4_readCondition_0 : decode cX4_readCondition 0 = .ok (.aload_n 0, 1) := by decide +kernel
theorem dX4_readCondition_1 : decode cX4_readCondition 1 = .ok (.invokevirtual 114, 3) := by decide +kernel
theorem dX4_readCondition_4 : decode cX4_readCondition 4 = .ok (.istore_n 2, 1) := by decide +kernel
theorem dX4_readCondition_5 : decode cX4_readCondition 5 = .ok (.iload_n 2, 1) := by decide +kernel
theorem dX4_readCondition_6 : decode cX4_readCondition 6 = .ok (.iconst (-1), 1) := by decide +kernel
theorem dX4_readCondition_7 : decode cX4_readCondition 7 = .ok (.if_icmp .ne 5, 3) := by decide +kernel
theorem dX4_readCondition_10 : decode cX4_readCondition 10 = .ok (.iconst 0, 1) := by decide +kernel
theorem dX4_readCondition_11 : decode cX4_readCondition 11 = .ok (.ireturn, 1) := by decide +kernel
theorem dX4_readCondition_12 : decode cX4_readCondition 12 = .ok (.aload_n 0, 1) := by decide +kernel
theorem dX4_readCondition_13 : decode cX4_readCondition 13 = .ok (.invokevirtual 23, 3) := by decide +kernel
theorem dX4_readCondition_16 : decode cX4_readCondition 16 = .ok (.iconst 0, 1) := by decide +kernel
theorem dX4_readCondition_17 : decode cX4_readCondition 17 = .ok (.istore_n 3, 1) := by decide +kernel
theorem dX4_readCondition_18 : decode cX4_readCondition 18 = .ok (.iload_n 2, 1) := by decide +kernel
theorem dX4_readCondition_19 : decode cX4_readCondition 19 = .ok (.ifCond .eq 27, 3) := by decide +kernel
theorem dX4_readCondition_22 : decode cX4_readCondition 22 = .ok (.aload_n 0, 1) := by decide +kernel
theorem dX4_readCondition_23 : decode cX4_readCondition 23 = .ok (.iload_n 2, 1) := by decide +kernel
theorem dX4_readCondition_24 : decode cX4_readCondition 24 = .ok (.iconst 3, 1) := by decide +kernel
theorem dX4_readCondition_25 : decode cX4_readCondition 25 = .ok (.if_icmp .ne 7, 3) := by decide +kernel
theorem dX4_readCondition_28 : decode cX4_readCondition 28 = .ok (.iconst 2, 1) := by decide +kernel
theorem dX4_readCondition_29 : decode cX4_readCondition 29 = .ok (.goto 4, 3) := by decide +kernel
theorem dX4_readCondition_32 : decode cX4_readCondition 32 = .ok (.iconst 2, 1) := by decide +kernel
theorem dX4_readCondition_33 : decode cX4_readCondition 33 = .ok (.invokevirtual 103, 3) := by decide +kernel
theorem dX4_readCondition_36 : decode cX4_readCondition 36 = .ok (.ifCond .ne 5, 3) := by decide +kernel
theorem dX4_readCondition_39 : decode cX4_readCondition 39 = .ok (.iconst 0, 1) := by decide +kernel
theorem dX4_readCondition_40 : decode cX4_readCondition 40 = .ok (.ireturn, 1) := by decide +kernel
theorem dX4_readCondition_41 : decode cX4_readCondition 41 = .ok (.aload_n 0, 1) := by decide +kernel
theorem dX4_readCondition_42 : decode cX4_readCondition 42 = .ok (.getfield 84, 3) := by decide +kernel
theorem dX4_readCondition_45 : decode cX4_readCondition 45 = .ok (.istore_n 3, 1) := by decide +kernel
theorem dX4_readCondition_46 : decode cX4_readCondition 46 = .ok (.iconst 0, 1) := by decide +kernel
theorem dX4_readCondition_47 : decode cX4_readCondition 47 = .ok (.istore 4, 2) := by decide +kernel
theorem dX4_readCondition_49 : decode cX4_readCondition 49 = .ok (.iload_n 2, 1) := by decide +kernel
theorem dX4_readCondition_50 : decode cX4_readCondition 50 = .ok (.iconst 3, 1) := by decide +kernel
theorem dX4_readCondition_51 : decode cX4_readCondition 51 = .ok (.if_icmp .eq 35, 3) := by decide +kernel
theorem dX4_readCondition_54 : decode cX4_readCondition 54 = .ok (.iload_n 2, 1) := by decide +kernel
theorem dX4_readCondition_55 : decode cX4_readCondition 55 = .ok (.ifCond .ne 12, 3) := by decide +kernel
theorem dX4_readCondition_58 : decode cX4_readCondition 58 = .ok (.aload_n 0, 1) := by decide +kernel
theorem dX4_readCondition_59 : decode cX4_readCondition 59 = .ok (.bipush 99, 2) := by decide +kernel
theorem dX4_readCondition_61 : decode cX4_readCondition 61 = .ok (.invokevirtual 103, 3) := by decide +kernel
theorem dX4_readCondition_64 : decode cX4_readCondition 64 = .ok (.goto 7, 3) := by decide +kernel
theorem dX4_readCondition_67 : decode cX4_readCondition 67 = .ok (.aload_n 0, 1) := by decide +kernel
theorem dX4_readCondition_68 : decode cX4_readCondition 68 = .ok (.invokevirtual 81, 3) := by decide +kernel
theorem dX4_readCondition_71 : decode cX4_readCondition 71 = .ok (.istore 5, 2) := by decide +kernel
theorem dX4_readCondition_73 : decode cX4_readCondition 73 = .ok (.iload 5, 2) := by decide +kernel
theorem dX4_readCondition_75 : decode cX4_readCondition 75 = .ok (.ifCond .ne 5, 3) := by decide +kernel
theorem dX4_readCondition_78 : decode cX4_readCondition 78 = .ok (.iconst 0, 1) := by decide +kernel
theorem dX4_readCondition_79 : decode cX4_readCondition 79 = .ok (.ireturn, 1) := by decide +kernel
theorem dX4_readCondition_80 : decode cX4_readCondition 80 = .ok (.aload_n 0, 1) := by decide +kernel
theorem dX4_readCondition_81 : decode cX4_readCondition 81 = .ok (.getfield 84, 3) := by decide +kernel
theorem dX4_readCondition_84 : decode cX4_readCondition 84 = .ok (.istore 4, 2) := by decide +kernel
theorem dX4_readCondition_86 : decode cX4_readCondition 86 = .ok (.aload_n 1, 1) := by decide +kernel
theorem dX4_readCondition_87 : decode cX4_readCondition 87 = .ok (.aload_n 1, 1) := by decide +kernel
theorem dX4_readCondition_88 : decode cX4_readCondition 88 = .ok (.getfield 96, 3) := by decide +kernel
theorem dX4_readCondition_91 : decode cX4_readCondition 91 = .ok (.iconst 4, 1) := by decide +kernel
theorem dX4_readCondition_92 : decode cX4_readCondition 92 = .ok (.iload_n 2, 1) := by decide +kernel
theorem dX4_readCondition_93 : decode cX4_readCondition 93 = .ok (.invokevirtual 107, 3) := by decide +kernel
theorem dX4_readCondition_96 : decode cX4_readCondition 96 = .ok (.aload_n 1, 1) := by decide +kernel
theorem dX4_readCondition_97 : decode cX4_readCondition 97 = .ok (.aload_n 1, 1) := by decide +kernel
theorem dX4_readCondition_98 : decode cX4_readCondition 98 = .ok (.getfield 96, 3) := by decide +kernel
theorem dX4_readCondition_101 : decode cX4_readCondition 101 = .ok (.iconst 5, 1) := by decide +kernel
theorem dX4_readCondition_102 : decode cX4_readCondition 102 = .ok (.iload_n 3, 1) := by decide +kernel
theorem dX4_readCondition_103 : decode cX4_readCondition 103 = .ok (.invokevirtual 107, 3) := by decide +kernel
theorem dX4_readCondition_106 : decode cX4_readCondition 106 = .ok (.aload_n 1, 1) := by decide +kernel
theorem dX4_readCondition_107 : decode cX4_readCondition 107 = .ok (.aload_n 1, 1) := by decide +kernel
theorem dX4_readCondition_108 : decode cX4_readCondition 108 = .ok (.getfield 96, 3) := by decide +kernel
theorem dX4_readCondition_111 : decode cX4_readCondition 111 = .ok (.bipush 6, 2) := by decide +kernel
theorem dX4_readCondition_113 : decode cX4_readCondition 113 = .ok (.iload 4, 2) := by decide +kernel
theorem dX4_readCondition_115 : decode cX4_readCondition 115 = .ok (.invokevirtual 107, 3) := by decide +kernel
theorem dX4_readCondition_118 : decode cX4_readCondition 118 = .ok (.aload_n 1, 1) := by decide +kernel
theorem dX4_readCondition_119 : decode cX4_readCondition 119 = .ok (.dup, 1) := by decide +kernel
theorem dX4_readCondition_120 : decode cX4_readCondition 120 = .ok (.getfield 96, 3) := by decide +kernel
theorem dX4_readCondition_123 : decode cX4_readCondition 123 = .ok (.iconst 1, 1) := by decide +kernel
theorem dX4_readCondition_124 : decode cX4_readCondition 124 = .ok (.iadd, 1) := by decide +kernel
theorem dX4_readCondition_125 : decode cX4_readCondition 125 = .ok (.putfield 96, 3) := by decide +kernel
theorem dX4_readCondition_128 : decode cX4_readCondition 128 = .ok (.iconst 1, 1) := by decide +kernel
theorem dX4_readCondition_129 : decode cX4_readCondition 129 = .ok (.ireturn, 1) := by decide +kernel
set_option maxRecDepth 20000 in
theorem ggX4_conditionHere_X4_isWord : GoodIn wsX4_conditionHere wsX4_isWord := goodIn_r _ [5, 6, 7, 8, 9, 10, 11, 12, 13, 14, 15, 16, 17, 18, 19, 20, 21, 22, 23, 24, 25, 26, 27, 28, 29, 30, 31, 32, 33, 34, 35, 36, 37, 38, 39, 40, 41, 42, 43, 44, 45, 46, 47, 48, 49, 50, 51, 52, 53, 54, 55, 56, 57, 58, 59, 60, 61, 62, 63, 64] (by decide +kernel) (by decide +kernel)
set_option maxRecDepth 20000 in
theorem gX4_conditionHere_X4_isWord : GoodIn wsX4_conditionHere (wsV RX4 46 RX4 yX4_isWord wsX4_isWord) := goodIn_app (goodIn_of _ (by decide +kernel)) ggX4_conditionHere_X4_isWord
theorem dX4_conditionHere_0 : decode cX4_conditionHere 0 = .ok (.aload_n 0, 1) := by decide +kernel
theorem dX4_conditionHere_1 : decode cX4_conditionHere 1 = .ok (.ldc 117, 2) := by decide +kernel
theorem dX4_conditionHere_3 : decode cX4_conditionHere 3 = .ok (.invokevirtual 46, 3) := by decide +kernel
theorem dX4_conditionHere_6 : decode cX4_conditionHere 6 = .ok (.ifCond .eq 5, 3) := by decide +kernel
theorem dX4_conditionHere_9 : decode cX4_conditionHere 9 = .ok (.iconst 0, 1) := by decide +kernel
theorem dX4_conditionHere_10 : decode cX4_conditionHere 10 = .ok (.ireturn, 1) := by decide +kernel
theorem dX4_conditionHere_11 : decode cX4_conditionHere 11 = .ok (.aload_n 0, 1) := by decide +kernel
theorem dX4_conditionHere_12 : decode cX4_conditionHere 12 = .ok (.ldc 119, 2) := by decide +kernel
theorem dX4_conditionHere_14 : decode cX4_conditionHere 14 = .ok (.invokevirtual 46, 3) := by decide +kernel
theorem dX4_conditionHere_17 : decode cX4_conditionHere 17 = .ok (.ifCond .eq 5, 3) := by decide +kernel
theorem dX4_conditionHere_20 : decode cX4_conditionHere 20 = .ok (.iconst 1, 1) := by decide +kernel
theorem dX4_conditionHere_21 : decode cX4_conditionHere 21 = .ok (.ireturn, 1) := by decide +kernel
theorem dX4_conditionHere_22 : decode cX4_conditionHere 22 = .ok (.aload_n 0, 1) := by decide +kernel
theorem dX4_conditionHere_23 : decode cX4_conditionHere 23 = .ok (.ldc 121, 2) := by decide +kernel
theorem dX4_conditionHere_25 : decode cX4_conditionHere 25 = .ok (.invokevirtual 46, 3) := by decide +kernel
theorem dX4_conditionHere_28 : decode cX4_conditionHere 28 = .ok (.ifCond .eq 5, 3) := by decide +kernel
theorem dX4_conditionHere_31 : decode cX4_conditionHere 31 = .ok (.iconst 2, 1) := by decide +kernel
theorem dX4_conditionHere_32 : decode cX4_conditionHere 32 = .ok (.ireturn, 1) := by decide +kernel
theorem dX4_conditionHere_33 : decode cX4_conditionHere 33 = .ok (.aload_n 0, 1) := by decide +kernel
theorem dX4_conditionHere_34 : decode cX4_conditionHere 34 = .ok (.ldc 123, 2) := by decide +kernel
theorem dX4_conditionHere_36 : decode cX4_conditionHere 36 = .ok (.invokevirtual 46, 3) := by decide +kernel
theorem dX4_conditionHere_39 : decode cX4_conditionHere 39 = .ok (.ifCond .eq 7, 3) := by decide +kernel
theorem dX4_conditionHere_42 : decode cX4_conditionHere 42 = .ok (.iconst 3, 1) := by decide +kernel
theorem dX4_conditionHere_43 : decode cX4_conditionHere 43 = .ok (.goto 4, 3) := by decide +kernel
theorem dX4_conditionHere_46 : decode cX4_conditionHere 46 = .ok (.iconst (-1), 1) := by decide +kernel
theorem dX4_conditionHere_47 : decode cX4_conditionHere 47 = .ok (.ireturn, 1) := by decide +kernel
set_option maxRecDepth 20000 in
theorem ggX4_readBreaking_X0_putPart : GoodIn wsX4_readBreaking wsX0_putPart := goodIn_r _ [5, 6, 16, 17, 18, 19, 20, 21] (by decide +kernel) (by decide +kernel)
set_option maxRecDepth 20000 in
theorem gX4_readBreaking_X0_putPart : GoodIn wsX4_readBreaking (wsV RX4 107 RX0 yX0_putPart wsX0_putPart) := goodIn_app (goodIn_of _ (by decide +kernel)) ggX4_readBreaking_X0_putPart
set_option maxRecDepth 20000 in
theorem ggX4_readBreaking_X4_advance : GoodIn wsX4_readBreaking wsX4_advance := goodIn_r _ [11, 12, 13, 14, 15, 22, 23, 24, 25, 26, 27, 28] (by decide +kernel) (by decide +kernel)
set_option maxRecDepth 20000 in
theorem gX4_readBreaking_X4_advance : GoodIn wsX4_readBreaking (wsV RX4 23 RX4 yX4_advance wsX4_advance) := goodIn_app (goodIn_of _ (by decide +kernel)) ggX4_readBreaking_X4_advance
theorem dX4_readBreaking_0 : decode cX4_readBreaking 0 = .ok (.aload_n 1, 1) := by decide +kernel
theorem dX4_readBreaking_1 : decode cX4_readBreaking 1 = .ok (.getfield 96, 3) := by decide +kernel
theorem dX4_readBreaking_4 : decode cX4_readBreaking 4 = .ok (.ifCond .ne 5, 3) := by decide +kernel
theorem dX4_readBreaking_7 : decode cX4_readBreaking 7 = .ok (.iconst 0, 1) := by decide +kernel
theorem dX4_readBreaking_8 : decode cX4_readBreaking 8 = .ok (.ireturn, 1) := by decide +kernel
theorem dX4_readBreaking_9 : decode cX4_readBreaking 9 = .ok (.aload_n 1, 1) := by decide +kernel
theorem dX4_readBreaking_10 : decode cX4_readBreaking 10 = .ok (.aload_n 1, 1) := by decide +kernel
theorem dX4_readBreaking_11 : decode cX4_readBreaking 11 = .ok (.getfield 96, 3) := by decide +kernel
theorem dX4_readBreaking_14 : decode cX4_readBreaking 14 = .ok (.iconst 1, 1) := by decide +kernel
theorem dX4_readBreaking_15 : decode cX4_readBreaking 15 = .ok (.isub, 1) := by decide +kernel
theorem dX4_readBreaking_16 : decode cX4_readBreaking 16 = .ok (.iconst 3, 1) := by decide +kernel
theorem dX4_readBreaking_17 : decode cX4_readBreaking 17 = .ok (.iconst 1, 1) := by decide +kernel
theorem dX4_readBreaking_18 : decode cX4_readBreaking 18 = .ok (.invokevirtual 107, 3) := by decide +kernel
theorem dX4_readBreaking_21 : decode cX4_readBreaking 21 = .ok (.aload_n 0, 1) := by decide +kernel
theorem dX4_readBreaking_22 : decode cX4_readBreaking 22 = .ok (.invokevirtual 23, 3) := by decide +kernel
theorem dX4_readBreaking_25 : decode cX4_readBreaking 25 = .ok (.iconst 1, 1) := by decide +kernel
theorem dX4_readBreaking_26 : decode cX4_readBreaking 26 = .ok (.ireturn, 1) := by decide +kernel
set_option maxRecDepth 20000 in
theorem ggX4_readMask_X4_advance : GoodIn wsX4_readMask wsX4_advance := goodIn_r _ [6, 7, 8, 9, 10, 19, 20, 21, 22, 23, 24, 25] (by decide +kernel) (by decide +kernel)
set_option maxRecDepth 20000 in
theorem gX4_readMask_X4_advance : GoodIn wsX4_readMask (wsV RX4 23 RX4 yX4_advance wsX4_advance) := goodIn_app (goodIn_of _ (by decide +kernel)) ggX4_readMask_X4_advance
set_option maxRecDepth 20000 in
theorem ggX4_readMask_X4_readUpTo : GoodIn wsX4_readMask wsX4_readUpTo := goodIn_r _ [14, 1, 15, 16, 17, 5, 18, 7, 8, 10, 2, 3, 4, 6, 9, 19, 20, 21, 22, 23, 24, 25] (by decide +kernel) (by decide +kernel)
set_option maxRecDepth 20000 in
theorem gX4_readMask_X4_readUpTo : GoodIn wsX4_readMask (wsV RX4 103 RX4 yX4_readUpTo wsX4_readUpTo) := goodIn_app (goodIn_of _ (by decide +kernel)) ggX4_readMask_X4_readUpTo
theorem dX4_readMask_0 : decode cX4_readMask 0 = .ok (.aload_n 0, 1) := by decide +kernel
theorem dX4_readMask_1 : decode cX4_readMask 1 = .ok (.invokevirtual 23, 3) := by decide +kernel
theorem dX4_readMask_4 : decode cX4_readMask 4 = .ok (.aload_n 0, 1) := by decide +kernel
theorem dX4_readMask_5 : decode cX4_readMask 5 = .ok (.bipush 15, 2) := by decide +kernel
theorem dX4_readMask_7 : decode cX4_readMask 7 = .ok (.invokevirtual 103, 3) := by decide +kernel
theorem dX4_readMask_10 : decode cX4_readMask 10 = .ok (.ifCond .ne 5, 3) := by decide +kernel
theorem dX4_readMask_13 : decode cX4_readMask 13 = .ok (.iconst 0, 1) := by decide +kernel
theorem dX4_readMask_14 : decode cX4_readMask 14 = .ok (.ireturn, 1) := by decide +kernel
theorem dX4_readMask_15 : decode cX4_readMask 15 = .ok (.aload_n 0, 1) := by decide +kernel
theorem dX4_readMask_16 : decode cX4_readMask 16 = .ok (.getfield 84, 3) := by decide +kernel
theorem dX4_readMask_19 : decode cX4_readMask 19 = .ok (.istore_n 2, 1) := by decide +kernel
theorem dX4_readMask_20 : decode cX4_readMask 20 = .ok (.aload_n 0, 1) := by decide +kernel
theorem dX4_readMask_21 : decode cX4_readMask 21 = .ok (.bipush 16, 2) := by decide +kernel
theorem dX4_readMask_23 : decode cX4_readMask 23 = .ok (.invokevirtual 103, 3) := by decide +kernel
theorem dX4_readMask_26 : decode cX4_readMask 26 = .ok (.ifCond .ne 5, 3) := by decide +kernel
theorem dX4_readMask_29 : decode cX4_readMask 29 = .ok (.iconst 0, 1) := by decide +kernel
theorem dX4_readMask_30 : decode cX4_readMask 30 = .ok (.ireturn, 1) := by decide +kernel
theorem dX4_readMask_31 : decode cX4_readMask 31 = .ok (.aload_n 1, 1) := by decide +kernel
theorem dX4_readMask_32 : decode cX4_readMask 32 = .ok (.iload_n 2, 1) := by decide +kernel
theorem dX4_readMask_33 : decode cX4_readMask 33 = .ok (.putfield 125, 3) := by decide +kernel
theorem dX4_readMask_36 : decode cX4_readMask 36 = .ok (.aload_n 1, 1) := by decide +kernel
theorem dX4_readMask_37 : decode cX4_readMask 37 = .ok (.aload_n 0, 1) := by decide +kernel
theorem dX4_readMask_38 : decode cX4_readMask 38 = .ok (.getfield 84, 3) := by decide +kernel
theorem dX4_readMask_41 : decode cX4_readMask 41 = .ok (.putfield 127, 3) := by decide +kernel
theorem dX4_readMask_44 : decode cX4_readMask 44 = .ok (.iconst 1, 1) := by decide +kernel
theorem dX4_readMask_45 : decode cX4_readMask 45 = .ok (.ireturn, 1) := by decide +kernel
set_option maxRecDepth 20000 in
theorem ggX4_readFrames_X4_numberHere : GoodIn wsX4_readFrames wsX4_numberHere := goodIn_r _ [5, 6, 7, 8, 19, 20, 21, 22, 23, 24, 25] (by decide +kernel) (by decide +kernel)
set_option maxRecDepth 20000 in
theorem gX4_readFrames_X4_numberHere : GoodIn wsX4_readFrames (wsV RX4 99 RX4 yX4_numberHere wsX4_numberHere) := goodIn_app (goodIn_of _ (by decide +kernel)) ggX4_readFrames_X4_numberHere
set_option maxRecDepth 20000 in
theorem ggX4_readFrames_X4_readUpTo : GoodIn wsX4_readFrames wsX4_readUpTo := goodIn_r _ [12, 13, 1, 2, 3, 4, 5, 6, 7, 8, 14, 15, 16, 17, 18, 19, 20, 21, 22, 23, 24, 25] (by decide +kernel) (by decide +kernel)
set_option maxRecDepth 20000 in
theorem gX4_readFrames_X4_readUpTo : GoodIn wsX4_readFrames (wsV RX4 103 RX4 yX4_readUpTo wsX4_readUpTo) := goodIn_app (goodIn_of _ (by decide +kernel)) ggX4_readFrames_X4_readUpTo
theorem dX4_readFrames_0 : decode cX4_readFrames 0 = .ok (.aload_n 0, 1) := by decide +kernel
theorem dX4_readFrames_1 : decode cX4_readFrames 1 = .ok (.invokevirtual 99, 3) := by decide +kernel
theorem dX4_readFrames_4 : decode cX4_readFrames 4 = .ok (.istore_n 1, 1) := by decide +kernel
theorem dX4_readFrames_5 : decode cX4_readFrames 5 = .ok (.iload_n 1, 1) := by decide +kernel
theorem dX4_readFrames_6 : decode cX4_readFrames 6 = .ok (.ifCond .lt 15, 3) := by decide +kernel
theorem dX4_readFrames_9 : decode cX4_readFrames 9 = .ok (.iload_n 1, 1) := by decide +kernel
theorem dX4_readFrames_10 : decode cX4_readFrames 10 = .ok (.iload_n 1, 1) := by decide +kernel
theorem dX4_readFrames_11 : decode cX4_readFrames 11 = .ok (.iconst 1, 1) := by decide +kernel
theorem dX4_readFrames_12 : decode cX4_readFrames 12 = .ok (.isub, 1) := by decide +kernel
theorem dX4_readFrames_13 : decode cX4_readFrames 13 = .ok (.iand, 1) := by decide +kernel
theorem dX4_readFrames_14 : decode cX4_readFrames 14 = .ok (.ifCond .ne 7, 3) := by decide +kernel
theorem dX4_readFrames_17 : decode cX4_readFrames 17 = .ok (.iconst 1, 1) := by decide +kernel
theorem dX4_readFrames_18 : decode cX4_readFrames 18 = .ok (.goto 4, 3) := by decide +kernel
theorem dX4_readFrames_21 : decode cX4_readFrames 21 = .ok (.iconst 0, 1) := by decide +kernel
theorem dX4_readFrames_22 : decode cX4_readFrames 22 = .ok (.istore_n 2, 1) := by decide +kernel
theorem dX4_readFrames_23 : decode cX4_readFrames 23 = .ok (.iload_n 2, 1) := by decide +kernel
theorem dX4_readFrames_24 : decode cX4_readFrames 24 = .ok (.ifCond .eq 16, 3) := by decide +kernel
theorem dX4_readFrames_27 : decode cX4_readFrames 27 = .ok (.aload_n 0, 1) := by decide +kernel
theorem dX4_readFrames_28 : decode cX4_readFrames 28 = .ok (.bipush 16, 2) := by decide +kernel
theorem dX4_readFrames_30 : decode cX4_readFrames 30 = .ok (.invokevirtual 103, 3) := by decide +kernel
theorem dX4_readFrames_33 : decode cX4_readFrames 33 = .ok (.ifCond .eq 7, 3) := by decide +kernel
theorem dX4_readFrames_36 : decode cX4_readFrames 36 = .ok (.iconst 1, 1) := by decide +kernel
theorem dX4_readFrames_37 : decode cX4_readFrames 37 = .ok (.goto 4, 3) := by decide +kernel
theorem dX4_readFrames_40 : decode cX4_readFrames 40 = .ok (.iconst 0, 1) := by decide +kernel
theorem dX4_readFrames_41 : decode cX4_readFrames 41 = .ok (.ireturn, 1) := by decide +kernel
set_option maxRecDepth 20000 in
theorem ggX4_readSigned_X4_isSign : GoodIn wsX4_readSigned wsX4_isSign := goodIn_r _ [6, 7, 8, 9, 23, 24, 25, 26, 27, 28, 29] (by decide +kernel) (by decide +kernel)
set_option maxRecDepth 20000 in
theorem gX4_readSigned_X4_isSign : GoodIn wsX4_readSigned (wsV RX4 40 RX4 yX4_isSign wsX4_isSign) := goodIn_app (goodIn_of _ (by decide +kernel)) ggX4_readSigned_X4_isSign
set_option maxRecDepth 20000 in
theorem ggX4_readSigned_X4_advance : GoodIn wsX4_readSigned wsX4_advance := goodIn_r _ [13, 7, 8, 14, 9, 23, 24, 25, 26, 27, 28, 29] (by decide +kernel) (by decide +kernel)
set_option maxRecDepth 20000 in
theorem gX4_readSigned_X4_advance : GoodIn wsX4_readSigned (wsV RX4 23 RX4 yX4_advance wsX4_advance) := goodIn_app (goodIn_of _ (by decide +kernel)) ggX4_readSigned_X4_advance
set_option maxRecDepth 20000 in
theorem ggX4_readSigned_X4_readUpTo : GoodIn wsX4_readSigned wsX4_readUpTo := goodIn_r _ [18, 1, 19, 20, 21, 5, 22, 7, 8, 9, 10, 11, 12, 13, 14, 23, 24, 25, 26, 27, 28, 29] (by decide +kernel) (by decide +kernel)
set_option maxRecDepth 20000 in
theorem gX4_readSigned_X4_readUpTo : GoodIn wsX4_readSigned (wsV RX4 103 RX4 yX4_readUpTo wsX4_readUpTo) := goodIn_app (goodIn_of _ (by decide +kernel)) ggX4_readSigned_X4_readUpTo
theorem dX4_readSigned_0 : decode cX4_readSigned 0 = .ok (.aload_n 0, 1) := by decide +kernel
theorem dX4_readSigned_1 : decode cX4_readSigned 1 = .ok (.bipush 45, 2) := by decide +kernel
theorem dX4_readSigned_3 : decode cX4_readSigned 3 = .ok (.invokevirtual 40, 3) := by decide +kernel
theorem dX4_readSigned_6 : decode cX4_readSigned 6 = .ok (.istore_n 1, 1) := by decide +kernel
theorem dX4_readSigned_7 : decode cX4_readSigned 7 = .ok (.iload_n 1, 1) := by decide +kernel
theorem dX4_readSigned_8 : decode cX4_readSigned 8 = .ok (.ifCond .eq 7, 3) := by decide +kernel
theorem dX4_readSigned_11 : decode cX4_readSigned 11 = .ok (.aload_n 0, 1) := by decide +kernel
theorem dX4_readSigned_12 : decode cX4_readSigned 12 = .ok (.invokevirtual 23, 3) := by decide +kernel
theorem dX4_readSigned_15 : decode cX4_readSigned 15 = .ok (.aload_n 0, 1) := by decide +kernel
theorem dX4_readSigned_16 : decode cX4_readSigned 16 = .ok (.bipush 99, 2) := by decide +kernel
theorem dX4_readSigned_18 : decode cX4_readSigned 18 = .ok (.invokevirtual 103, 3) := by decide +kernel
theorem dX4_readSigned_21 : decode cX4_readSigned 21 = .ok (.ifCond .ne 5, 3) := by decide +kernel
theorem dX4_readSigned_24 : decode cX4_readSigned 24 = .ok (.iconst 0, 1) := by decide +kernel
theorem dX4_readSigned_25 : decode cX4_readSigned 25 = .ok (.ireturn, 1) := by decide +kernel
theorem dX4_readSigned_26 : decode cX4_readSigned 26 = .ok (.aload_n 0, 1) := by decide +kernel
theorem dX4_readSigned_27 : decode cX4_readSigned 27 = .ok (.iload_n 1, 1) := by decide +kernel
theorem dX4_readSigned_28 : decode cX4_readSigned 28 = .ok (.ifCond .eq 11, 3) := by decide +kernel
theorem dX4_readSigned_31 : decode cX4_readSigned 31 = .ok (.aload_n 0, 1) := by decide +kernel
theorem dX4_readSigned_32 : decode cX4_readSigned 32 = .ok (.getfield 84, 3) := by decide +kernel
theorem dX4_readSigned_35 : decode cX4_readSigned 35 = .ok (.ineg, 1) := by decide +kernel
theorem dX4_readSigned_36 : decode cX4_readSigned 36 = .ok (.goto 7, 3) := by decide +kernel
theorem dX4_readSigned_39 : decode cX4_readSigned 39 = .ok (.aload_n 0, 1) := by decide +kernel
theorem dX4_readSigned_40 : decode cX4_readSigned 40 = .ok (.getfield 84, 3) := by decide +kernel
theorem dX4_readSigned_43 : decode cX4_readSigned 43 = .ok (.putfield 84, 3) := by decide +kernel
theorem dX4_readSigned_46 : decode cX4_readSigned 46 = .ok (.iconst 1, 1) := by decide +kernel
theorem dX4_readSigned_47 : decode cX4_readSigned 47 = .ok (.ireturn, 1) := by decide +kernel
set_option maxRecDepth 20000 in
theorem ggX4_readUpTo_X4_numberHere : GoodIn wsX4_readUpTo wsX4_numberHere := goodIn_r _ [6, 7, 8, 9, 15, 16, 17, 18, 19, 20, 21] (by decide +kernel) (by decide +kernel)
set_option maxRecDepth 20000 in
theorem gX4_readUpTo_X4_numberHere : GoodIn wsX4_readUpTo (wsV RX4 99 RX4 yX4_numberHere wsX4_numberHere) := goodIn_app (goodIn_of _ (by decide +kernel)) ggX4_readUpTo_X4_numberHere
set_option maxRecDepth 20000 in
theorem ggX4_readUpTo_X4_advance : GoodIn wsX4_readUpTo wsX4_advance := goodIn_r _ [13, 7, 8, 14, 9, 15, 16, 17, 18, 19, 20, 21] (by decide +kernel) (by decide +kernel)
set_option maxRecDepth 20000 in
theorem gX4_readUpTo_X4_advance : GoodIn wsX4_readUpTo (wsV RX4 23 RX4 yX4_advance wsX4_advance) := goodIn_app (goodIn_of _ (by decide +kernel)) ggX4_readUpTo_X4_advance
theorem dX4_readUpTo_0 : decode cX4_readUpTo 0 = .ok (.aload_n 0, 1) := by decide +kernel
theorem dX4_readUpTo_1 : decode cX4_readUpTo 1 = .ok (.invokevirtual 99, 3) := by decide +kernel
theorem dX4_readUpTo_4 : decode cX4_readUpTo 4 = .ok (.istore_n 2, 1) := by decide +kernel
theorem dX4_readUpTo_5 : decode cX4_readUpTo 5 = .ok (.iload_n 2, 1) := by decide +kernel
theorem dX4_readUpTo_6 : decode cX4_readUpTo 6 = .ok (.ifCond .lt 8, 3) := by decide +kernel
theorem dX4_readUpTo_9 : decode cX4_readUpTo 9 = .ok (.iload_n 2, 1) := by decide +kernel
theorem dX4_readUpTo_10 : decode cX4_readUpTo 10 = .ok (.iload_n 1, 1) := by decide +kernel
theorem dX4_readUpTo_11 : decode cX4_readUpTo 11 = .ok (.if_icmp .le 5, 3) := by decide +kernel
theorem dX4_readUpTo_14 : decode cX4_readUpTo 14 = .ok (.iconst 0, 1) := by decide +kernel
theorem dX4_readUpTo_15 : decode cX4_readUpTo 15 = .ok (.ireturn, 1) := by decide +kernel
theorem dX4_readUpTo_16 : decode cX4_readUpTo 16 = .ok (.aload_n 0, 1) := by decide +kernel
theorem dX4_readUpTo_17 : decode cX4_readUpTo 17 = .ok (.iload_n 2, 1) := by decide +kernel
theorem dX4_readUpTo_18 : decode cX4_readUpTo 18 = .ok (.putfield 84, 3) := by decide +kernel
theorem dX4_readUpTo_21 : decode cX4_readUpTo 21 = .ok (.aload_n 0, 1) := by decide +kernel
theorem dX4_readUpTo_22 : decode cX4_readUpTo 22 = .ok (.invokevirtual 23, 3) := by decide +kernel
theorem dX4_readUpTo_25 : decode cX4_readUpTo 25 = .ok (.iconst 1, 1) := by decide +kernel
theorem dX4_readUpTo_26 : decode cX4_readUpTo 26 = .ok (.ireturn, 1) := by decide +kernel
theorem dX4_numberHere_0 : decode cX4_numberHere 0 = .ok (.aload_n 0, 1) := by decide +kernel
theorem dX4_numberHere_1 : decode cX4_numberHere 1 = .ok (.getfield 19, 3) := by decide +kernel
theorem dX4_numberHere_4 : decode cX4_numberHere 4 = .ok (.aload_n 0, 1) := by decide +kernel
theorem dX4_numberHere_5 : decode cX4_numberHere 5 = .ok (.getfield 33, 3) := by decide +kernel
theorem dX4_numberHere_8 : decode cX4_numberHere 8 = .ok (.isub, 1) := by decide +kernel
theorem dX4_numberHere_9 : decode cX4_numberHere 9 = .ok (.istore_n 1, 1) := by decide +kernel
theorem dX4_numberHere_10 : decode cX4_numberHere 10 = .ok (.iload_n 1, 1) := by decide +kernel
theorem dX4_numberHere_11 : decode cX4_numberHere 11 = .ok (.iconst 1, 1) := by decide +kernel
theorem dX4_numberHere_12 : decode cX4_numberHere 12 = .ok (.if_icmp .lt 8, 3) := by decide +kernel
theorem dX4_numberHere_15 : decode cX4_numberHere 15 = .ok (.iload_n 1, 1) := by decide +kernel
theorem dX4_numberHere_16 : decode cX4_numberHere 16 = .ok (.iconst 2, 1) := by decide +kernel
theorem dX4_numberHere_17 : decode cX4_numberHere 17 = .ok (.if_icmp .le 5, 3) := by decide +kernel
theorem dX4_numberHere_20 : decode cX4_numberHere 20 = .ok (.iconst (-1), 1) := by decide +kernel
theorem dX4_numberHere_21 : decode cX4_numberHere 21 = .ok (.ireturn, 1) := by decide +kernel
theorem dX4_numberHere_22 : decode cX4_numberHere 22 = .ok (.aload_n 0, 1) := by decide +kernel
theorem dX4_numberHere_23 : decode cX4_numberHere 23 = .ok (.getfield 9, 3) := by decide +kernel
theorem dX4_numberHere_26 : decode cX4_numberHere 26 = .ok (.aload_n 0, 1) := by decide +kernel
theorem dX4_numberHere_27 : decode cX4_numberHere 27 = .ok (.getfield 33, 3) := by decide +kernel
theorem dX4_numberHere_30 : decode cX4_numberHere 30 = .ok (.caload, 1) := by decide +kernel
theorem dX4_numberHere_31 : decode cX4_numberHere 31 = .ok (.istore_n 2, 1) := by decide +kernel
theorem dX4_numberHere_32 : decode cX4_numberHere 32 = .ok (.iload_n 2, 1) := by decide +kernel
theorem dX4_numberHere_33 : decode cX4_numberHere 33 = .ok (.bipush 48, 2) := by decide +kernel
theorem dX4_numberHere_35 : decode cX4_numberHere 35 = .ok (.if_icmp .lt 9, 3) := by decide +kernel
theorem dX4_numberHere_38 : decode cX4_numberHere 38 = .ok (.iload_n 2, 1) := by decide +kernel
theorem dX4_numberHere_39 : decode cX4_numberHere 39 = .ok (.bipush 57, 2) := by decide +kernel
theorem dX4_numberHere_41 : decode cX4_numberHere 41 = .ok (.if_icmp .le 5, 3) := by decide +kernel
theorem dX4_numberHere_44 : decode cX4_numberHere 44 = .ok (.iconst (-1), 1) := by decide +kernel
theorem dX4_numberHere_45 : decode cX4_numberHere 45 = .ok (.ireturn, 1) := by decide +kernel
theorem dX4_numberHere_46 : decode cX4_numberHere 46 = .ok (.iload_n 1, 1) := by decide +kernel
theorem dX4_numberHere_47 : decode cX4_numberHere 47 = .ok (.iconst 1, 1) := by decide +kernel
theorem dX4_numberHere_48 : decode cX4_numberHere 48 = .ok (.if_icmp .ne 10, 3) := by decide +kernel
theorem dX4_numberHere_51 : decode cX4_numberHere 51 = .ok (.iload_n 2, 1) := by decide +kernel
theorem dX4_numberHere_52 : decode cX4_numberHere 52 = .ok (.bipush 48, 2) := by decide +kernel
theorem dX4_numberHere_54 : decode cX4_numberHere 54 = .ok (.isub, 1) := by decide +kernel
theorem dX4_numberHere_55 : decode cX4_numberHere 55 = .ok (.goto 25, 3) := by decide +kernel
theorem dX4_numberHere_58 : decode cX4_numberHere 58 = .ok (.iload_n 2, 1) := by decide +kernel
theorem dX4_numberHere_59 : decode cX4_numberHere 59 = .ok (.bipush 48, 2) := by decide +kernel
theorem dX4_numberHere_61 : decode cX4_numberHere 61 = .ok (.isub, 1) := by decide +kernel
theorem dX4_numberHere_62 : decode cX4_numberHere 62 = .ok (.bipush 10, 2) := by decide +kernel
theorem dX4_numberHere_64 : decode cX4_numberHere 64 = .ok (.imul, 1) := by decide +kernel
theorem dX4_numberHere_65 : decode cX4_numberHere 65 = .ok (.aload_n 0, 1) := by decide +kernel
theorem dX4_numberHere_66 : decode cX4_numberHere 66 = .ok (.getfield 9, 3) := by decide +kernel
theorem dX4_numberHere_69 : decode cX4_numberHere 69 = .ok (.aload_n 0, 1) := by decide +kernel
theorem dX4_numberHere_70 : decode cX4_numberHere 70 = .ok (.getfield 33, 3) := by decide +kernel
theorem dX4_numberHere_73 : decode cX4_numberHere 73 = .ok (.iconst 1, 1) := by decide +kernel
theorem dX4_numberHere_74 : decode cX4_numberHere 74 = .ok (.iadd, 1) := by decide +kernel
theorem dX4_numberHere_75 : decode cX4_numberHere 75 = .ok (.caload, 1) := by decide +kernel
theorem dX4_numberHere_76 : decode cX4_numberHere 76 = .ok (.iadd, 1) := by decide +kernel
theorem dX4_numberHere_77 : decode cX4_numberHere 77 = .ok (.bipush 48, 2) := by decide +kernel
theorem dX4_numberHere_79 : decode cX4_numberHere 79 = .ok (.isub, 1) := by decide +kernel
theorem dX4_numberHere_80 : decode cX4_numberHere 80 = .ok (.ireturn, 1) := by decide +kernel
set_option maxRecDepth 20000 in
theorem ggX4_isWord_J0_length_8abf5 : GoodIn wsX4_isWord wsJ0_length_8abf5 := goodIn_r _ [8, 9, 10, 11, 12, 7, 13, 14, 15] (by decide +kernel) (by decide +kernel)
set_option maxRecDepth 20000 in
theorem gX4_isWord_J0_length_8abf5 : GoodIn wsX4_isWord (wsV RX4 130 RJ0 yJ0_length_8abf5 wsJ0_length_8abf5) := goodIn_app (goodIn_of _ (by decide +kernel)) ggX4_isWord_J0_length_8abf5
set_option maxRecDepth 20000 in
theorem ggX4_isWord_J0_charAt_5068e : GoodIn wsX4_isWord wsJ0_charAt_5068e := goodIn_r _ [19, 9, 20, 21, 22, 7, 23, 14, 15, 24, 25, 26, 27, 28, 29, 30, 31, 32, 33, 34, 35, 36, 37, 38, 39, 40, 41, 42, 43, 44, 45, 46, 47, 48, 49, 50, 51, 52] (by decide +kernel) (by decide +kernel)
set_option maxRecDepth 20000 in
theorem gX4_isWord_J0_charAt_5068e : GoodIn wsX4_isWord (wsV RX4 135 RJ0 yJ0_charAt_5068e wsJ0_charAt_5068e) := goodIn_app (goodIn_of _ (by decide +kernel)) ggX4_isWord_J0_charAt_5068e
theorem dX4_isWord_0 : decode cX4_isWord 0 = .ok (.aload_n 0, 1) := by decide +kernel
theorem dX4_isWord_1 : decode cX4_isWord 1 = .ok (.getfield 19, 3) := by decide +kernel
theorem dX4_isWord_4 : decode cX4_isWord 4 = .ok (.aload_n 0, 1) := by decide +kernel
theorem dX4_isWord_5 : decode cX4_isWord 5 = .ok (.getfield 33, 3) := by decide +kernel
theorem dX4_isWord_8 : decode cX4_isWord 8 = .ok (.isub, 1) := by decide +kernel
theorem dX4_isWord_9 : decode cX4_isWord 9 = .ok (.aload_n 1, 1) := by decide +kernel
theorem dX4_isWord_10 : decode cX4_isWord 10 = .ok (.invokevirtual 130, 3) := by decide +kernel
theorem dX4_isWord_13 : decode cX4_isWord 13 = .ok (.if_icmp .eq 5, 3) := by decide +kernel
theorem dX4_isWord_16 : decode cX4_isWord 16 = .ok (.iconst 0, 1) := by decide +kernel
theorem dX4_isWord_17 : decode cX4_isWord 17 = .ok (.ireturn, 1) := by decide +kernel
theorem dX4_isWord_18 : decode cX4_isWord 18 = .ok (.iconst 0, 1) := by decide +kernel
theorem dX4_isWord_19 : decode cX4_isWord 19 = .ok (.istore_n 2, 1) := by decide +kernel
theorem dX4_isWord_20 : decode cX4_isWord 20 = .ok (.iload_n 2, 1) := by decide +kernel
theorem dX4_isWord_21 : decode cX4_isWord 21 = .ok (.aload_n 1, 1) := by decide +kernel
theorem dX4_isWord_22 : decode cX4_isWord 22 = .ok (.invokevirtual 130, 3) := by decide +kernel
theorem dX4_isWord_25 : decode cX4_isWord 25 = .ok (.if_icmp .ge 30, 3) := by decide +kernel
theorem dX4_isWord_28 : decode cX4_isWord 28 = .ok (.aload_n 0, 1) := by decide +kernel
theorem dX4_isWord_29 : decode cX4_isWord 29 = .ok (.getfield 9, 3) := by decide +kernel
theorem dX4_isWord_32 : decode cX4_isWord 32 = .ok (.aload_n 0, 1) := by decide +kernel
theorem dX4_isWord_33 : decode cX4_isWord 33 = .ok (.getfield 33, 3) := by decide +kernel
theorem dX4_isWord_36 : decode cX4_isWord 36 = .ok (.iload_n 2, 1) := by decide +kernel
theorem dX4_isWord_37 : decode cX4_isWord 37 = .ok (.iadd, 1) := by decide +kernel
theorem dX4_isWord_38 : decode cX4_isWord 38 = .ok (.caload, 1) := by decide +kernel
theorem dX4_isWord_39 : decode cX4_isWord 39 = .ok (.aload_n 1, 1) := by decide +kernel
theorem dX4_isWord_40 : decode cX4_isWord 40 = .ok (.iload_n 2, 1) := by decide +kernel
theorem dX4_isWord_41 : decode cX4_isWord 41 = .ok (.invokevirtual 135, 3) := by decide +kernel
theorem dX4_isWord_44 : decode cX4_isWord 44 = .ok (.if_icmp .eq 5, 3) := by decide +kernel
theorem dX4_isWord_47 : decode cX4_isWord 47 = .ok (.iconst 0, 1) := by decide +kernel
theorem dX4_isWord_48 : decode cX4_isWord 48 = .ok (.ireturn, 1) := by decide +kernel
theorem dX4_isWord_49 : decode cX4_isWord 49 = .ok (.iinc 2 1, 3) := by decide +kernel
theorem dX4_isWord_52 : decode cX4_isWord 52 = .ok (.goto (-32), 3) := by decide +kernel
theorem dX4_isWord_55 : decode cX4_isWord 55 = .ok (.iconst 1, 1) := by decide +kernel
theorem dX4_isWord_56 : decode cX4_isWord 56 = .ok (.ireturn, 1) := by decide +kernel
theorem dX4_isSign_0 : decode cX4_isSign 0 = .ok (.aload_n 0, 1) := by decide +kernel
theorem dX4_isSign_1 : decode cX4_isSign 1 = .ok (.getfield 19, 3) := by decide +kernel
theorem dX4_isSign_4 : decode cX4_isSign 4 = .ok (.aload_n 0, 1) := by decide +kernel
theorem dX4_isSign_5 : decode cX4_isSign 5 = .ok (.getfield 33, 3) := by decide +kernel
theorem dX4_isSign_8 : decode cX4_isSign 8 = .ok (.isub, 1) := by decide +kernel
theorem dX4_isSign_9 : decode cX4_isSign 9 = .ok (.iconst 1, 1) := by decide +kernel
theorem dX4_isSign_10 : decode cX4_isSign 10 = .ok (.if_icmp .ne 20, 3) := by decide +kernel
theorem dX4_isSign_13 : decode cX4_isSign 13 = .ok (.aload_n 0, 1) := by decide +kernel
theorem dX4_isSign_14 : decode cX4_isSign 14 = .ok (.getfield 9, 3) := by decide +kernel
theorem dX4_isSign_17 : decode cX4_isSign 17 = .ok (.aload_n 0, 1) := by decide +kernel
theorem dX4_isSign_18 : decode cX4_isSign 18 = .ok (.getfield 33, 3) := by decide +kernel
theorem dX4_isSign_21 : decode cX4_isSign 21 = .ok (.caload, 1) := by decide +kernel
theorem dX4_isSign_22 : decode cX4_isSign 22 = .ok (.iload_n 1, 1) := by decide +kernel
theorem dX4_isSign_23 : decode cX4_isSign 23 = .ok (.if_icmp .ne 7, 3) := by decide +kernel
theorem dX4_isSign_26 : decode cX4_isSign 26 = .ok (.iconst 1, 1) := by decide +kernel
theorem dX4_isSign_27 : decode cX4_isSign 27 = .ok (.goto 4, 3) := by decide +kernel
theorem dX4_isSign_30 : decode cX4_isSign 30 = .ok (.iconst 0, 1) := by decide +kernel
theorem dX4_isSign_31 : decode cX4_isSign 31 = .ok (.ireturn, 1) := by decide +kernel
theorem dX4_isAtEnd_0 : decode cX4_isAtEnd 0 = .ok (.aload_n 0, 1) := by decide +kernel
theorem dX4_isAtEnd_1 : decode cX4_isAtEnd 1 = .ok (.getfield 33, 3) := by decide +kernel
theorem dX4_isAtEnd_4 : decode cX4_isAtEnd 4 = .ok (.aload_n 0, 1) := by decide +kernel
theorem dX4_isAtEnd_5 : decode cX4_isAtEnd 5 = .ok (.getfield 139, 3) := by decide +kernel
theorem dX4_isAtEnd_8 : decode cX4_isAtEnd 8 = .ok (.if_icmp .lt 7, 3) := by decide +kernel
theorem dX4_isAtEnd_11 : decode cX4_isAtEnd 11 = .ok (.iconst 1, 1) := by decide +kernel
theorem dX4_isAtEnd_12 : decode cX4_isAtEnd 12 = .ok (.goto 4, 3) := by decide +kernel
theorem dX4_isAtEnd_15 : decode cX4_isAtEnd 15 = .ok (.iconst 0, 1) := by decide +kernel
theorem dX4_isAtEnd_16 : decode cX4_isAtEnd 16 = .ok (.ireturn, 1) := by decide +kernel
theorem dX4_advance_0 : decode cX4_advance 0 = .ok (.aload_n 0, 1) := by decide +kernel
theorem dX4_advance_1 : decode cX4_advance 1 = .ok (.aload_n 0, 1) := by decide +kernel
theorem dX4_advance_2 : decode cX4_advance 2 = .ok (.getfield 19, 3) := by decide +kernel
theorem dX4_advance_5 : decode cX4_advance 5 = .ok (.putfield 33, 3) := by decide +kernel
theorem dX4_advance_8 : decode cX4_advance 8 = .ok (.aload_n 0, 1) := by decide +kernel
theorem dX4_advance_9 : decode cX4_advance 9 = .ok (.getfield 33, 3) := by decide +kernel
theorem dX4_advance_12 : decode cX4_advance 12 = .ok (.aload_n 0, 1) := by decide +kernel
theorem dX4_advance_13 : decode cX4_advance 13 = .ok (.getfield 139, 3) := by decide +kernel
theorem dX4_advance_16 : decode cX4_advance 16 = .ok (.if_icmp .ge 30, 3) := by decide +kernel
theorem dX4_advance_19 : decode cX4_advance 19 = .ok (.aload_n 0, 1) := by decide +kernel
theorem dX4_advance_20 : decode cX4_advance 20 = .ok (.getfield 9, 3) := by decide +kernel
theorem dX4_advance_23 : decode cX4_advance 23 = .ok (.aload_n 0, 1) := by decide +kernel
theorem dX4_advance_24 : decode cX4_advance 24 = .ok (.getfield 33, 3) := by decide +kernel
theorem dX4_advance_27 : decode cX4_advance 27 = .ok (.caload, 1) := by decide +kernel
theorem dX4_advance_28 : decode cX4_advance 28 = .ok (.bipush 32, 2) := by decide +kernel
theorem dX4_advance_30 : decode cX4_advance 30 = .ok (.if_icmp .ne 16, 3) := by decide +kernel
theorem dX4_advance_33 : decode cX4_advance 33 = .ok (.aload_n 0, 1) := by decide +kernel
theorem dX4_advance_34 : decode cX4_advance 34 = .ok (.dup, 1) := by decide +kernel
theorem dX4_advance_35 : decode cX4_advance 35 = .ok (.getfield 33, 3) := by decide +kernel
theorem dX4_advance_38 : decode cX4_advance 38 = .ok (.iconst 1, 1) := by decide +kernel
theorem dX4_advance_39 : decode cX4_advance 39 = .ok (.iadd, 1) := by decide +kernel
theorem dX4_advance_40 : decode cX4_advance 40 = .ok (.putfield 33, 3) := by decide +kernel
theorem dX4_advance_43 : decode cX4_advance 43 = .ok (.goto (-35), 3) := by decide +kernel
theorem dX4_advance_46 : decode cX4_advance 46 = .ok (.aload_n 0, 1) := by decide +kernel
theorem dX4_advance_47 : decode cX4_advance 47 = .ok (.aload_n 0, 1) := by decide +kernel
theorem dX4_advance_48 : decode cX4_advance 48 = .ok (.getfield 33, 3) := by decide +kernel
theorem dX4_advance_51 : decode cX4_advance 51 = .ok (.putfield 19, 3) := by decide +kernel
theorem dX4_advance_54 : decode cX4_advance 54 = .ok (.aload_n 0, 1) := by decide +kernel
theorem dX4_advance_55 : decode cX4_advance 55 = .ok (.getfield 33, 3) := by decide +kernel
theorem dX4_advance_58 : decode cX4_advance 58 = .ok (.aload_n 0, 1) := by decide +kernel
theorem dX4_advance_59 : decode cX4_advance 59 = .ok (.getfield 139, 3) := by decide +kernel
theorem dX4_advance_62 : decode cX4_advance 62 = .ok (.if_icmp .lt 4, 3) := by decide +kernel
theorem dX4_advance_65 : decode cX4_advance 65 = .ok (.return_, 1) := by decide +kernel
theorem dX4_advance_66 : decode cX4_advance 66 = .ok (.aload_n 0, 1) := by decide +kernel
theorem dX4_advance_67 : decode cX4_advance 67 = .ok (.getfield 9, 3) := by decide +kernel
theorem dX4_advance_70 : decode cX4_advance 70 = .ok (.aload_n 0, 1) := by decide +kernel
theorem dX4_advance_71 : decode cX4_advance 71 = .ok (.getfield 33, 3) := by decide +kernel
theorem dX4_advance_74 : decode cX4_advance 74 = .ok (.caload, 1) := by decide +kernel
theorem dX4_advance_75 : decode cX4_advance 75 = .ok (.istore_n 1, 1) := by decide +kernel
theorem dX4_advance_76 : decode cX4_advance 76 = .ok (.iload_n 1, 1) := by decide +kernel
theorem dX4_advance_77 : decode cX4_advance 77 = .ok (.bipush 48, 2) := by decide +kernel
theorem dX4_advance_79 : decode cX4_advance 79 = .ok (.if_icmp .lt 13, 3) := by decide +kernel
theorem dX4_advance_82 : decode cX4_advance 82 = .ok (.iload_n 1, 1) := by decide +kernel
theorem dX4_advance_83 : decode cX4_advance 83 = .ok (.bipush 57, 2) := by decide +kernel
theorem dX4_advance_85 : decode cX4_advance 85 = .ok (.if_icmp .gt 7, 3) := by decide +kernel
theorem dX4_advance_88 : decode cX4_advance 88 = .ok (.iconst 1, 1) := by decide +kernel
theorem dX4_advance_89 : decode cX4_advance 89 = .ok (.goto 4, 3) := by decide +kernel
theorem dX4_advance_92 : decode cX4_advance 92 = .ok (.iconst 0, 1) := by decide +kernel
theorem dX4_advance_93 : decode cX4_advance 93 = .ok (.istore_n 2, 1) := by decide +kernel
theorem dX4_advance_94 : decode cX4_advance 94 = .ok (.iload_n 2, 1) := by decide +kernel
theorem dX4_advance_95 : decode cX4_advance 95 = .ok (.ifCond .eq 8, 3) := by decide +kernel
theorem dX4_advance_98 : decode cX4_advance 98 = .ok (.bipush 48, 2) := by decide +kernel
theorem dX4_advance_100 : decode cX4_advance 100 = .ok (.goto 5, 3) := by decide +kernel
theorem dX4_advance_103 : decode cX4_advance 103 = .ok (.bipush 97, 2) := by decide +kernel
theorem dX4_advance_105 : decode cX4_advance 105 = .ok (.istore_n 3, 1) := by decide +kernel
theorem dX4_advance_106 : decode cX4_advance 106 = .ok (.iload_n 2, 1) := by decide +kernel
theorem dX4_advance_107 : decode cX4_advance 107 = .ok (.ifCond .eq 8, 3) := by decide +kernel
theorem dX4_advance_110 : decode cX4_advance 110 = .ok (.bipush 57, 2) := by decide +kernel
theorem dX4_advance_112 : decode cX4_advance 112 = .ok (.goto 5, 3) := by decide +kernel
theorem dX4_advance_115 : decode cX4_advance 115 = .ok (.bipush 122, 2) := by decide +kernel
theorem dX4_advance_117 : decode cX4_advance 117 = .ok (.istore 4, 2) := by decide +kernel
theorem dX4_advance_119 : decode cX4_advance 119 = .ok (.aload_n 0, 1) := by decide +kernel
theorem dX4_advance_120 : decode cX4_advance 120 = .ok (.dup, 1) := by decide +kernel
theorem dX4_advance_121 : decode cX4_advance 121 = .ok (.getfield 19, 3) := by decide +kernel
theorem dX4_advance_124 : decode cX4_advance 124 = .ok (.iconst 1, 1) := by decide +kernel
theorem dX4_advance_125 : decode cX4_advance 125 = .ok (.iadd, 1) := by decide +kernel
theorem dX4_advance_126 : decode cX4_advance 126 = .ok (.putfield 19, 3) := by decide +kernel
theorem dX4_advance_129 : decode cX4_advance 129 = .ok (.iload_n 1, 1) := by decide +kernel
theorem dX4_advance_130 : decode cX4_advance 130 = .ok (.iload_n 3, 1) := by decide +kernel
theorem dX4_advance_131 : decode cX4_advance 131 = .ok (.if_icmp .lt 9, 3) := by decide +kernel
theorem dX4_advance_134 : decode cX4_advance 134 = .ok (.iload_n 1, 1) := by decide +kernel
theorem dX4_advance_135 : decode cX4_advance 135 = .ok (.iload 4, 2) := by decide +kernel
theorem dX4_advance_137 : decode cX4_advance 137 = .ok (.if_icmp .le 4, 3) := by decide +kernel
theorem dX4_advance_140 : decode cX4_advance 140 = .ok (.return_, 1) := by decide +kernel
theorem dX4_advance_141 : decode cX4_advance 141 = .ok (.aload_n 0, 1) := by decide +kernel
theorem dX4_advance_142 : decode cX4_advance 142 = .ok (.getfield 19, 3) := by decide +kernel
theorem dX4_advance_145 : decode cX4_advance 145 = .ok (.aload_n 0, 1) := by decide +kernel
theorem dX4_advance_146 : decode cX4_advance 146 = .ok (.getfield 139, 3) := by decide +kernel
theorem dX4_advance_149 : decode cX4_advance 149 = .ok (.if_icmp .ge 43, 3) := by decide +kernel
theorem dX4_advance_152 : decode cX4_advance 152 = .ok (.aload_n 0, 1) := by decide +kernel
theorem dX4_advance_153 : decode cX4_advance 153 = .ok (.getfield 9, 3) := by decide +kernel
theorem dX4_advance_156 : decode cX4_advance 156 = .ok (.aload_n 0, 1) := by decide +kernel
theorem dX4_advance_157 : decode cX4_advance 157 = .ok (.getfield 19, 3) := by decide +kernel
theorem dX4_advance_160 : decode cX4_advance 160 = .ok (.caload, 1) := by decide +kernel
theorem dX4_advance_161 : decode cX4_advance 161 = .ok (.iload_n 3, 1) := by decide +kernel
theorem dX4_advance_162 : decode cX4_advance 162 = .ok (.if_icmp .lt 30, 3) := by decide +kernel
theorem dX4_advance_165 : decode cX4_advance 165 = .ok (.aload_n 0, 1) := by decide +kernel
theorem dX4_advance_166 : decode cX4_advance 166 = .ok (.getfield 9, 3) := by decide +kernel
theorem dX4_advance_169 : decode cX4_advance 169 = .ok (.aload_n 0, 1) := by decide +kernel
theorem dX4_advance_170 : decode cX4_advance 170 = .ok (.getfield 19, 3) := by decide +kernel
theorem dX4_advance_173 : decode cX4_advance 173 = .ok (.caload, 1) := by decide +kernel
theorem dX4_advance_174 : decode cX4_advance 174 = .ok (.iload 4, 2) := by decide +kernel
theorem dX4_advance_176 : decode cX4_advance 176 = .ok (.if_icmp .gt 16, 3) := by decide +kernel
theorem dX4_advance_179 : decode cX4_advance 179 = .ok (.aload_n 0, 1) := by decide +kernel
theorem dX4_advance_180 : decode cX4_advance 180 = .ok (.dup, 1) := by decide +kernel
theorem dX4_advance_181 : decode cX4_advance 181 = .ok (.getfield 19, 3) := by decide +kernel
theorem dX4_advance_184 : decode cX4_advance 184 = .ok (.iconst 1, 1) := by decide +kernel
theorem dX4_advance_185 : decode cX4_advance 185 = .ok (.iadd, 1) := by decide +kernel
theorem dX4_advance_186 : decode cX4_advance 186 = .ok (.putfield 19, 3) := by decide +kernel
theorem dX4_advance_189 : decode cX4_advance 189 = .ok (.goto (-48), 3) := by decide +kernel
theorem dX4_advance_192 : decode cX4_advance 192 = .ok (.return_, 1) := by decide +kernel
theorem dJxe99ae_isNaN_b9ae7_0 : decode cJxe99ae_isNaN_b9ae7 0 = .ok (.dload_n 0, 1) := by decide +kernel
theorem dJxe99ae_isNaN_b9ae7_1 : decode cJxe99ae_isNaN_b9ae7 1 = .ok (.dload_n 0, 1) := by decide +kernel
theorem dJxe99ae_isNaN_b9ae7_2 : decode cJxe99ae_isNaN_b9ae7 2 = .ok (.dcmp .l, 1) := by decide +kernel
theorem dJxe99ae_isNaN_b9ae7_3 : decode cJxe99ae_isNaN_b9ae7 3 = .ok (.ifCond .eq 7, 3) := by decide +kernel
theorem dJxe99ae_isNaN_b9ae7_6 : decode cJxe99ae_isNaN_b9ae7 6 = .ok (.iconst 1, 1) := by decide +kernel
theorem dJxe99ae_isNaN_b9ae7_7 : decode cJxe99ae_isNaN_b9ae7 7 = .ok (.goto 4, 3) := by decide +kernel
theorem dJxe99ae_isNaN_b9ae7_10 : decode cJxe99ae_isNaN_b9ae7 10 = .ok (.iconst 0, 1) := by decide +kernel
theorem dJxe99ae_isNaN_b9ae7_11 : decode cJxe99ae_isNaN_b9ae7 11 = .ok (.ireturn, 1) := by decide +kernel
set_option maxRecDepth 20000 in
theorem ggJxe99ae_doubleToLongBits_ccdee_Jxe99ae_isNaN_b9ae7 : GoodIn wsJxe99ae_doubleToLongBits_ccdee wsJxe99ae_isNaN_b9ae7 := goodIn_r _ [9] (by decide +kernel) (by decide +kernel)
set_option maxRecDepth 20000 in
theorem gJxe99ae_doubleToLongBits_ccdee_Jxe99ae_isNaN_b9ae7 : GoodIn wsJxe99ae_doubleToLongBits_ccdee (va_wsS RJxe99ae 122 yJxe99ae_isNaN_b9ae7 wsJxe99ae_isNaN_b9ae7) := goodIn_app (goodIn_of _ (by decide +kernel)) ggJxe99ae_doubleToLongBits_ccdee_Jxe99ae_isNaN_b9ae7
theorem dJxe99ae_doubleToLongBits_ccdee_0 : decode cJxe99ae_doubleToLongBits_ccdee 0 = .ok (.dload_n 0, 1) := by decide +kernel
theorem dJxe99ae_doubleToLongBits_ccdee_1 : decode cJxe99ae_doubleToLongBits_ccdee 1 = .ok (.invokestatic 122, 3) := by decide +kernel
theorem dJxe99ae_doubleToLongBits_ccdee_4 : decode cJxe99ae_doubleToLongBits_ccdee 4 = .ok (.ifCond .ne 8, 3) := by decide +kernel
theorem dJxe99ae_doubleToLongBits_ccdee_7 : decode cJxe99ae_doubleToLongBits_ccdee 7 = .ok (.dload_n 0, 1) := by decide +kernel
theorem dJxe99ae_doubleToLongBits_ccdee_8 : decode cJxe99ae_doubleToLongBits_ccdee 8 = .ok (.invokestatic 134, 3) := by decide +kernel
theorem dJxe99ae_doubleToLongBits_ccdee_11 : decode cJxe99ae_doubleToLongBits_ccdee 11 = .ok (.lreturn, 1) := by decide +kernel
theorem dJxe99ae_doubleToLongBits_ccdee_12 : decode cJxe99ae_doubleToLongBits_ccdee 12 = .ok (.ldc2_w 137, 3) := by decide +kernel
theorem dJxe99ae_doubleToLongBits_ccdee_15 : decode cJxe99ae_doubleToLongBits_ccdee 15 = .ok (.lreturn, 1) := by decide +kernel
theorem dJxf58ca_isNaN_12338_0 : decode cJxf58ca_isNaN_12338 0 = .ok (.fload_n 0, 1) := by decide +kernel
theorem dJxf58ca_isNaN_12338_1 : decode cJxf58ca_isNaN_12338 1 = .ok (.fload_n 0, 1) := by decide +kernel
theorem dJxf58ca_isNaN_12338_2 : decode cJxf58ca_isNaN_12338 2 = .ok (.fcmp .l, 1) := by decide +kernel
theorem dJxf58ca_isNaN_12338_3 : decode cJxf58ca_isNaN_12338 3 = .ok (.ifCond .eq 7, 3) := by decide +kernel
theorem dJxf58ca_isNaN_12338_6 : decode cJxf58ca_isNaN_12338 6 = .ok (.iconst 1, 1) := by decide +kernel
theorem dJxf58ca_isNaN_12338_7 : decode cJxf58ca_isNaN_12338 7 = .ok (.goto 4, 3) := by decide +kernel
theorem dJxf58ca_isNaN_12338_10 : decode cJxf58ca_isNaN_12338 10 = .ok (.iconst 0, 1) := by decide +kernel
theorem dJxf58ca_isNaN_12338_11 : decode cJxf58ca_isNaN_12338 11 = .ok (.ireturn, 1) := by decide +kernel
set_option maxRecDepth 20000 in
theorem ggJxf58ca_floatToIntBits_5c35a_Jxf58ca_isNaN_12338 : GoodIn wsJxf58ca_floatToIntBits_5c35a wsJxf58ca_isNaN_12338 := goodIn_r _ [9] (by decide +kernel) (by decide +kernel)
set_option maxRecDepth 20000 in
theorem gJxf58ca_floatToIntBits_5c35a_Jxf58ca_isNaN_12338 : GoodIn wsJxf58ca_floatToIntBits_5c35a (va_wsS RJxf58ca 59 yJxf58ca_isNaN_12338 wsJxf58ca_isNaN_12338) := goodIn_app (goodIn_of _ (by decide +kernel)) ggJxf58ca_floatToIntBits_5c35a_Jxf58ca_isNaN_12338
theorem dJxf58ca_floatToIntBits_5c35a_0 : decode cJxf58ca_floatToIntBits_5c35a 0 = .ok (.fload_n 0, 1) := by decide +kernel
theorem dJxf58ca_floatToIntBits_5c35a_1 : decode cJxf58ca_floatToIntBits_5c35a 1 = .ok (.invokestatic 59, 3) := by decide +kernel
theorem dJxf58ca_floatToIntBits_5c35a_4 : decode cJxf58ca_floatToIntBits_5c35a 4 = .ok (.ifCond .ne 8, 3) := by decide +kernel
theorem dJxf58ca_floatToIntBits_5c35a_7 : decode cJxf58ca_floatToIntBits_5c35a 7 = .ok (.fload_n 0, 1) := by decide +kernel
theorem dJxf58ca_floatToIntBits_5c35a_8 : decode cJxf58ca_floatToIntBits_5c35a 8 = .ok (.invokestatic 74, 3) := by decide +kernel
theorem dJxf58ca_floatToIntBits_5c35a_11 : decode cJxf58ca_floatToIntBits_5c35a 11 = .ok (.ireturn, 1) := by decide +kernel
theorem dJxf58ca_floatToIntBits_5c35a_12 : decode cJxf58ca_floatToIntBits_5c35a 12 = .ok (.ldc 77, 2) := by decide +kernel
theorem dJxf58ca_floatToIntBits_5c35a_14 : decode cJxf58ca_floatToIntBits_5c35a 14 = .ok (.ireturn, 1) := by decide +kernel
theorem dJ9_min_7cf53_0 : decode cJ9_min_7cf53 0 = .ok (.iload_n 0, 1) := by decide +kernel
theorem dJ9_min_7cf53_1 : decode cJ9_min_7cf53 1 = .ok (.iload_n 1, 1) := by decide +kernel
theorem dJ9_min_7cf53_2 : decode cJ9_min_7cf53 2 = .ok (.if_icmp .gt 7, 3) := by decide +kernel
theorem dJ9_min_7cf53_5 : decode cJ9_min_7cf53 5 = .ok (.iload_n 0, 1) := by decide +kernel
theorem dJ9_min_7cf53_6 : decode cJ9_min_7cf53 6 = .ok (.goto 4, 3) := by decide +kernel
theorem dJ9_min_7cf53_9 : decode cJ9_min_7cf53 9 = .ok (.iload_n 1, 1) := by decide +kernel
theorem dJ9_min_7cf53_10 : decode cJ9_min_7cf53 10 = .ok (.ireturn, 1) := by decide +kernel
set_option maxRecDepth 20000 in
theorem ggJ0_length_8abf5_J0_coder_7d493 : GoodIn wsJ0_length_8abf5 wsJ0_coder_7d493 := goodIn_r _ [6, 7, 8] (by decide +kernel) (by decide +kernel)
set_option maxRecDepth 20000 in
theorem gJ0_length_8abf5_J0_coder_7d493 : GoodIn wsJ0_length_8abf5 (wsV RJ0 335 RJ0 yJ0_coder_7d493 wsJ0_coder_7d493) := goodIn_app (goodIn_of _ (by decide +kernel)) ggJ0_length_8abf5_J0_coder_7d493
theorem dJ0_length_8abf5_0 : decode cJ0_length_8abf5 0 = .ok (.aload_n 0, 1) := by decide +kernel
theorem dJ0_length_8abf5_1 : decode cJ0_length_8abf5 1 = .ok (.getfield 9, 3) := by decide +kernel
theorem dJ0_length_8abf5_4 : decode cJ0_length_8abf5 4 = .ok (.arraylength, 1) := by decide +kernel
theorem dJ0_length_8abf5_5 : decode cJ0_length_8abf5 5 = .ok (.aload_n 0, 1) := by decide +kernel
theorem dJ0_length_8abf5_6 : decode cJ0_length_8abf5 6 = .ok (.invokevirtual 335, 3) := by decide +kernel
theorem dJ0_length_8abf5_9 : decode cJ0_length_8abf5 9 = .ok (.ishr, 1) := by decide +kernel
theorem dJ0_length_8abf5_10 : decode cJ0_length_8abf5 10 = .ok (.ireturn, 1) := by decide +kernel
set_option maxRecDepth 20000 in
theorem ggJ0_charAt_5068e_J0_isLatin1_aae02 : GoodIn wsJ0_charAt_5068e wsJ0_isLatin1_aae02 := goodIn_r _ [6, 7, 8] (by decide +kernel) (by decide +kernel)
set_option maxRecDepth 20000 in
theorem gJ0_charAt_5068e_J0_isLatin1_aae02 : GoodIn wsJ0_charAt_5068e (wsV RJ0 492 RJ0 yJ0_isLatin1_aae02 wsJ0_isLatin1_aae02) := goodIn_app (goodIn_of _ (by decide +kernel)) ggJ0_charAt_5068e_J0_isLatin1_aae02
set_option maxRecDepth 20000 in
theorem ggJ0_charAt_5068e_J1_charAt_3b067 : GoodIn wsJ0_charAt_5068e wsJ1_charAt_3b067 := goodIn_r _ [12, 13, 14, 5, 15, 16, 17, 18, 19, 20] (by decide +kernel) (by decide +kernel)
set_option maxRecDepth 20000 in
theorem gJ0_charAt_5068e_J1_charAt_3b067 : GoodIn wsJ0_charAt_5068e (va_wsS RJ0 495 yJ1_charAt_3b067 wsJ1_charAt_3b067) := goodIn_app (goodIn_of _ (by decide +kernel)) ggJ0_charAt_5068e_J1_charAt_3b067
set_option maxRecDepth 20000 in
theorem ggJ0_charAt_5068e_J2_charAt_3b067 : GoodIn wsJ0_charAt_5068e wsJ2_charAt_3b067 := goodIn_r _ [24, 25, 26, 23, 27, 28, 29, 30, 31, 14, 5, 15, 16, 17, 18, 19, 20, 32, 33, 34, 35, 36, 37] (by decide +kernel) (by decide +kernel)
set_option maxRecDepth 20000 in
theorem gJ0_charAt_5068e_J2_charAt_3b067 : GoodIn wsJ0_charAt_5068e (va_wsS RJ0 498 yJ2_charAt_3b067 wsJ2_charAt_3b067) := goodIn_app (goodIn_of _ (by decide +kernel)) ggJ0_charAt_5068e_J2_charAt_3b067
theorem dJ0_charAt_5068e_0 : decode cJ0_charAt_5068e 0 = .ok (.aload_n 0, 1) := by decide +kernel
theorem dJ0_charAt_5068e_1 : decode cJ0_charAt_5068e 1 = .ok (.invokevirtual 492, 3) := by decide +kernel
theorem dJ0_charAt_5068e_4 : decode cJ0_charAt_5068e 4 = .ok (.ifCond .eq 12, 3) := by decide +kernel
theorem dJ0_charAt_5068e_7 : decode cJ0_charAt_5068e 7 = .ok (.aload_n 0, 1) := by decide +kernel
theorem dJ0_charAt_5068e_8 : decode cJ0_charAt_5068e 8 = .ok (.getfield 9, 3) := by decide +kernel
theorem dJ0_charAt_5068e_11 : decode cJ0_charAt_5068e 11 = .ok (.iload_n 1, 1) := by decide +kernel
theorem dJ0_charAt_5068e_12 : decode cJ0_charAt_5068e 12 = .ok (.invokestatic 495, 3) := by decide +kernel
theorem dJ0_charAt_5068e_15 : decode cJ0_charAt_5068e 15 = .ok (.ireturn, 1) := by decide +kernel
theorem dJ0_charAt_5068e_16 : decode cJ0_charAt_5068e 16 = .ok (.aload_n 0, 1) := by decide +kernel
theorem dJ0_charAt_5068e_17 : decode cJ0_charAt_5068e 17 = .ok (.getfield 9, 3) := by decide +kernel
theorem dJ0_charAt_5068e_20 : decode cJ0_charAt_5068e 20 = .ok (.iload_n 1, 1) := by decide +kernel
theorem dJ0_charAt_5068e_21 : decode cJ0_charAt_5068e 21 = .ok (.invokestatic 498, 3) := by decide +kernel
theorem dJ0_charAt_5068e_24 : decode cJ0_charAt_5068e 24 = .ok (.ireturn, 1) := by decide +kernel
theorem dJ0_coder_7d493_0 : decode cJ0_coder_7d493 0 = .ok (.getstatic 38, 3) := by decide +kernel
theorem dJ0_coder_7d493_3 : decode cJ0_coder_7d493 3 = .ok (.ifCond .eq 10, 3) := by decide +kernel
theorem dJ0_coder_7d493_6 : decode cJ0_coder_7d493 6 = .ok (.aload_n 0, 1) := by decide +kernel
theorem dJ0_coder_7d493_7 : decode cJ0_coder_7d493 7 = .ok (.getfield 15, 3) := by decide +kernel
theorem dJ0_coder_7d493_10 : decode cJ0_coder_7d493 10 = .ok (.goto 4, 3) := by decide +kernel
theorem dJ0_coder_7d493_13 : decode cJ0_coder_7d493 13 = .ok (.iconst 1, 1) := by decide +kernel
theorem dJ0_coder_7d493_14 : decode cJ0_coder_7d493 14 = .ok (.ireturn, 1) := by decide +kernel
theorem dJ0_isLatin1_aae02_0 : decode cJ0_isLatin1_aae02 0 = .ok (.getstatic 38, 3) := by decide +kernel
theorem dJ0_isLatin1_aae02_3 : decode cJ0_isLatin1_aae02 3 = .ok (.ifCond .eq 14, 3) := by decide +kernel
theorem dJ0_isLatin1_aae02_6 : decode cJ0_isLatin1_aae02 6 = .ok (.aload_n 0, 1) := by decide +kernel
theorem dJ0_isLatin1_aae02_7 : decode cJ0_isLatin1_aae02 7 = .ok (.getfield 15, 3) := by decide +kernel
theorem dJ0_isLatin1_aae02_10 : decode cJ0_isLatin1_aae02 10 = .ok (.ifCond .ne 7, 3) := by decide +kernel
theorem dJ0_isLatin1_aae02_13 : decode cJ0_isLatin1_aae02 13 = .ok (.iconst 1, 1) := by decide +kernel
theorem dJ0_isLatin1_aae02_14 : decode cJ0_isLatin1_aae02 14 = .ok (.goto 4, 3) := by decide +kernel
theorem dJ0_isLatin1_aae02_17 : decode cJ0_isLatin1_aae02 17 = .ok (.iconst 0, 1) := by decide +kernel
theorem dJ0_isLatin1_aae02_18 : decode cJ0_isLatin1_aae02 18 = .ok (.ireturn, 1) := by decide +kernel
set_option maxRecDepth 20000 in
theorem ggJ0_checkIndex_df160_J3_checkIndex_8e157 : GoodIn wsJ0_checkIndex_df160 wsJ3_checkIndex_8e157 := goodIn_r _ [5] (by decide +kernel) (by decide +kernel)
set_option maxRecDepth 20000 in
theorem gJ0_checkIndex_df160_J3_checkIndex_8e157 : GoodIn wsJ0_checkIndex_df160 (va_wsS RJ0 1059 yJ3_checkIndex_8e157 wsJ3_checkIndex_8e157) := goodIn_app (goodIn_of _ (by decide +kernel)) ggJ0_checkIndex_df160_J3_checkIndex_8e157
theorem dJ0_checkIndex_df160_0 : decode cJ0_checkIndex_df160 0 = .ok (.iload_n 0, 1) := by decide +kernel
theorem dJ0_checkIndex_df160_1 : decode cJ0_checkIndex_df160 1 = .ok (.iload_n 1, 1) := by decide +kernel
theorem dJ0_checkIndex_df160_2 : decode cJ0_checkIndex_df160 2 = .ok (.getstatic 1053, 3) := by decide +kernel
theorem dJ0_checkIndex_df160_5 : decode cJ0_checkIndex_df160 5 = .ok (.invokestatic 1059, 3) := by decide +kernel
theorem dJ0_checkIndex_df160_8 : decode cJ0_checkIndex_df160 8 = .ok (.pop, 1) := by decide +kernel
theorem dJ0_checkIndex_df160_9 : decode cJ0_checkIndex_df160 9 = .ok (.return_, 1) := by decide +kernel
set_option maxRecDepth 20000 in
theorem ggJ1_charAt_3b067_J0_checkIndex_df160 : GoodIn wsJ1_charAt_3b067 wsJ0_checkIndex_df160 := goodIn_r _ [4, 5, 6, 7, 8, 9] (by decide +kernel) (by decide +kernel)
set_option maxRecDepth 20000 in
theorem gJ1_charAt_3b067_J0_checkIndex_df160 : GoodIn wsJ1_charAt_3b067 (va_wsS RJ1 9 yJ0_checkIndex_df160 wsJ0_checkIndex_df160) := goodIn_app (goodIn_of _ (by decide +kernel)) ggJ1_charAt_3b067_J0_checkIndex_df160
theorem dJ1_charAt_3b067_0 : decode cJ1_charAt_3b067 0 = .ok (.iload_n 1, 1) := by decide +kernel
theorem dJ1_charAt_3b067_1 : decode cJ1_charAt_3b067 1 = .ok (.aload_n 0, 1) := by decide +kernel
theorem dJ1_charAt_3b067_2 : decode cJ1_charAt_3b067 2 = .ok (.arraylength, 1) := by decide +kernel
theorem dJ1_charAt_3b067_3 : decode cJ1_charAt_3b067 3 = .ok (.invokestatic 9, 3) := by decide +kernel
theorem dJ1_charAt_3b067_6 : decode cJ1_charAt_3b067 6 = .ok (.aload_n 0, 1) := by decide +kernel
theorem dJ1_charAt_3b067_7 : decode cJ1_charAt_3b067 7 = .ok (.iload_n 1, 1) := by decide +kernel
theorem dJ1_charAt_3b067_8 : decode cJ1_charAt_3b067 8 = .ok (.baload, 1) := by decide +kernel
theorem dJ1_charAt_3b067_9 : decode cJ1_charAt_3b067 9 = .ok (.sipush 255, 3) := by decide +kernel
theorem dJ1_charAt_3b067_12 : decode cJ1_charAt_3b067 12 = .ok (.iand, 1) := by decide +kernel
theorem dJ1_charAt_3b067_13 : decode cJ1_charAt_3b067 13 = .ok (.i2c, 1) := by decide +kernel
theorem dJ1_charAt_3b067_14 : decode cJ1_charAt_3b067 14 = .ok (.ireturn, 1) := by decide +kernel
set_option maxRecDepth 20000 in
theorem ggJ2_getChar_3b067_J2_length_9d52b : GoodIn wsJ2_getChar_3b067 wsJ2_length_9d52b := goodIn_r _ [7] (by decide +kernel) (by decide +kernel)
set_option maxRecDepth 20000 in
theorem gJ2_getChar_3b067_J2_length_9d52b : GoodIn wsJ2_getChar_3b067 (va_wsS RJ2 48 yJ2_length_9d52b wsJ2_length_9d52b) := goodIn_app (goodIn_of _ (by decide +kernel)) ggJ2_getChar_3b067_J2_length_9d52b
theorem dJ2_getChar_3b067_0 : decode cJ2_getChar_3b067 0 = .ok (.getstatic 44, 3) := by decide +kernel
theorem dJ2_getChar_3b067_3 : decode cJ2_getChar_3b067 3 = .ok (.ifCond .ne 25, 3) := by decide +kernel
theorem dJ2_getChar_3b067_6 : decode cJ2_getChar_3b067 6 = .ok (.iload_n 1, 1) := by decide +kernel
theorem dJ2_getChar_3b067_7 : decode cJ2_getChar_3b067 7 = .ok (.ifCond .lt 11, 3) := by decide +kernel
theorem dJ2_getChar_3b067_10 : decode cJ2_getChar_3b067 10 = .ok (.iload_n 1, 1) := by decide +kernel
theorem dJ2_getChar_3b067_11 : decode cJ2_getChar_3b067 11 = .ok (.aload_n 0, 1) := by decide +kernel
theorem dJ2_getChar_3b067_12 : decode cJ2_getChar_3b067 12 = .ok (.invokestatic 48, 3) := by decide +kernel
theorem dJ2_getChar_3b067_15 : decode cJ2_getChar_3b067 15 = .ok (.if_icmp .lt 13, 3) := by decide +kernel
theorem dJ2_getChar_3b067_18 : decode cJ2_getChar_3b067 18 = .ok (.new 52, 3) := by decide +kernel
theorem dJ2_getChar_3b067_21 : decode cJ2_getChar_3b067 21 = .ok (.dup, 1) := by decide +kernel
theorem dJ2_getChar_3b067_22 : decode cJ2_getChar_3b067 22 = .ok (.ldc 54, 2) := by decide +kernel
theorem dJ2_getChar_3b067_24 : decode cJ2_getChar_3b067 24 = .ok (.invokespecial 56, 3) := by decide +kernel
theorem dJ2_getChar_3b067_27 : decode cJ2_getChar_3b067 27 = .ok (.athrow, 1) := by decide +kernel
theorem dJ2_getChar_3b067_28 : decode cJ2_getChar_3b067 28 = .ok (.iload_n 1, 1) := by decide +kernel
theorem dJ2_getChar_3b067_29 : decode cJ2_getChar_3b067 29 = .ok (.iconst 1, 1) := by decide +kernel
theorem dJ2_getChar_3b067_30 : decode cJ2_getChar_3b067 30 = .ok (.ishl, 1) := by decide +kernel
theorem dJ2_getChar_3b067_31 : decode cJ2_getChar_3b067 31 = .ok (.istore_n 1, 1) := by decide +kernel
theorem dJ2_getChar_3b067_32 : decode cJ2_getChar_3b067 32 = .ok (.aload_n 0, 1) := by decide +kernel
theorem dJ2_getChar_3b067_33 : decode cJ2_getChar_3b067 33 = .ok (.iload_n 1, 1) := by decide +kernel
theorem dJ2_getChar_3b067_34 : decode cJ2_getChar_3b067 34 = .ok (.iinc 1 1, 3) := by decide +kernel
theorem dJ2_getChar_3b067_37 : decode cJ2_getChar_3b067 37 = .ok (.baload, 1) := by decide +kernel
theorem dJ2_getChar_3b067_38 : decode cJ2_getChar_3b067 38 = .ok (.sipush 255, 3) := by decide +kernel
theorem dJ2_getChar_3b067_41 : decode cJ2_getChar_3b067 41 = .ok (.iand, 1) := by decide +kernel
theorem dJ2_getChar_3b067_42 : decode cJ2_getChar_3b067 42 = .ok (.getstatic 59, 3) := by decide +kernel
theorem dJ2_getChar_3b067_45 : decode cJ2_getChar_3b067 45 = .ok (.ishl, 1) := by decide +kernel
theorem dJ2_getChar_3b067_46 : decode cJ2_getChar_3b067 46 = .ok (.aload_n 0, 1) := by decide +kernel
theorem dJ2_getChar_3b067_47 : decode cJ2_getChar_3b067 47 = .ok (.iload_n 1, 1) := by decide +kernel
theorem dJ2_getChar_3b067_48 : decode cJ2_getChar_3b067 48 = .ok (.baload, 1) := by decide +kernel
theorem dJ2_getChar_3b067_49 : decode cJ2_getChar_3b067 49 = .ok (.sipush 255, 3) := by decide +kernel
theorem dJ2_getChar_3b067_52 : decode cJ2_getChar_3b067 52 = .ok (.iand, 1) := by decide +kernel
theorem dJ2_getChar_3b067_53 : decode cJ2_getChar_3b067 53 = .ok (.getstatic 63, 3) := by decide +kernel
theorem dJ2_getChar_3b067_56 : decode cJ2_getChar_3b067 56 = .ok (.ishl, 1) := by decide +kernel
theorem dJ2_getChar_3b067_57 : decode cJ2_getChar_3b067 57 = .ok (.ior, 1) := by decide +kernel
theorem dJ2_getChar_3b067_58 : decode cJ2_getChar_3b067 58 = .ok (.i2c, 1) := by decide +kernel
theorem dJ2_getChar_3b067_59 : decode cJ2_getChar_3b067 59 = .ok (.ireturn, 1) := by decide +kernel
theorem dJ2_length_9d52b_0 : decode cJ2_length_9d52b 0 = .ok (.aload_n 0, 1) := by decide +kernel
theorem dJ2_length_9d52b_1 : decode cJ2_length_9d52b 1 = .ok (.arraylength, 1) := by decide +kernel
theorem dJ2_length_9d52b_2 : decode cJ2_length_9d52b 2 = .ok (.iconst 1, 1) := by decide +kernel
theorem dJ2_length_9d52b_3 : decode cJ2_length_9d52b 3 = .ok (.ishr, 1) := by decide +kernel
theorem dJ2_length_9d52b_4 : decode cJ2_length_9d52b 4 = .ok (.ireturn, 1) := by decide +kernel
set_option maxRecDepth 20000 in
theorem ggJ2_charAt_3b067_J2_checkIndex_2214a : GoodIn wsJ2_charAt_3b067 wsJ2_checkIndex_2214a := goodIn_r _ [4, 5, 6, 3, 7, 8, 9, 10, 11, 12, 13, 14, 15, 16] (by decide +kernel) (by decide +kernel)
set_option maxRecDepth 20000 in
theorem gJ2_charAt_3b067_J2_checkIndex_2214a : GoodIn wsJ2_charAt_3b067 (va_wsS RJ2 67 yJ2_checkIndex_2214a wsJ2_checkIndex_2214a) := goodIn_app (goodIn_of _ (by decide +kernel)) ggJ2_charAt_3b067_J2_checkIndex_2214a
set_option maxRecDepth 20000 in
theorem ggJ2_charAt_3b067_J2_getChar_3b067 : GoodIn wsJ2_charAt_3b067 wsJ2_getChar_3b067 := goodIn_r _ [19, 20, 21, 22, 5, 6, 3, 7] (by decide +kernel) (by decide +kernel)
set_option maxRecDepth 20000 in
theorem gJ2_charAt_3b067_J2_getChar_3b067 : GoodIn wsJ2_charAt_3b067 (va_wsS RJ2 71 yJ2_getChar_3b067 wsJ2_getChar_3b067) := goodIn_app (goodIn_of _ (by decide +kernel)) ggJ2_charAt_3b067_J2_getChar_3b067
theorem dJ2_charAt_3b067_0 : decode cJ2_charAt_3b067 0 = .ok (.iload_n 1, 1) := by decide +kernel
theorem dJ2_charAt_3b067_1 : decode cJ2_charAt_3b067 1 = .ok (.aload_n 0, 1) := by decide +kernel
theorem dJ2_charAt_3b067_2 : decode cJ2_charAt_3b067 2 = .ok (.invokestatic 67, 3) := by decide +kernel
theorem dJ2_charAt_3b067_5 : decode cJ2_charAt_3b067 5 = .ok (.aload_n 0, 1) := by decide +kernel
theorem dJ2_charAt_3b067_6 : decode cJ2_charAt_3b067 6 = .ok (.iload_n 1, 1) := by decide +kernel
theorem dJ2_charAt_3b067_7 : decode cJ2_charAt_3b067 7 = .ok (.invokestatic 71, 3) := by decide +kernel
theorem dJ2_charAt_3b067_10 : decode cJ2_charAt_3b067 10 = .ok (.ireturn, 1) := by decide +kernel
set_option maxRecDepth 20000 in
theorem ggJ2_checkIndex_2214a_J2_length_9d52b : GoodIn wsJ2_checkIndex_2214a wsJ2_length_9d52b := goodIn_r _ [4] (by decide +kernel) (by decide +kernel)
set_option maxRecDepth 20000 in
theorem gJ2_checkIndex_2214a_J2_length_9d52b : GoodIn wsJ2_checkIndex_2214a (va_wsS RJ2 48 yJ2_length_9d52b wsJ2_length_9d52b) := goodIn_app (goodIn_of _ (by decide +kernel)) ggJ2_checkIndex_2214a_J2_length_9d52b
set_option maxRecDepth 20000 in
theorem ggJ2_checkIndex_2214a_J0_checkIndex_df160 : GoodIn wsJ2_checkIndex_2214a wsJ0_checkIndex_df160 := goodIn_r _ [8, 9, 10, 11, 12, 13] (by decide +kernel) (by decide +kernel)
set_option maxRecDepth 20000 in
theorem gJ2_checkIndex_2214a_J0_checkIndex_df160 : GoodIn wsJ2_checkIndex_2214a (va_wsS RJ2 414 yJ0_checkIndex_df160 wsJ0_checkIndex_df160) := goodIn_app (goodIn_of _ (by decide +kernel)) ggJ2_checkIndex_2214a_J0_checkIndex_df160
theorem dJ2_checkIndex_2214a_0 : decode cJ2_checkIndex_2214a 0 = .ok (.iload_n 0, 1) := by decide +kernel
theorem dJ2_checkIndex_2214a_1 : decode cJ2_checkIndex_2214a 1 = .ok (.aload_n 1, 1) := by decide +kernel
theorem dJ2_checkIndex_2214a_2 : decode cJ2_checkIndex_2214a 2 = .ok (.invokestatic 48, 3) := by decide +kernel
theorem dJ2_checkIndex_2214a_5 : decode cJ2_checkIndex_2214a 5 = .ok (.invokestatic 414, 3) := by decide +kernel
theorem dJ2_checkIndex_2214a_8 : decode cJ2_checkIndex_2214a 8 = .ok (.return_, 1) := by decide +kernel
theorem dJ7_fill_53178_0 : decode cJ7_fill_53178 0 = .ok (.iconst 0, 1) := by decide +kernel
theorem dJ7_fill_53178_1 : decode cJ7_fill_53178 1 = .ok (.istore_n 2, 1) := by decide +kernel
theorem dJ7_fill_53178_2 : decode cJ7_fill_53178 2 = .ok (.aload_n 0, 1) := by decide +kernel
theorem dJ7_fill_53178_3 : decode cJ7_fill_53178 3 = .ok (.arraylength, 1) := by decide +kernel
theorem dJ7_fill_53178_4 : decode cJ7_fill_53178 4 = .ok (.istore_n 3, 1) := by decide +kernel
theorem dJ7_fill_53178_5 : decode cJ7_fill_53178 5 = .ok (.iload_n 2, 1) := by decide +kernel
theorem dJ7_fill_53178_6 : decode cJ7_fill_53178 6 = .ok (.iload_n 3, 1) := by decide +kernel
theorem dJ7_fill_53178_7 : decode cJ7_fill_53178 7 = .ok (.if_icmp .ge 13, 3) := by decide +kernel
theorem dJ7_fill_53178_10 : decode cJ7_fill_53178 10 = .ok (.aload_n 0, 1) := by decide +kernel
theorem dJ7_fill_53178_11 : decode cJ7_fill_53178 11 = .ok (.iload_n 2, 1) := by decide +kernel
theorem dJ7_fill_53178_12 : decode cJ7_fill_53178 12 = .ok (.iload_n 1, 1) := by decide +kernel
theorem dJ7_fill_53178_13 : decode cJ7_fill_53178 13 = .ok (.iastore, 1) := by decide +kernel
theorem dJ7_fill_53178_14 : decode cJ7_fill_53178 14 = .ok (.iinc 2 1, 3) := by decide +kernel
theorem dJ7_fill_53178_17 : decode cJ7_fill_53178 17 = .ok (.goto (-12), 3) := by decide +kernel
theorem dJ7_fill_53178_20 : decode cJ7_fill_53178 20 = .ok (.return_, 1) := by decide +kernel
theorem dJ7_fill_e525d_0 : decode cJ7_fill_e525d 0 = .ok (.iconst 0, 1) := by decide +kernel
theorem dJ7_fill_e525d_1 : decode cJ7_fill_e525d 1 = .ok (.istore_n 2, 1) := by decide +kernel
theorem dJ7_fill_e525d_2 : decode cJ7_fill_e525d 2 = .ok (.aload_n 0, 1) := by decide +kernel
theorem dJ7_fill_e525d_3 : decode cJ7_fill_e525d 3 = .ok (.arraylength, 1) := by decide +kernel
theorem dJ7_fill_e525d_4 : decode cJ7_fill_e525d 4 = .ok (.istore_n 3, 1) := by decide +kernel
theorem dJ7_fill_e525d_5 : decode cJ7_fill_e525d 5 = .ok (.iload_n 2, 1) := by decide +kernel
theorem dJ7_fill_e525d_6 : decode cJ7_fill_e525d 6 = .ok (.iload_n 3, 1) := by decide +kernel
theorem dJ7_fill_e525d_7 : decode cJ7_fill_e525d 7 = .ok (.if_icmp .ge 13, 3) := by decide +kernel
theorem dJ7_fill_e525d_10 : decode cJ7_fill_e525d 10 = .ok (.aload_n 0, 1) := by decide +kernel
theorem dJ7_fill_e525d_11 : decode cJ7_fill_e525d 11 = .ok (.iload_n 2, 1) := by decide +kernel
theorem dJ7_fill_e525d_12 : decode cJ7_fill_e525d 12 = .ok (.fload_n 1, 1) := by decide +kernel
theorem dJ7_fill_e525d_13 : decode cJ7_fill_e525d 13 = .ok (.fastore, 1) := by decide +kernel
theorem dJ7_fill_e525d_14 : decode cJ7_fill_e525d 14 = .ok (.iinc 2 1, 3) := by decide +kernel
theorem dJ7_fill_e525d_17 : decode cJ7_fill_e525d 17 = .ok (.goto (-12), 3) := by decide +kernel
theorem dJ7_fill_e525d_20 : decode cJ7_fill_e525d 20 = .ok (.return_, 1) := by decide +kernel
theorem dJ3_checkIndex_8e157_0 : decode cJ3_checkIndex_8e157 0 = .ok (.iload_n 0, 1) := by decide +kernel
theorem dJ3_checkIndex_8e157_1 : decode cJ3_checkIndex_8e157 1 = .ok (.ifCond .lt 8, 3) := by decide +kernel
theorem dJ3_checkIndex_8e157_4 : decode cJ3_checkIndex_8e157 4 = .ok (.iload_n 0, 1) := by decide +kernel
theorem dJ3_checkIndex_8e157_5 : decode cJ3_checkIndex_8e157 5 = .ok (.iload_n 1, 1) := by decide +kernel
theorem dJ3_checkIndex_8e157_6 : decode cJ3_checkIndex_8e157 6 = .ok (.if_icmp .lt 10, 3) := by decide +kernel
theorem dJ3_checkIndex_8e157_9 : decode cJ3_checkIndex_8e157 9 = .ok (.aload_n 2, 1) := by decide +kernel
theorem dJ3_checkIndex_8e157_10 : decode cJ3_checkIndex_8e157 10 = .ok (.iload_n 0, 1) := by decide +kernel
theorem dJ3_checkIndex_8e157_11 : decode cJ3_checkIndex_8e157 11 = .ok (.iload_n 1, 1) := by decide +kernel
theorem dJ3_checkIndex_8e157_12 : decode cJ3_checkIndex_8e157 12 = .ok (.invokestatic 95, 3) := by decide +kernel
theorem dJ3_checkIndex_8e157_15 : decode cJ3_checkIndex_8e157 15 = .ok (.athrow, 1) := by decide +kernel
theorem dJ3_checkIndex_8e157_16 : decode cJ3_checkIndex_8e157 16 = .ok (.iload_n 0, 1) := by decide +kernel
theorem dJ3_checkIndex_8e157_17 : decode cJ3_checkIndex_8e157 17 = .ok (.ireturn, 1) := by decide +kernel
