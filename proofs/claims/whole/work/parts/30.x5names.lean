set_option maxRecDepth 20000 in
theorem ggX5_init_X4_init : GoodIn wsX5_init wsX4_init := goodIn_r _ [27, 28, 2, 3, 29, 30, 31, 32, 61, 62, 63, 64, 65, 66, 67] (by decide +kernel) (by decide +kernel)
set_option maxRecDepth 20000 in
theorem gX5_init_X4_init_n9 : GoodIn wsX5_init (wsX4_init) := ggX5_init_X4_init
set_option maxRecDepth 20000 in
theorem ggX5_init_X0_init : GoodIn wsX5_init wsX0_init := goodIn_r _ [34, 35, 2, 3, 31, 36, 37, 38, 79, 80, 81, 82, 83, 84] (by decide +kernel) (by decide +kernel)
set_option maxRecDepth 20000 in
theorem gX5_init_X0_init_n18 : GoodIn wsX5_init (wsX0_init) := ggX5_init_X0_init
set_option maxRecDepth 20000 in
theorem ggX5_init_X2_init : GoodIn wsX5_init wsX2_init := goodIn_r _ [40, 41, 2, 3, 42, 43, 44, 45, 46, 31, 47, 48, 49, 50, 51, 52, 53, 54, 55, 93, 94, 95, 96, 97, 98, 99, 85, 86, 87, 88] (by decide +kernel) (by decide +kernel)
set_option maxRecDepth 20000 in
theorem gX5_init_X2_init_n28 : GoodIn wsX5_init (wsX2_init) := ggX5_init_X2_init
set_option maxRecDepth 20000 in
theorem ggX5_init_X3_init : GoodIn wsX5_init wsX3_init := goodIn_r _ [57, 58, 2, 3, 59, 31, 60, 89, 90, 91, 92] (by decide +kernel) (by decide +kernel)
set_option maxRecDepth 20000 in
theorem gX5_init_X3_init_n53 : GoodIn wsX5_init (wsX3_init) := ggX5_init_X3_init
theorem dX5_init_0 : decode cX5_init 0 = .ok (.aload_n 0, 1) := by decide +kernel
theorem dX5_init_1 : decode cX5_init 1 = .ok (.invokespecial 1, 3) := by decide +kernel
theorem dX5_init_4 : decode cX5_init 4 = .ok (.aload_n 0, 1) := by decide +kernel
theorem dX5_init_5 : decode cX5_init 5 = .ok (.new 7, 3) := by decide +kernel
theorem dX5_init_8 : decode cX5_init 8 = .ok (.dup, 1) := by decide +kernel
theorem dX5_init_9 : decode cX5_init 9 = .ok (.invokespecial 9, 3) := by decide +kernel
theorem dX5_init_12 : decode cX5_init 12 = .ok (.putfield 10, 3) := by decide +kernel
theorem dX5_init_15 : decode cX5_init 15 = .ok (.aload_n 0, 1) := by decide +kernel
theorem dX5_init_16 : decode cX5_init 16 = .ok (.new 16, 3) := by decide +kernel
theorem dX5_init_19 : decode cX5_init 19 = .ok (.dup, 1) := by decide +kernel
theorem dX5_init_20 : decode cX5_init 20 = .ok (.invokespecial 18, 3) := by decide +kernel
theorem dX5_init_23 : decode cX5_init 23 = .ok (.putfield 19, 3) := by decide +kernel
theorem dX5_init_26 : decode cX5_init 26 = .ok (.aload_n 0, 1) := by decide +kernel
theorem dX5_init_27 : decode cX5_init 27 = .ok (.new 16, 3) := by decide +kernel
theorem dX5_init_30 : decode cX5_init 30 = .ok (.dup, 1) := by decide +kernel
theorem dX5_init_31 : decode cX5_init 31 = .ok (.invokespecial 18, 3) := by decide +kernel
theorem dX5_init_34 : decode cX5_init 34 = .ok (.putfield 23, 3) := by decide +kernel
theorem dX5_init_37 : decode cX5_init 37 = .ok (.aload_n 0, 1) := by decide +kernel
theorem dX5_init_38 : decode cX5_init 38 = .ok (.new 26, 3) := by decide +kernel
theorem dX5_init_41 : decode cX5_init 41 = .ok (.dup, 1) := by decide +kernel
theorem dX5_init_42 : decode cX5_init 42 = .ok (.invokespecial 28, 3) := by decide +kernel
theorem dX5_init_45 : decode cX5_init 45 = .ok (.putfield 29, 3) := by decide +kernel
theorem dX5_init_48 : decode cX5_init 48 = .ok (.aload_n 0, 1) := by decide +kernel
theorem dX5_init_49 : decode cX5_init 49 = .ok (.new 26, 3) := by decide +kernel
theorem dX5_init_52 : decode cX5_init 52 = .ok (.dup, 1) := by decide +kernel
theorem dX5_init_53 : decode cX5_init 53 = .ok (.invokespecial 28, 3) := by decide +kernel
theorem dX5_init_56 : decode cX5_init 56 = .ok (.putfield 33, 3) := by decide +kernel
theorem dX5_init_59 : decode cX5_init 59 = .ok (.aload_n 0, 1) := by decide +kernel
theorem dX5_init_60 : decode cX5_init 60 = .ok (.bipush 8, 2) := by decide +kernel
theorem dX5_init_62 : decode cX5_init 62 = .ok (.anewarray 26, 3) := by decide +kernel
theorem dX5_init_65 : decode cX5_init 65 = .ok (.putfield 36, 3) := by decide +kernel
theorem dX5_init_68 : decode cX5_init 68 = .ok (.aload_n 0, 1) := by decide +kernel
theorem dX5_init_69 : decode cX5_init 69 = .ok (.iconst 2, 1) := by decide +kernel
theorem dX5_init_70 : decode cX5_init 70 = .ok (.anewarray 26, 3) := by decide +kernel
theorem dX5_init_73 : decode cX5_init 73 = .ok (.putfield 40, 3) := by decide +kernel
theorem dX5_init_76 : decode cX5_init 76 = .ok (.aload_n 0, 1) := by decide +kernel
theorem dX5_init_77 : decode cX5_init 77 = .ok (.iconst 2, 1) := by decide +kernel
theorem dX5_init_78 : decode cX5_init 78 = .ok (.newarray .boolean, 2) := by decide +kernel
theorem dX5_init_80 : decode cX5_init 80 = .ok (.putfield 43, 3) := by decide +kernel
theorem dX5_init_83 : decode cX5_init 83 = .ok (.aload_n 0, 1) := by decide +kernel
theorem dX5_init_84 : decode cX5_init 84 = .ok (.iconst 3, 1) := by decide +kernel
theorem dX5_init_85 : decode cX5_init 85 = .ok (.anewarray 47, 3) := by decide +kernel
theorem dX5_init_88 : decode cX5_init 88 = .ok (.putfield 49, 3) := by decide +kernel
theorem dX5_init_91 : decode cX5_init 91 = .ok (.iconst 0, 1) := by decide +kernel
theorem dX5_init_92 : decode cX5_init 92 = .ok (.istore_n 1, 1) := by decide +kernel
theorem dX5_init_93 : decode cX5_init 93 = .ok (.iload_n 1, 1) := by decide +kernel
theorem dX5_init_94 : decode cX5_init 94 = .ok (.bipush 8, 2) := by decide +kernel
theorem dX5_init_96 : decode cX5_init 96 = .ok (.if_icmp .ge 22, 3) := by decide +kernel
theorem dX5_init_99 : decode cX5_init 99 = .ok (.aload_n 0, 1) := by decide +kernel
theorem dX5_init_100 : decode cX5_init 100 = .ok (.getfield 36, 3) := by decide +kernel
theorem dX5_init_103 : decode cX5_init 103 = .ok (.iload_n 1, 1) := by decide +kernel
theorem dX5_init_104 : decode cX5_init 104 = .ok (.new 26, 3) := by decide +kernel
theorem dX5_init_107 : decode cX5_init 107 = .ok (.dup, 1) := by decide +kernel
theorem dX5_init_108 : decode cX5_init 108 = .ok (.invokespecial 28, 3) := by decide +kernel
theorem dX5_init_111 : decode cX5_init 111 = .ok (.aastore, 1) := by decide +kernel
theorem dX5_init_112 : decode cX5_init 112 = .ok (.iinc 1 1, 3) := by decide +kernel
theorem dX5_init_115 : decode cX5_init 115 = .ok (.goto (-22), 3) := by decide +kernel
theorem dX5_init_118 : decode cX5_init 118 = .ok (.iconst 0, 1) := by decide +kernel
theorem dX5_init_119 : decode cX5_init 119 = .ok (.istore_n 1, 1) := by decide +kernel
theorem dX5_init_120 : decode cX5_init 120 = .ok (.iload_n 1, 1) := by decide +kernel
theorem dX5_init_121 : decode cX5_init 121 = .ok (.iconst 2, 1) := by decide +kernel
theorem dX5_init_122 : decode cX5_init 122 = .ok (.if_icmp .ge 22, 3) := by decide +kernel
theorem dX5_init_125 : decode cX5_init 125 = .ok (.aload_n 0, 1) := by decide +kernel
theorem dX5_init_126 : decode cX5_init 126 = .ok (.getfield 40, 3) := by decide +kernel
theorem dX5_init_129 : decode cX5_init 129 = .ok (.iload_n 1, 1) := by decide +kernel
theorem dX5_init_130 : decode cX5_init 130 = .ok (.new 26, 3) := by decide +kernel
theorem dX5_init_133 : decode cX5_init 133 = .ok (.dup, 1) := by decide +kernel
theorem dX5_init_134 : decode cX5_init 134 = .ok (.invokespecial 28, 3) := by decide +kernel
theorem dX5_init_137 : decode cX5_init 137 = .ok (.aastore, 1) := by decide +kernel
theorem dX5_init_138 : decode cX5_init 138 = .ok (.iinc 1 1, 3) := by decide +kernel
theorem dX5_init_141 : decode cX5_init 141 = .ok (.goto (-21), 3) := by decide +kernel
theorem dX5_init_144 : decode cX5_init 144 = .ok (.iconst 0, 1) := by decide +kernel
theorem dX5_init_145 : decode cX5_init 145 = .ok (.istore_n 1, 1) := by decide +kernel
theorem dX5_init_146 : decode cX5_init 146 = .ok (.iload_n 1, 1) := by decide +kernel
theorem dX5_init_147 : decode cX5_init 147 = .ok (.iconst 3, 1) := by decide +kernel
theorem dX5_init_148 : decode cX5_init 148 = .ok (.if_icmp .ge 22, 3) := by decide +kernel
theorem dX5_init_151 : decode cX5_init 151 = .ok (.aload_n 0, 1) := by decide +kernel
theorem dX5_init_152 : decode cX5_init 152 = .ok (.getfield 49, 3) := by decide +kernel
theorem dX5_init_155 : decode cX5_init 155 = .ok (.iload_n 1, 1) := by decide +kernel
theorem dX5_init_156 : decode cX5_init 156 = .ok (.new 47, 3) := by decide +kernel
theorem dX5_init_159 : decode cX5_init 159 = .ok (.dup, 1) := by decide +kernel
theorem dX5_init_160 : decode cX5_init 160 = .ok (.invokespecial 53, 3) := by decide +kernel
theorem dX5_init_163 : decode cX5_init 163 = .ok (.aastore, 1) := by decide +kernel
theorem dX5_init_164 : decode cX5_init 164 = .ok (.iinc 1 1, 3) := by decide +kernel
theorem dX5_init_167 : decode cX5_init 167 = .ok (.goto (-21), 3) := by decide +kernel
theorem dX5_init_170 : decode cX5_init 170 = .ok (.return_, 1) := by decide +kernel
theorem dX5_write_0 : decode cX5_write 0 = .ok (.iload_n 1, 1) := by decide +kernel
theorem dX5_write_1 : decode cX5_write 1 = .ok (.ifCond .lt 10, 3) := by decide +kernel
theorem dX5_write_4 : decode cX5_write 4 = .ok (.iload_n 1, 1) := by decide +kernel
theorem dX5_write_5 : decode cX5_write 5 = .ok (.sipush 255, 3) := by decide +kernel
theorem dX5_write_8 : decode cX5_write 8 = .ok (.if_icmp .le 6, 3) := by decide +kernel
theorem dX5_write_11 : decode cX5_write 11 = .ok (.bipush (-3), 2) := by decide +kernel
theorem dX5_write_13 : decode cX5_write 13 = .ok (.ireturn, 1) := by decide +kernel
theorem dX5_write_14 : decode cX5_write 14 = .ok (.aload_n 0, 1) := by decide +kernel
theorem dX5_write_15 : decode cX5_write 15 = .ok (.getfield 10, 3) := by decide +kernel
theorem dX5_write_18 : decode cX5_write 18 = .ok (.getfield 54, 3) := by decide +kernel
theorem dX5_write_21 : decode cX5_write 21 = .ok (.sipush 200, 3) := by decide +kernel
theorem dX5_write_24 : decode cX5_write 24 = .ok (.if_icmp .lt 6, 3) := by decide +kernel
theorem dX5_write_27 : decode cX5_write 27 = .ok (.bipush (-5), 2) := by decide +kernel
theorem dX5_write_29 : decode cX5_write 29 = .ok (.ireturn, 1) := by decide +kernel
theorem dX5_write_30 : decode cX5_write 30 = .ok (.aload_n 0, 1) := by decide +kernel
theorem dX5_write_31 : decode cX5_write 31 = .ok (.getfield 10, 3) := by decide +kernel
theorem dX5_write_34 : decode cX5_write 34 = .ok (.getfield 58, 3) := by decide +kernel
theorem dX5_write_37 : decode cX5_write 37 = .ok (.aload_n 0, 1) := by decide +kernel
theorem dX5_write_38 : decode cX5_write 38 = .ok (.getfield 10, 3) := by decide +kernel
theorem dX5_write_41 : decode cX5_write 41 = .ok (.getfield 54, 3) := by decide +kernel
theorem dX5_write_44 : decode cX5_write 44 = .ok (.iload_n 1, 1) := by decide +kernel
theorem dX5_write_45 : decode cX5_write 45 = .ok (.i2c, 1) := by decide +kernel
theorem dX5_write_46 : decode cX5_write 46 = .ok (.castore, 1) := by decide +kernel
theorem dX5_write_47 : decode cX5_write 47 = .ok (.aload_n 0, 1) := by decide +kernel
theorem dX5_write_48 : decode cX5_write 48 = .ok (.getfield 10, 3) := by decide +kernel
theorem dX5_write_51 : decode cX5_write 51 = .ok (.dup, 1) := by decide +kernel
theorem dX5_write_52 : decode cX5_write 52 = .ok (.getfield 54, 3) := by decide +kernel
theorem dX5_write_55 : decode cX5_write 55 = .ok (.iconst 1, 1) := by decide +kernel
theorem dX5_write_56 : decode cX5_write 56 = .ok (.iadd, 1) := by decide +kernel
theorem dX5_write_57 : decode cX5_write 57 = .ok (.putfield 54, 3) := by decide +kernel
theorem dX5_write_60 : decode cX5_write 60 = .ok (.aload_n 0, 1) := by decide +kernel
theorem dX5_write_61 : decode cX5_write 61 = .ok (.getfield 10, 3) := by decide +kernel
theorem dX5_write_64 : decode cX5_write 64 = .ok (.getfield 54, 3) := by decide +kernel
theorem dX5_write_67 : decode cX5_write 67 = .ok (.ireturn, 1) := by decide +kernel
theorem dX5_erase_0 : decode cX5_erase 0 = .ok (.aload_n 0, 1) := by decide +kernel
theorem dX5_erase_1 : decode cX5_erase 1 = .ok (.getfield 10, 3) := by decide +kernel
theorem dX5_erase_4 : decode cX5_erase 4 = .ok (.getfield 54, 3) := by decide +kernel
theorem dX5_erase_7 : decode cX5_erase 7 = .ok (.istore_n 1, 1) := by decide +kernel
theorem dX5_erase_8 : decode cX5_erase 8 = .ok (.aload_n 0, 1) := by decide +kernel
theorem dX5_erase_9 : decode cX5_erase 9 = .ok (.getfield 10, 3) := by decide +kernel
theorem dX5_erase_12 : decode cX5_erase 12 = .ok (.iconst 0, 1) := by decide +kernel
theorem dX5_erase_13 : decode cX5_erase 13 = .ok (.putfield 54, 3) := by decide +kernel
theorem dX5_erase_16 : decode cX5_erase 16 = .ok (.iload_n 1, 1) := by decide +kernel
theorem dX5_erase_17 : decode cX5_erase 17 = .ok (.ireturn, 1) := by decide +kernel
set_option maxRecDepth 20000 in
theorem ggX5_fault_X0_copyFrom : GoodIn wsX5_fault wsX0_copyFrom := goodIn_r _ [8, 9, 10, 11, 12, 13, 14, 15, 16, 17, 18, 160, 161, 162, 163, 164, 165] (by decide +kernel) (by decide +kernel)
set_option maxRecDepth 20000 in
theorem gX5_fault_X0_copyFrom : GoodIn wsX5_fault (wsV RX5 62 RX0 yX0_copyFrom wsX0_copyFrom) := goodIn_app (goodIn_of _ (by decide +kernel)) ggX5_fault_X0_copyFrom
set_option maxRecDepth 20000 in
theorem ggX5_fault_X4_readOnto : GoodIn wsX5_fault wsX4_readOnto := goodIn_r _ [23, 24, 25, 26, 27, 28, 29, 22, 30, 31, 32, 33, 34, 35, 36, 37, 38, 39, 40, 41, 42, 43, 44, 45, 46, 47, 48, 49, 50, 51, 52, 53, 54, 55, 56, 57, 58, 59, 60, 61, 62, 63, 64, 65, 66, 67, 68, 69, 70, 71, 72, 73, 74, 75, 76, 77, 78, 79, 80, 81, 82, 83, 84, 85, 86, 87, 88, 89, 90, 91, 92, 7, 93, 9, 15, 17, 18, 94, 95, 96, 97, 98, 99, 100, 12, 13, 14, 101, 102, 103, 104, 105, 106, 107, 108, 109, 110, 111, 112, 113, 114, 115, 116, 117, 118, 119, 120, 121, 122, 123, 124, 16, 125, 126, 127, 128, 129, 130, 131, 132, 133, 134, 135, 136, 137, 138, 139, 140, 141, 142, 143, 144, 145, 146, 147, 148, 166, 167, 168, 169, 170, 171, 172, 160, 161, 162, 163, 164, 165] (by decide +kernel) (by decide +kernel)
set_option maxRecDepth 20000 in
theorem gX5_fault_X4_readOnto : GoodIn wsX5_fault (wsV RX5 66 RX4 yX4_readOnto wsX4_readOnto) := goodIn_app (goodIn_of _ (by decide +kernel)) ggX5_fault_X4_readOnto
theorem dX5_fault_0 : decode cX5_fault 0 = .ok (.aload_n 0, 1) := by decide +kernel
theorem dX5_fault_1 : decode cX5_fault 1 = .ok (.getfield 23, 3) := by decide +kernel
theorem dX5_fault_4 : decode cX5_fault 4 = .ok (.aload_n 0, 1) := by decide +kernel
theorem dX5_fault_5 : decode cX5_fault 5 = .ok (.getfield 19, 3) := by decide +kernel
theorem dX5_fault_8 : decode cX5_fault 8 = .ok (.invokevirtual 62, 3) := by decide +kernel
theorem dX5_fault_11 : decode cX5_fault 11 = .ok (.aload_n 0, 1) := by decide +kernel
theorem dX5_fault_12 : decode cX5_fault 12 = .ok (.getfield 10, 3) := by decide +kernel
theorem dX5_fault_15 : decode cX5_fault 15 = .ok (.aload_n 0, 1) := by decide +kernel
theorem dX5_fault_16 : decode cX5_fault 16 = .ok (.getfield 23, 3) := by decide +kernel
theorem dX5_fault_19 : decode cX5_fault 19 = .ok (.invokevirtual 66, 3) := by decide +kernel
theorem dX5_fault_22 : decode cX5_fault 22 = .ok (.ireturn, 1) := by decide +kernel
set_option maxRecDepth 20000 in
theorem ggX5_figure_X0_copyFrom : GoodIn wsX5_figure wsX0_copyFrom := goodIn_r _ [8, 9, 10, 11, 12, 13, 14, 15, 16, 17, 18, 221, 222, 223, 224, 225, 226] (by decide +kernel) (by decide +kernel)
set_option maxRecDepth 20000 in
theorem gX5_figure_X0_copyFrom : GoodIn wsX5_figure (wsV RX5 62 RX0 yX0_copyFrom wsX0_copyFrom) := goodIn_app (goodIn_of _ (by decide +kernel)) ggX5_figure_X0_copyFrom
set_option maxRecDepth 20000 in
theorem ggX5_figure_X4_readOnto : GoodIn wsX5_figure wsX4_readOnto := goodIn_r _ [23, 24, 25, 26, 27, 28, 29, 22, 30, 31, 32, 33, 34, 35, 36, 37, 38, 39, 40, 41, 42, 43, 44, 45, 46, 47, 48, 49, 50, 51, 52, 53, 54, 55, 56, 57, 58, 59, 60, 61, 62, 63, 64, 65, 66, 67, 68, 69, 70, 71, 72, 73, 74, 75, 76, 77, 78, 79, 80, 81, 82, 83, 84, 85, 86, 87, 88, 89, 90, 91, 92, 7, 93, 9, 15, 17, 18, 94, 95, 96, 97, 98, 99, 100, 12, 13, 14, 101, 102, 103, 104, 105, 106, 107, 108, 109, 110, 111, 112, 113, 114, 115, 116, 117, 118, 119, 120, 121, 122, 123, 124, 16, 125, 126, 127, 128, 129, 130, 131, 132, 133, 134, 135, 136, 137, 138, 139, 140, 141, 142, 143, 144, 145, 146, 147, 148, 214, 215, 216, 217, 218, 219, 220, 221, 222, 223, 224, 225, 226] (by decide +kernel) (by decide +kernel)
set_option maxRecDepth 20000 in
theorem gX5_figure_X4_readOnto : GoodIn wsX5_figure (wsV RX5 66 RX4 yX4_readOnto wsX4_readOnto) := goodIn_app (goodIn_of _ (by decide +kernel)) ggX5_figure_X4_readOnto
set_option maxRecDepth 20000 in
theorem ggX5_figure_X5_beginAnew : GoodIn wsX5_figure wsX5_beginAnew := goodIn_r _ [153, 154, 155, 156, 157, 158, 159, 160, 161, 162, 163, 164, 165, 166, 167, 168, 169, 170, 171, 172, 173, 174, 175, 176, 177, 178, 179, 180, 181, 182, 183, 184, 185, 186, 187, 188, 189, 190, 191, 192, 193, 194, 195, 196, 197, 198, 199, 200, 201, 202, 203, 204, 205, 206, 207, 208, 209, 210, 211, 212, 213, 227, 228, 229, 230, 231, 232, 233, 234, 235, 236, 237, 238, 239, 240, 241] (by decide +kernel) (by decide +kernel)
set_option maxRecDepth 20000 in
theorem gX5_figure_X5_beginAnew : GoodIn wsX5_figure (wsV RX5 70 RX5 yX5_beginAnew wsX5_beginAnew) := goodIn_app (goodIn_of _ (by decide +kernel)) ggX5_figure_X5_beginAnew
theorem dX5_figure_0 : decode cX5_figure 0 = .ok (.aload_n 0, 1) := by decide +kernel
theorem dX5_figure_1 : decode cX5_figure 1 = .ok (.getfield 23, 3) := by decide +kernel
theorem dX5_figure_4 : decode cX5_figure 4 = .ok (.aload_n 0, 1) := by decide +kernel
theorem dX5_figure_5 : decode cX5_figure 5 = .ok (.getfield 19, 3) := by decide +kernel
theorem dX5_figure_8 : decode cX5_figure 8 = .ok (.invokevirtual 62, 3) := by decide +kernel
theorem dX5_figure_11 : decode cX5_figure 11 = .ok (.aload_n 0, 1) := by decide +kernel
theorem dX5_figure_12 : decode cX5_figure 12 = .ok (.getfield 10, 3) := by decide +kernel
theorem dX5_figure_15 : decode cX5_figure 15 = .ok (.aload_n 0, 1) := by decide +kernel
theorem dX5_figure_16 : decode cX5_figure 16 = .ok (.getfield 23, 3) := by decide +kernel
theorem dX5_figure_19 : decode cX5_figure 19 = .ok (.invokevirtual 66, 3) := by decide +kernel
theorem dX5_figure_22 : decode cX5_figure 22 = .ok (.iconst (-1), 1) := by decide +kernel
theorem dX5_figure_23 : decode cX5_figure 23 = .ok (.if_icmp .eq 6, 3) := by decide +kernel
theorem dX5_figure_26 : decode cX5_figure 26 = .ok (.bipush (-4), 2) := by decide +kernel
theorem dX5_figure_28 : decode cX5_figure 28 = .ok (.ireturn, 1) := by decide +kernel
theorem dX5_figure_29 : decode cX5_figure 29 = .ok (.aload_n 0, 1) := by decide +kernel
theorem dX5_figure_30 : decode cX5_figure 30 = .ok (.getfield 19, 3) := by decide +kernel
theorem dX5_figure_33 : decode cX5_figure 33 = .ok (.aload_n 0, 1) := by decide +kernel
theorem dX5_figure_34 : decode cX5_figure 34 = .ok (.getfield 23, 3) := by decide +kernel
theorem dX5_figure_37 : decode cX5_figure 37 = .ok (.invokevirtual 62, 3) := by decide +kernel
theorem dX5_figure_40 : decode cX5_figure 40 = .ok (.aload_n 0, 1) := by decide +kernel
theorem dX5_figure_41 : decode cX5_figure 41 = .ok (.getfield 10, 3) := by decide +kernel
theorem dX5_figure_44 : decode cX5_figure 44 = .ok (.iconst 0, 1) := by decide +kernel
theorem dX5_figure_45 : decode cX5_figure 45 = .ok (.putfield 54, 3) := by decide +kernel
theorem dX5_figure_48 : decode cX5_figure 48 = .ok (.aload_n 0, 1) := by decide +kernel
theorem dX5_figure_49 : decode cX5_figure 49 = .ok (.invokevirtual 70, 3) := by decide +kernel
theorem dX5_figure_52 : decode cX5_figure 52 = .ok (.aload_n 0, 1) := by decide +kernel
theorem dX5_figure_53 : decode cX5_figure 53 = .ok (.getfield 10, 3) := by decide +kernel
theorem dX5_figure_56 : decode cX5_figure 56 = .ok (.getfield 73, 3) := by decide +kernel
theorem dX5_figure_59 : decode cX5_figure 59 = .ok (.ireturn, 1) := by decide +kernel
set_option maxRecDepth 20000 in
theorem ggX5_value_X5_isState : GoodIn wsX5_value wsX5_isState := goodIn_r _ [6, 1, 10, 11, 12, 13, 14, 15, 16, 17, 18, 19, 20, 21, 22, 23, 24, 25, 26] (by decide +kernel) (by decide +kernel)
set_option maxRecDepth 20000 in
theorem gX5_value_X5_isState : GoodIn wsX5_value (wsV RX5 76 RX5 yX5_isState wsX5_isState) := goodIn_app (goodIn_of _ (by decide +kernel)) ggX5_value_X5_isState
set_option maxRecDepth 20000 in
theorem ggX5_value_X5_isLimb : GoodIn wsX5_value wsX5_isLimb := goodIn_r _ [9] (by decide +kernel) (by decide +kernel)
set_option maxRecDepth 20000 in
theorem gX5_value_X5_isLimb : GoodIn wsX5_value (va_wsS RX5 80 yX5_isLimb wsX5_isLimb) := goodIn_app (goodIn_of _ (by decide +kernel)) ggX5_value_X5_isLimb
theorem dX5_value_0 : decode cX5_value 0 = .ok (.aload_n 0, 1) := by decide +kernel
theorem dX5_value_1 : decode cX5_value 1 = .ok (.iload_n 1, 1) := by decide +kernel
theorem dX5_value_2 : decode cX5_value 2 = .ok (.invokevirtual 76, 3) := by decide +kernel
theorem dX5_value_5 : decode cX5_value 5 = .ok (.ifCond .eq 10, 3) := by decide +kernel
theorem dX5_value_8 : decode cX5_value 8 = .ok (.iload_n 2, 1) := by decide +kernel
theorem dX5_value_9 : decode cX5_value 9 = .ok (.invokestatic 80, 3) := by decide +kernel
theorem dX5_value_12 : decode cX5_value 12 = .ok (.ifCond .ne 6, 3) := by decide +kernel
theorem dX5_value_15 : decode cX5_value 15 = .ok (.bipush (-2), 2) := by decide +kernel
theorem dX5_value_17 : decode cX5_value 17 = .ok (.ireturn, 1) := by decide +kernel
theorem dX5_value_18 : decode cX5_value 18 = .ok (.aload_n 0, 1) := by decide +kernel
theorem dX5_value_19 : decode cX5_value 19 = .ok (.getfield 19, 3) := by decide +kernel
theorem dX5_value_22 : decode cX5_value 22 = .ok (.getfield 83, 3) := by decide +kernel
theorem dX5_value_25 : decode cX5_value 25 = .ok (.iload_n 1, 1) := by decide +kernel
theorem dX5_value_26 : decode cX5_value 26 = .ok (.iconst 4, 1) := by decide +kernel
theorem dX5_value_27 : decode cX5_value 27 = .ok (.imul, 1) := by decide +kernel
theorem dX5_value_28 : decode cX5_value 28 = .ok (.iload_n 2, 1) := by decide +kernel
theorem dX5_value_29 : decode cX5_value 29 = .ok (.iadd, 1) := by decide +kernel
theorem dX5_value_30 : decode cX5_value 30 = .ok (.iaload, 1) := by decide +kernel
theorem dX5_value_31 : decode cX5_value 31 = .ok (.bipush 100, 2) := by decide +kernel
theorem dX5_value_33 : decode cX5_value 33 = .ok (.iadd, 1) := by decide +kernel
theorem dX5_value_34 : decode cX5_value 34 = .ok (.ireturn, 1) := by decide +kernel
set_option maxRecDepth 20000 in
theorem ggX5_way_X0_part : GoodIn wsX5_way wsX0_part := goodIn_r _ [6, 7, 19, 20, 21, 22, 23, 24] (by decide +kernel) (by decide +kernel)
set_option maxRecDepth 20000 in
theorem gX5_way_X0_part : GoodIn wsX5_way (wsV RX5 90 RX0 yX0_part wsX0_part) := goodIn_app (goodIn_of _ (by decide +kernel)) ggX5_way_X0_part
theorem dX5_way_0 : decode cX5_way 0 = .ok (.iload_n 1, 1) := by decide +kernel
theorem dX5_way_1 : decode cX5_way 1 = .ok (.ifCond .lt 14, 3) := by decide +kernel
theorem dX5_way_4 : decode cX5_way 4 = .ok (.iload_n 1, 1) := by decide +kernel
theorem dX5_way_5 : decode cX5_way 5 = .ok (.aload_n 0, 1) := by decide +kernel
theorem dX5_way_6 : decode cX5_way 6 = .ok (.getfield 19, 3) := by decide +kernel
theorem dX5_way_9 : decode cX5_way 9 = .ok (.getfield 87, 3) := by decide +kernel
theorem dX5_way_12 : decode cX5_way 12 = .ok (.if_icmp .lt 6, 3) := by decide +kernel
theorem dX5_way_15 : decode cX5_way 15 = .ok (.bipush (-2), 2) := by decide +kernel
theorem dX5_way_17 : decode cX5_way 17 = .ok (.ireturn, 1) := by decide +kernel
theorem dX5_way_18 : decode cX5_way 18 = .ok (.iload_n 2, 1) := by decide +kernel
theorem dX5_way_19 : decode cX5_way 19 = .ok (.ifCond .lt 9, 3) := by decide +kernel
theorem dX5_way_22 : decode cX5_way 22 = .ok (.iload_n 2, 1) := by decide +kernel
theorem dX5_way_23 : decode cX5_way 23 = .ok (.bipush 7, 2) := by decide +kernel
theorem dX5_way_25 : decode cX5_way 25 = .ok (.if_icmp .lt 6, 3) := by decide +kernel
theorem dX5_way_28 : decode cX5_way 28 = .ok (.bipush (-3), 2) := by decide +kernel
theorem dX5_way_30 : decode cX5_way 30 = .ok (.ireturn, 1) := by decide +kernel
theorem dX5_way_31 : decode cX5_way 31 = .ok (.aload_n 0, 1) := by decide +kernel
theorem dX5_way_32 : decode cX5_way 32 = .ok (.getfield 19, 3) := by decide +kernel
theorem dX5_way_35 : decode cX5_way 35 = .ok (.iload_n 1, 1) := by decide +kernel
theorem dX5_way_36 : decode cX5_way 36 = .ok (.iload_n 2, 1) := by decide +kernel
theorem dX5_way_37 : decode cX5_way 37 = .ok (.invokevirtual 90, 3) := by decide +kernel
theorem dX5_way_40 : decode cX5_way 40 = .ok (.istore_n 3, 1) := by decide +kernel
theorem dX5_way_41 : decode cX5_way 41 = .ok (.iload_n 2, 1) := by decide +kernel
theorem dX5_way_42 : decode cX5_way 42 = .ok (.bipush 6, 2) := by decide +kernel
theorem dX5_way_44 : decode cX5_way 44 = .ok (.if_icmp .ne 10, 3) := by decide +kernel
theorem dX5_way_47 : decode cX5_way 47 = .ok (.iload_n 3, 1) := by decide +kernel
theorem dX5_way_48 : decode cX5_way 48 = .ok (.bipush 100, 2) := by decide +kernel
theorem dX5_way_50 : decode cX5_way 50 = .ok (.iadd, 1) := by decide +kernel
theorem dX5_way_51 : decode cX5_way 51 = .ok (.goto 4, 3) := by decide +kernel
theorem dX5_way_54 : decode cX5_way 54 = .ok (.iload_n 3, 1) := by decide +kernel
theorem dX5_way_55 : decode cX5_way 55 = .ok (.ireturn, 1) := by decide +kernel
set_option maxRecDepth 20000 in
theorem ggX5_set_X5_remember : GoodIn wsX5_set wsX5_remember := goodIn_r _ [6, 7, 8, 1, 9, 10, 11, 12, 13, 14, 15, 16, 17, 18, 19, 20, 21, 22, 23, 24, 25, 26, 27, 28, 29, 30, 31, 32, 33, 34, 35, 36, 37, 38, 39, 40, 41, 42, 43, 44, 45, 46, 47, 48, 49, 50, 51, 52, 53, 54, 55, 56, 57, 58, 59, 60, 61] (by decide +kernel) (by decide +kernel)
set_option maxRecDepth 20000 in
theorem gX5_set_X5_remember : GoodIn wsX5_set (wsV RX5 97 RX5 yX5_remember wsX5_remember) := goodIn_app (goodIn_of _ (by decide +kernel)) ggX5_set_X5_remember
theorem dX5_set_0 : decode cX5_set 0 = .ok (.iload_n 1, 1) := by decide +kernel
theorem dX5_set_1 : decode cX5_set 1 = .ok (.ifCond .lt 8, 3) := by decide +kernel
theorem dX5_set_4 : decode cX5_set 4 = .ok (.iload_n 1, 1) := by decide +kernel
theorem dX5_set_5 : decode cX5_set 5 = .ok (.iconst 3, 1) := by decide +kernel
theorem dX5_set_6 : decode cX5_set 6 = .ok (.if_icmp .lt 6, 3) := by decide +kernel
theorem dX5_set_9 : decode cX5_set 9 = .ok (.bipush (-2), 2) := by decide +kernel
theorem dX5_set_11 : decode cX5_set 11 = .ok (.ireturn, 1) := by decide +kernel
theorem dX5_set_12 : decode cX5_set 12 = .ok (.iload_n 2, 1) := by decide +kernel
theorem dX5_set_13 : decode cX5_set 13 = .ok (.bipush (-99), 2) := by decide +kernel
theorem dX5_set_15 : decode cX5_set 15 = .ok (.if_icmp .lt 9, 3) := by decide +kernel
theorem dX5_set_18 : decode cX5_set 18 = .ok (.iload_n 2, 1) := by decide +kernel
theorem dX5_set_19 : decode cX5_set 19 = .ok (.bipush 99, 2) := by decide +kernel
theorem dX5_set_21 : decode cX5_set 21 = .ok (.if_icmp .le 6, 3) := by decide +kernel
theorem dX5_set_24 : decode cX5_set 24 = .ok (.bipush (-3), 2) := by decide +kernel
theorem dX5_set_26 : decode cX5_set 26 = .ok (.ireturn, 1) := by decide +kernel
theorem dX5_set_27 : decode cX5_set 27 = .ok (.aload_n 0, 1) := by decide +kernel
theorem dX5_set_28 : decode cX5_set 28 = .ok (.getfield 29, 3) := by decide +kernel
theorem dX5_set_31 : decode cX5_set 31 = .ok (.getfield 94, 3) := by decide +kernel
theorem dX5_set_34 : decode cX5_set 34 = .ok (.iload_n 1, 1) := by decide +kernel
theorem dX5_set_35 : decode cX5_set 35 = .ok (.iaload, 1) := by decide +kernel
theorem dX5_set_36 : decode cX5_set 36 = .ok (.istore_n 3, 1) := by decide +kernel
theorem dX5_set_37 : decode cX5_set 37 = .ok (.iload_n 3, 1) := by decide +kernel
theorem dX5_set_38 : decode cX5_set 38 = .ok (.iload_n 2, 1) := by decide +kernel
theorem dX5_set_39 : decode cX5_set 39 = .ok (.if_icmp .ne 6, 3) := by decide +kernel
theorem dX5_set_42 : decode cX5_set 42 = .ok (.bipush (-4), 2) := by decide +kernel
theorem dX5_set_44 : decode cX5_set 44 = .ok (.ireturn, 1) := by decide +kernel
theorem dX5_set_45 : decode cX5_set 45 = .ok (.aload_n 0, 1) := by decide +kernel
theorem dX5_set_46 : decode cX5_set 46 = .ok (.invokevirtual 97, 3) := by decide +kernel
theorem dX5_set_49 : decode cX5_set 49 = .ok (.aload_n 0, 1) := by decide +kernel
theorem dX5_set_50 : decode cX5_set 50 = .ok (.getfield 29, 3) := by decide +kernel
theorem dX5_set_53 : decode cX5_set 53 = .ok (.getfield 94, 3) := by decide +kernel
theorem dX5_set_56 : decode cX5_set 56 = .ok (.iload_n 1, 1) := by decide +kernel
theorem dX5_set_57 : decode cX5_set 57 = .ok (.iload_n 2, 1) := by decide +kernel
theorem dX5_set_58 : decode cX5_set 58 = .ok (.iastore, 1) := by decide +kernel
theorem dX5_set_59 : decode cX5_set 59 = .ok (.iload_n 3, 1) := by decide +kernel
theorem dX5_set_60 : decode cX5_set 60 = .ok (.bipush 100, 2) := by decide +kernel
theorem dX5_set_62 : decode cX5_set 62 = .ok (.iadd, 1) := by decide +kernel
theorem dX5_set_63 : decode cX5_set 63 = .ok (.ireturn, 1) := by decide +kernel
set_option maxRecDepth 20000 in
theorem ggX5_pull_X5_isTrigger : GoodIn wsX5_pull wsX5_isTrigger := goodIn_r _ [5] (by decide +kernel) (by decide +kernel)
set_option maxRecDepth 20000 in
theorem gX5_pull_X5_isTrigger : GoodIn wsX5_pull (va_wsS RX5 100 yX5_isTrigger wsX5_isTrigger) := goodIn_app (goodIn_of _ (by decide +kernel)) ggX5_pull_X5_isTrigger
set_option maxRecDepth 20000 in
theorem ggX5_pull_X2_isTriggered : GoodIn wsX5_pull wsX2_isTriggered := goodIn_r _ [10, 11, 62, 63, 64, 65] (by decide +kernel) (by decide +kernel)
set_option maxRecDepth 20000 in
theorem gX5_pull_X2_isTriggered : GoodIn wsX5_pull (wsV RX5 103 RX2 yX2_isTriggered wsX2_isTriggered) := goodIn_app (goodIn_of _ (by decide +kernel)) ggX5_pull_X2_isTriggered
set_option maxRecDepth 20000 in
theorem ggX5_pull_X5_remember : GoodIn wsX5_pull wsX5_remember := goodIn_r _ [15, 16, 17, 1, 18, 19, 20, 21, 22, 23, 24, 25, 9, 26, 27, 28, 29, 30, 31, 32, 33, 11, 34, 35, 36, 37, 38, 39, 40, 41, 42, 43, 44, 45, 46, 51, 52, 53, 54, 55, 56, 57, 58, 59, 60, 61, 62, 63, 64, 65, 66, 67, 68, 69, 70, 71, 72] (by decide +kernel) (by decide +kernel)
set_option maxRecDepth 20000 in
theorem gX5_pull_X5_remember : GoodIn wsX5_pull (wsV RX5 97 RX5 yX5_remember wsX5_remember) := goodIn_app (goodIn_of _ (by decide +kernel)) ggX5_pull_X5_remember
set_option maxRecDepth 20000 in
theorem ggX5_pull_X2_trigger : GoodIn wsX5_pull wsX2_trigger := goodIn_r _ [50, 11, 62, 63, 64, 65] (by decide +kernel) (by decide +kernel)
set_option maxRecDepth 20000 in
theorem gX5_pull_X2_trigger : GoodIn wsX5_pull (wsV RX5 106 RX2 yX2_trigger wsX2_trigger) := goodIn_app (goodIn_of _ (by decide +kernel)) ggX5_pull_X2_trigger
theorem dX5_pull_0 : decode cX5_pull 0 = .ok (.iload_n 1, 1) := by decide +kernel
theorem dX5_pull_1 : decode cX5_pull 1 = .ok (.invokestatic 100, 3) := by decide +kernel
theorem dX5_pull_4 : decode cX5_pull 4 = .ok (.ifCond .ne 6, 3) := by decide +kernel
theorem dX5_pull_7 : decode cX5_pull 7 = .ok (.bipush (-2), 2) := by decide +kernel
theorem dX5_pull_9 : decode cX5_pull 9 = .ok (.ireturn, 1) := by decide +kernel
theorem dX5_pull_10 : decode cX5_pull 10 = .ok (.aload_n 0, 1) := by decide +kernel
theorem dX5_pull_11 : decode cX5_pull 11 = .ok (.getfield 29, 3) := by decide +kernel
theorem dX5_pull_14 : decode cX5_pull 14 = .ok (.iload_n 1, 1) := by decide +kernel
theorem dX5_pull_15 : decode cX5_pull 15 = .ok (.invokevirtual 103, 3) := by decide +kernel
theorem dX5_pull_18 : decode cX5_pull 18 = .ok (.ifCond .eq 6, 3) := by decide +kernel
theorem dX5_pull_21 : decode cX5_pull 21 = .ok (.bipush (-4), 2) := by decide +kernel
theorem dX5_pull_23 : decode cX5_pull 23 = .ok (.ireturn, 1) := by decide +kernel
theorem dX5_pull_24 : decode cX5_pull 24 = .ok (.aload_n 0, 1) := by decide +kernel
theorem dX5_pull_25 : decode cX5_pull 25 = .ok (.invokevirtual 97, 3) := by decide +kernel
theorem dX5_pull_28 : decode cX5_pull 28 = .ok (.aload_n 0, 1) := by decide +kernel
theorem dX5_pull_29 : decode cX5_pull 29 = .ok (.getfield 29, 3) := by decide +kernel
theorem dX5_pull_32 : decode cX5_pull 32 = .ok (.iload_n 1, 1) := by decide +kernel
theorem dX5_pull_33 : decode cX5_pull 33 = .ok (.invokevirtual 106, 3) := by decide +kernel
theorem dX5_pull_36 : decode cX5_pull 36 = .ok (.iconst 1, 1) := by decide +kernel
theorem dX5_pull_37 : decode cX5_pull 37 = .ok (.ireturn, 1) := by decide +kernel
set_option maxRecDepth 20000 in
theorem ggX5_step_X5_remember : GoodIn wsX5_step wsX5_remember := goodIn_r _ [7, 8, 9, 2, 10, 11, 12, 13, 14, 15, 16, 17, 18, 19, 20, 21, 22, 23, 24, 25, 26, 27, 28, 29, 30, 31, 32, 33, 34, 35, 36, 37, 38, 39, 40, 101, 102, 103, 104, 105, 106, 107, 108, 109, 110, 111, 118, 119, 120, 121, 122, 123, 124, 125, 126, 127, 128] (by decide +kernel) (by decide +kernel)
set_option maxRecDepth 20000 in
theorem gX5_step_X5_remember : GoodIn wsX5_step (wsV RX5 97 RX5 yX5_remember wsX5_remember) := goodIn_app (goodIn_of _ (by decide +kernel)) ggX5_step_X5_remember
set_option maxRecDepth 20000 in
theorem ggX5_step_X2_goOn : GoodIn wsX5_step wsX2_goOn := goodIn_r _ [44, 20, 21, 45, 46, 47, 31, 48, 35, 34, 49, 12, 13, 14, 50, 51, 52, 53, 54, 55, 56, 57, 58, 59, 60, 61, 62, 63, 64, 65, 66, 67, 33, 68, 69, 70, 71, 72, 73, 74, 75, 76, 77, 78, 79, 18, 80, 27, 81, 82, 83, 84, 85, 86, 87, 88, 36, 37, 38, 40, 39, 24, 25, 26, 89, 90, 91, 92, 93, 94, 95, 96, 97, 98, 99, 100, 118, 119, 120, 121, 122, 123, 124, 125, 126, 127, 128, 112, 113, 114, 115, 116, 117] (by decide +kernel) (by decide +kernel)
set_option maxRecDepth 20000 in
theorem gX5_step_X2_goOn : GoodIn wsX5_step (wsV RX5 113 RX2 yX2_goOn wsX2_goOn) := goodIn_app (goodIn_of _ (by decide +kernel)) ggX5_step_X2_goOn
theorem dX5_step_0 : decode cX5_step 0 = .ok (.iload_n 1, 1) := by decide +kernel
theorem dX5_step_1 : decode cX5_step 1 = .ok (.iconst 1, 1) := by decide +kernel
theorem dX5_step_2 : decode cX5_step 2 = .ok (.if_icmp .lt 9, 3) := by decide +kernel
theorem dX5_step_5 : decode cX5_step 5 = .ok (.iload_n 1, 1) := by decide +kernel
theorem dX5_step_6 : decode cX5_step 6 = .ok (.bipush 99, 2) := by decide +kernel
theorem dX5_step_8 : decode cX5_step 8 = .ok (.if_icmp .le 6, 3) := by decide +kernel
theorem dX5_step_11 : decode cX5_step 11 = .ok (.bipush (-3), 2) := by decide +kernel
theorem dX5_step_13 : decode cX5_step 13 = .ok (.ireturn, 1) := by decide +kernel
theorem dX5_step_14 : decode cX5_step 14 = .ok (.aload_n 0, 1) := by decide +kernel
theorem dX5_step_15 : decode cX5_step 15 = .ok (.getfield 19, 3) := by decide +kernel
theorem dX5_step_18 : decode cX5_step 18 = .ok (.getfield 110, 3) := by decide +kernel
theorem dX5_step_21 : decode cX5_step 21 = .ok (.ifCond .ne 6, 3) := by decide +kernel
theorem dX5_step_24 : decode cX5_step 24 = .ok (.bipush (-4), 2) := by decide +kernel
theorem dX5_step_26 : decode cX5_step 26 = .ok (.ireturn, 1) := by decide +kernel
theorem dX5_step_27 : decode cX5_step 27 = .ok (.aload_n 0, 1) := by decide +kernel
theorem dX5_step_28 : decode cX5_step 28 = .ok (.invokevirtual 97, 3) := by decide +kernel
theorem dX5_step_31 : decode cX5_step 31 = .ok (.iconst 0, 1) := by decide +kernel
theorem dX5_step_32 : decode cX5_step 32 = .ok (.istore_n 2, 1) := by decide +kernel
theorem dX5_step_33 : decode cX5_step 33 = .ok (.iload_n 2, 1) := by decide +kernel
theorem dX5_step_34 : decode cX5_step 34 = .ok (.iload_n 1, 1) := by decide +kernel
theorem dX5_step_35 : decode cX5_step 35 = .ok (.if_icmp .ge 20, 3) := by decide +kernel
theorem dX5_step_38 : decode cX5_step 38 = .ok (.aload_n 0, 1) := by decide +kernel
theorem dX5_step_39 : decode cX5_step 39 = .ok (.getfield 29, 3) := by decide +kernel
theorem dX5_step_42 : decode cX5_step 42 = .ok (.aload_n 0, 1) := by decide +kernel
theorem dX5_step_43 : decode cX5_step 43 = .ok (.getfield 19, 3) := by decide +kernel
theorem dX5_step_46 : decode cX5_step 46 = .ok (.invokevirtual 113, 3) := by decide +kernel
theorem dX5_step_49 : decode cX5_step 49 = .ok (.iinc 2 1, 3) := by decide +kernel
theorem dX5_step_52 : decode cX5_step 52 = .ok (.goto (-19), 3) := by decide +kernel
theorem dX5_step_55 : decode cX5_step 55 = .ok (.aload_n 0, 1) := by decide +kernel
theorem dX5_step_56 : decode cX5_step 56 = .ok (.getfield 29, 3) := by decide +kernel
theorem dX5_step_59 : decode cX5_step 59 = .ok (.getfield 116, 3) := by decide +kernel
theorem dX5_step_62 : decode cX5_step 62 = .ok (.getfield 120, 3) := by decide +kernel
theorem dX5_step_65 : decode cX5_step 65 = .ok (.ireturn, 1) := by decide +kernel
set_option maxRecDepth 20000 in
theorem ggX5_undo_X2_copyFrom : GoodIn wsX5_undo wsX2_copyFrom := goodIn_r _ [9, 10, 11, 12, 13, 14, 15, 16, 17, 18, 19, 20, 21, 22, 23, 24, 25, 26, 27, 28, 29, 30, 42, 43, 44, 45, 46, 47, 48, 49, 50, 51, 52] (by decide +kernel) (by decide +kernel)
set_option maxRecDepth 20000 in
theorem gX5_undo_X2_copyFrom : GoodIn wsX5_undo (wsV RX5 131 RX2 yX2_copyFrom wsX2_copyFrom) := goodIn_app (goodIn_of _ (by decide +kernel)) ggX5_undo_X2_copyFrom
theorem dX5_undo_0 : decode cX5_undo 0 = .ok (.aload_n 0, 1) := by decide +kernel
theorem dX5_undo_1 : decode cX5_undo 1 = .ok (.getfield 125, 3) := by decide +kernel
theorem dX5_undo_4 : decode cX5_undo 4 = .ok (.ifCond .ne 6, 3) := by decide +kernel
theorem dX5_undo_7 : decode cX5_undo 7 = .ok (.bipush (-4), 2) := by decide +kernel
theorem dX5_undo_9 : decode cX5_undo 9 = .ok (.ireturn, 1) := by decide +kernel
theorem dX5_undo_10 : decode cX5_undo 10 = .ok (.aload_n 0, 1) := by decide +kernel
theorem dX5_undo_11 : decode cX5_undo 11 = .ok (.getfield 29, 3) := by decide +kernel
theorem dX5_undo_14 : decode cX5_undo 14 = .ok (.aload_n 0, 1) := by decide +kernel
theorem dX5_undo_15 : decode cX5_undo 15 = .ok (.getfield 36, 3) := by decide +kernel
theorem dX5_undo_18 : decode cX5_undo 18 = .ok (.aload_n 0, 1) := by decide +kernel
theorem dX5_undo_19 : decode cX5_undo 19 = .ok (.getfield 128, 3) := by decide +kernel
theorem dX5_undo_22 : decode cX5_undo 22 = .ok (.aaload, 1) := by decide +kernel
theorem dX5_undo_23 : decode cX5_undo 23 = .ok (.invokevirtual 131, 3) := by decide +kernel
theorem dX5_undo_26 : decode cX5_undo 26 = .ok (.aload_n 0, 1) := by decide +kernel
theorem dX5_undo_27 : decode cX5_undo 27 = .ok (.aload_n 0, 1) := by decide +kernel
theorem dX5_undo_28 : decode cX5_undo 28 = .ok (.getfield 128, 3) := by decide +kernel
theorem dX5_undo_31 : decode cX5_undo 31 = .ok (.ifCond .ne 8, 3) := by decide +kernel
theorem dX5_undo_34 : decode cX5_undo 34 = .ok (.bipush 7, 2) := by decide +kernel
theorem dX5_undo_36 : decode cX5_undo 36 = .ok (.goto 9, 3) := by decide +kernel
theorem dX5_undo_39 : decode cX5_undo 39 = .ok (.aload_n 0, 1) := by decide +kernel
theorem dX5_undo_40 : decode cX5_undo 40 = .ok (.getfield 128, 3) := by decide +kernel
theorem dX5_undo_43 : decode cX5_undo 43 = .ok (.iconst 1, 1) := by decide +kernel
theorem dX5_undo_44 : decode cX5_undo 44 = .ok (.isub, 1) := by decide +kernel
theorem dX5_undo_45 : decode cX5_undo 45 = .ok (.putfield 128, 3) := by decide +kernel
theorem dX5_undo_48 : decode cX5_undo 48 = .ok (.aload_n 0, 1) := by decide +kernel
theorem dX5_undo_49 : decode cX5_undo 49 = .ok (.dup, 1) := by decide +kernel
theorem dX5_undo_50 : decode cX5_undo 50 = .ok (.getfield 125, 3) := by decide +kernel
theorem dX5_undo_53 : decode cX5_undo 53 = .ok (.iconst 1, 1) := by decide +kernel
theorem dX5_undo_54 : decode cX5_undo 54 = .ok (.isub, 1) := by decide +kernel
theorem dX5_undo_55 : decode cX5_undo 55 = .ok (.putfield 125, 3) := by decide +kernel
theorem dX5_undo_58 : decode cX5_undo 58 = .ok (.aload_n 0, 1) := by decide +kernel
theorem dX5_undo_59 : decode cX5_undo 59 = .ok (.getfield 125, 3) := by decide +kernel
theorem dX5_undo_62 : decode cX5_undo 62 = .ok (.ireturn, 1) := by decide +kernel
set_option maxRecDepth 20000 in
theorem ggX5_keep_X5_isKeeping : GoodIn wsX5_keep wsX5_isKeeping := goodIn_r _ [7] (by decide +kernel) (by decide +kernel)
set_option maxRecDepth 20000 in
theorem gX5_keep_X5_isKeeping : GoodIn wsX5_keep (va_wsS RX5 134 yX5_isKeeping wsX5_isKeeping) := goodIn_app (goodIn_of _ (by decide +kernel)) ggX5_keep_X5_isKeeping
set_option maxRecDepth 20000 in
theorem ggX5_keep_X2_copyFrom : GoodIn wsX5_keep wsX2_copyFrom := goodIn_r _ [12, 13, 14, 15, 16, 17, 18, 19, 20, 21, 22, 23, 24, 25, 26, 27, 28, 29, 30, 31, 32, 33, 50, 51, 52, 53, 54, 55, 56, 57, 58, 59, 60] (by decide +kernel) (by decide +kernel)
set_option maxRecDepth 20000 in
theorem gX5_keep_X2_copyFrom : GoodIn wsX5_keep (wsV RX5 131 RX2 yX2_copyFrom wsX2_copyFrom) := goodIn_app (goodIn_of _ (by decide +kernel)) ggX5_keep_X2_copyFrom
set_option maxRecDepth 20000 in
theorem ggX5_keep_X5_lowerState : GoodIn wsX5_keep wsX5_lowerState := goodIn_r _ [37, 38, 2, 39, 40, 41, 42, 43, 44, 45, 46, 47, 48, 49, 61, 62, 63, 64, 65, 66, 50, 51, 52, 53, 54, 55, 56, 57, 58, 59, 60] (by decide +kernel) (by decide +kernel)
set_option maxRecDepth 20000 in
theorem gX5_keep_X5_lowerState : GoodIn wsX5_keep (wsV RX5 137 RX5 yX5_lowerState wsX5_lowerState) := goodIn_app (goodIn_of _ (by decide +kernel)) ggX5_keep_X5_lowerState
theorem dX5_keep_0 : decode cX5_keep 0 = .ok (.iload_n 1, 1) := by decide +kernel
theorem dX5_keep_1 : decode cX5_keep 1 = .ok (.invokestatic 134, 3) := by decide +kernel
theorem dX5_keep_4 : decode cX5_keep 4 = .ok (.ifCond .ne 6, 3) := by decide +kernel
theorem dX5_keep_7 : decode cX5_keep 7 = .ok (.bipush (-2), 2) := by decide +kernel
theorem dX5_keep_9 : decode cX5_keep 9 = .ok (.ireturn, 1) := by decide +kernel
theorem dX5_keep_10 : decode cX5_keep 10 = .ok (.aload_n 0, 1) := by decide +kernel
theorem dX5_keep_11 : decode cX5_keep 11 = .ok (.getfield 40, 3) := by decide +kernel
theorem dX5_keep_14 : decode cX5_keep 14 = .ok (.iload_n 1, 1) := by decide +kernel
theorem dX5_keep_15 : decode cX5_keep 15 = .ok (.aaload, 1) := by decide +kernel
theorem dX5_keep_16 : decode cX5_keep 16 = .ok (.aload_n 0, 1) := by decide +kernel
theorem dX5_keep_17 : decode cX5_keep 17 = .ok (.getfield 29, 3) := by decide +kernel
theorem dX5_keep_20 : decode cX5_keep 20 = .ok (.invokevirtual 131, 3) := by decide +kernel
theorem dX5_keep_23 : decode cX5_keep 23 = .ok (.aload_n 0, 1) := by decide +kernel
theorem dX5_keep_24 : decode cX5_keep 24 = .ok (.getfield 43, 3) := by decide +kernel
theorem dX5_keep_27 : decode cX5_keep 27 = .ok (.iload_n 1, 1) := by decide +kernel
theorem dX5_keep_28 : decode cX5_keep 28 = .ok (.iconst 1, 1) := by decide +kernel
theorem dX5_keep_29 : decode cX5_keep 29 = .ok (.bastore, 1) := by decide +kernel
theorem dX5_keep_30 : decode cX5_keep 30 = .ok (.aload_n 0, 1) := by decide +kernel
theorem dX5_keep_31 : decode cX5_keep 31 = .ok (.invokevirtual 137, 3) := by decide +kernel
theorem dX5_keep_34 : decode cX5_keep 34 = .ok (.ireturn, 1) := by decide +kernel
set_option maxRecDepth 20000 in
theorem ggX5_back_X5_isKeeping : GoodIn wsX5_back wsX5_isKeeping := goodIn_r _ [8] (by decide +kernel) (by decide +kernel)
set_option maxRecDepth 20000 in
theorem gX5_back_X5_isKeeping : GoodIn wsX5_back (va_wsS RX5 134 yX5_isKeeping wsX5_isKeeping) := goodIn_app (goodIn_of _ (by decide +kernel)) ggX5_back_X5_isKeeping
set_option maxRecDepth 20000 in
theorem ggX5_back_X2_copyFrom : GoodIn wsX5_back wsX2_copyFrom := goodIn_r _ [13, 14, 15, 16, 17, 18, 19, 20, 21, 22, 23, 24, 25, 26, 27, 28, 29, 30, 31, 32, 33, 34, 51, 52, 53, 54, 55, 56, 57, 58, 59, 60, 61] (by decide +kernel) (by decide +kernel)
set_option maxRecDepth 20000 in
theorem gX5_back_X2_copyFrom : GoodIn wsX5_back (wsV RX5 131 RX2 yX2_copyFrom wsX2_copyFrom) := goodIn_app (goodIn_of _ (by decide +kernel)) ggX5_back_X2_copyFrom
set_option maxRecDepth 20000 in
theorem ggX5_back_X5_lowerState : GoodIn wsX5_back wsX5_lowerState := goodIn_r _ [38, 39, 2, 40, 41, 42, 43, 44, 45, 46, 47, 48, 49, 50, 62, 63, 64, 65, 66, 67, 51, 52, 53, 54, 55, 56, 57, 58, 59, 60, 61] (by decide +kernel) (by decide +kernel)
set_option maxRecDepth 20000 in
theorem gX5_back_X5_lowerState : GoodIn wsX5_back (wsV RX5 137 RX5 yX5_lowerState wsX5_lowerState) := goodIn_app (goodIn_of _ (by decide +kernel)) ggX5_back_X5_lowerState
theorem dX5_back_0 : decode cX5_back 0 = .ok (.iload_n 1, 1) := by decide +kernel
theorem dX5_back_1 : decode cX5_back 1 = .ok (.invokestatic 134, 3) := by decide +kernel
theorem dX5_back_4 : decode cX5_back 4 = .ok (.ifCond .ne 6, 3) := by decide +kernel
theorem dX5_back_7 : decode cX5_back 7 = .ok (.bipush (-2), 2) := by decide +kernel
theorem dX5_back_9 : decode cX5_back 9 = .ok (.ireturn, 1) := by decide +kernel
theorem dX5_back_10 : decode cX5_back 10 = .ok (.aload_n 0, 1) := by decide +kernel
theorem dX5_back_11 : decode cX5_back 11 = .ok (.getfield 43, 3) := by decide +kernel
theorem dX5_back_14 : decode cX5_back 14 = .ok (.iload_n 1, 1) := by decide +kernel
theorem dX5_back_15 : decode cX5_back 15 = .ok (.baload, 1) := by decide +kernel
theorem dX5_back_16 : decode cX5_back 16 = .ok (.ifCond .ne 6, 3) := by decide +kernel
theorem dX5_back_19 : decode cX5_back 19 = .ok (.bipush (-4), 2) := by decide +kernel
theorem dX5_back_21 : decode cX5_back 21 = .ok (.ireturn, 1) := by decide +kernel
theorem dX5_back_22 : decode cX5_back 22 = .ok (.aload_n 0, 1) := by decide +kernel
theorem dX5_back_23 : decode cX5_back 23 = .ok (.getfield 29, 3) := by decide +kernel
theorem dX5_back_26 : decode cX5_back 26 = .ok (.aload_n 0, 1) := by decide +kernel
theorem dX5_back_27 : decode cX5_back 27 = .ok (.getfield 40, 3) := by decide +kernel
theorem dX5_back_30 : decode cX5_back 30 = .ok (.iload_n 1, 1) := by decide +kernel
theorem dX5_back_31 : decode cX5_back 31 = .ok (.aaload, 1) := by decide +kernel
theorem dX5_back_32 : decode cX5_back 32 = .ok (.invokevirtual 131, 3) := by decide +kernel
theorem dX5_back_35 : decode cX5_back 35 = .ok (.aload_n 0, 1) := by decide +kernel
theorem dX5_back_36 : decode cX5_back 36 = .ok (.iconst 0, 1) := by decide +kernel
theorem dX5_back_37 : decode cX5_back 37 = .ok (.putfield 125, 3) := by decide +kernel
theorem dX5_back_40 : decode cX5_back 40 = .ok (.aload_n 0, 1) := by decide +kernel
theorem dX5_back_41 : decode cX5_back 41 = .ok (.invokevirtual 137, 3) := by decide +kernel
theorem dX5_back_44 : decode cX5_back 44 = .ok (.ireturn, 1) := by decide +kernel
set_option maxRecDepth 20000 in
theorem ggX5_layer_X5_isLayer : GoodIn wsX5_layer wsX5_isLayer := goodIn_r _ [6] (by decide +kernel) (by decide +kernel)
set_option maxRecDepth 20000 in
theorem gX5_layer_X5_isLayer : GoodIn wsX5_layer (va_wsS RX5 141 yX5_isLayer wsX5_isLayer) := goodIn_app (goodIn_of _ (by decide +kernel)) ggX5_layer_X5_isLayer
set_option maxRecDepth 20000 in
theorem ggX5_layer_X2_layerAt : GoodIn wsX5_layer wsX2_layerAt := goodIn_r _ [11, 12, 13, 45, 46, 47, 48] (by decide +kernel) (by decide +kernel)
set_option maxRecDepth 20000 in
theorem gX5_layer_X2_layerAt : GoodIn wsX5_layer (wsV RX5 144 RX2 yX2_layerAt wsX2_layerAt) := goodIn_app (goodIn_of _ (by decide +kernel)) ggX5_layer_X2_layerAt
set_option maxRecDepth 20000 in
theorem ggX5_layer_X1_part : GoodIn wsX5_layer wsX1_part := goodIn_r _ [18, 19, 20, 21, 22, 23, 24, 25, 26, 17, 27, 49, 50, 51, 52, 53, 54, 55] (by decide +kernel) (by decide +kernel)
set_option maxRecDepth 20000 in
theorem gX5_layer_X1_part : GoodIn wsX5_layer (wsV RX5 148 RX1 yX1_part wsX1_part) := goodIn_app (goodIn_of _ (by decide +kernel)) ggX5_layer_X1_part
theorem dX5_layer_0 : decode cX5_layer 0 = .ok (.iload_n 1, 1) := by decide +kernel
theorem dX5_layer_1 : decode cX5_layer 1 = .ok (.invokestatic 141, 3) := by decide +kernel
theorem dX5_layer_4 : decode cX5_layer 4 = .ok (.ifCond .ne 6, 3) := by decide +kernel
theorem dX5_layer_7 : decode cX5_layer 7 = .ok (.bipush (-2), 2) := by decide +kernel
theorem dX5_layer_9 : decode cX5_layer 9 = .ok (.ireturn, 1) := by decide +kernel
theorem dX5_layer_10 : decode cX5_layer 10 = .ok (.iload_n 2, 1) := by decide +kernel
theorem dX5_layer_11 : decode cX5_layer 11 = .ok (.ifCond .lt 8, 3) := by decide +kernel
theorem dX5_layer_14 : decode cX5_layer 14 = .ok (.iload_n 2, 1) := by decide +kernel
theorem dX5_layer_15 : decode cX5_layer 15 = .ok (.iconst 5, 1) := by decide +kernel
theorem dX5_layer_16 : decode cX5_layer 16 = .ok (.if_icmp .le 6, 3) := by decide +kernel
theorem dX5_layer_19 : decode cX5_layer 19 = .ok (.bipush (-3), 2) := by decide +kernel
theorem dX5_layer_21 : decode cX5_layer 21 = .ok (.ireturn, 1) := by decide +kernel
theorem dX5_layer_22 : decode cX5_layer 22 = .ok (.aload_n 0, 1) := by decide +kernel
theorem dX5_layer_23 : decode cX5_layer 23 = .ok (.getfield 19, 3) := by decide +kernel
theorem dX5_layer_26 : decode cX5_layer 26 = .ok (.getfield 110, 3) := by decide +kernel
theorem dX5_layer_29 : decode cX5_layer 29 = .ok (.ifCond .ne 6, 3) := by decide +kernel
theorem dX5_layer_32 : decode cX5_layer 32 = .ok (.bipush (-4), 2) := by decide +kernel
theorem dX5_layer_34 : decode cX5_layer 34 = .ok (.ireturn, 1) := by decide +kernel
theorem dX5_layer_35 : decode cX5_layer 35 = .ok (.aload_n 0, 1) := by decide +kernel
theorem dX5_layer_36 : decode cX5_layer 36 = .ok (.getfield 29, 3) := by decide +kernel
theorem dX5_layer_39 : decode cX5_layer 39 = .ok (.iload_n 1, 1) := by decide +kernel
theorem dX5_layer_40 : decode cX5_layer 40 = .ok (.invokevirtual 144, 3) := by decide +kernel
theorem dX5_layer_43 : decode cX5_layer 43 = .ok (.iload_n 2, 1) := by decide +kernel
theorem dX5_layer_44 : decode cX5_layer 44 = .ok (.invokevirtual 148, 3) := by decide +kernel
theorem dX5_layer_47 : decode cX5_layer 47 = .ok (.ireturn, 1) := by decide +kernel
set_option maxRecDepth 20000 in
theorem ggX5_share_X5_isLayer : GoodIn wsX5_share wsX5_isLayer := goodIn_r _ [6] (by decide +kernel) (by decide +kernel)
set_option maxRecDepth 20000 in
theorem gX5_share_X5_isLayer : GoodIn wsX5_share (va_wsS RX5 141 yX5_isLayer wsX5_isLayer) := goodIn_app (goodIn_of _ (by decide +kernel)) ggX5_share_X5_isLayer
set_option maxRecDepth 20000 in
theorem ggX5_share_X5_isState : GoodIn wsX5_share wsX5_isState := goodIn_r _ [10, 11, 19, 20, 21, 22, 23, 24, 25, 26, 27, 28, 29, 37, 38, 39, 40, 41, 42] (by decide +kernel) (by decide +kernel)
set_option maxRecDepth 20000 in
theorem gX5_share_X5_isState : GoodIn wsX5_share (wsV RX5 76 RX5 yX5_isState wsX5_isState) := goodIn_app (goodIn_of _ (by decide +kernel)) ggX5_share_X5_isState
set_option maxRecDepth 20000 in
theorem ggX5_share_X2_layerAt : GoodIn wsX5_share wsX2_layerAt := goodIn_r _ [16, 17, 18, 43, 44, 45, 46] (by decide +kernel) (by decide +kernel)
set_option maxRecDepth 20000 in
theorem gX5_share_X2_layerAt : GoodIn wsX5_share (wsV RX5 144 RX2 yX2_layerAt wsX2_layerAt) := goodIn_app (goodIn_of _ (by decide +kernel)) ggX5_share_X2_layerAt
theorem dX5_share_0 : decode cX5_share 0 = .ok (.iload_n 1, 1) := by decide +kernel
theorem dX5_share_1 : decode cX5_share 1 = .ok (.invokestatic 141, 3) := by decide +kernel
theorem dX5_share_4 : decode cX5_share 4 = .ok (.ifCond .eq 11, 3) := by decide +kernel
theorem dX5_share_7 : decode cX5_share 7 = .ok (.aload_n 0, 1) := by decide +kernel
theorem dX5_share_8 : decode cX5_share 8 = .ok (.iload_n 2, 1) := by decide +kernel
theorem dX5_share_9 : decode cX5_share 9 = .ok (.invokevirtual 76, 3) := by decide +kernel
theorem dX5_share_12 : decode cX5_share 12 = .ok (.ifCond .ne 6, 3) := by decide +kernel
theorem dX5_share_15 : decode cX5_share 15 = .ok (.bipush (-2), 2) := by decide +kernel
theorem dX5_share_17 : decode cX5_share 17 = .ok (.ireturn, 1) := by decide +kernel
theorem dX5_share_18 : decode cX5_share 18 = .ok (.aload_n 0, 1) := by decide +kernel
theorem dX5_share_19 : decode cX5_share 19 = .ok (.getfield 29, 3) := by decide +kernel
theorem dX5_share_22 : decode cX5_share 22 = .ok (.iload_n 1, 1) := by decide +kernel
theorem dX5_share_23 : decode cX5_share 23 = .ok (.invokevirtual 144, 3) := by decide +kernel
theorem dX5_share_26 : decode cX5_share 26 = .ok (.getfield 151, 3) := by decide +kernel
theorem dX5_share_29 : decode cX5_share 29 = .ok (.iload_n 2, 1) := by decide +kernel
theorem dX5_share_30 : decode cX5_share 30 = .ok (.faload, 1) := by decide +kernel
theorem dX5_share_31 : decode cX5_share 31 = .ok (.ldc 155, 2) := by decide +kernel
theorem dX5_share_33 : decode cX5_share 33 = .ok (.fmul, 1) := by decide +kernel
theorem dX5_share_34 : decode cX5_share 34 = .ok (.f2i, 1) := by decide +kernel
theorem dX5_share_35 : decode cX5_share 35 = .ok (.ireturn, 1) := by decide +kernel
set_option maxRecDepth 20000 in
theorem ggX5_bits_X5_isLayer : GoodIn wsX5_bits wsX5_isLayer := goodIn_r _ [5] (by decide +kernel) (by decide +kernel)
set_option maxRecDepth 20000 in
theorem gX5_bits_X5_isLayer : GoodIn wsX5_bits (va_wsS RX5 141 yX5_isLayer wsX5_isLayer) := goodIn_app (goodIn_of _ (by decide +kernel)) ggX5_bits_X5_isLayer
set_option maxRecDepth 20000 in
theorem ggX5_bits_X5_isState : GoodIn wsX5_bits wsX5_isState := goodIn_r _ [9, 10, 22, 23, 24, 25, 26, 27, 28, 29, 30, 31, 32, 40, 41, 42, 43, 44, 45] (by decide +kernel) (by decide +kernel)
set_option maxRecDepth 20000 in
theorem gX5_bits_X5_isState : GoodIn wsX5_bits (wsV RX5 76 RX5 yX5_isState wsX5_isState) := goodIn_app (goodIn_of _ (by decide +kernel)) ggX5_bits_X5_isState
set_option maxRecDepth 20000 in
theorem ggX5_bits_X2_layerAt : GoodIn wsX5_bits wsX2_layerAt := goodIn_r _ [15, 16, 17, 46, 47, 48, 49] (by decide +kernel) (by decide +kernel)
set_option maxRecDepth 20000 in
theorem gX5_bits_X2_layerAt : GoodIn wsX5_bits (wsV RX5 144 RX2 yX2_layerAt wsX2_layerAt) := goodIn_app (goodIn_of _ (by decide +kernel)) ggX5_bits_X2_layerAt
set_option maxRecDepth 20000 in
theorem ggX5_bits_X5_floatBits : GoodIn wsX5_bits wsX5_floatBits := goodIn_r _ [20, 21] (by decide +kernel) (by decide +kernel)
set_option maxRecDepth 20000 in
theorem gX5_bits_X5_floatBits : GoodIn wsX5_bits (va_wsS RX5 156 yX5_floatBits wsX5_floatBits) := goodIn_app (goodIn_of _ (by decide +kernel)) ggX5_bits_X5_floatBits
theorem dX5_bits_0 : decode cX5_bits 0 = .ok (.iload_n 1, 1) := by decide +kernel
theorem dX5_bits_1 : decode cX5_bits 1 = .ok (.invokestatic 141, 3) := by decide +kernel
theorem dX5_bits_4 : decode cX5_bits 4 = .ok (.ifCond .eq 11, 3) := by decide +kernel
theorem dX5_bits_7 : decode cX5_bits 7 = .ok (.aload_n 0, 1) := by decide +kernel
theorem dX5_bits_8 : decode cX5_bits 8 = .ok (.iload_n 2, 1) := by decide +kernel
theorem dX5_bits_9 : decode cX5_bits 9 = .ok (.invokevirtual 76, 3) := by decide +kernel
theorem dX5_bits_12 : decode cX5_bits 12 = .ok (.ifCond .ne 6, 3) := by decide +kernel
theorem dX5_bits_15 : decode cX5_bits 15 = .ok (.bipush (-2), 2) := by decide +kernel
theorem dX5_bits_17 : decode cX5_bits 17 = .ok (.ireturn, 1) := by decide +kernel
theorem dX5_bits_18 : decode cX5_bits 18 = .ok (.aload_n 0, 1) := by decide +kernel
theorem dX5_bits_19 : decode cX5_bits 19 = .ok (.getfield 29, 3) := by decide +kernel
theorem dX5_bits_22 : decode cX5_bits 22 = .ok (.iload_n 1, 1) := by decide +kernel
theorem dX5_bits_23 : decode cX5_bits 23 = .ok (.invokevirtual 144, 3) := by decide +kernel
theorem dX5_bits_26 : decode cX5_bits 26 = .ok (.getfield 151, 3) := by decide +kernel
theorem dX5_bits_29 : decode cX5_bits 29 = .ok (.iload_n 2, 1) := by decide +kernel
theorem dX5_bits_30 : decode cX5_bits 30 = .ok (.faload, 1) := by decide +kernel
theorem dX5_bits_31 : decode cX5_bits 31 = .ok (.invokestatic 156, 3) := by decide +kernel
theorem dX5_bits_34 : decode cX5_bits 34 = .ok (.ireturn, 1) := by decide +kernel
set_option maxRecDepth 20000 in
theorem ggX5_limb_X5_isLimb : GoodIn wsX5_limb wsX5_isLimb := goodIn_r _ [7] (by decide +kernel) (by decide +kernel)
set_option maxRecDepth 20000 in
theorem gX5_limb_X5_isLimb : GoodIn wsX5_limb (va_wsS RX5 80 yX5_isLimb wsX5_isLimb) := goodIn_app (goodIn_of _ (by decide +kernel)) ggX5_limb_X5_isLimb
set_option maxRecDepth 20000 in
theorem ggX5_limb_X5_mixedLimb : GoodIn wsX5_limb wsX5_mixedLimb := goodIn_r _ [11, 12, 1, 13, 14, 15, 16, 17, 18, 19, 20, 21, 22, 23, 24, 25, 26, 27, 28, 6, 29, 30, 31, 32, 33, 34, 35, 36, 37, 38, 39, 40, 41, 48, 49, 50, 51, 42, 43, 44, 45, 46, 47, 52, 53, 54, 55, 56, 57, 58] (by decide +kernel) (by decide +kernel)
set_option maxRecDepth 20000 in
theorem gX5_limb_X5_mixedLimb : GoodIn wsX5_limb (wsV RX5 160 RX5 yX5_mixedLimb wsX5_mixedLimb) := goodIn_app (goodIn_of _ (by decide +kernel)) ggX5_limb_X5_mixedLimb
theorem dX5_limb_0 : decode cX5_limb 0 = .ok (.iload_n 1, 1) := by decide +kernel
theorem dX5_limb_1 : decode cX5_limb 1 = .ok (.invokestatic 80, 3) := by decide +kernel
theorem dX5_limb_4 : decode cX5_limb 4 = .ok (.ifCond .ne 6, 3) := by decide +kernel
theorem dX5_limb_7 : decode cX5_limb 7 = .ok (.bipush (-2), 2) := by decide +kernel
theorem dX5_limb_9 : decode cX5_limb 9 = .ok (.ireturn, 1) := by decide +kernel
theorem dX5_limb_10 : decode cX5_limb 10 = .ok (.aload_n 0, 1) := by decide +kernel
theorem dX5_limb_11 : decode cX5_limb 11 = .ok (.getfield 19, 3) := by decide +kernel
theorem dX5_limb_14 : decode cX5_limb 14 = .ok (.getfield 110, 3) := by decide +kernel
theorem dX5_limb_17 : decode cX5_limb 17 = .ok (.ifCond .ne 6, 3) := by decide +kernel
theorem dX5_limb_20 : decode cX5_limb 20 = .ok (.bipush (-4), 2) := by decide +kernel
theorem dX5_limb_22 : decode cX5_limb 22 = .ok (.ireturn, 1) := by decide +kernel
theorem dX5_limb_23 : decode cX5_limb 23 = .ok (.aload_n 0, 1) := by decide +kernel
theorem dX5_limb_24 : decode cX5_limb 24 = .ok (.iload_n 1, 1) := by decide +kernel
theorem dX5_limb_25 : decode cX5_limb 25 = .ok (.invokevirtual 160, 3) := by decide +kernel
theorem dX5_limb_28 : decode cX5_limb 28 = .ok (.ldc 164, 2) := by decide +kernel
theorem dX5_limb_30 : decode cX5_limb 30 = .ok (.fmul, 1) := by decide +kernel
theorem dX5_limb_31 : decode cX5_limb 31 = .ok (.f2i, 1) := by decide +kernel
theorem dX5_limb_32 : decode cX5_limb 32 = .ok (.ldc 165, 2) := by decide +kernel
theorem dX5_limb_34 : decode cX5_limb 34 = .ok (.iadd, 1) := by decide +kernel
theorem dX5_limb_35 : decode cX5_limb 35 = .ok (.ireturn, 1) := by decide +kernel
set_option maxRecDepth 20000 in
theorem ggX5_exact_X5_isLimb : GoodIn wsX5_exact wsX5_isLimb := goodIn_r _ [8] (by decide +kernel) (by decide +kernel)
set_option maxRecDepth 20000 in
theorem gX5_exact_X5_isLimb : GoodIn wsX5_exact (va_wsS RX5 80 yX5_isLimb wsX5_isLimb) := goodIn_app (goodIn_of _ (by decide +kernel)) ggX5_exact_X5_isLimb
set_option maxRecDepth 20000 in
theorem ggX5_exact_X5_mixedLimb : GoodIn wsX5_exact wsX5_mixedLimb := goodIn_r _ [12, 13, 2, 14, 15, 16, 17, 18, 19, 20, 21, 22, 23, 24, 25, 26, 27, 28, 29, 7, 30, 31, 42, 43, 44, 45, 46, 47, 48, 49, 50, 51, 52, 59, 60, 61, 62, 53, 54, 55, 56, 57, 58, 63, 64, 65, 66, 67, 68, 69] (by decide +kernel) (by decide +kernel)
set_option maxRecDepth 20000 in
theorem gX5_exact_X5_mixedLimb : GoodIn wsX5_exact (wsV RX5 160 RX5 yX5_mixedLimb wsX5_mixedLimb) := goodIn_app (goodIn_of _ (by decide +kernel)) ggX5_exact_X5_mixedLimb
set_option maxRecDepth 20000 in
theorem ggX5_exact_X5_isMinusZero : GoodIn wsX5_exact wsX5_isMinusZero := goodIn_r _ [35, 2, 13, 21, 22, 23, 24, 25, 26, 14, 15, 16, 17, 18, 19, 20, 27, 28, 29, 7, 30, 31, 42, 43, 44, 45, 46, 47, 48, 49, 50, 51, 52, 59, 60, 61, 62, 53, 54, 55, 56, 57, 58, 63, 64, 65, 66, 67, 68, 69] (by decide +kernel) (by decide +kernel)
set_option maxRecDepth 20000 in
theorem gX5_exact_X5_isMinusZero : GoodIn wsX5_exact (wsV RX5 170 RX5 yX5_isMinusZero wsX5_isMinusZero) := goodIn_app (goodIn_of _ (by decide +kernel)) ggX5_exact_X5_isMinusZero
set_option maxRecDepth 20000 in
theorem ggX5_exact_X5_doubleBits : GoodIn wsX5_exact wsX5_doubleBits := goodIn_r _ [38, 39, 40, 41, 4] (by decide +kernel) (by decide +kernel)
set_option maxRecDepth 20000 in
theorem gX5_exact_X5_doubleBits : GoodIn wsX5_exact (va_wsS RX5 175 yX5_doubleBits wsX5_doubleBits) := goodIn_app (goodIn_of _ (by decide +kernel)) ggX5_exact_X5_doubleBits
theorem dX5_exact_0 : decode cX5_exact 0 = .ok (.iload_n 1, 1) := by decide +kernel
theorem dX5_exact_1 : decode cX5_exact 1 = .ok (.invokestatic 80, 3) := by decide +kernel
theorem dX5_exact_4 : decode cX5_exact 4 = .ok (.ifCond .ne 7, 3) := by decide +kernel
theorem dX5_exact_7 : decode cX5_exact 7 = .ok (.ldc2_w 166, 3) := by decide +kernel
theorem dX5_exact_10 : decode cX5_exact 10 = .ok (.lreturn, 1) := by decide +kernel
theorem dX5_exact_11 : decode cX5_exact 11 = .ok (.aload_n 0, 1) := by decide +kernel
theorem dX5_exact_12 : decode cX5_exact 12 = .ok (.getfield 19, 3) := by decide +kernel
theorem dX5_exact_15 : decode cX5_exact 15 = .ok (.getfield 110, 3) := by decide +kernel
theorem dX5_exact_18 : decode cX5_exact 18 = .ok (.ifCond .ne 7, 3) := by decide +kernel
theorem dX5_exact_21 : decode cX5_exact 21 = .ok (.ldc2_w 168, 3) := by decide +kernel
theorem dX5_exact_24 : decode cX5_exact 24 = .ok (.lreturn, 1) := by decide +kernel
theorem dX5_exact_25 : decode cX5_exact 25 = .ok (.aload_n 0, 1) := by decide +kernel
theorem dX5_exact_26 : decode cX5_exact 26 = .ok (.iload_n 1, 1) := by decide +kernel
theorem dX5_exact_27 : decode cX5_exact 27 = .ok (.invokevirtual 160, 3) := by decide +kernel
theorem dX5_exact_30 : decode cX5_exact 30 = .ok (.fstore_n 2, 1) := by decide +kernel
theorem dX5_exact_31 : decode cX5_exact 31 = .ok (.fload_n 2, 1) := by decide +kernel
theorem dX5_exact_32 : decode cX5_exact 32 = .ok (.fconst 0, 1) := by decide +kernel
theorem dX5_exact_33 : decode cX5_exact 33 = .ok (.fcmp .l, 1) := by decide +kernel
theorem dX5_exact_34 : decode cX5_exact 34 = .ok (.ifCond .ne 19, 3) := by decide +kernel
theorem dX5_exact_37 : decode cX5_exact 37 = .ok (.aload_n 0, 1) := by decide +kernel
theorem dX5_exact_38 : decode cX5_exact 38 = .ok (.iload_n 1, 1) := by decide +kernel
theorem dX5_exact_39 : decode cX5_exact 39 = .ok (.invokevirtual 170, 3) := by decide +kernel
theorem dX5_exact_42 : decode cX5_exact 42 = .ok (.ifCond .eq 9, 3) := by decide +kernel
theorem dX5_exact_45 : decode cX5_exact 45 = .ok (.ldc2_w 173, 3) := by decide +kernel
theorem dX5_exact_48 : decode cX5_exact 48 = .ok (.goto 4, 3) := by decide +kernel
theorem dX5_exact_51 : decode cX5_exact 51 = .ok (.lconst 0, 1) := by decide +kernel
theorem dX5_exact_52 : decode cX5_exact 52 = .ok (.lreturn, 1) := by decide +kernel
theorem dX5_exact_53 : decode cX5_exact 53 = .ok (.fload_n 2, 1) := by decide +kernel
theorem dX5_exact_54 : decode cX5_exact 54 = .ok (.f2d, 1) := by decide +kernel
theorem dX5_exact_55 : decode cX5_exact 55 = .ok (.invokestatic 175, 3) := by decide +kernel
theorem dX5_exact_58 : decode cX5_exact 58 = .ok (.lreturn, 1) := by decide +kernel
set_option maxRecDepth 20000 in
theorem ggX5_whole_X5_isLayer : GoodIn wsX5_whole wsX5_isLayer := goodIn_r _ [7] (by decide +kernel) (by decide +kernel)
set_option maxRecDepth 20000 in
theorem gX5_whole_X5_isLayer : GoodIn wsX5_whole (va_wsS RX5 141 yX5_isLayer wsX5_isLayer) := goodIn_app (goodIn_of _ (by decide +kernel)) ggX5_whole_X5_isLayer
set_option maxRecDepth 20000 in
theorem ggX5_whole_X2_layerAt : GoodIn wsX5_whole wsX2_layerAt := goodIn_r _ [12, 13, 14, 38, 39, 40, 41] (by decide +kernel) (by decide +kernel)
set_option maxRecDepth 20000 in
theorem gX5_whole_X2_layerAt : GoodIn wsX5_whole (wsV RX5 144 RX2 yX2_layerAt wsX2_layerAt) := goodIn_app (goodIn_of _ (by decide +kernel)) ggX5_whole_X2_layerAt
set_option maxRecDepth 20000 in
theorem ggX5_whole_X1_sumOfShares : GoodIn wsX5_whole wsX1_sumOfShares := goodIn_r _ [19, 20, 42, 43, 44, 45, 46, 47, 48] (by decide +kernel) (by decide +kernel)
set_option maxRecDepth 20000 in
theorem gX5_whole_X1_sumOfShares : GoodIn wsX5_whole (wsV RX5 179 RX1 yX1_sumOfShares wsX1_sumOfShares) := goodIn_app (goodIn_of _ (by decide +kernel)) ggX5_whole_X1_sumOfShares
theorem dX5_whole_0 : decode cX5_whole 0 = .ok (.iload_n 1, 1) := by decide +kernel
theorem dX5_whole_1 : decode cX5_whole 1 = .ok (.invokestatic 141, 3) := by decide +kernel
theorem dX5_whole_4 : decode cX5_whole 4 = .ok (.ifCond .ne 6, 3) := by decide +kernel
theorem dX5_whole_7 : decode cX5_whole 7 = .ok (.bipush (-2), 2) := by decide +kernel
theorem dX5_whole_9 : decode cX5_whole 9 = .ok (.ireturn, 1) := by decide +kernel
theorem dX5_whole_10 : decode cX5_whole 10 = .ok (.aload_n 0, 1) := by decide +kernel
theorem dX5_whole_11 : decode cX5_whole 11 = .ok (.getfield 19, 3) := by decide +kernel
theorem dX5_whole_14 : decode cX5_whole 14 = .ok (.getfield 110, 3) := by decide +kernel
theorem dX5_whole_17 : decode cX5_whole 17 = .ok (.ifCond .ne 6, 3) := by decide +kernel
theorem dX5_whole_20 : decode cX5_whole 20 = .ok (.bipush (-4), 2) := by decide +kernel
theorem dX5_whole_22 : decode cX5_whole 22 = .ok (.ireturn, 1) := by decide +kernel
theorem dX5_whole_23 : decode cX5_whole 23 = .ok (.aload_n 0, 1) := by decide +kernel
theorem dX5_whole_24 : decode cX5_whole 24 = .ok (.getfield 29, 3) := by decide +kernel
theorem dX5_whole_27 : decode cX5_whole 27 = .ok (.iload_n 1, 1) := by decide +kernel
theorem dX5_whole_28 : decode cX5_whole 28 = .ok (.invokevirtual 144, 3) := by decide +kernel
theorem dX5_whole_31 : decode cX5_whole 31 = .ok (.aload_n 0, 1) := by decide +kernel
theorem dX5_whole_32 : decode cX5_whole 32 = .ok (.getfield 19, 3) := by decide +kernel
theorem dX5_whole_35 : decode cX5_whole 35 = .ok (.getfield 110, 3) := by decide +kernel
theorem dX5_whole_38 : decode cX5_whole 38 = .ok (.invokevirtual 179, 3) := by decide +kernel
theorem dX5_whole_41 : decode cX5_whole 41 = .ok (.fconst 1, 1) := by decide +kernel
theorem dX5_whole_42 : decode cX5_whole 42 = .ok (.fsub, 1) := by decide +kernel
theorem dX5_whole_43 : decode cX5_whole 43 = .ok (.fstore_n 2, 1) := by decide +kernel
theorem dX5_whole_44 : decode cX5_whole 44 = .ok (.fload_n 2, 1) := by decide +kernel
theorem dX5_whole_45 : decode cX5_whole 45 = .ok (.ldc 182, 2) := by decide +kernel
theorem dX5_whole_47 : decode cX5_whole 47 = .ok (.fmul, 1) := by decide +kernel
theorem dX5_whole_48 : decode cX5_whole 48 = .ok (.f2i, 1) := by decide +kernel
theorem dX5_whole_49 : decode cX5_whole 49 = .ok (.bipush 100, 2) := by decide +kernel
theorem dX5_whole_51 : decode cX5_whole 51 = .ok (.iadd, 1) := by decide +kernel
theorem dX5_whole_52 : decode cX5_whole 52 = .ok (.ireturn, 1) := by decide +kernel
set_option maxRecDepth 20000 in
theorem ggX5_reach_X5_isState : GoodIn wsX5_reach wsX5_isState := goodIn_r _ [6, 1, 18, 19, 20, 21, 22, 23, 24, 25, 26, 27, 28, 29, 30, 31, 32, 33, 34] (by decide +kernel) (by decide +kernel)
set_option maxRecDepth 20000 in
theorem gX5_reach_X5_isState : GoodIn wsX5_reach (wsV RX5 76 RX5 yX5_isState wsX5_isState) := goodIn_app (goodIn_of _ (by decide +kernel)) ggX5_reach_X5_isState
set_option maxRecDepth 20000 in
theorem ggX5_reach_X0_stepsFrom : GoodIn wsX5_reach wsX0_stepsFrom := goodIn_r _ [11, 12, 13, 14, 15, 10, 16, 17, 29, 30, 31, 32, 33, 34] (by decide +kernel) (by decide +kernel)
set_option maxRecDepth 20000 in
theorem gX5_reach_X0_stepsFrom : GoodIn wsX5_reach (wsV RX5 183 RX0 yX0_stepsFrom wsX0_stepsFrom) := goodIn_app (goodIn_of _ (by decide +kernel)) ggX5_reach_X0_stepsFrom
theorem dX5_reach_0 : decode cX5_reach 0 = .ok (.aload_n 0, 1) := by decide +kernel
theorem dX5_reach_1 : decode cX5_reach 1 = .ok (.iload_n 1, 1) := by decide +kernel
theorem dX5_reach_2 : decode cX5_reach 2 = .ok (.invokevirtual 76, 3) := by decide +kernel
theorem dX5_reach_5 : decode cX5_reach 5 = .ok (.ifCond .ne 6, 3) := by decide +kernel
theorem dX5_reach_8 : decode cX5_reach 8 = .ok (.bipush (-2), 2) := by decide +kernel
theorem dX5_reach_10 : decode cX5_reach 10 = .ok (.ireturn, 1) := by decide +kernel
theorem dX5_reach_11 : decode cX5_reach 11 = .ok (.iconst 1, 1) := by decide +kernel
theorem dX5_reach_12 : decode cX5_reach 12 = .ok (.iload_n 1, 1) := by decide +kernel
theorem dX5_reach_13 : decode cX5_reach 13 = .ok (.ishl, 1) := by decide +kernel
theorem dX5_reach_14 : decode cX5_reach 14 = .ok (.istore_n 2, 1) := by decide +kernel
theorem dX5_reach_15 : decode cX5_reach 15 = .ok (.iconst 0, 1) := by decide +kernel
theorem dX5_reach_16 : decode cX5_reach 16 = .ok (.istore_n 3, 1) := by decide +kernel
theorem dX5_reach_17 : decode cX5_reach 17 = .ok (.iload_n 3, 1) := by decide +kernel
theorem dX5_reach_18 : decode cX5_reach 18 = .ok (.bipush 6, 2) := by decide +kernel
theorem dX5_reach_20 : decode cX5_reach 20 = .ok (.if_icmp .ge 20, 3) := by decide +kernel
theorem dX5_reach_23 : decode cX5_reach 23 = .ok (.iload_n 2, 1) := by decide +kernel
theorem dX5_reach_24 : decode cX5_reach 24 = .ok (.aload_n 0, 1) := by decide +kernel
theorem dX5_reach_25 : decode cX5_reach 25 = .ok (.getfield 19, 3) := by decide +kernel
theorem dX5_reach_28 : decode cX5_reach 28 = .ok (.iload_n 2, 1) := by decide +kernel
theorem dX5_reach_29 : decode cX5_reach 29 = .ok (.invokevirtual 183, 3) := by decide +kernel
theorem dX5_reach_32 : decode cX5_reach 32 = .ok (.ior, 1) := by decide +kernel
theorem dX5_reach_33 : decode cX5_reach 33 = .ok (.istore_n 2, 1) := by decide +kernel
theorem dX5_reach_34 : decode cX5_reach 34 = .ok (.iinc 3 1, 3) := by decide +kernel
theorem dX5_reach_37 : decode cX5_reach 37 = .ok (.goto (-20), 3) := by decide +kernel
theorem dX5_reach_40 : decode cX5_reach 40 = .ok (.iload_n 2, 1) := by decide +kernel
theorem dX5_reach_41 : decode cX5_reach 41 = .ok (.ireturn, 1) := by decide +kernel
set_option maxRecDepth 20000 in
theorem ggX5_dead_X0_stepsFrom : GoodIn wsX5_dead wsX0_stepsFrom := goodIn_r _ [6, 7, 8, 9, 10, 5, 11, 12, 24, 25, 26, 27, 28, 29] (by decide +kernel) (by decide +kernel)
set_option maxRecDepth 20000 in
theorem gX5_dead_X0_stepsFrom : GoodIn wsX5_dead (wsV RX5 183 RX0 yX0_stepsFrom wsX0_stepsFrom) := goodIn_app (goodIn_of _ (by decide +kernel)) ggX5_dead_X0_stepsFrom
theorem dX5_dead_0 : decode cX5_dead 0 = .ok (.aload_n 0, 1) := by decide +kernel
theorem dX5_dead_1 : decode cX5_dead 1 = .ok (.getfield 19, 3) := by decide +kernel
theorem dX5_dead_4 : decode cX5_dead 4 = .ok (.getfield 110, 3) := by decide +kernel
theorem dX5_dead_7 : decode cX5_dead 7 = .ok (.ifCond .ne 6, 3) := by decide +kernel
theorem dX5_dead_10 : decode cX5_dead 10 = .ok (.bipush (-4), 2) := by decide +kernel
theorem dX5_dead_12 : decode cX5_dead 12 = .ok (.ireturn, 1) := by decide +kernel
theorem dX5_dead_13 : decode cX5_dead 13 = .ok (.iconst 0, 1) := by decide +kernel
theorem dX5_dead_14 : decode cX5_dead 14 = .ok (.istore_n 1, 1) := by decide +kernel
theorem dX5_dead_15 : decode cX5_dead 15 = .ok (.iconst 0, 1) := by decide +kernel
theorem dX5_dead_16 : decode cX5_dead 16 = .ok (.istore_n 2, 1) := by decide +kernel
theorem dX5_dead_17 : decode cX5_dead 17 = .ok (.iload_n 2, 1) := by decide +kernel
theorem dX5_dead_18 : decode cX5_dead 18 = .ok (.aload_n 0, 1) := by decide +kernel
theorem dX5_dead_19 : decode cX5_dead 19 = .ok (.getfield 19, 3) := by decide +kernel
theorem dX5_dead_22 : decode cX5_dead 22 = .ok (.getfield 110, 3) := by decide +kernel
theorem dX5_dead_25 : decode cX5_dead 25 = .ok (.if_icmp .ge 32, 3) := by decide +kernel
theorem dX5_dead_28 : decode cX5_dead 28 = .ok (.iconst 1, 1) := by decide +kernel
theorem dX5_dead_29 : decode cX5_dead 29 = .ok (.iload_n 2, 1) := by decide +kernel
theorem dX5_dead_30 : decode cX5_dead 30 = .ok (.ishl, 1) := by decide +kernel
theorem dX5_dead_31 : decode cX5_dead 31 = .ok (.istore_n 3, 1) := by decide +kernel
theorem dX5_dead_32 : decode cX5_dead 32 = .ok (.aload_n 0, 1) := by decide +kernel
theorem dX5_dead_33 : decode cX5_dead 33 = .ok (.getfield 19, 3) := by decide +kernel
theorem dX5_dead_36 : decode cX5_dead 36 = .ok (.iload_n 3, 1) := by decide +kernel
theorem dX5_dead_37 : decode cX5_dead 37 = .ok (.invokevirtual 183, 3) := by decide +kernel
theorem dX5_dead_40 : decode cX5_dead 40 = .ok (.iload_n 3, 1) := by decide +kernel
theorem dX5_dead_41 : decode cX5_dead 41 = .ok (.iconst (-1), 1) := by decide +kernel
theorem dX5_dead_42 : decode cX5_dead 42 = .ok (.ixor, 1) := by decide +kernel
theorem dX5_dead_43 : decode cX5_dead 43 = .ok (.iand, 1) := by decide +kernel
theorem dX5_dead_44 : decode cX5_dead 44 = .ok (.ifCond .ne 7, 3) := by decide +kernel
theorem dX5_dead_47 : decode cX5_dead 47 = .ok (.iload_n 1, 1) := by decide +kernel
theorem dX5_dead_48 : decode cX5_dead 48 = .ok (.iload_n 3, 1) := by decide +kernel
theorem dX5_dead_49 : decode cX5_dead 49 = .ok (.ior, 1) := by decide +kernel
theorem dX5_dead_50 : decode cX5_dead 50 = .ok (.istore_n 1, 1) := by decide +kernel
theorem dX5_dead_51 : decode cX5_dead 51 = .ok (.iinc 2 1, 3) := by decide +kernel
theorem dX5_dead_54 : decode cX5_dead 54 = .ok (.goto (-37), 3) := by decide +kernel
theorem dX5_dead_57 : decode cX5_dead 57 = .ok (.iload_n 1, 1) := by decide +kernel
theorem dX5_dead_58 : decode cX5_dead 58 = .ok (.ireturn, 1) := by decide +kernel
set_option maxRecDepth 20000 in
theorem ggX5_until_X5_isLayer : GoodIn wsX5_until wsX5_isLayer := goodIn_r _ [7] (by decide +kernel) (by decide +kernel)
set_option maxRecDepth 20000 in
theorem gX5_until_X5_isLayer : GoodIn wsX5_until (va_wsS RX5 141 yX5_isLayer wsX5_isLayer) := goodIn_app (goodIn_of _ (by decide +kernel)) ggX5_until_X5_isLayer
set_option maxRecDepth 20000 in
theorem ggX5_until_X5_isState : GoodIn wsX5_until wsX5_isState := goodIn_r _ [11, 3, 105, 106, 107, 108, 109, 110, 111, 112, 113, 114, 115, 123, 124, 125, 126, 127, 128] (by decide +kernel) (by decide +kernel)
set_option maxRecDepth 20000 in
theorem gX5_until_X5_isState : GoodIn wsX5_until (wsV RX5 76 RX5 yX5_isState wsX5_isState) := goodIn_app (goodIn_of _ (by decide +kernel)) ggX5_until_X5_isState
set_option maxRecDepth 20000 in
theorem ggX5_until_X2_copyFrom : GoodIn wsX5_until wsX2_copyFrom := goodIn_r _ [16, 17, 18, 19, 20, 21, 22, 23, 24, 25, 26, 27, 28, 29, 30, 31, 32, 33, 34, 35, 36, 37, 129, 130, 131, 132, 116, 117, 118, 119, 120, 121, 122] (by decide +kernel) (by decide +kernel)
set_option maxRecDepth 20000 in
theorem gX5_until_X2_copyFrom : GoodIn wsX5_until (wsV RX5 131 RX2 yX2_copyFrom wsX2_copyFrom) := goodIn_app (goodIn_of _ (by decide +kernel)) ggX5_until_X2_copyFrom
set_option maxRecDepth 20000 in
theorem ggX5_until_X2_layerAt : GoodIn wsX5_until wsX2_layerAt := goodIn_r _ [41, 17, 18, 129, 130, 131, 132] (by decide +kernel) (by decide +kernel)
set_option maxRecDepth 20000 in
theorem gX5_until_X2_layerAt : GoodIn wsX5_until (wsV RX5 144 RX2 yX2_layerAt wsX2_layerAt) := goodIn_app (goodIn_of _ (by decide +kernel)) ggX5_until_X2_layerAt
set_option maxRecDepth 20000 in
theorem ggX5_until_X2_goOn : GoodIn wsX5_until wsX2_goOn := goodIn_r _ [45, 17, 18, 46, 47, 48, 28, 49, 32, 31, 50, 51, 52, 53, 54, 55, 56, 57, 58, 59, 60, 61, 62, 63, 64, 65, 66, 67, 68, 69, 70, 71, 30, 72, 73, 74, 75, 76, 77, 78, 79, 80, 81, 82, 83, 15, 84, 24, 85, 86, 87, 88, 89, 90, 91, 92, 33, 34, 35, 37, 36, 21, 22, 23, 93, 94, 95, 96, 97, 98, 99, 100, 101, 102, 103, 104, 129, 130, 131, 132, 116, 117, 118, 119, 120, 121, 122, 123, 124, 125, 126, 127, 128] (by decide +kernel) (by decide +kernel)
set_option maxRecDepth 20000 in
theorem gX5_until_X2_goOn : GoodIn wsX5_until (wsV RX5 113 RX2 yX2_goOn wsX2_goOn) := goodIn_app (goodIn_of _ (by decide +kernel)) ggX5_until_X2_goOn
theorem dX5_until_0 : decode cX5_until 0 = .ok (.iload_n 1, 1) := by decide +kernel
theorem dX5_until_1 : decode cX5_until 1 = .ok (.invokestatic 141, 3) := by decide +kernel
theorem dX5_until_4 : decode cX5_until 4 = .ok (.ifCond .eq 11, 3) := by decide +kernel
theorem dX5_until_7 : decode cX5_until 7 = .ok (.aload_n 0, 1) := by decide +kernel
theorem dX5_until_8 : decode cX5_until 8 = .ok (.iload_n 2, 1) := by decide +kernel
theorem dX5_until_9 : decode cX5_until 9 = .ok (.invokevirtual 76, 3) := by decide +kernel
theorem dX5_until_12 : decode cX5_until 12 = .ok (.ifCond .ne 6, 3) := by decide +kernel
theorem dX5_until_15 : decode cX5_until 15 = .ok (.bipush (-2), 2) := by decide +kernel
theorem dX5_until_17 : decode cX5_until 17 = .ok (.ireturn, 1) := by decide +kernel
theorem dX5_until_18 : decode cX5_until 18 = .ok (.aload_n 0, 1) := by decide +kernel
theorem dX5_until_19 : decode cX5_until 19 = .ok (.getfield 33, 3) := by decide +kernel
theorem dX5_until_22 : decode cX5_until 22 = .ok (.aload_n 0, 1) := by decide +kernel
theorem dX5_until_23 : decode cX5_until 23 = .ok (.getfield 29, 3) := by decide +kernel
theorem dX5_until_26 : decode cX5_until 26 = .ok (.invokevirtual 131, 3) := by decide +kernel
theorem dX5_until_29 : decode cX5_until 29 = .ok (.iconst 0, 1) := by decide +kernel
theorem dX5_until_30 : decode cX5_until 30 = .ok (.istore_n 3, 1) := by decide +kernel
theorem dX5_until_31 : decode cX5_until 31 = .ok (.iload_n 3, 1) := by decide +kernel
theorem dX5_until_32 : decode cX5_until 32 = .ok (.sipush 300, 3) := by decide +kernel
theorem dX5_until_35 : decode cX5_until 35 = .ok (.if_icmp .gt 37, 3) := by decide +kernel
theorem dX5_until_38 : decode cX5_until 38 = .ok (.aload_n 0, 1) := by decide +kernel
theorem dX5_until_39 : decode cX5_until 39 = .ok (.getfield 33, 3) := by decide +kernel
theorem dX5_until_42 : decode cX5_until 42 = .ok (.iload_n 1, 1) := by decide +kernel
theorem dX5_until_43 : decode cX5_until 43 = .ok (.invokevirtual 144, 3) := by decide +kernel
theorem dX5_until_46 : decode cX5_until 46 = .ok (.getfield 120, 3) := by decide +kernel
theorem dX5_until_49 : decode cX5_until 49 = .ok (.iload_n 2, 1) := by decide +kernel
theorem dX5_until_50 : decode cX5_until 50 = .ok (.if_icmp .ne 5, 3) := by decide +kernel
theorem dX5_until_53 : decode cX5_until 53 = .ok (.iload_n 3, 1) := by decide +kernel
theorem dX5_until_54 : decode cX5_until 54 = .ok (.ireturn, 1) := by decide +kernel
theorem dX5_until_55 : decode cX5_until 55 = .ok (.aload_n 0, 1) := by decide +kernel
theorem dX5_until_56 : decode cX5_until 56 = .ok (.getfield 33, 3) := by decide +kernel
theorem dX5_until_59 : decode cX5_until 59 = .ok (.aload_n 0, 1) := by decide +kernel
theorem dX5_until_60 : decode cX5_until 60 = .ok (.getfield 19, 3) := by decide +kernel
theorem dX5_until_63 : decode cX5_until 63 = .ok (.invokevirtual 113, 3) := by decide +kernel
theorem dX5_until_66 : decode cX5_until 66 = .ok (.iinc 3 1, 3) := by decide +kernel
theorem dX5_until_69 : decode cX5_until 69 = .ok (.goto (-38), 3) := by decide +kernel
theorem dX5_until_72 : decode cX5_until 72 = .ok (.iconst (-1), 1) := by decide +kernel
theorem dX5_until_73 : decode cX5_until 73 = .ok (.ireturn, 1) := by decide +kernel
set_option maxRecDepth 20000 in
theorem ggX5_pulled_X5_isLayer : GoodIn wsX5_pulled wsX5_isLayer := goodIn_r _ [7] (by decide +kernel) (by decide +kernel)
set_option maxRecDepth 20000 in
theorem gX5_pulled_X5_isLayer : GoodIn wsX5_pulled (va_wsS RX5 141 yX5_isLayer wsX5_isLayer) := goodIn_app (goodIn_of _ (by decide +kernel)) ggX5_pulled_X5_isLayer
set_option maxRecDepth 20000 in
theorem ggX5_pulled_X5_isTrigger : GoodIn wsX5_pulled wsX5_isTrigger := goodIn_r _ [10] (by decide +kernel) (by decide +kernel)
set_option maxRecDepth 20000 in
theorem gX5_pulled_X5_isTrigger : GoodIn wsX5_pulled (va_wsS RX5 100 yX5_isTrigger wsX5_isTrigger) := goodIn_app (goodIn_of _ (by decide +kernel)) ggX5_pulled_X5_isTrigger
set_option maxRecDepth 20000 in
theorem ggX5_pulled_X2_isTriggered : GoodIn wsX5_pulled wsX2_isTriggered := goodIn_r _ [15, 16, 133, 134, 135, 136] (by decide +kernel) (by decide +kernel)
set_option maxRecDepth 20000 in
theorem gX5_pulled_X2_isTriggered : GoodIn wsX5_pulled (wsV RX5 103 RX2 yX2_isTriggered wsX2_isTriggered) := goodIn_app (goodIn_of _ (by decide +kernel)) ggX5_pulled_X2_isTriggered
set_option maxRecDepth 20000 in
theorem ggX5_pulled_X2_copyFrom : GoodIn wsX5_pulled wsX2_copyFrom := goodIn_r _ [20, 21, 22, 23, 24, 25, 26, 27, 16, 28, 29, 30, 31, 32, 33, 34, 35, 36, 37, 38, 39, 40, 133, 134, 135, 136, 126, 127, 128, 129, 130, 131, 132] (by decide +kernel) (by decide +kernel)
set_option maxRecDepth 20000 in
theorem gX5_pulled_X2_copyFrom : GoodIn wsX5_pulled (wsV RX5 131 RX2 yX2_copyFrom wsX2_copyFrom) := goodIn_app (goodIn_of _ (by decide +kernel)) ggX5_pulled_X2_copyFrom
set_option maxRecDepth 20000 in
theorem ggX5_pulled_X2_trigger : GoodIn wsX5_pulled wsX2_trigger := goodIn_r _ [44, 16, 133, 134, 135, 136] (by decide +kernel) (by decide +kernel)
set_option maxRecDepth 20000 in
theorem gX5_pulled_X2_trigger : GoodIn wsX5_pulled (wsV RX5 106 RX2 yX2_trigger wsX2_trigger) := goodIn_app (goodIn_of _ (by decide +kernel)) ggX5_pulled_X2_trigger
set_option maxRecDepth 20000 in
theorem ggX5_pulled_X2_goOn : GoodIn wsX5_pulled wsX2_goOn := goodIn_r _ [48, 21, 22, 49, 50, 51, 31, 52, 35, 34, 53, 54, 55, 56, 57, 58, 59, 60, 61, 62, 63, 64, 65, 66, 67, 68, 69, 70, 71, 72, 73, 74, 33, 75, 76, 77, 78, 79, 80, 81, 82, 83, 84, 12, 13, 14, 15, 16, 85, 86, 87, 88, 89, 90, 91, 92, 36, 37, 38, 40, 39, 25, 26, 27, 93, 94, 95, 96, 97, 98, 99, 100, 101, 102, 103, 104, 133, 134, 135, 136, 126, 127, 128, 129, 130, 131, 132, 120, 121, 122, 123, 124, 125] (by decide +kernel) (by decide +kernel)
set_option maxRecDepth 20000 in
theorem gX5_pulled_X2_goOn : GoodIn wsX5_pulled (wsV RX5 113 RX2 yX2_goOn wsX2_goOn) := goodIn_app (goodIn_of _ (by decide +kernel)) ggX5_pulled_X2_goOn
set_option maxRecDepth 20000 in
theorem ggX5_pulled_X2_layerAt : GoodIn wsX5_pulled wsX2_layerAt := goodIn_r _ [108, 21, 22, 133, 134, 135, 136] (by decide +kernel) (by decide +kernel)
set_option maxRecDepth 20000 in
theorem gX5_pulled_X2_layerAt : GoodIn wsX5_pulled (wsV RX5 144 RX2 yX2_layerAt wsX2_layerAt) := goodIn_app (goodIn_of _ (by decide +kernel)) ggX5_pulled_X2_layerAt
theorem dX5_pulled_0 : decode cX5_pulled 0 = .ok (.iload_n 1, 1) := by decide +kernel
theorem dX5_pulled_1 : decode cX5_pulled 1 = .ok (.invokestatic 141, 3) := by decide +kernel
theorem dX5_pulled_4 : decode cX5_pulled 4 = .ok (.ifCond .eq 10, 3) := by decide +kernel
theorem dX5_pulled_7 : decode cX5_pulled 7 = .ok (.iload_n 2, 1) := by decide +kernel
theorem dX5_pulled_8 : decode cX5_pulled 8 = .ok (.invokestatic 100, 3) := by decide +kernel
theorem dX5_pulled_11 : decode cX5_pulled 11 = .ok (.ifCond .ne 6, 3) := by decide +kernel
theorem dX5_pulled_14 : decode cX5_pulled 14 = .ok (.bipush (-2), 2) := by decide +kernel
theorem dX5_pulled_16 : decode cX5_pulled 16 = .ok (.ireturn, 1) := by decide +kernel
theorem dX5_pulled_17 : decode cX5_pulled 17 = .ok (.aload_n 0, 1) := by decide +kernel
theorem dX5_pulled_18 : decode cX5_pulled 18 = .ok (.getfield 19, 3) := by decide +kernel
theorem dX5_pulled_21 : decode cX5_pulled 21 = .ok (.getfield 110, 3) := by decide +kernel
theorem dX5_pulled_24 : decode cX5_pulled 24 = .ok (.ifCond .eq 14, 3) := by decide +kernel
theorem dX5_pulled_27 : decode cX5_pulled 27 = .ok (.aload_n 0, 1) := by decide +kernel
theorem dX5_pulled_28 : decode cX5_pulled 28 = .ok (.getfield 29, 3) := by decide +kernel
theorem dX5_pulled_31 : decode cX5_pulled 31 = .ok (.iload_n 2, 1) := by decide +kernel
theorem dX5_pulled_32 : decode cX5_pulled 32 = .ok (.invokevirtual 103, 3) := by decide +kernel
theorem dX5_pulled_35 : decode cX5_pulled 35 = .ok (.ifCond .eq 6, 3) := by decide +kernel
theorem dX5_pulled_38 : decode cX5_pulled 38 = .ok (.bipush (-4), 2) := by decide +kernel
theorem dX5_pulled_40 : decode cX5_pulled 40 = .ok (.ireturn, 1) := by decide +kernel
theorem dX5_pulled_41 : decode cX5_pulled 41 = .ok (.aload_n 0, 1) := by decide +kernel
theorem dX5_pulled_42 : decode cX5_pulled 42 = .ok (.getfield 33, 3) := by decide +kernel
theorem dX5_pulled_45 : decode cX5_pulled 45 = .ok (.aload_n 0, 1) := by decide +kernel
theorem dX5_pulled_46 : decode cX5_pulled 46 = .ok (.getfield 29, 3) := by decide +kernel
theorem dX5_pulled_49 : decode cX5_pulled 49 = .ok (.invokevirtual 131, 3) := by decide +kernel
theorem dX5_pulled_52 : decode cX5_pulled 52 = .ok (.aload_n 0, 1) := by decide +kernel
theorem dX5_pulled_53 : decode cX5_pulled 53 = .ok (.getfield 33, 3) := by decide +kernel
theorem dX5_pulled_56 : decode cX5_pulled 56 = .ok (.iload_n 2, 1) := by decide +kernel
theorem dX5_pulled_57 : decode cX5_pulled 57 = .ok (.invokevirtual 106, 3) := by decide +kernel
theorem dX5_pulled_60 : decode cX5_pulled 60 = .ok (.aload_n 0, 1) := by decide +kernel
theorem dX5_pulled_61 : decode cX5_pulled 61 = .ok (.getfield 33, 3) := by decide +kernel
theorem dX5_pulled_64 : decode cX5_pulled 64 = .ok (.aload_n 0, 1) := by decide +kernel
theorem dX5_pulled_65 : decode cX5_pulled 65 = .ok (.getfield 19, 3) := by decide +kernel
theorem dX5_pulled_68 : decode cX5_pulled 68 = .ok (.invokevirtual 113, 3) := by decide +kernel
theorem dX5_pulled_71 : decode cX5_pulled 71 = .ok (.aload_n 0, 1) := by decide +kernel
theorem dX5_pulled_72 : decode cX5_pulled 72 = .ok (.getfield 33, 3) := by decide +kernel
theorem dX5_pulled_75 : decode cX5_pulled 75 = .ok (.iload_n 1, 1) := by decide +kernel
theorem dX5_pulled_76 : decode cX5_pulled 76 = .ok (.invokevirtual 144, 3) := by decide +kernel
theorem dX5_pulled_79 : decode cX5_pulled 79 = .ok (.getfield 120, 3) := by decide +kernel
theorem dX5_pulled_82 : decode cX5_pulled 82 = .ok (.ireturn, 1) := by decide +kernel
set_option maxRecDepth 20000 in
theorem ggX5_shelf_X5_isShelf : GoodIn wsX5_shelf wsX5_isShelf := goodIn_r _ [5] (by decide +kernel) (by decide +kernel)
set_option maxRecDepth 20000 in
theorem gX5_shelf_X5_isShelf : GoodIn wsX5_shelf (va_wsS RX5 186 yX5_isShelf wsX5_isShelf) := goodIn_app (goodIn_of _ (by decide +kernel)) ggX5_shelf_X5_isShelf
set_option maxRecDepth 20000 in
theorem ggX5_shelf_X3_makeNew : GoodIn wsX5_shelf wsX3_makeNew := goodIn_r _ [10, 11, 12, 13, 14, 15, 16, 17, 18, 30, 31, 32, 33] (by decide +kernel) (by decide +kernel)
set_option maxRecDepth 20000 in
theorem gX5_shelf_X3_makeNew : GoodIn wsX5_shelf (wsV RX5 189 RX3 yX3_makeNew wsX3_makeNew) := goodIn_app (goodIn_of _ (by decide +kernel)) ggX5_shelf_X3_makeNew
theorem dX5_shelf_0 : decode cX5_shelf 0 = .ok (.iload_n 1, 1) := by decide +kernel
theorem dX5_shelf_1 : decode cX5_shelf 1 = .ok (.invokestatic 186, 3) := by decide +kernel
theorem dX5_shelf_4 : decode cX5_shelf 4 = .ok (.ifCond .ne 6, 3) := by decide +kernel
theorem dX5_shelf_7 : decode cX5_shelf 7 = .ok (.bipush (-2), 2) := by decide +kernel
theorem dX5_shelf_9 : decode cX5_shelf 9 = .ok (.ireturn, 1) := by decide +kernel
theorem dX5_shelf_10 : decode cX5_shelf 10 = .ok (.iload_n 2, 1) := by decide +kernel
theorem dX5_shelf_11 : decode cX5_shelf 11 = .ok (.ifCond .lt 14, 3) := by decide +kernel
theorem dX5_shelf_14 : decode cX5_shelf 14 = .ok (.iload_n 2, 1) := by decide +kernel
theorem dX5_shelf_15 : decode cX5_shelf 15 = .ok (.iconst 2, 1) := by decide +kernel
theorem dX5_shelf_16 : decode cX5_shelf 16 = .ok (.if_icmp .gt 9, 3) := by decide +kernel
theorem dX5_shelf_19 : decode cX5_shelf 19 = .ok (.iload_n 3, 1) := by decide +kernel
theorem dX5_shelf_20 : decode cX5_shelf 20 = .ok (.bipush 8, 2) := by decide +kernel
theorem dX5_shelf_22 : decode cX5_shelf 22 = .ok (.if_icmp .le 6, 3) := by decide +kernel
theorem dX5_shelf_25 : decode cX5_shelf 25 = .ok (.bipush (-3), 2) := by decide +kernel
theorem dX5_shelf_27 : decode cX5_shelf 27 = .ok (.ireturn, 1) := by decide +kernel
theorem dX5_shelf_28 : decode cX5_shelf 28 = .ok (.iload_n 3, 1) := by decide +kernel
theorem dX5_shelf_29 : decode cX5_shelf 29 = .ok (.ifCond .ge 6, 3) := by decide +kernel
theorem dX5_shelf_32 : decode cX5_shelf 32 = .ok (.bipush (-12), 2) := by decide +kernel
theorem dX5_shelf_34 : decode cX5_shelf 34 = .ok (.ireturn, 1) := by decide +kernel
theorem dX5_shelf_35 : decode cX5_shelf 35 = .ok (.aload_n 0, 1) := by decide +kernel
theorem dX5_shelf_36 : decode cX5_shelf 36 = .ok (.getfield 49, 3) := by decide +kernel
theorem dX5_shelf_39 : decode cX5_shelf 39 = .ok (.iload_n 1, 1) := by decide +kernel
theorem dX5_shelf_40 : decode cX5_shelf 40 = .ok (.aaload, 1) := by decide +kernel
theorem dX5_shelf_41 : decode cX5_shelf 41 = .ok (.iload_n 2, 1) := by decide +kernel
theorem dX5_shelf_42 : decode cX5_shelf 42 = .ok (.iload_n 3, 1) := by decide +kernel
theorem dX5_shelf_43 : decode cX5_shelf 43 = .ok (.invokevirtual 189, 3) := by decide +kernel
theorem dX5_shelf_46 : decode cX5_shelf 46 = .ok (.iload_n 3, 1) := by decide +kernel
theorem dX5_shelf_47 : decode cX5_shelf 47 = .ok (.ireturn, 1) := by decide +kernel
set_option maxRecDepth 20000 in
theorem ggX5_lay_X5_isShelf : GoodIn wsX5_lay wsX5_isShelf := goodIn_r _ [5] (by decide +kernel) (by decide +kernel)
set_option maxRecDepth 20000 in
theorem gX5_lay_X5_isShelf : GoodIn wsX5_lay (va_wsS RX5 186 yX5_isShelf wsX5_isShelf) := goodIn_app (goodIn_of _ (by decide +kernel)) ggX5_lay_X5_isShelf
set_option maxRecDepth 20000 in
theorem ggX5_lay_X3_refusalOf : GoodIn wsX5_lay wsX3_refusalOf := goodIn_r _ [10, 11, 12, 13, 14, 9, 15, 16, 17, 18, 19, 20, 21, 33, 34, 35, 36] (by decide +kernel) (by decide +kernel)
set_option maxRecDepth 20000 in
theorem gX5_lay_X3_refusalOf : GoodIn wsX5_lay (wsV RX5 193 RX3 yX3_refusalOf wsX3_refusalOf) := goodIn_app (goodIn_of _ (by decide +kernel)) ggX5_lay_X3_refusalOf
theorem dX5_lay_0 : decode cX5_lay 0 = .ok (.iload_n 1, 1) := by decide +kernel
theorem dX5_lay_1 : decode cX5_lay 1 = .ok (.invokestatic 186, 3) := by decide +kernel
theorem dX5_lay_4 : decode cX5_lay 4 = .ok (.ifCond .ne 6, 3) := by decide +kernel
theorem dX5_lay_7 : decode cX5_lay 7 = .ok (.bipush (-2), 2) := by decide +kernel
theorem dX5_lay_9 : decode cX5_lay 9 = .ok (.ireturn, 1) := by decide +kernel
theorem dX5_lay_10 : decode cX5_lay 10 = .ok (.iload_n 3, 1) := by decide +kernel
theorem dX5_lay_11 : decode cX5_lay 11 = .ok (.iconst 1, 1) := by decide +kernel
theorem dX5_lay_12 : decode cX5_lay 12 = .ok (.if_icmp .lt 21, 3) := by decide +kernel
theorem dX5_lay_15 : decode cX5_lay 15 = .ok (.iload_n 3, 1) := by decide +kernel
theorem dX5_lay_16 : decode cX5_lay 16 = .ok (.iconst 2, 1) := by decide +kernel
theorem dX5_lay_17 : decode cX5_lay 17 = .ok (.if_icmp .gt 16, 3) := by decide +kernel
theorem dX5_lay_20 : decode cX5_lay 20 = .ok (.iload 4, 2) := by decide +kernel
theorem dX5_lay_22 : decode cX5_lay 22 = .ok (.ifCond .lt 11, 3) := by decide +kernel
theorem dX5_lay_25 : decode cX5_lay 25 = .ok (.iload 4, 2) := by decide +kernel
theorem dX5_lay_27 : decode cX5_lay 27 = .ok (.sipush 1000, 3) := by decide +kernel
theorem dX5_lay_30 : decode cX5_lay 30 = .ok (.if_icmp .lt 6, 3) := by decide +kernel
theorem dX5_lay_33 : decode cX5_lay 33 = .ok (.bipush (-3), 2) := by decide +kernel
theorem dX5_lay_35 : decode cX5_lay 35 = .ok (.ireturn, 1) := by decide +kernel
theorem dX5_lay_36 : decode cX5_lay 36 = .ok (.iload_n 3, 1) := by decide +kernel
theorem dX5_lay_37 : decode cX5_lay 37 = .ok (.iconst 1, 1) := by decide +kernel
theorem dX5_lay_38 : decode cX5_lay 38 = .ok (.if_icmp .ne 8, 3) := by decide +kernel
theorem dX5_lay_41 : decode cX5_lay 41 = .ok (.iload 4, 2) := by decide +kernel
theorem dX5_lay_43 : decode cX5_lay 43 = .ok (.goto 9, 3) := by decide +kernel
theorem dX5_lay_46 : decode cX5_lay 46 = .ok (.sipush 1000, 3) := by decide +kernel
theorem dX5_lay_49 : decode cX5_lay 49 = .ok (.iload 4, 2) := by decide +kernel
theorem dX5_lay_51 : decode cX5_lay 51 = .ok (.iadd, 1) := by decide +kernel
theorem dX5_lay_52 : decode cX5_lay 52 = .ok (.istore 5, 2) := by decide +kernel
theorem dX5_lay_54 : decode cX5_lay 54 = .ok (.aload_n 0, 1) := by decide +kernel
theorem dX5_lay_55 : decode cX5_lay 55 = .ok (.getfield 49, 3) := by decide +kernel
theorem dX5_lay_58 : decode cX5_lay 58 = .ok (.iload_n 1, 1) := by decide +kernel
theorem dX5_lay_59 : decode cX5_lay 59 = .ok (.aaload, 1) := by decide +kernel
theorem dX5_lay_60 : decode cX5_lay 60 = .ok (.iload_n 2, 1) := by decide +kernel
theorem dX5_lay_61 : decode cX5_lay 61 = .ok (.iload 5, 2) := by decide +kernel
theorem dX5_lay_63 : decode cX5_lay 63 = .ok (.invokevirtual 193, 3) := by decide +kernel
theorem dX5_lay_66 : decode cX5_lay 66 = .ok (.istore 6, 2) := by decide +kernel
theorem dX5_lay_68 : decode cX5_lay 68 = .ok (.iload 6, 2) := by decide +kernel
theorem dX5_lay_70 : decode cX5_lay 70 = .ok (.iconst (-1), 1) := by decide +kernel
theorem dX5_lay_71 : decode cX5_lay 71 = .ok (.if_icmp .eq 6, 3) := by decide +kernel
theorem dX5_lay_74 : decode cX5_lay 74 = .ok (.iload 6, 2) := by decide +kernel
theorem dX5_lay_76 : decode cX5_lay 76 = .ok (.ireturn, 1) := by decide +kernel
theorem dX5_lay_77 : decode cX5_lay 77 = .ok (.aload_n 0, 1) := by decide +kernel
theorem dX5_lay_78 : decode cX5_lay 78 = .ok (.getfield 49, 3) := by decide +kernel
theorem dX5_lay_81 : decode cX5_lay 81 = .ok (.iload_n 1, 1) := by decide +kernel
theorem dX5_lay_82 : decode cX5_lay 82 = .ok (.aaload, 1) := by decide +kernel
theorem dX5_lay_83 : decode cX5_lay 83 = .ok (.getfield 196, 3) := by decide +kernel
theorem dX5_lay_86 : decode cX5_lay 86 = .ok (.iload_n 2, 1) := by decide +kernel
theorem dX5_lay_87 : decode cX5_lay 87 = .ok (.iload 5, 2) := by decide +kernel
theorem dX5_lay_89 : decode cX5_lay 89 = .ok (.iastore, 1) := by decide +kernel
theorem dX5_lay_90 : decode cX5_lay 90 = .ok (.iload 4, 2) := by decide +kernel
theorem dX5_lay_92 : decode cX5_lay 92 = .ok (.ireturn, 1) := by decide +kernel
set_option maxRecDepth 20000 in
theorem ggX5_look_X5_isShelf : GoodIn wsX5_look wsX5_isShelf := goodIn_r _ [5] (by decide +kernel) (by decide +kernel)
set_option maxRecDepth 20000 in
theorem gX5_look_X5_isShelf : GoodIn wsX5_look (va_wsS RX5 186 yX5_isShelf wsX5_isShelf) := goodIn_app (goodIn_of _ (by decide +kernel)) ggX5_look_X5_isShelf
set_option maxRecDepth 20000 in
theorem ggX5_look_X3_markAt : GoodIn wsX5_look wsX3_markAt := goodIn_r _ [10, 11, 12, 13, 14, 15, 9, 16, 17, 29, 30, 31, 32] (by decide +kernel) (by decide +kernel)
set_option maxRecDepth 20000 in
theorem gX5_look_X3_markAt : GoodIn wsX5_look (wsV RX5 199 RX3 yX3_markAt wsX3_markAt) := goodIn_app (goodIn_of _ (by decide +kernel)) ggX5_look_X3_markAt
theorem dX5_look_0 : decode cX5_look 0 = .ok (.iload_n 1, 1) := by decide +kernel
theorem dX5_look_1 : decode cX5_look 1 = .ok (.invokestatic 186, 3) := by decide +kernel
theorem dX5_look_4 : decode cX5_look 4 = .ok (.ifCond .eq 16, 3) := by decide +kernel
theorem dX5_look_7 : decode cX5_look 7 = .ok (.aload_n 0, 1) := by decide +kernel
theorem dX5_look_8 : decode cX5_look 8 = .ok (.getfield 49, 3) := by decide +kernel
theorem dX5_look_11 : decode cX5_look 11 = .ok (.iload_n 1, 1) := by decide +kernel
theorem dX5_look_12 : decode cX5_look 12 = .ok (.aaload, 1) := by decide +kernel
theorem dX5_look_13 : decode cX5_look 13 = .ok (.iload_n 2, 1) := by decide +kernel
theorem dX5_look_14 : decode cX5_look 14 = .ok (.invokevirtual 199, 3) := by decide +kernel
theorem dX5_look_17 : decode cX5_look 17 = .ok (.goto 5, 3) := by decide +kernel
theorem dX5_look_20 : decode cX5_look 20 = .ok (.bipush (-2), 2) := by decide +kernel
theorem dX5_look_22 : decode cX5_look 22 = .ok (.ireturn, 1) := by decide +kernel
set_option maxRecDepth 20000 in
theorem ggX5_lift_X5_isShelf : GoodIn wsX5_lift wsX5_isShelf := goodIn_r _ [5] (by decide +kernel) (by decide +kernel)
set_option maxRecDepth 20000 in
theorem gX5_lift_X5_isShelf : GoodIn wsX5_lift (va_wsS RX5 186 yX5_isShelf wsX5_isShelf) := goodIn_app (goodIn_of _ (by decide +kernel)) ggX5_lift_X5_isShelf
set_option maxRecDepth 20000 in
theorem ggX5_lift_X3_markAt : GoodIn wsX5_lift wsX3_markAt := goodIn_r _ [10, 11, 12, 13, 14, 15, 9, 16, 17, 29, 30, 31, 32] (by decide +kernel) (by decide +kernel)
set_option maxRecDepth 20000 in
theorem gX5_lift_X3_markAt : GoodIn wsX5_lift (wsV RX5 199 RX3 yX3_markAt wsX3_markAt) := goodIn_app (goodIn_of _ (by decide +kernel)) ggX5_lift_X3_markAt
theorem dX5_lift_0 : decode cX5_lift 0 = .ok (.iload_n 1, 1) := by decide +kernel
theorem dX5_lift_1 : decode cX5_lift 1 = .ok (.invokestatic 186, 3) := by decide +kernel
theorem dX5_lift_4 : decode cX5_lift 4 = .ok (.ifCond .ne 6, 3) := by decide +kernel
theorem dX5_lift_7 : decode cX5_lift 7 = .ok (.bipush (-2), 2) := by decide +kernel
theorem dX5_lift_9 : decode cX5_lift 9 = .ok (.ireturn, 1) := by decide +kernel
theorem dX5_lift_10 : decode cX5_lift 10 = .ok (.aload_n 0, 1) := by decide +kernel
theorem dX5_lift_11 : decode cX5_lift 11 = .ok (.getfield 49, 3) := by decide +kernel
theorem dX5_lift_14 : decode cX5_lift 14 = .ok (.iload_n 1, 1) := by decide +kernel
theorem dX5_lift_15 : decode cX5_lift 15 = .ok (.aaload, 1) := by decide +kernel
theorem dX5_lift_16 : decode cX5_lift 16 = .ok (.iload_n 2, 1) := by decide +kernel
theorem dX5_lift_17 : decode cX5_lift 17 = .ok (.invokevirtual 199, 3) := by decide +kernel
theorem dX5_lift_20 : decode cX5_lift 20 = .ok (.istore_n 3, 1) := by decide +kernel
theorem dX5_lift_21 : decode cX5_lift 21 = .ok (.iload_n 3, 1) := by decide +kernel
theorem dX5_lift_22 : decode cX5_lift 22 = .ok (.ifCond .lt 16, 3) := by decide +kernel
theorem dX5_lift_25 : decode cX5_lift 25 = .ok (.aload_n 0, 1) := by decide +kernel
theorem dX5_lift_26 : decode cX5_lift 26 = .ok (.getfield 49, 3) := by decide +kernel
theorem dX5_lift_29 : decode cX5_lift 29 = .ok (.iload_n 1, 1) := by decide +kernel
theorem dX5_lift_30 : decode cX5_lift 30 = .ok (.aaload, 1) := by decide +kernel
theorem dX5_lift_31 : decode cX5_lift 31 = .ok (.getfield 196, 3) := by decide +kernel
theorem dX5_lift_34 : decode cX5_lift 34 = .ok (.iload_n 2, 1) := by decide +kernel
theorem dX5_lift_35 : decode cX5_lift 35 = .ok (.bipush (-15), 2) := by decide +kernel
theorem dX5_lift_37 : decode cX5_lift 37 = .ok (.iastore, 1) := by decide +kernel
theorem dX5_lift_38 : decode cX5_lift 38 = .ok (.iload_n 3, 1) := by decide +kernel
theorem dX5_lift_39 : decode cX5_lift 39 = .ok (.ireturn, 1) := by decide +kernel
set_option maxRecDepth 20000 in
theorem ggX5_likeness_X5_isShelf : GoodIn wsX5_likeness wsX5_isShelf := goodIn_r _ [5] (by decide +kernel) (by decide +kernel)
set_option maxRecDepth 20000 in
theorem gX5_likeness_X5_isShelf : GoodIn wsX5_likeness (va_wsS RX5 186 yX5_isShelf wsX5_isShelf) := goodIn_app (goodIn_of _ (by decide +kernel)) ggX5_likeness_X5_isShelf
set_option maxRecDepth 20000 in
theorem ggX5_likeness_X3_copyFrom : GoodIn wsX5_likeness wsX3_copyFrom := goodIn_r _ [10, 11, 12, 13, 14, 15, 16, 17, 18, 30, 31, 32, 33] (by decide +kernel) (by decide +kernel)
set_option maxRecDepth 20000 in
theorem gX5_likeness_X3_copyFrom : GoodIn wsX5_likeness (wsV RX5 206 RX3 yX3_copyFrom wsX3_copyFrom) := goodIn_app (goodIn_of _ (by decide +kernel)) ggX5_likeness_X3_copyFrom
theorem dX5_likeness_0 : decode cX5_likeness 0 = .ok (.iload_n 1, 1) := by decide +kernel
theorem dX5_likeness_1 : decode cX5_likeness 1 = .ok (.invokestatic 186, 3) := by decide +kernel
theorem dX5_likeness_4 : decode cX5_likeness 4 = .ok (.ifCond .eq 10, 3) := by decide +kernel
theorem dX5_likeness_7 : decode cX5_likeness 7 = .ok (.iload_n 2, 1) := by decide +kernel
theorem dX5_likeness_8 : decode cX5_likeness 8 = .ok (.invokestatic 186, 3) := by decide +kernel
theorem dX5_likeness_11 : decode cX5_likeness 11 = .ok (.ifCond .ne 6, 3) := by decide +kernel
theorem dX5_likeness_14 : decode cX5_likeness 14 = .ok (.bipush (-2), 2) := by decide +kernel
theorem dX5_likeness_16 : decode cX5_likeness 16 = .ok (.ireturn, 1) := by decide +kernel
theorem dX5_likeness_17 : decode cX5_likeness 17 = .ok (.aload_n 0, 1) := by decide +kernel
theorem dX5_likeness_18 : decode cX5_likeness 18 = .ok (.getfield 49, 3) := by decide +kernel
theorem dX5_likeness_21 : decode cX5_likeness 21 = .ok (.iload_n 2, 1) := by decide +kernel
theorem dX5_likeness_22 : decode cX5_likeness 22 = .ok (.aaload, 1) := by decide +kernel
theorem dX5_likeness_23 : decode cX5_likeness 23 = .ok (.getfield 202, 3) := by decide +kernel
theorem dX5_likeness_26 : decode cX5_likeness 26 = .ok (.ifCond .eq 6, 3) := by decide +kernel
theorem dX5_likeness_29 : decode cX5_likeness 29 = .ok (.bipush (-11), 2) := by decide +kernel
theorem dX5_likeness_31 : decode cX5_likeness 31 = .ok (.ireturn, 1) := by decide +kernel
theorem dX5_likeness_32 : decode cX5_likeness 32 = .ok (.aload_n 0, 1) := by decide +kernel
theorem dX5_likeness_33 : decode cX5_likeness 33 = .ok (.getfield 49, 3) := by decide +kernel
theorem dX5_likeness_36 : decode cX5_likeness 36 = .ok (.iload_n 1, 1) := by decide +kernel
theorem dX5_likeness_37 : decode cX5_likeness 37 = .ok (.aaload, 1) := by decide +kernel
theorem dX5_likeness_38 : decode cX5_likeness 38 = .ok (.aload_n 0, 1) := by decide +kernel
theorem dX5_likeness_39 : decode cX5_likeness 39 = .ok (.getfield 49, 3) := by decide +kernel
theorem dX5_likeness_42 : decode cX5_likeness 42 = .ok (.iload_n 2, 1) := by decide +kernel
theorem dX5_likeness_43 : decode cX5_likeness 43 = .ok (.aaload, 1) := by decide +kernel
theorem dX5_likeness_44 : decode cX5_likeness 44 = .ok (.invokevirtual 206, 3) := by decide +kernel
theorem dX5_likeness_47 : decode cX5_likeness 47 = .ok (.aload_n 0, 1) := by decide +kernel
theorem dX5_likeness_48 : decode cX5_likeness 48 = .ok (.getfield 49, 3) := by decide +kernel
theorem dX5_likeness_51 : decode cX5_likeness 51 = .ok (.iload_n 1, 1) := by decide +kernel
theorem dX5_likeness_52 : decode cX5_likeness 52 = .ok (.aaload, 1) := by decide +kernel
theorem dX5_likeness_53 : decode cX5_likeness 53 = .ok (.getfield 209, 3) := by decide +kernel
theorem dX5_likeness_56 : decode cX5_likeness 56 = .ok (.ireturn, 1) := by decide +kernel
set_option maxRecDepth 20000 in
theorem ggX5_hand_X5_isShelf : GoodIn wsX5_hand wsX5_isShelf := goodIn_r _ [5] (by decide +kernel) (by decide +kernel)
set_option maxRecDepth 20000 in
theorem gX5_hand_X5_isShelf : GoodIn wsX5_hand (va_wsS RX5 186 yX5_isShelf wsX5_isShelf) := goodIn_app (goodIn_of _ (by decide +kernel)) ggX5_hand_X5_isShelf
set_option maxRecDepth 20000 in
theorem ggX5_hand_X3_hasPlace : GoodIn wsX5_hand wsX3_hasPlace := goodIn_r _ [10, 11, 28, 29, 30, 31] (by decide +kernel) (by decide +kernel)
set_option maxRecDepth 20000 in
theorem gX5_hand_X3_hasPlace : GoodIn wsX5_hand (wsV RX5 212 RX3 yX3_hasPlace wsX3_hasPlace) := goodIn_app (goodIn_of _ (by decide +kernel)) ggX5_hand_X3_hasPlace
set_option maxRecDepth 20000 in
theorem ggX5_hand_X3_takes : GoodIn wsX5_hand wsX3_takes := goodIn_r _ [15, 16, 28, 29, 30, 31] (by decide +kernel) (by decide +kernel)
set_option maxRecDepth 20000 in
theorem gX5_hand_X3_takes : GoodIn wsX5_hand (wsV RX5 215 RX3 yX3_takes wsX3_takes) := goodIn_app (goodIn_of _ (by decide +kernel)) ggX5_hand_X3_takes
theorem dX5_hand_0 : decode cX5_hand 0 = .ok (.iload_n 1, 1) := by decide +kernel
theorem dX5_hand_1 : decode cX5_hand 1 = .ok (.invokestatic 186, 3) := by decide +kernel
theorem dX5_hand_4 : decode cX5_hand 4 = .ok (.ifCond .eq 10, 3) := by decide +kernel
theorem dX5_hand_7 : decode cX5_hand 7 = .ok (.iload_n 3, 1) := by decide +kernel
theorem dX5_hand_8 : decode cX5_hand 8 = .ok (.invokestatic 186, 3) := by decide +kernel
theorem dX5_hand_11 : decode cX5_hand 11 = .ok (.ifCond .ne 6, 3) := by decide +kernel
theorem dX5_hand_14 : decode cX5_hand 14 = .ok (.bipush (-2), 2) := by decide +kernel
theorem dX5_hand_16 : decode cX5_hand 16 = .ok (.ireturn, 1) := by decide +kernel
theorem dX5_hand_17 : decode cX5_hand 17 = .ok (.aload_n 0, 1) := by decide +kernel
theorem dX5_hand_18 : decode cX5_hand 18 = .ok (.getfield 49, 3) := by decide +kernel
theorem dX5_hand_21 : decode cX5_hand 21 = .ok (.iload_n 1, 1) := by decide +kernel
theorem dX5_hand_22 : decode cX5_hand 22 = .ok (.aaload, 1) := by decide +kernel
theorem dX5_hand_23 : decode cX5_hand 23 = .ok (.astore 5, 2) := by decide +kernel
theorem dX5_hand_25 : decode cX5_hand 25 = .ok (.aload_n 0, 1) := by decide +kernel
theorem dX5_hand_26 : decode cX5_hand 26 = .ok (.getfield 49, 3) := by decide +kernel
theorem dX5_hand_29 : decode cX5_hand 29 = .ok (.iload_n 3, 1) := by decide +kernel
theorem dX5_hand_30 : decode cX5_hand 30 = .ok (.aaload, 1) := by decide +kernel
theorem dX5_hand_31 : decode cX5_hand 31 = .ok (.astore 6, 2) := by decide +kernel
theorem dX5_hand_33 : decode cX5_hand 33 = .ok (.aload 5, 2) := by decide +kernel
theorem dX5_hand_35 : decode cX5_hand 35 = .ok (.getfield 202, 3) := by decide +kernel
theorem dX5_hand_38 : decode cX5_hand 38 = .ok (.ifCond .ne 11, 3) := by decide +kernel
theorem dX5_hand_41 : decode cX5_hand 41 = .ok (.aload 6, 2) := by decide +kernel
theorem dX5_hand_43 : decode cX5_hand 43 = .ok (.getfield 202, 3) := by decide +kernel
theorem dX5_hand_46 : decode cX5_hand 46 = .ok (.ifCond .eq 6, 3) := by decide +kernel
theorem dX5_hand_49 : decode cX5_hand 49 = .ok (.bipush (-11), 2) := by decide +kernel
theorem dX5_hand_51 : decode cX5_hand 51 = .ok (.ireturn, 1) := by decide +kernel
theorem dX5_hand_52 : decode cX5_hand 52 = .ok (.aload 5, 2) := by decide +kernel
theorem dX5_hand_54 : decode cX5_hand 54 = .ok (.iload_n 2, 1) := by decide +kernel
theorem dX5_hand_55 : decode cX5_hand 55 = .ok (.invokevirtual 212, 3) := by decide +kernel
theorem dX5_hand_58 : decode cX5_hand 58 = .ok (.ifCond .eq 13, 3) := by decide +kernel
theorem dX5_hand_61 : decode cX5_hand 61 = .ok (.aload 6, 2) := by decide +kernel
theorem dX5_hand_63 : decode cX5_hand 63 = .ok (.iload 4, 2) := by decide +kernel
theorem dX5_hand_65 : decode cX5_hand 65 = .ok (.invokevirtual 212, 3) := by decide +kernel
theorem dX5_hand_68 : decode cX5_hand 68 = .ok (.ifCond .ne 6, 3) := by decide +kernel
theorem dX5_hand_71 : decode cX5_hand 71 = .ok (.bipush (-13), 2) := by decide +kernel
theorem dX5_hand_73 : decode cX5_hand 73 = .ok (.ireturn, 1) := by decide +kernel
theorem dX5_hand_74 : decode cX5_hand 74 = .ok (.aload 5, 2) := by decide +kernel
theorem dX5_hand_76 : decode cX5_hand 76 = .ok (.getfield 196, 3) := by decide +kernel
theorem dX5_hand_79 : decode cX5_hand 79 = .ok (.iload_n 2, 1) := by decide +kernel
theorem dX5_hand_80 : decode cX5_hand 80 = .ok (.iaload, 1) := by decide +kernel
theorem dX5_hand_81 : decode cX5_hand 81 = .ok (.istore 7, 2) := by decide +kernel
theorem dX5_hand_83 : decode cX5_hand 83 = .ok (.iload 7, 2) := by decide +kernel
theorem dX5_hand_85 : decode cX5_hand 85 = .ok (.ifCond .ge 6, 3) := by decide +kernel
theorem dX5_hand_88 : decode cX5_hand 88 = .ok (.bipush (-15), 2) := by decide +kernel
theorem dX5_hand_90 : decode cX5_hand 90 = .ok (.ireturn, 1) := by decide +kernel
theorem dX5_hand_91 : decode cX5_hand 91 = .ok (.aload 6, 2) := by decide +kernel
theorem dX5_hand_93 : decode cX5_hand 93 = .ok (.iload 7, 2) := by decide +kernel
theorem dX5_hand_95 : decode cX5_hand 95 = .ok (.invokevirtual 215, 3) := by decide +kernel
theorem dX5_hand_98 : decode cX5_hand 98 = .ok (.ifCond .ne 6, 3) := by decide +kernel
theorem dX5_hand_101 : decode cX5_hand 101 = .ok (.bipush (-14), 2) := by decide +kernel
theorem dX5_hand_103 : decode cX5_hand 103 = .ok (.ireturn, 1) := by decide +kernel
theorem dX5_hand_104 : decode cX5_hand 104 = .ok (.aload 6, 2) := by decide +kernel
theorem dX5_hand_106 : decode cX5_hand 106 = .ok (.getfield 196, 3) := by decide +kernel
theorem dX5_hand_109 : decode cX5_hand 109 = .ok (.iload 4, 2) := by decide +kernel
theorem dX5_hand_111 : decode cX5_hand 111 = .ok (.iload 7, 2) := by decide +kernel
theorem dX5_hand_113 : decode cX5_hand 113 = .ok (.iastore, 1) := by decide +kernel
theorem dX5_hand_114 : decode cX5_hand 114 = .ok (.iconst 1, 1) := by decide +kernel
theorem dX5_hand_115 : decode cX5_hand 115 = .ok (.ireturn, 1) := by decide +kernel
set_option maxRecDepth 20000 in
theorem ggX5_drop_X5_isShelf : GoodIn wsX5_drop wsX5_isShelf := goodIn_r _ [5] (by decide +kernel) (by decide +kernel)
set_option maxRecDepth 20000 in
theorem gX5_drop_X5_isShelf : GoodIn wsX5_drop (va_wsS RX5 186 yX5_isShelf wsX5_isShelf) := goodIn_app (goodIn_of _ (by decide +kernel)) ggX5_drop_X5_isShelf
set_option maxRecDepth 20000 in
theorem ggX5_drop_X3_remove : GoodIn wsX5_drop wsX3_remove := goodIn_r _ [10, 11, 12, 13, 14, 9, 15, 16, 17, 18, 19, 20, 21, 22, 34, 35, 36, 37] (by decide +kernel) (by decide +kernel)
set_option maxRecDepth 20000 in
theorem gX5_drop_X3_remove : GoodIn wsX5_drop (wsV RX5 218 RX3 yX3_remove wsX3_remove) := goodIn_app (goodIn_of _ (by decide +kernel)) ggX5_drop_X3_remove
theorem dX5_drop_0 : decode cX5_drop 0 = .ok (.iload_n 1, 1) := by decide +kernel
theorem dX5_drop_1 : decode cX5_drop 1 = .ok (.invokestatic 186, 3) := by decide +kernel
theorem dX5_drop_4 : decode cX5_drop 4 = .ok (.ifCond .ne 6, 3) := by decide +kernel
theorem dX5_drop_7 : decode cX5_drop 7 = .ok (.bipush (-2), 2) := by decide +kernel
theorem dX5_drop_9 : decode cX5_drop 9 = .ok (.ireturn, 1) := by decide +kernel
theorem dX5_drop_10 : decode cX5_drop 10 = .ok (.aload_n 0, 1) := by decide +kernel
theorem dX5_drop_11 : decode cX5_drop 11 = .ok (.getfield 49, 3) := by decide +kernel
theorem dX5_drop_14 : decode cX5_drop 14 = .ok (.iload_n 1, 1) := by decide +kernel
theorem dX5_drop_15 : decode cX5_drop 15 = .ok (.aaload, 1) := by decide +kernel
theorem dX5_drop_16 : decode cX5_drop 16 = .ok (.getfield 202, 3) := by decide +kernel
theorem dX5_drop_19 : decode cX5_drop 19 = .ok (.ifCond .eq 6, 3) := by decide +kernel
theorem dX5_drop_22 : decode cX5_drop 22 = .ok (.bipush (-11), 2) := by decide +kernel
theorem dX5_drop_24 : decode cX5_drop 24 = .ok (.ireturn, 1) := by decide +kernel
theorem dX5_drop_25 : decode cX5_drop 25 = .ok (.aload_n 0, 1) := by decide +kernel
theorem dX5_drop_26 : decode cX5_drop 26 = .ok (.getfield 49, 3) := by decide +kernel
theorem dX5_drop_29 : decode cX5_drop 29 = .ok (.iload_n 1, 1) := by decide +kernel
theorem dX5_drop_30 : decode cX5_drop 30 = .ok (.aaload, 1) := by decide +kernel
theorem dX5_drop_31 : decode cX5_drop 31 = .ok (.getfield 209, 3) := by decide +kernel
theorem dX5_drop_34 : decode cX5_drop 34 = .ok (.istore_n 2, 1) := by decide +kernel
theorem dX5_drop_35 : decode cX5_drop 35 = .ok (.aload_n 0, 1) := by decide +kernel
theorem dX5_drop_36 : decode cX5_drop 36 = .ok (.getfield 49, 3) := by decide +kernel
theorem dX5_drop_39 : decode cX5_drop 39 = .ok (.iload_n 1, 1) := by decide +kernel
theorem dX5_drop_40 : decode cX5_drop 40 = .ok (.aaload, 1) := by decide +kernel
theorem dX5_drop_41 : decode cX5_drop 41 = .ok (.invokevirtual 218, 3) := by decide +kernel
theorem dX5_drop_44 : decode cX5_drop 44 = .ok (.iload_n 2, 1) := by decide +kernel
theorem dX5_drop_45 : decode cX5_drop 45 = .ok (.ireturn, 1) := by decide +kernel
set_option maxRecDepth 20000 in
theorem ggX5_count_X5_things : GoodIn wsX5_count wsX5_things := goodIn_r _ [9, 10, 11, 12, 13, 14, 15, 16, 17, 18, 19, 20, 21, 22, 23, 24, 25, 26, 27, 28, 46, 47, 48, 49] (by decide +kernel) (by decide +kernel)
set_option maxRecDepth 20000 in
theorem gX5_count_X5_things : GoodIn wsX5_count (wsV RX5 230 RX5 yX5_things wsX5_things) := goodIn_app (goodIn_of _ (by decide +kernel)) ggX5_count_X5_things
theorem dX5_count_0 : decode cX5_count 0 = .ok (.iload_n 1, 1) := by decide +kernel
theorem dX5_count_1 : decode cX5_count 1 = .ok (.tableswitch 156 0 10 #[59, 67, 75, 83, 96, 109, 122, 130, 138, 143, 148], 59) := by decide +kernel
theorem dX5_count_60 : decode cX5_count 60 = .ok (.aload_n 0, 1) := by decide +kernel
theorem dX5_count_61 : decode cX5_count 61 = .ok (.getfield 19, 3) := by decide +kernel
theorem dX5_count_64 : decode cX5_count 64 = .ok (.getfield 110, 3) := by decide +kernel
theorem dX5_count_67 : decode cX5_count 67 = .ok (.ireturn, 1) := by decide +kernel
theorem dX5_count_68 : decode cX5_count 68 = .ok (.aload_n 0, 1) := by decide +kernel
theorem dX5_count_69 : decode cX5_count 69 = .ok (.getfield 19, 3) := by decide +kernel
theorem dX5_count_72 : decode cX5_count 72 = .ok (.getfield 87, 3) := by decide +kernel
theorem dX5_count_75 : decode cX5_count 75 = .ok (.ireturn, 1) := by decide +kernel
theorem dX5_count_76 : decode cX5_count 76 = .ok (.aload_n 0, 1) := by decide +kernel
theorem dX5_count_77 : decode cX5_count 77 = .ok (.getfield 29, 3) := by decide +kernel
theorem dX5_count_80 : decode cX5_count 80 = .ok (.getfield 221, 3) := by decide +kernel
theorem dX5_count_83 : decode cX5_count 83 = .ok (.ireturn, 1) := by decide +kernel
theorem dX5_count_84 : decode cX5_count 84 = .ok (.aload_n 0, 1) := by decide +kernel
theorem dX5_count_85 : decode cX5_count 85 = .ok (.getfield 29, 3) := by decide +kernel
theorem dX5_count_88 : decode cX5_count 88 = .ok (.getfield 94, 3) := by decide +kernel
theorem dX5_count_91 : decode cX5_count 91 = .ok (.iconst 0, 1) := by decide +kernel
theorem dX5_count_92 : decode cX5_count 92 = .ok (.iaload, 1) := by decide +kernel
theorem dX5_count_93 : decode cX5_count 93 = .ok (.bipush 100, 2) := by decide +kernel
theorem dX5_count_95 : decode cX5_count 95 = .ok (.iadd, 1) := by decide +kernel
theorem dX5_count_96 : decode cX5_count 96 = .ok (.ireturn, 1) := by decide +kernel
theorem dX5_count_97 : decode cX5_count 97 = .ok (.aload_n 0, 1) := by decide +kernel
theorem dX5_count_98 : decode cX5_count 98 = .ok (.getfield 29, 3) := by decide +kernel
theorem dX5_count_101 : decode cX5_count 101 = .ok (.getfield 94, 3) := by decide +kernel
theorem dX5_count_104 : decode cX5_count 104 = .ok (.iconst 1, 1) := by decide +kernel
theorem dX5_count_105 : decode cX5_count 105 = .ok (.iaload, 1) := by decide +kernel
theorem dX5_count_106 : decode cX5_count 106 = .ok (.bipush 100, 2) := by decide +kernel
theorem dX5_count_108 : decode cX5_count 108 = .ok (.iadd, 1) := by decide +kernel
theorem dX5_count_109 : decode cX5_count 109 = .ok (.ireturn, 1) := by decide +kernel
theorem dX5_count_110 : decode cX5_count 110 = .ok (.aload_n 0, 1) := by decide +kernel
theorem dX5_count_111 : decode cX5_count 111 = .ok (.getfield 29, 3) := by decide +kernel
theorem dX5_count_114 : decode cX5_count 114 = .ok (.getfield 94, 3) := by decide +kernel
theorem dX5_count_117 : decode cX5_count 117 = .ok (.iconst 2, 1) := by decide +kernel
theorem dX5_count_118 : decode cX5_count 118 = .ok (.iaload, 1) := by decide +kernel
theorem dX5_count_119 : decode cX5_count 119 = .ok (.bipush 100, 2) := by decide +kernel
theorem dX5_count_121 : decode cX5_count 121 = .ok (.iadd, 1) := by decide +kernel
theorem dX5_count_122 : decode cX5_count 122 = .ok (.ireturn, 1) := by decide +kernel
theorem dX5_count_123 : decode cX5_count 123 = .ok (.aload_n 0, 1) := by decide +kernel
theorem dX5_count_124 : decode cX5_count 124 = .ok (.getfield 19, 3) := by decide +kernel
theorem dX5_count_127 : decode cX5_count 127 = .ok (.getfield 224, 3) := by decide +kernel
theorem dX5_count_130 : decode cX5_count 130 = .ok (.ireturn, 1) := by decide +kernel
theorem dX5_count_131 : decode cX5_count 131 = .ok (.aload_n 0, 1) := by decide +kernel
theorem dX5_count_132 : decode cX5_count 132 = .ok (.getfield 19, 3) := by decide +kernel
theorem dX5_count_135 : decode cX5_count 135 = .ok (.getfield 227, 3) := by decide +kernel
theorem dX5_count_138 : decode cX5_count 138 = .ok (.ireturn, 1) := by decide +kernel
theorem dX5_count_139 : decode cX5_count 139 = .ok (.aload_n 0, 1) := by decide +kernel
theorem dX5_count_140 : decode cX5_count 140 = .ok (.invokevirtual 230, 3) := by decide +kernel
theorem dX5_count_143 : decode cX5_count 143 = .ok (.ireturn, 1) := by decide +kernel
theorem dX5_count_144 : decode cX5_count 144 = .ok (.aload_n 0, 1) := by decide +kernel
theorem dX5_count_145 : decode cX5_count 145 = .ok (.getfield 125, 3) := by decide +kernel
theorem dX5_count_148 : decode cX5_count 148 = .ok (.ireturn, 1) := by decide +kernel
theorem dX5_count_149 : decode cX5_count 149 = .ok (.aload_n 0, 1) := by decide +kernel
theorem dX5_count_150 : decode cX5_count 150 = .ok (.getfield 10, 3) := by decide +kernel
theorem dX5_count_153 : decode cX5_count 153 = .ok (.getfield 54, 3) := by decide +kernel
theorem dX5_count_156 : decode cX5_count 156 = .ok (.ireturn, 1) := by decide +kernel
theorem dX5_count_157 : decode cX5_count 157 = .ok (.bipush (-3), 2) := by decide +kernel
theorem dX5_count_159 : decode cX5_count 159 = .ok (.ireturn, 1) := by decide +kernel
theorem dX5_isState_0 : decode cX5_isState 0 = .ok (.iload_n 1, 1) := by decide +kernel
theorem dX5_isState_1 : decode cX5_isState 1 = .ok (.ifCond .lt 18, 3) := by decide +kernel
theorem dX5_isState_4 : decode cX5_isState 4 = .ok (.iload_n 1, 1) := by decide +kernel
theorem dX5_isState_5 : decode cX5_isState 5 = .ok (.aload_n 0, 1) := by decide +kernel
theorem dX5_isState_6 : decode cX5_isState 6 = .ok (.getfield 19, 3) := by decide +kernel
theorem dX5_isState_9 : decode cX5_isState 9 = .ok (.getfield 110, 3) := by decide +kernel
theorem dX5_isState_12 : decode cX5_isState 12 = .ok (.if_icmp .ge 7, 3) := by decide +kernel
theorem dX5_isState_15 : decode cX5_isState 15 = .ok (.iconst 1, 1) := by decide +kernel
theorem dX5_isState_16 : decode cX5_isState 16 = .ok (.goto 4, 3) := by decide +kernel
theorem dX5_isState_19 : decode cX5_isState 19 = .ok (.iconst 0, 1) := by decide +kernel
theorem dX5_isState_20 : decode cX5_isState 20 = .ok (.ireturn, 1) := by decide +kernel
theorem dX5_isLimb_0 : decode cX5_isLimb 0 = .ok (.iload_n 0, 1) := by decide +kernel
theorem dX5_isLimb_1 : decode cX5_isLimb 1 = .ok (.ifCond .lt 12, 3) := by decide +kernel
theorem dX5_isLimb_4 : decode cX5_isLimb 4 = .ok (.iload_n 0, 1) := by decide +kernel
theorem dX5_isLimb_5 : decode cX5_isLimb 5 = .ok (.iconst 4, 1) := by decide +kernel
theorem dX5_isLimb_6 : decode cX5_isLimb 6 = .ok (.if_icmp .ge 7, 3) := by decide +kernel
theorem dX5_isLimb_9 : decode cX5_isLimb 9 = .ok (.iconst 1, 1) := by decide +kernel
theorem dX5_isLimb_10 : decode cX5_isLimb 10 = .ok (.goto 4, 3) := by decide +kernel
theorem dX5_isLimb_13 : decode cX5_isLimb 13 = .ok (.iconst 0, 1) := by decide +kernel
theorem dX5_isLimb_14 : decode cX5_isLimb 14 = .ok (.ireturn, 1) := by decide +kernel
theorem dX5_isLayer_0 : decode cX5_isLayer 0 = .ok (.iload_n 0, 1) := by decide +kernel
theorem dX5_isLayer_1 : decode cX5_isLayer 1 = .ok (.ifCond .lt 12, 3) := by decide +kernel
theorem dX5_isLayer_4 : decode cX5_isLayer 4 = .ok (.iload_n 0, 1) := by decide +kernel
theorem dX5_isLayer_5 : decode cX5_isLayer 5 = .ok (.iconst 2, 1) := by decide +kernel
theorem dX5_isLayer_6 : decode cX5_isLayer 6 = .ok (.if_icmp .ge 7, 3) := by decide +kernel
theorem dX5_isLayer_9 : decode cX5_isLayer 9 = .ok (.iconst 1, 1) := by decide +kernel
theorem dX5_isLayer_10 : decode cX5_isLayer 10 = .ok (.goto 4, 3) := by decide +kernel
theorem dX5_isLayer_13 : decode cX5_isLayer 13 = .ok (.iconst 0, 1) := by decide +kernel
theorem dX5_isLayer_14 : decode cX5_isLayer 14 = .ok (.ireturn, 1) := by decide +kernel
theorem dX5_isTrigger_0 : decode cX5_isTrigger 0 = .ok (.iload_n 0, 1) := by decide +kernel
theorem dX5_isTrigger_1 : decode cX5_isTrigger 1 = .ok (.ifCond .lt 12, 3) := by decide +kernel
theorem dX5_isTrigger_4 : decode cX5_isTrigger 4 = .ok (.iload_n 0, 1) := by decide +kernel
theorem dX5_isTrigger_5 : decode cX5_isTrigger 5 = .ok (.iconst 3, 1) := by decide +kernel
theorem dX5_isTrigger_6 : decode cX5_isTrigger 6 = .ok (.if_icmp .ge 7, 3) := by decide +kernel
theorem dX5_isTrigger_9 : decode cX5_isTrigger 9 = .ok (.iconst 1, 1) := by decide +kernel
theorem dX5_isTrigger_10 : decode cX5_isTrigger 10 = .ok (.goto 4, 3) := by decide +kernel
theorem dX5_isTrigger_13 : decode cX5_isTrigger 13 = .ok (.iconst 0, 1) := by decide +kernel
theorem dX5_isTrigger_14 : decode cX5_isTrigger 14 = .ok (.ireturn, 1) := by decide +kernel
theorem dX5_isKeeping_0 : decode cX5_isKeeping 0 = .ok (.iload_n 0, 1) := by decide +kernel
theorem dX5_isKeeping_1 : decode cX5_isKeeping 1 = .ok (.ifCond .lt 12, 3) := by decide +kernel
theorem dX5_isKeeping_4 : decode cX5_isKeeping 4 = .ok (.iload_n 0, 1) := by decide +kernel
theorem dX5_isKeeping_5 : decode cX5_isKeeping 5 = .ok (.iconst 2, 1) := by decide +kernel
theorem dX5_isKeeping_6 : decode cX5_isKeeping 6 = .ok (.if_icmp .ge 7, 3) := by decide +kernel
theorem dX5_isKeeping_9 : decode cX5_isKeeping 9 = .ok (.iconst 1, 1) := by decide +kernel
theorem dX5_isKeeping_10 : decode cX5_isKeeping 10 = .ok (.goto 4, 3) := by decide +kernel
theorem dX5_isKeeping_13 : decode cX5_isKeeping 13 = .ok (.iconst 0, 1) := by decide +kernel
theorem dX5_isKeeping_14 : decode cX5_isKeeping 14 = .ok (.ireturn, 1) := by decide +kernel
theorem dX5_isShelf_0 : decode cX5_isShelf 0 = .ok (.iload_n 0, 1) := by decide +kernel
theorem dX5_isShelf_1 : decode cX5_isShelf 1 = .ok (.ifCond .lt 12, 3) := by decide +kernel
theorem dX5_isShelf_4 : decode cX5_isShelf 4 = .ok (.iload_n 0, 1) := by decide +kernel
theorem dX5_isShelf_5 : decode cX5_isShelf 5 = .ok (.iconst 3, 1) := by decide +kernel
theorem dX5_isShelf_6 : decode cX5_isShelf 6 = .ok (.if_icmp .ge 7, 3) := by decide +kernel
theorem dX5_isShelf_9 : decode cX5_isShelf 9 = .ok (.iconst 1, 1) := by decide +kernel
theorem dX5_isShelf_10 : decode cX5_isShelf 10 = .ok (.goto 4, 3) := by decide +kernel
theorem dX5_isShelf_13 : decode cX5_isShelf 13 = .ok (.iconst 0, 1) := by decide +kernel
theorem dX5_isShelf_14 : decode cX5_isShelf 14 = .ok (.ireturn, 1) := by decide +kernel
theorem dX5_lowerState_0 : decode cX5_lowerState 0 = .ok (.aload_n 0, 1) := by decide +kernel
theorem dX5_lowerState_1 : decode cX5_lowerState 1 = .ok (.getfield 19, 3) := by decide +kernel
theorem dX5_lowerState_4 : decode cX5_lowerState 4 = .ok (.getfield 110, 3) := by decide +kernel
theorem dX5_lowerState_7 : decode cX5_lowerState 7 = .ok (.ifCond .ne 7, 3) := by decide +kernel
theorem dX5_lowerState_10 : decode cX5_lowerState 10 = .ok (.iconst (-1), 1) := by decide +kernel
theorem dX5_lowerState_11 : decode cX5_lowerState 11 = .ok (.goto 13, 3) := by decide +kernel
theorem dX5_lowerState_14 : decode cX5_lowerState 14 = .ok (.aload_n 0, 1) := by decide +kernel
theorem dX5_lowerState_15 : decode cX5_lowerState 15 = .ok (.getfield 29, 3) := by decide +kernel
theorem dX5_lowerState_18 : decode cX5_lowerState 18 = .ok (.getfield 116, 3) := by decide +kernel
theorem dX5_lowerState_21 : decode cX5_lowerState 21 = .ok (.getfield 120, 3) := by decide +kernel
theorem dX5_lowerState_24 : decode cX5_lowerState 24 = .ok (.ireturn, 1) := by decide +kernel
set_option maxRecDepth 20000 in
theorem ggX5_things_X3_things : GoodIn wsX5_things wsX3_things := goodIn_r _ [6, 7, 8, 20, 21, 22, 23] (by decide +kernel) (by decide +kernel)
set_option maxRecDepth 20000 in
theorem gX5_things_X3_things : GoodIn wsX5_things (wsV RX5 233 RX3 yX3_things wsX3_things) := goodIn_app (goodIn_of _ (by decide +kernel)) ggX5_things_X3_things
theorem dX5_things_0 : decode cX5_things 0 = .ok (.iconst 0, 1) := by decide +kernel
theorem dX5_things_1 : decode cX5_things 1 = .ok (.istore_n 1, 1) := by decide +kernel
theorem dX5_things_2 : decode cX5_things 2 = .ok (.iconst 0, 1) := by decide +kernel
theorem dX5_things_3 : decode cX5_things 3 = .ok (.istore_n 2, 1) := by decide +kernel
theorem dX5_things_4 : decode cX5_things 4 = .ok (.iload_n 2, 1) := by decide +kernel
theorem dX5_things_5 : decode cX5_things 5 = .ok (.iconst 3, 1) := by decide +kernel
theorem dX5_things_6 : decode cX5_things 6 = .ok (.if_icmp .ge 21, 3) := by decide +kernel
theorem dX5_things_9 : decode cX5_things 9 = .ok (.iload_n 1, 1) := by decide +kernel
theorem dX5_things_10 : decode cX5_things 10 = .ok (.aload_n 0, 1) := by decide +kernel
theorem dX5_things_11 : decode cX5_things 11 = .ok (.getfield 49, 3) := by decide +kernel
theorem dX5_things_14 : decode cX5_things 14 = .ok (.iload_n 2, 1) := by decide +kernel
theorem dX5_things_15 : decode cX5_things 15 = .ok (.aaload, 1) := by decide +kernel
theorem dX5_things_16 : decode cX5_things 16 = .ok (.invokevirtual 233, 3) := by decide +kernel
theorem dX5_things_19 : decode cX5_things 19 = .ok (.iadd, 1) := by decide +kernel
theorem dX5_things_20 : decode cX5_things 20 = .ok (.istore_n 1, 1) := by decide +kernel
theorem dX5_things_21 : decode cX5_things 21 = .ok (.iinc 2 1, 3) := by decide +kernel
theorem dX5_things_24 : decode cX5_things 24 = .ok (.goto (-20), 3) := by decide +kernel
theorem dX5_things_27 : decode cX5_things 27 = .ok (.iload_n 1, 1) := by decide +kernel
theorem dX5_things_28 : decode cX5_things 28 = .ok (.ireturn, 1) := by decide +kernel
set_option maxRecDepth 20000 in
theorem ggX5_beginAnew_X2_reset : GoodIn wsX5_beginAnew wsX2_reset := goodIn_r _ [9, 10, 11, 12, 13, 14, 15, 16, 17, 18, 19, 20, 21, 22, 23, 24, 25, 26, 27, 28, 29, 30, 31, 32, 33, 34, 35, 61, 62, 63, 64, 65, 66, 67, 68, 69, 70, 71] (by decide +kernel) (by decide +kernel)
set_option maxRecDepth 20000 in
theorem gX5_beginAnew_X2_reset : GoodIn wsX5_beginAnew (wsV RX5 234 RX2 yX2_reset wsX2_reset) := goodIn_app (goodIn_of _ (by decide +kernel)) ggX5_beginAnew_X2_reset
set_option maxRecDepth 20000 in
theorem ggX5_beginAnew_X3_remove : GoodIn wsX5_beginAnew wsX3_remove := goodIn_r _ [40, 41, 42, 43, 44, 39, 45, 46, 47, 48, 49, 34, 31, 35, 72, 73, 74, 75] (by decide +kernel) (by decide +kernel)
set_option maxRecDepth 20000 in
theorem gX5_beginAnew_X3_remove : GoodIn wsX5_beginAnew (wsV RX5 218 RX3 yX3_remove wsX3_remove) := goodIn_app (goodIn_of _ (by decide +kernel)) ggX5_beginAnew_X3_remove
theorem dX5_beginAnew_0 : decode cX5_beginAnew 0 = .ok (.aload_n 0, 1) := by decide +kernel
theorem dX5_beginAnew_1 : decode cX5_beginAnew 1 = .ok (.getfield 29, 3) := by decide +kernel
theorem dX5_beginAnew_4 : decode cX5_beginAnew 4 = .ok (.invokevirtual 234, 3) := by decide +kernel
theorem dX5_beginAnew_7 : decode cX5_beginAnew 7 = .ok (.aload_n 0, 1) := by decide +kernel
theorem dX5_beginAnew_8 : decode cX5_beginAnew 8 = .ok (.iconst 0, 1) := by decide +kernel
theorem dX5_beginAnew_9 : decode cX5_beginAnew 9 = .ok (.putfield 125, 3) := by decide +kernel
theorem dX5_beginAnew_12 : decode cX5_beginAnew 12 = .ok (.iconst 0, 1) := by decide +kernel
theorem dX5_beginAnew_13 : decode cX5_beginAnew 13 = .ok (.istore_n 1, 1) := by decide +kernel
theorem dX5_beginAnew_14 : decode cX5_beginAnew 14 = .ok (.iload_n 1, 1) := by decide +kernel
theorem dX5_beginAnew_15 : decode cX5_beginAnew 15 = .ok (.iconst 2, 1) := by decide +kernel
theorem dX5_beginAnew_16 : decode cX5_beginAnew 16 = .ok (.if_icmp .ge 16, 3) := by decide +kernel
theorem dX5_beginAnew_19 : decode cX5_beginAnew 19 = .ok (.aload_n 0, 1) := by decide +kernel
theorem dX5_beginAnew_20 : decode cX5_beginAnew 20 = .ok (.getfield 43, 3) := by decide +kernel
theorem dX5_beginAnew_23 : decode cX5_beginAnew 23 = .ok (.iload_n 1, 1) := by decide +kernel
theorem dX5_beginAnew_24 : decode cX5_beginAnew 24 = .ok (.iconst 0, 1) := by decide +kernel
theorem dX5_beginAnew_25 : decode cX5_beginAnew 25 = .ok (.bastore, 1) := by decide +kernel
theorem dX5_beginAnew_26 : decode cX5_beginAnew 26 = .ok (.iinc 1 1, 3) := by decide +kernel
theorem dX5_beginAnew_29 : decode cX5_beginAnew 29 = .ok (.goto (-15), 3) := by decide +kernel
theorem dX5_beginAnew_32 : decode cX5_beginAnew 32 = .ok (.iconst 0, 1) := by decide +kernel
theorem dX5_beginAnew_33 : decode cX5_beginAnew 33 = .ok (.istore_n 1, 1) := by decide +kernel
theorem dX5_beginAnew_34 : decode cX5_beginAnew 34 = .ok (.iload_n 1, 1) := by decide +kernel
theorem dX5_beginAnew_35 : decode cX5_beginAnew 35 = .ok (.iconst 3, 1) := by decide +kernel
theorem dX5_beginAnew_36 : decode cX5_beginAnew 36 = .ok (.if_icmp .ge 18, 3) := by decide +kernel
theorem dX5_beginAnew_39 : decode cX5_beginAnew 39 = .ok (.aload_n 0, 1) := by decide +kernel
theorem dX5_beginAnew_40 : decode cX5_beginAnew 40 = .ok (.getfield 49, 3) := by decide +kernel
theorem dX5_beginAnew_43 : decode cX5_beginAnew 43 = .ok (.iload_n 1, 1) := by decide +kernel
theorem dX5_beginAnew_44 : decode cX5_beginAnew 44 = .ok (.aaload, 1) := by decide +kernel
theorem dX5_beginAnew_45 : decode cX5_beginAnew 45 = .ok (.invokevirtual 218, 3) := by decide +kernel
theorem dX5_beginAnew_48 : decode cX5_beginAnew 48 = .ok (.iinc 1 1, 3) := by decide +kernel
theorem dX5_beginAnew_51 : decode cX5_beginAnew 51 = .ok (.goto (-17), 3) := by decide +kernel
theorem dX5_beginAnew_54 : decode cX5_beginAnew 54 = .ok (.return_, 1) := by decide +kernel
set_option maxRecDepth 20000 in
theorem ggX5_remember_X2_copyFrom : GoodIn wsX5_remember wsX2_copyFrom := goodIn_r _ [13, 14, 15, 16, 17, 18, 19, 20, 21, 22, 23, 24, 25, 26, 27, 28, 29, 30, 31, 32, 33, 34, 46, 47, 48, 49, 50, 51, 52, 53, 54, 55, 56] (by decide +kernel) (by decide +kernel)
set_option maxRecDepth 20000 in
theorem gX5_remember_X2_copyFrom : GoodIn wsX5_remember (wsV RX5 131 RX2 yX2_copyFrom wsX2_copyFrom) := goodIn_app (goodIn_of _ (by decide +kernel)) ggX5_remember_X2_copyFrom
theorem dX5_remember_0 : decode cX5_remember 0 = .ok (.aload_n 0, 1) := by decide +kernel
theorem dX5_remember_1 : decode cX5_remember 1 = .ok (.aload_n 0, 1) := by decide +kernel
theorem dX5_remember_2 : decode cX5_remember 2 = .ok (.getfield 128, 3) := by decide +kernel
theorem dX5_remember_5 : decode cX5_remember 5 = .ok (.bipush 7, 2) := by decide +kernel
theorem dX5_remember_7 : decode cX5_remember 7 = .ok (.if_icmp .ne 7, 3) := by decide +kernel
theorem dX5_remember_10 : decode cX5_remember 10 = .ok (.iconst 0, 1) := by decide +kernel
theorem dX5_remember_11 : decode cX5_remember 11 = .ok (.goto 9, 3) := by decide +kernel
theorem dX5_remember_14 : decode cX5_remember 14 = .ok (.aload_n 0, 1) := by decide +kernel
theorem dX5_remember_15 : decode cX5_remember 15 = .ok (.getfield 128, 3) := by decide +kernel
theorem dX5_remember_18 : decode cX5_remember 18 = .ok (.iconst 1, 1) := by decide +kernel
theorem dX5_remember_19 : decode cX5_remember 19 = .ok (.iadd, 1) := by decide +kernel
theorem dX5_remember_20 : decode cX5_remember 20 = .ok (.putfield 128, 3) := by decide +kernel
theorem dX5_remember_23 : decode cX5_remember 23 = .ok (.aload_n 0, 1) := by decide +kernel
theorem dX5_remember_24 : decode cX5_remember 24 = .ok (.getfield 36, 3) := by decide +kernel
theorem dX5_remember_27 : decode cX5_remember 27 = .ok (.aload_n 0, 1) := by decide +kernel
theorem dX5_remember_28 : decode cX5_remember 28 = .ok (.getfield 128, 3) := by decide +kernel
theorem dX5_remember_31 : decode cX5_remember 31 = .ok (.aaload, 1) := by decide +kernel
theorem dX5_remember_32 : decode cX5_remember 32 = .ok (.aload_n 0, 1) := by decide +kernel
theorem dX5_remember_33 : decode cX5_remember 33 = .ok (.getfield 29, 3) := by decide +kernel
theorem dX5_remember_36 : decode cX5_remember 36 = .ok (.invokevirtual 131, 3) := by decide +kernel
theorem dX5_remember_39 : decode cX5_remember 39 = .ok (.aload_n 0, 1) := by decide +kernel
theorem dX5_remember_40 : decode cX5_remember 40 = .ok (.aload_n 0, 1) := by decide +kernel
theorem dX5_remember_41 : decode cX5_remember 41 = .ok (.getfield 125, 3) := by decide +kernel
theorem dX5_remember_44 : decode cX5_remember 44 = .ok (.iconst 1, 1) := by decide +kernel
theorem dX5_remember_45 : decode cX5_remember 45 = .ok (.iadd, 1) := by decide +kernel
theorem dX5_remember_46 : decode cX5_remember 46 = .ok (.bipush 8, 2) := by decide +kernel
theorem dX5_remember_48 : decode cX5_remember 48 = .ok (.invokestatic 237, 3) := by decide +kernel
theorem dX5_remember_51 : decode cX5_remember 51 = .ok (.putfield 125, 3) := by decide +kernel
theorem dX5_remember_54 : decode cX5_remember 54 = .ok (.return_, 1) := by decide +kernel
theorem dX5_upperWeight_0 : decode cX5_upperWeight 0 = .ok (.aload_n 0, 1) := by decide +kernel
theorem dX5_upperWeight_1 : decode cX5_upperWeight 1 = .ok (.getfield 19, 3) := by decide +kernel
theorem dX5_upperWeight_4 : decode cX5_upperWeight 4 = .ok (.getfield 227, 3) := by decide +kernel
theorem dX5_upperWeight_7 : decode cX5_upperWeight 7 = .ok (.i2f, 1) := by decide +kernel
theorem dX5_upperWeight_8 : decode cX5_upperWeight 8 = .ok (.ldc 242, 2) := by decide +kernel
theorem dX5_upperWeight_10 : decode cX5_upperWeight 10 = .ok (.fdiv, 1) := by decide +kernel
theorem dX5_upperWeight_11 : decode cX5_upperWeight 11 = .ok (.freturn, 1) := by decide +kernel
set_option maxRecDepth 20000 in
theorem ggX5_mixedLimb_X1_limbOf : GoodIn wsX5_mixedLimb wsX1_limbOf := goodIn_r _ [7, 8, 9, 37, 38, 39, 40, 41, 42, 43, 44, 45, 46, 47, 48, 49] (by decide +kernel) (by decide +kernel)
set_option maxRecDepth 20000 in
theorem gX5_mixedLimb_X1_limbOf : GoodIn wsX5_mixedLimb (wsV RX5 243 RX1 yX1_limbOf wsX1_limbOf) := goodIn_app (goodIn_of _ (by decide +kernel)) ggX5_mixedLimb_X1_limbOf
set_option maxRecDepth 20000 in
theorem ggX5_mixedLimb_X0_isMasked : GoodIn wsX5_mixedLimb wsX0_isMasked := goodIn_r _ [14, 15, 37, 38, 39, 40, 41, 42] (by decide +kernel) (by decide +kernel)
set_option maxRecDepth 20000 in
theorem gX5_mixedLimb_X0_isMasked : GoodIn wsX5_mixedLimb (wsV RX5 247 RX0 yX0_isMasked wsX0_isMasked) := goodIn_app (goodIn_of _ (by decide +kernel)) ggX5_mixedLimb_X0_isMasked
set_option maxRecDepth 20000 in
theorem ggX5_mixedLimb_X5_upperWeight : GoodIn wsX5_mixedLimb wsX5_upperWeight := goodIn_r _ [20, 2, 21, 22, 23, 24, 25, 26, 27, 28, 29, 30, 31, 32, 37, 38, 39, 40, 41, 42] (by decide +kernel) (by decide +kernel)
set_option maxRecDepth 20000 in
theorem gX5_mixedLimb_X5_upperWeight : GoodIn wsX5_mixedLimb (wsV RX5 253 RX5 yX5_upperWeight wsX5_upperWeight) := goodIn_app (goodIn_of _ (by decide +kernel)) ggX5_mixedLimb_X5_upperWeight
theorem dX5_mixedLimb_0 : decode cX5_mixedLimb 0 = .ok (.aload_n 0, 1) := by decide +kernel
theorem dX5_mixedLimb_1 : decode cX5_mixedLimb 1 = .ok (.getfield 29, 3) := by decide +kernel
theorem dX5_mixedLimb_4 : decode cX5_mixedLimb 4 = .ok (.getfield 116, 3) := by decide +kernel
theorem dX5_mixedLimb_7 : decode cX5_mixedLimb 7 = .ok (.aload_n 0, 1) := by decide +kernel
theorem dX5_mixedLimb_8 : decode cX5_mixedLimb 8 = .ok (.getfield 19, 3) := by decide +kernel
theorem dX5_mixedLimb_11 : decode cX5_mixedLimb 11 = .ok (.iload_n 1, 1) := by decide +kernel
theorem dX5_mixedLimb_12 : decode cX5_mixedLimb 12 = .ok (.invokevirtual 243, 3) := by decide +kernel
theorem dX5_mixedLimb_15 : decode cX5_mixedLimb 15 = .ok (.fstore_n 2, 1) := by decide +kernel
theorem dX5_mixedLimb_16 : decode cX5_mixedLimb 16 = .ok (.aload_n 0, 1) := by decide +kernel
theorem dX5_mixedLimb_17 : decode cX5_mixedLimb 17 = .ok (.getfield 19, 3) := by decide +kernel
theorem dX5_mixedLimb_20 : decode cX5_mixedLimb 20 = .ok (.iload_n 1, 1) := by decide +kernel
theorem dX5_mixedLimb_21 : decode cX5_mixedLimb 21 = .ok (.invokevirtual 247, 3) := by decide +kernel
theorem dX5_mixedLimb_24 : decode cX5_mixedLimb 24 = .ok (.ifCond .ne 5, 3) := by decide +kernel
theorem dX5_mixedLimb_27 : decode cX5_mixedLimb 27 = .ok (.fload_n 2, 1) := by decide +kernel
theorem dX5_mixedLimb_28 : decode cX5_mixedLimb 28 = .ok (.freturn, 1) := by decide +kernel
theorem dX5_mixedLimb_29 : decode cX5_mixedLimb 29 = .ok (.aload_n 0, 1) := by decide +kernel
theorem dX5_mixedLimb_30 : decode cX5_mixedLimb 30 = .ok (.getfield 29, 3) := by decide +kernel
theorem dX5_mixedLimb_33 : decode cX5_mixedLimb 33 = .ok (.getfield 250, 3) := by decide +kernel
theorem dX5_mixedLimb_36 : decode cX5_mixedLimb 36 = .ok (.aload_n 0, 1) := by decide +kernel
theorem dX5_mixedLimb_37 : decode cX5_mixedLimb 37 = .ok (.getfield 19, 3) := by decide +kernel
theorem dX5_mixedLimb_40 : decode cX5_mixedLimb 40 = .ok (.iload_n 1, 1) := by decide +kernel
theorem dX5_mixedLimb_41 : decode cX5_mixedLimb 41 = .ok (.invokevirtual 243, 3) := by decide +kernel
theorem dX5_mixedLimb_44 : decode cX5_mixedLimb 44 = .ok (.fstore_n 3, 1) := by decide +kernel
theorem dX5_mixedLimb_45 : decode cX5_mixedLimb 45 = .ok (.aload_n 0, 1) := by decide +kernel
theorem dX5_mixedLimb_46 : decode cX5_mixedLimb 46 = .ok (.invokevirtual 253, 3) := by decide +kernel
theorem dX5_mixedLimb_49 : decode cX5_mixedLimb 49 = .ok (.fstore 4, 2) := by decide +kernel
theorem dX5_mixedLimb_51 : decode cX5_mixedLimb 51 = .ok (.fload_n 2, 1) := by decide +kernel
theorem dX5_mixedLimb_52 : decode cX5_mixedLimb 52 = .ok (.fconst 1, 1) := by decide +kernel
theorem dX5_mixedLimb_53 : decode cX5_mixedLimb 53 = .ok (.fload 4, 2) := by decide +kernel
theorem dX5_mixedLimb_55 : decode cX5_mixedLimb 55 = .ok (.fsub, 1) := by decide +kernel
theorem dX5_mixedLimb_56 : decode cX5_mixedLimb 56 = .ok (.fmul, 1) := by decide +kernel
theorem dX5_mixedLimb_57 : decode cX5_mixedLimb 57 = .ok (.fstore 5, 2) := by decide +kernel
theorem dX5_mixedLimb_59 : decode cX5_mixedLimb 59 = .ok (.fload 5, 2) := by decide +kernel
theorem dX5_mixedLimb_61 : decode cX5_mixedLimb 61 = .ok (.fload_n 3, 1) := by decide +kernel
theorem dX5_mixedLimb_62 : decode cX5_mixedLimb 62 = .ok (.fload 4, 2) := by decide +kernel
theorem dX5_mixedLimb_64 : decode cX5_mixedLimb 64 = .ok (.fmul, 1) := by decide +kernel
theorem dX5_mixedLimb_65 : decode cX5_mixedLimb 65 = .ok (.fadd, 1) := by decide +kernel
theorem dX5_mixedLimb_66 : decode cX5_mixedLimb 66 = .ok (.freturn, 1) := by decide +kernel
set_option maxRecDepth 20000 in
theorem ggX5_isMinusZero_X0_isMasked : GoodIn wsX5_isMinusZero wsX0_isMasked := goodIn_r _ [7, 8, 37, 38, 39, 40, 41, 42] (by decide +kernel) (by decide +kernel)
set_option maxRecDepth 20000 in
theorem gX5_isMinusZero_X0_isMasked : GoodIn wsX5_isMinusZero (wsV RX5 247 RX0 yX0_isMasked wsX0_isMasked) := goodIn_app (goodIn_of _ (by decide +kernel)) ggX5_isMinusZero_X0_isMasked
set_option maxRecDepth 20000 in
theorem ggX5_isMinusZero_X1_limbOf : GoodIn wsX5_isMinusZero wsX1_limbOf := goodIn_r _ [13, 14, 15, 37, 38, 39, 40, 41, 42, 43, 44, 45, 46, 47, 48, 49] (by decide +kernel) (by decide +kernel)
set_option maxRecDepth 20000 in
theorem gX5_isMinusZero_X1_limbOf : GoodIn wsX5_isMinusZero (wsV RX5 243 RX1 yX1_limbOf wsX1_limbOf) := goodIn_app (goodIn_of _ (by decide +kernel)) ggX5_isMinusZero_X1_limbOf
set_option maxRecDepth 20000 in
theorem ggX5_isMinusZero_X5_upperWeight : GoodIn wsX5_isMinusZero wsX5_upperWeight := goodIn_r _ [20, 1, 21, 22, 23, 24, 25, 26, 27, 28, 29, 30, 31, 32, 37, 38, 39, 40, 41, 42] (by decide +kernel) (by decide +kernel)
set_option maxRecDepth 20000 in
theorem gX5_isMinusZero_X5_upperWeight : GoodIn wsX5_isMinusZero (wsV RX5 253 RX5 yX5_upperWeight wsX5_upperWeight) := goodIn_app (goodIn_of _ (by decide +kernel)) ggX5_isMinusZero_X5_upperWeight
theorem dX5_isMinusZero_0 : decode cX5_isMinusZero 0 = .ok (.aload_n 0, 1) := by decide +kernel
theorem dX5_isMinusZero_1 : decode cX5_isMinusZero 1 = .ok (.getfield 19, 3) := by decide +kernel
theorem dX5_isMinusZero_4 : decode cX5_isMinusZero 4 = .ok (.iload_n 1, 1) := by decide +kernel
theorem dX5_isMinusZero_5 : decode cX5_isMinusZero 5 = .ok (.invokevirtual 247, 3) := by decide +kernel
theorem dX5_isMinusZero_8 : decode cX5_isMinusZero 8 = .ok (.ifCond .ne 5, 3) := by decide +kernel
theorem dX5_isMinusZero_11 : decode cX5_isMinusZero 11 = .ok (.iconst 0, 1) := by decide +kernel
theorem dX5_isMinusZero_12 : decode cX5_isMinusZero 12 = .ok (.ireturn, 1) := by decide +kernel
theorem dX5_isMinusZero_13 : decode cX5_isMinusZero 13 = .ok (.aload_n 0, 1) := by decide +kernel
theorem dX5_isMinusZero_14 : decode cX5_isMinusZero 14 = .ok (.getfield 29, 3) := by decide +kernel
theorem dX5_isMinusZero_17 : decode cX5_isMinusZero 17 = .ok (.getfield 116, 3) := by decide +kernel
theorem dX5_isMinusZero_20 : decode cX5_isMinusZero 20 = .ok (.aload_n 0, 1) := by decide +kernel
theorem dX5_isMinusZero_21 : decode cX5_isMinusZero 21 = .ok (.getfield 19, 3) := by decide +kernel
theorem dX5_isMinusZero_24 : decode cX5_isMinusZero 24 = .ok (.iload_n 1, 1) := by decide +kernel
theorem dX5_isMinusZero_25 : decode cX5_isMinusZero 25 = .ok (.invokevirtual 243, 3) := by decide +kernel
theorem dX5_isMinusZero_28 : decode cX5_isMinusZero 28 = .ok (.fstore_n 2, 1) := by decide +kernel
theorem dX5_isMinusZero_29 : decode cX5_isMinusZero 29 = .ok (.aload_n 0, 1) := by decide +kernel
theorem dX5_isMinusZero_30 : decode cX5_isMinusZero 30 = .ok (.getfield 29, 3) := by decide +kernel
theorem dX5_isMinusZero_33 : decode cX5_isMinusZero 33 = .ok (.getfield 250, 3) := by decide +kernel
theorem dX5_isMinusZero_36 : decode cX5_isMinusZero 36 = .ok (.aload_n 0, 1) := by decide +kernel
theorem dX5_isMinusZero_37 : decode cX5_isMinusZero 37 = .ok (.getfield 19, 3) := by decide +kernel
theorem dX5_isMinusZero_40 : decode cX5_isMinusZero 40 = .ok (.iload_n 1, 1) := by decide +kernel
theorem dX5_isMinusZero_41 : decode cX5_isMinusZero 41 = .ok (.invokevirtual 243, 3) := by decide +kernel
theorem dX5_isMinusZero_44 : decode cX5_isMinusZero 44 = .ok (.fstore_n 3, 1) := by decide +kernel
theorem dX5_isMinusZero_45 : decode cX5_isMinusZero 45 = .ok (.aload_n 0, 1) := by decide +kernel
theorem dX5_isMinusZero_46 : decode cX5_isMinusZero 46 = .ok (.invokevirtual 253, 3) := by decide +kernel
theorem dX5_isMinusZero_49 : decode cX5_isMinusZero 49 = .ok (.fstore 4, 2) := by decide +kernel
theorem dX5_isMinusZero_51 : decode cX5_isMinusZero 51 = .ok (.fload_n 2, 1) := by decide +kernel
theorem dX5_isMinusZero_52 : decode cX5_isMinusZero 52 = .ok (.fconst 0, 1) := by decide +kernel
theorem dX5_isMinusZero_53 : decode cX5_isMinusZero 53 = .ok (.fcmp .g, 1) := by decide +kernel
theorem dX5_isMinusZero_54 : decode cX5_isMinusZero 54 = .ok (.ifCond .ge 33, 3) := by decide +kernel
theorem dX5_isMinusZero_57 : decode cX5_isMinusZero 57 = .ok (.fload_n 3, 1) := by decide +kernel
theorem dX5_isMinusZero_58 : decode cX5_isMinusZero 58 = .ok (.fconst 0, 1) := by decide +kernel
theorem dX5_isMinusZero_59 : decode cX5_isMinusZero 59 = .ok (.fcmp .g, 1) := by decide +kernel
theorem dX5_isMinusZero_60 : decode cX5_isMinusZero 60 = .ok (.ifCond .ge 27, 3) := by decide +kernel
theorem dX5_isMinusZero_63 : decode cX5_isMinusZero 63 = .ok (.fload_n 2, 1) := by decide +kernel
theorem dX5_isMinusZero_64 : decode cX5_isMinusZero 64 = .ok (.fconst 1, 1) := by decide +kernel
theorem dX5_isMinusZero_65 : decode cX5_isMinusZero 65 = .ok (.fload 4, 2) := by decide +kernel
theorem dX5_isMinusZero_67 : decode cX5_isMinusZero 67 = .ok (.fsub, 1) := by decide +kernel
theorem dX5_isMinusZero_68 : decode cX5_isMinusZero 68 = .ok (.fmul, 1) := by decide +kernel
theorem dX5_isMinusZero_69 : decode cX5_isMinusZero 69 = .ok (.fconst 0, 1) := by decide +kernel
theorem dX5_isMinusZero_70 : decode cX5_isMinusZero 70 = .ok (.fcmp .l, 1) := by decide +kernel
theorem dX5_isMinusZero_71 : decode cX5_isMinusZero 71 = .ok (.ifCond .ne 16, 3) := by decide +kernel
theorem dX5_isMinusZero_74 : decode cX5_isMinusZero 74 = .ok (.fload_n 3, 1) := by decide +kernel
theorem dX5_isMinusZero_75 : decode cX5_isMinusZero 75 = .ok (.fload 4, 2) := by decide +kernel
theorem dX5_isMinusZero_77 : decode cX5_isMinusZero 77 = .ok (.fmul, 1) := by decide +kernel
theorem dX5_isMinusZero_78 : decode cX5_isMinusZero 78 = .ok (.fconst 0, 1) := by decide +kernel
theorem dX5_isMinusZero_79 : decode cX5_isMinusZero 79 = .ok (.fcmp .l, 1) := by decide +kernel
theorem dX5_isMinusZero_80 : decode cX5_isMinusZero 80 = .ok (.ifCond .ne 7, 3) := by decide +kernel
theorem dX5_isMinusZero_83 : decode cX5_isMinusZero 83 = .ok (.iconst 1, 1) := by decide +kernel
theorem dX5_isMinusZero_84 : decode cX5_isMinusZero 84 = .ok (.goto 4, 3) := by decide +kernel
theorem dX5_isMinusZero_87 : decode cX5_isMinusZero 87 = .ok (.iconst 0, 1) := by decide +kernel
theorem dX5_isMinusZero_88 : decode cX5_isMinusZero 88 = .ok (.ireturn, 1) := by decide +kernel
theorem dX5_floatBits_0 : decode cX5_floatBits 0 = .ok (.fload_n 0, 1) := by decide +kernel
theorem dX5_floatBits_1 : decode cX5_floatBits 1 = .ok (.fstore_n 1, 1) := by decide +kernel
theorem dX5_floatBits_2 : decode cX5_floatBits 2 = .ok (.bipush 127, 2) := by decide +kernel
theorem dX5_floatBits_4 : decode cX5_floatBits 4 = .ok (.istore_n 2, 1) := by decide +kernel
theorem dX5_floatBits_5 : decode cX5_floatBits 5 = .ok (.iconst 0, 1) := by decide +kernel
theorem dX5_floatBits_6 : decode cX5_floatBits 6 = .ok (.istore_n 3, 1) := by decide +kernel
theorem dX5_floatBits_7 : decode cX5_floatBits 7 = .ok (.iload_n 3, 1) := by decide +kernel
theorem dX5_floatBits_8 : decode cX5_floatBits 8 = .ok (.bipush 126, 2) := by decide +kernel
theorem dX5_floatBits_10 : decode cX5_floatBits 10 = .ok (.if_icmp .ge 22, 3) := by decide +kernel
theorem dX5_floatBits_13 : decode cX5_floatBits 13 = .ok (.fload_n 1, 1) := by decide +kernel
theorem dX5_floatBits_14 : decode cX5_floatBits 14 = .ok (.fconst 1, 1) := by decide +kernel
theorem dX5_floatBits_15 : decode cX5_floatBits 15 = .ok (.fcmp .g, 1) := by decide +kernel
theorem dX5_floatBits_16 : decode cX5_floatBits 16 = .ok (.ifCond .ge 16, 3) := by decide +kernel
theorem dX5_floatBits_19 : decode cX5_floatBits 19 = .ok (.fload_n 1, 1) := by decide +kernel
theorem dX5_floatBits_20 : decode cX5_floatBits 20 = .ok (.fconst 2, 1) := by decide +kernel
theorem dX5_floatBits_21 : decode cX5_floatBits 21 = .ok (.fmul, 1) := by decide +kernel
theorem dX5_floatBits_22 : decode cX5_floatBits 22 = .ok (.fstore_n 1, 1) := by decide +kernel
theorem dX5_floatBits_23 : decode cX5_floatBits 23 = .ok (.iinc 2 (-1), 3) := by decide +kernel
theorem dX5_floatBits_26 : decode cX5_floatBits 26 = .ok (.iinc 3 1, 3) := by decide +kernel
theorem dX5_floatBits_29 : decode cX5_floatBits 29 = .ok (.goto (-22), 3) := by decide +kernel
theorem dX5_floatBits_32 : decode cX5_floatBits 32 = .ok (.fload_n 1, 1) := by decide +kernel
theorem dX5_floatBits_33 : decode cX5_floatBits 33 = .ok (.fconst 1, 1) := by decide +kernel
theorem dX5_floatBits_34 : decode cX5_floatBits 34 = .ok (.fcmp .g, 1) := by decide +kernel
theorem dX5_floatBits_35 : decode cX5_floatBits 35 = .ok (.ifCond .ge 10, 3) := by decide +kernel
theorem dX5_floatBits_38 : decode cX5_floatBits 38 = .ok (.fload_n 1, 1) := by decide +kernel
theorem dX5_floatBits_39 : decode cX5_floatBits 39 = .ok (.ldc_w 257, 3) := by decide +kernel
theorem dX5_floatBits_42 : decode cX5_floatBits 42 = .ok (.fmul, 1) := by decide +kernel
theorem dX5_floatBits_43 : decode cX5_floatBits 43 = .ok (.f2i, 1) := by decide +kernel
theorem dX5_floatBits_44 : decode cX5_floatBits 44 = .ok (.ireturn, 1) := by decide +kernel
theorem dX5_floatBits_45 : decode cX5_floatBits 45 = .ok (.iload_n 2, 1) := by decide +kernel
theorem dX5_floatBits_46 : decode cX5_floatBits 46 = .ok (.bipush 23, 2) := by decide +kernel
theorem dX5_floatBits_48 : decode cX5_floatBits 48 = .ok (.ishl, 1) := by decide +kernel
theorem dX5_floatBits_49 : decode cX5_floatBits 49 = .ok (.fload_n 1, 1) := by decide +kernel
theorem dX5_floatBits_50 : decode cX5_floatBits 50 = .ok (.fconst 1, 1) := by decide +kernel
theorem dX5_floatBits_51 : decode cX5_floatBits 51 = .ok (.fsub, 1) := by decide +kernel
theorem dX5_floatBits_52 : decode cX5_floatBits 52 = .ok (.ldc_w 257, 3) := by decide +kernel
theorem dX5_floatBits_55 : decode cX5_floatBits 55 = .ok (.fmul, 1) := by decide +kernel
theorem dX5_floatBits_56 : decode cX5_floatBits 56 = .ok (.f2i, 1) := by decide +kernel
theorem dX5_floatBits_57 : decode cX5_floatBits 57 = .ok (.iadd, 1) := by decide +kernel
theorem dX5_floatBits_58 : decode cX5_floatBits 58 = .ok (.ireturn, 1) := by decide +kernel
theorem dX5_doubleBits_0 : decode cX5_doubleBits 0 = .ok (.dload_n 0, 1) := by decide +kernel
theorem dX5_doubleBits_1 : decode cX5_doubleBits 1 = .ok (.dconst 0, 1) := by decide +kernel
theorem dX5_doubleBits_2 : decode cX5_doubleBits 2 = .ok (.dcmp .g, 1) := by decide +kernel
theorem dX5_doubleBits_3 : decode cX5_doubleBits 3 = .ok (.ifCond .ge 8, 3) := by decide +kernel
theorem dX5_doubleBits_6 : decode cX5_doubleBits 6 = .ok (.dload_n 0, 1) := by decide +kernel
theorem dX5_doubleBits_7 : decode cX5_doubleBits 7 = .ok (.dneg, 1) := by decide +kernel
theorem dX5_doubleBits_8 : decode cX5_doubleBits 8 = .ok (.goto 4, 3) := by decide +kernel
theorem dX5_doubleBits_11 : decode cX5_doubleBits 11 = .ok (.dload_n 0, 1) := by decide +kernel
theorem dX5_doubleBits_12 : decode cX5_doubleBits 12 = .ok (.dstore_n 2, 1) := by decide +kernel
theorem dX5_doubleBits_13 : decode cX5_doubleBits 13 = .ok (.ldc2_w 258, 3) := by decide +kernel
theorem dX5_doubleBits_16 : decode cX5_doubleBits 16 = .ok (.lstore 4, 2) := by decide +kernel
theorem dX5_doubleBits_18 : decode cX5_doubleBits 18 = .ok (.iconst 0, 1) := by decide +kernel
theorem dX5_doubleBits_19 : decode cX5_doubleBits 19 = .ok (.istore 6, 2) := by decide +kernel
theorem dX5_doubleBits_21 : decode cX5_doubleBits 21 = .ok (.iload 6, 2) := by decide +kernel
theorem dX5_doubleBits_23 : decode cX5_doubleBits 23 = .ok (.sipush 1022, 3) := by decide +kernel
theorem dX5_doubleBits_26 : decode cX5_doubleBits 26 = .ok (.if_icmp .ge 27, 3) := by decide +kernel
theorem dX5_doubleBits_29 : decode cX5_doubleBits 29 = .ok (.dload_n 2, 1) := by decide +kernel
theorem dX5_doubleBits_30 : decode cX5_doubleBits 30 = .ok (.dconst 1, 1) := by decide +kernel
theorem dX5_doubleBits_31 : decode cX5_doubleBits 31 = .ok (.dcmp .g, 1) := by decide +kernel
theorem dX5_doubleBits_32 : decode cX5_doubleBits 32 = .ok (.ifCond .ge 21, 3) := by decide +kernel
theorem dX5_doubleBits_35 : decode cX5_doubleBits 35 = .ok (.dload_n 2, 1) := by decide +kernel
theorem dX5_doubleBits_36 : decode cX5_doubleBits 36 = .ok (.ldc2_w 260, 3) := by decide +kernel
theorem dX5_doubleBits_39 : decode cX5_doubleBits 39 = .ok (.dmul, 1) := by decide +kernel
theorem dX5_doubleBits_40 : decode cX5_doubleBits 40 = .ok (.dstore_n 2, 1) := by decide +kernel
theorem dX5_doubleBits_41 : decode cX5_doubleBits 41 = .ok (.lload 4, 2) := by decide +kernel
theorem dX5_doubleBits_43 : decode cX5_doubleBits 43 = .ok (.lconst 1, 1) := by decide +kernel
theorem dX5_doubleBits_44 : decode cX5_doubleBits 44 = .ok (.lsub, 1) := by decide +kernel
theorem dX5_doubleBits_45 : decode cX5_doubleBits 45 = .ok (.lstore 4, 2) := by decide +kernel
theorem dX5_doubleBits_47 : decode cX5_doubleBits 47 = .ok (.iinc 6 1, 3) := by decide +kernel
theorem dX5_doubleBits_50 : decode cX5_doubleBits 50 = .ok (.goto (-29), 3) := by decide +kernel
theorem dX5_doubleBits_53 : decode cX5_doubleBits 53 = .ok (.iconst 0, 1) := by decide +kernel
theorem dX5_doubleBits_54 : decode cX5_doubleBits 54 = .ok (.istore 6, 2) := by decide +kernel
theorem dX5_doubleBits_56 : decode cX5_doubleBits 56 = .ok (.iload 6, 2) := by decide +kernel
theorem dX5_doubleBits_58 : decode cX5_doubleBits 58 = .ok (.sipush 1023, 3) := by decide +kernel
theorem dX5_doubleBits_61 : decode cX5_doubleBits 61 = .ok (.if_icmp .ge 29, 3) := by decide +kernel
theorem dX5_doubleBits_64 : decode cX5_doubleBits 64 = .ok (.dload_n 2, 1) := by decide +kernel
theorem dX5_doubleBits_65 : decode cX5_doubleBits 65 = .ok (.ldc2_w 260, 3) := by decide +kernel
theorem dX5_doubleBits_68 : decode cX5_doubleBits 68 = .ok (.dcmp .l, 1) := by decide +kernel
theorem dX5_doubleBits_69 : decode cX5_doubleBits 69 = .ok (.ifCond .lt 21, 3) := by decide +kernel
theorem dX5_doubleBits_72 : decode cX5_doubleBits 72 = .ok (.dload_n 2, 1) := by decide +kernel
theorem dX5_doubleBits_73 : decode cX5_doubleBits 73 = .ok (.ldc2_w 260, 3) := by decide +kernel
theorem dX5_doubleBits_76 : decode cX5_doubleBits 76 = .ok (.ddiv, 1) := by decide +kernel
theorem dX5_doubleBits_77 : decode cX5_doubleBits 77 = .ok (.dstore_n 2, 1) := by decide +kernel
theorem dX5_doubleBits_78 : decode cX5_doubleBits 78 = .ok (.lload 4, 2) := by decide +kernel
theorem dX5_doubleBits_80 : decode cX5_doubleBits 80 = .ok (.lconst 1, 1) := by decide +kernel
theorem dX5_doubleBits_81 : decode cX5_doubleBits 81 = .ok (.ladd, 1) := by decide +kernel
theorem dX5_doubleBits_82 : decode cX5_doubleBits 82 = .ok (.lstore 4, 2) := by decide +kernel
theorem dX5_doubleBits_84 : decode cX5_doubleBits 84 = .ok (.iinc 6 1, 3) := by decide +kernel
theorem dX5_doubleBits_87 : decode cX5_doubleBits 87 = .ok (.goto (-31), 3) := by decide +kernel
theorem dX5_doubleBits_90 : decode cX5_doubleBits 90 = .ok (.lload 4, 2) := by decide +kernel
theorem dX5_doubleBits_92 : decode cX5_doubleBits 92 = .ok (.bipush 52, 2) := by decide +kernel
theorem dX5_doubleBits_94 : decode cX5_doubleBits 94 = .ok (.lshl, 1) := by decide +kernel
theorem dX5_doubleBits_95 : decode cX5_doubleBits 95 = .ok (.dload_n 2, 1) := by decide +kernel
theorem dX5_doubleBits_96 : decode cX5_doubleBits 96 = .ok (.dconst 1, 1) := by decide +kernel
theorem dX5_doubleBits_97 : decode cX5_doubleBits 97 = .ok (.dsub, 1) := by decide +kernel
theorem dX5_doubleBits_98 : decode cX5_doubleBits 98 = .ok (.ldc2_w 262, 3) := by decide +kernel
theorem dX5_doubleBits_101 : decode cX5_doubleBits 101 = .ok (.dmul, 1) := by decide +kernel
theorem dX5_doubleBits_102 : decode cX5_doubleBits 102 = .ok (.d2l, 1) := by decide +kernel
theorem dX5_doubleBits_103 : decode cX5_doubleBits 103 = .ok (.ladd, 1) := by decide +kernel
theorem dX5_doubleBits_104 : decode cX5_doubleBits 104 = .ok (.lstore 6, 2) := by decide +kernel
theorem dX5_doubleBits_106 : decode cX5_doubleBits 106 = .ok (.dload_n 0, 1) := by decide +kernel
theorem dX5_doubleBits_107 : decode cX5_doubleBits 107 = .ok (.dconst 0, 1) := by decide +kernel
theorem dX5_doubleBits_108 : decode cX5_doubleBits 108 = .ok (.dcmp .g, 1) := by decide +kernel
theorem dX5_doubleBits_109 : decode cX5_doubleBits 109 = .ok (.ifCond .ge 12, 3) := by decide +kernel
theorem dX5_doubleBits_112 : decode cX5_doubleBits 112 = .ok (.lload 6, 2) := by decide +kernel
theorem dX5_doubleBits_114 : decode cX5_doubleBits 114 = .ok (.ldc2_w 173, 3) := by decide +kernel
theorem dX5_doubleBits_117 : decode cX5_doubleBits 117 = .ok (.lor, 1) := by decide +kernel
theorem dX5_doubleBits_118 : decode cX5_doubleBits 118 = .ok (.goto 5, 3) := by decide +kernel
theorem dX5_doubleBits_121 : decode cX5_doubleBits 121 = .ok (.lload 6, 2) := by decide +kernel
theorem dX5_doubleBits_123 : decode cX5_doubleBits 123 = .ok (.lreturn, 1) := by decide +kernel
