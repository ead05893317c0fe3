theorem dX0_init_0 : decode cX0_init 0 = .ok (.aload_n 0, 1) := by decide +kernel
theorem dX0_init_1 : decode cX0_init 1 = .ok (.invokespecial 3, 3) := by decide +kernel
theorem dX0_init_4 : decode cX0_init 4 = .ok (.aload_n 0, 1) := by decide +kernel
theorem dX0_init_5 : decode cX0_init 5 = .ok (.bipush 24, 2) := by decide +kernel
theorem dX0_init_7 : decode cX0_init 7 = .ok (.newarray .int, 2) := by decide +kernel
theorem dX0_init_9 : decode cX0_init 9 = .ok (.putfield 9, 3) := by decide +kernel
theorem dX0_init_12 : decode cX0_init 12 = .ok (.aload_n 0, 1) := by decide +kernel
theorem dX0_init_13 : decode cX0_init 13 = .ok (.bipush 84, 2) := by decide +kernel
theorem dX0_init_15 : decode cX0_init 15 = .ok (.newarray .int, 2) := by decide +kernel
theorem dX0_init_17 : decode cX0_init 17 = .ok (.putfield 15, 3) := by decide +kernel
theorem dX0_init_20 : decode cX0_init 20 = .ok (.aload_n 0, 1) := by decide +kernel
theorem dX0_init_21 : decode cX0_init 21 = .ok (.bipush 16, 2) := by decide +kernel
theorem dX0_init_23 : decode cX0_init 23 = .ok (.putfield 18, 3) := by decide +kernel
theorem dX0_init_26 : decode cX0_init 26 = .ok (.return_, 1) := by decide +kernel
theorem dX0_copyFrom_0 : decode cX0_copyFrom 0 = .ok (.aload_n 0, 1) := by decide +kernel
theorem dX0_copyFrom_1 : decode cX0_copyFrom 1 = .ok (.aload_n 1, 1) := by decide +kernel
theorem dX0_copyFrom_2 : decode cX0_copyFrom 2 = .ok (.getfield 22, 3) := by decide +kernel
theorem dX0_copyFrom_5 : decode cX0_copyFrom 5 = .ok (.putfield 22, 3) := by decide +kernel
theorem dX0_copyFrom_8 : decode cX0_copyFrom 8 = .ok (.aload_n 1, 1) := by decide +kernel
theorem dX0_copyFrom_9 : decode cX0_copyFrom 9 = .ok (.getfield 9, 3) := by decide +kernel
theorem dX0_copyFrom_12 : decode cX0_copyFrom 12 = .ok (.iconst 0, 1) := by decide +kernel
theorem dX0_copyFrom_13 : decode cX0_copyFrom 13 = .ok (.aload_n 0, 1) := by decide +kernel
theorem dX0_copyFrom_14 : decode cX0_copyFrom 14 = .ok (.getfield 9, 3) := by decide +kernel
theorem dX0_copyFrom_17 : decode cX0_copyFrom 17 = .ok (.iconst 0, 1) := by decide +kernel
theorem dX0_copyFrom_18 : decode cX0_copyFrom 18 = .ok (.aload_n 0, 1) := by decide +kernel
theorem dX0_copyFrom_19 : decode cX0_copyFrom 19 = .ok (.getfield 9, 3) := by decide +kernel
theorem dX0_copyFrom_22 : decode cX0_copyFrom 22 = .ok (.arraylength, 1) := by decide +kernel
theorem dX0_copyFrom_23 : decode cX0_copyFrom 23 = .ok (.invokestatic 25, 3) := by decide +kernel
theorem dX0_copyFrom_26 : decode cX0_copyFrom 26 = .ok (.aload_n 0, 1) := by decide +kernel
theorem dX0_copyFrom_27 : decode cX0_copyFrom 27 = .ok (.aload_n 1, 1) := by decide +kernel
theorem dX0_copyFrom_28 : decode cX0_copyFrom 28 = .ok (.getfield 31, 3) := by decide +kernel
theorem dX0_copyFrom_31 : decode cX0_copyFrom 31 = .ok (.putfield 31, 3) := by decide +kernel
theorem dX0_copyFrom_34 : decode cX0_copyFrom 34 = .ok (.aload_n 1, 1) := by decide +kernel
theorem dX0_copyFrom_35 : decode cX0_copyFrom 35 = .ok (.getfield 15, 3) := by decide +kernel
theorem dX0_copyFrom_38 : decode cX0_copyFrom 38 = .ok (.iconst 0, 1) := by decide +kernel
theorem dX0_copyFrom_39 : decode cX0_copyFrom 39 = .ok (.aload_n 0, 1) := by decide +kernel
theorem dX0_copyFrom_40 : decode cX0_copyFrom 40 = .ok (.getfield 15, 3) := by decide +kernel
theorem dX0_copyFrom_43 : decode cX0_copyFrom 43 = .ok (.iconst 0, 1) := by decide +kernel
theorem dX0_copyFrom_44 : decode cX0_copyFrom 44 = .ok (.aload_n 0, 1) := by decide +kernel
theorem dX0_copyFrom_45 : decode cX0_copyFrom 45 = .ok (.getfield 15, 3) := by decide +kernel
theorem dX0_copyFrom_48 : decode cX0_copyFrom 48 = .ok (.arraylength, 1) := by decide +kernel
theorem dX0_copyFrom_49 : decode cX0_copyFrom 49 = .ok (.invokestatic 25, 3) := by decide +kernel
theorem dX0_copyFrom_52 : decode cX0_copyFrom 52 = .ok (.aload_n 0, 1) := by decide +kernel
theorem dX0_copyFrom_53 : decode cX0_copyFrom 53 = .ok (.aload_n 1, 1) := by decide +kernel
theorem dX0_copyFrom_54 : decode cX0_copyFrom 54 = .ok (.getfield 34, 3) := by decide +kernel
theorem dX0_copyFrom_57 : decode cX0_copyFrom 57 = .ok (.putfield 34, 3) := by decide +kernel
theorem dX0_copyFrom_60 : decode cX0_copyFrom 60 = .ok (.aload_n 0, 1) := by decide +kernel
theorem dX0_copyFrom_61 : decode cX0_copyFrom 61 = .ok (.aload_n 1, 1) := by decide +kernel
theorem dX0_copyFrom_62 : decode cX0_copyFrom 62 = .ok (.getfield 18, 3) := by decide +kernel
theorem dX0_copyFrom_65 : decode cX0_copyFrom 65 = .ok (.putfield 18, 3) := by decide +kernel
theorem dX0_copyFrom_68 : decode cX0_copyFrom 68 = .ok (.return_, 1) := by decide +kernel
theorem dX0_reset_0 : decode cX0_reset 0 = .ok (.aload_n 0, 1) := by decide +kernel
theorem dX0_reset_1 : decode cX0_reset 1 = .ok (.iconst 0, 1) := by decide +kernel
theorem dX0_reset_2 : decode cX0_reset 2 = .ok (.putfield 22, 3) := by decide +kernel
theorem dX0_reset_5 : decode cX0_reset 5 = .ok (.aload_n 0, 1) := by decide +kernel
theorem dX0_reset_6 : decode cX0_reset 6 = .ok (.iconst 0, 1) := by decide +kernel
theorem dX0_reset_7 : decode cX0_reset 7 = .ok (.putfield 31, 3) := by decide +kernel
theorem dX0_reset_10 : decode cX0_reset 10 = .ok (.aload_n 0, 1) := by decide +kernel
theorem dX0_reset_11 : decode cX0_reset 11 = .ok (.iconst 0, 1) := by decide +kernel
theorem dX0_reset_12 : decode cX0_reset 12 = .ok (.putfield 34, 3) := by decide +kernel
theorem dX0_reset_15 : decode cX0_reset 15 = .ok (.aload_n 0, 1) := by decide +kernel
theorem dX0_reset_16 : decode cX0_reset 16 = .ok (.bipush 16, 2) := by decide +kernel
theorem dX0_reset_18 : decode cX0_reset 18 = .ok (.putfield 18, 3) := by decide +kernel
theorem dX0_reset_21 : decode cX0_reset 21 = .ok (.return_, 1) := by decide +kernel
theorem dX0_part_0 : decode cX0_part 0 = .ok (.aload_n 0, 1) := by decide +kernel
theorem dX0_part_1 : decode cX0_part 1 = .ok (.getfield 15, 3) := by decide +kernel
theorem dX0_part_4 : decode cX0_part 4 = .ok (.iload_n 1, 1) := by decide +kernel
theorem dX0_part_5 : decode cX0_part 5 = .ok (.bipush 7, 2) := by decide +kernel
theorem dX0_part_7 : decode cX0_part 7 = .ok (.imul, 1) := by decide +kernel
theorem dX0_part_8 : decode cX0_part 8 = .ok (.iload_n 2, 1) := by decide +kernel
theorem dX0_part_9 : decode cX0_part 9 = .ok (.iadd, 1) := by decide +kernel
theorem dX0_part_10 : decode cX0_part 10 = .ok (.iaload, 1) := by decide +kernel
theorem dX0_part_11 : decode cX0_part 11 = .ok (.ireturn, 1) := by decide +kernel
theorem dX0_putPart_0 : decode cX0_putPart 0 = .ok (.aload_n 0, 1) := by decide +kernel
theorem dX0_putPart_1 : decode cX0_putPart 1 = .ok (.getfield 15, 3) := by decide +kernel
theorem dX0_putPart_4 : decode cX0_putPart 4 = .ok (.iload_n 1, 1) := by decide +kernel
theorem dX0_putPart_5 : decode cX0_putPart 5 = .ok (.bipush 7, 2) := by decide +kernel
theorem dX0_putPart_7 : decode cX0_putPart 7 = .ok (.imul, 1) := by decide +kernel
theorem dX0_putPart_8 : decode cX0_putPart 8 = .ok (.iload_n 2, 1) := by decide +kernel
theorem dX0_putPart_9 : decode cX0_putPart 9 = .ok (.iadd, 1) := by decide +kernel
theorem dX0_putPart_10 : decode cX0_putPart 10 = .ok (.iload_n 3, 1) := by decide +kernel
theorem dX0_putPart_11 : decode cX0_putPart 11 = .ok (.iastore, 1) := by decide +kernel
theorem dX0_putPart_12 : decode cX0_putPart 12 = .ok (.return_, 1) := by decide +kernel
set_option maxRecDepth 20000 in
theorem ggX0_leadsFrom_X0_part : GoodIn wsX0_leadsFrom wsX0_part := goodIn_r _ [5, 6, 7, 8, 9, 10, 11, 12] (by decide +kernel) (by decide +kernel)
set_option maxRecDepth 20000 in
theorem gX0_leadsFrom_X0_part : GoodIn wsX0_leadsFrom (wsV RX0 37 RX0 yX0_part wsX0_part) := goodIn_app (goodIn_of _ (by decide +kernel)) ggX0_leadsFrom_X0_part
theorem dX0_leadsFrom_0 : decode cX0_leadsFrom 0 = .ok (.aload_n 0, 1) := by decide +kernel
theorem dX0_leadsFrom_1 : decode cX0_leadsFrom 1 = .ok (.iload_n 1, 1) := by decide +kernel
theorem dX0_leadsFrom_2 : decode cX0_leadsFrom 2 = .ok (.iconst 0, 1) := by decide +kernel
theorem dX0_leadsFrom_3 : decode cX0_leadsFrom 3 = .ok (.invokevirtual 37, 3) := by decide +kernel
theorem dX0_leadsFrom_6 : decode cX0_leadsFrom 6 = .ok (.istore_n 3, 1) := by decide +kernel
theorem dX0_leadsFrom_7 : decode cX0_leadsFrom 7 = .ok (.iload_n 3, 1) := by decide +kernel
theorem dX0_leadsFrom_8 : decode cX0_leadsFrom 8 = .ok (.iload_n 2, 1) := by decide +kernel
theorem dX0_leadsFrom_9 : decode cX0_leadsFrom 9 = .ok (.if_icmp .eq 9, 3) := by decide +kernel
theorem dX0_leadsFrom_12 : decode cX0_leadsFrom 12 = .ok (.iload_n 3, 1) := by decide +kernel
theorem dX0_leadsFrom_13 : decode cX0_leadsFrom 13 = .ok (.bipush 9, 2) := by decide +kernel
theorem dX0_leadsFrom_15 : decode cX0_leadsFrom 15 = .ok (.if_icmp .ne 7, 3) := by decide +kernel
theorem dX0_leadsFrom_18 : decode cX0_leadsFrom 18 = .ok (.iconst 1, 1) := by decide +kernel
theorem dX0_leadsFrom_19 : decode cX0_leadsFrom 19 = .ok (.goto 4, 3) := by decide +kernel
theorem dX0_leadsFrom_22 : decode cX0_leadsFrom 22 = .ok (.iconst 0, 1) := by decide +kernel
theorem dX0_leadsFrom_23 : decode cX0_leadsFrom 23 = .ok (.ireturn, 1) := by decide +kernel
theorem dX0_isMasked_0 : decode cX0_isMasked 0 = .ok (.aload_n 0, 1) := by decide +kernel
theorem dX0_isMasked_1 : decode cX0_isMasked 1 = .ok (.getfield 34, 3) := by decide +kernel
theorem dX0_isMasked_4 : decode cX0_isMasked 4 = .ok (.iload_n 1, 1) := by decide +kernel
theorem dX0_isMasked_5 : decode cX0_isMasked 5 = .ok (.ishr, 1) := by decide +kernel
theorem dX0_isMasked_6 : decode cX0_isMasked 6 = .ok (.iconst 1, 1) := by decide +kernel
theorem dX0_isMasked_7 : decode cX0_isMasked 7 = .ok (.iand, 1) := by decide +kernel
theorem dX0_isMasked_8 : decode cX0_isMasked 8 = .ok (.iconst 1, 1) := by decide +kernel
theorem dX0_isMasked_9 : decode cX0_isMasked 9 = .ok (.if_icmp .ne 7, 3) := by decide +kernel
theorem dX0_isMasked_12 : decode cX0_isMasked 12 = .ok (.iconst 1, 1) := by decide +kernel
theorem dX0_isMasked_13 : decode cX0_isMasked 13 = .ok (.goto 4, 3) := by decide +kernel
theorem dX0_isMasked_16 : decode cX0_isMasked 16 = .ok (.iconst 0, 1) := by decide +kernel
theorem dX0_isMasked_17 : decode cX0_isMasked 17 = .ok (.ireturn, 1) := by decide +kernel
set_option maxRecDepth 20000 in
theorem ggX0_stepsFrom_X0_part : GoodIn wsX0_stepsFrom wsX0_part := goodIn_r _ [6, 7, 8, 9, 10, 11, 12, 13] (by decide +kernel) (by decide +kernel)
set_option maxRecDepth 20000 in
theorem gX0_stepsFrom_X0_part : GoodIn wsX0_stepsFrom (wsV RX0 37 RX0 yX0_part wsX0_part) := goodIn_app (goodIn_of _ (by decide +kernel)) ggX0_stepsFrom_X0_part
theorem dX0_stepsFrom_0 : decode cX0_stepsFrom 0 = .ok (.iconst 0, 1) := by decide +kernel
theorem dX0_stepsFrom_1 : decode cX0_stepsFrom 1 = .ok (.istore_n 2, 1) := by decide +kernel
theorem dX0_stepsFrom_2 : decode cX0_stepsFrom 2 = .ok (.iconst 0, 1) := by decide +kernel
theorem dX0_stepsFrom_3 : decode cX0_stepsFrom 3 = .ok (.istore_n 3, 1) := by decide +kernel
theorem dX0_stepsFrom_4 : decode cX0_stepsFrom 4 = .ok (.iload_n 3, 1) := by decide +kernel
theorem dX0_stepsFrom_5 : decode cX0_stepsFrom 5 = .ok (.aload_n 0, 1) := by decide +kernel
theorem dX0_stepsFrom_6 : decode cX0_stepsFrom 6 = .ok (.getfield 31, 3) := by decide +kernel
theorem dX0_stepsFrom_9 : decode cX0_stepsFrom 9 = .ok (.if_icmp .ge 45, 3) := by decide +kernel
theorem dX0_stepsFrom_12 : decode cX0_stepsFrom 12 = .ok (.aload_n 0, 1) := by decide +kernel
theorem dX0_stepsFrom_13 : decode cX0_stepsFrom 13 = .ok (.iload_n 3, 1) := by decide +kernel
theorem dX0_stepsFrom_14 : decode cX0_stepsFrom 14 = .ok (.iconst 0, 1) := by decide +kernel
theorem dX0_stepsFrom_15 : decode cX0_stepsFrom 15 = .ok (.invokevirtual 37, 3) := by decide +kernel
theorem dX0_stepsFrom_18 : decode cX0_stepsFrom 18 = .ok (.istore 4, 2) := by decide +kernel
theorem dX0_stepsFrom_20 : decode cX0_stepsFrom 20 = .ok (.iload 4, 2) := by decide +kernel
theorem dX0_stepsFrom_22 : decode cX0_stepsFrom 22 = .ok (.bipush 9, 2) := by decide +kernel
theorem dX0_stepsFrom_24 : decode cX0_stepsFrom 24 = .ok (.if_icmp .eq 13, 3) := by decide +kernel
theorem dX0_stepsFrom_27 : decode cX0_stepsFrom 27 = .ok (.iload_n 1, 1) := by decide +kernel
theorem dX0_stepsFrom_28 : decode cX0_stepsFrom 28 = .ok (.iload 4, 2) := by decide +kernel
theorem dX0_stepsFrom_30 : decode cX0_stepsFrom 30 = .ok (.ishr, 1) := by decide +kernel
theorem dX0_stepsFrom_31 : decode cX0_stepsFrom 31 = .ok (.iconst 1, 1) := by decide +kernel
theorem dX0_stepsFrom_32 : decode cX0_stepsFrom 32 = .ok (.iand, 1) := by decide +kernel
theorem dX0_stepsFrom_33 : decode cX0_stepsFrom 33 = .ok (.iconst 1, 1) := by decide +kernel
theorem dX0_stepsFrom_34 : decode cX0_stepsFrom 34 = .ok (.if_icmp .ne 14, 3) := by decide +kernel
theorem dX0_stepsFrom_37 : decode cX0_stepsFrom 37 = .ok (.iload_n 2, 1) := by decide +kernel
theorem dX0_stepsFrom_38 : decode cX0_stepsFrom 38 = .ok (.iconst 1, 1) := by decide +kernel
theorem dX0_stepsFrom_39 : decode cX0_stepsFrom 39 = .ok (.aload_n 0, 1) := by decide +kernel
theorem dX0_stepsFrom_40 : decode cX0_stepsFrom 40 = .ok (.iload_n 3, 1) := by decide +kernel
theorem dX0_stepsFrom_41 : decode cX0_stepsFrom 41 = .ok (.iconst 1, 1) := by decide +kernel
theorem dX0_stepsFrom_42 : decode cX0_stepsFrom 42 = .ok (.invokevirtual 37, 3) := by decide +kernel
theorem dX0_stepsFrom_45 : decode cX0_stepsFrom 45 = .ok (.ishl, 1) := by decide +kernel
theorem dX0_stepsFrom_46 : decode cX0_stepsFrom 46 = .ok (.ior, 1) := by decide +kernel
theorem dX0_stepsFrom_47 : decode cX0_stepsFrom 47 = .ok (.istore_n 2, 1) := by decide +kernel
theorem dX0_stepsFrom_48 : decode cX0_stepsFrom 48 = .ok (.iinc 3 1, 3) := by decide +kernel
theorem dX0_stepsFrom_51 : decode cX0_stepsFrom 51 = .ok (.goto (-47), 3) := by decide +kernel
theorem dX0_stepsFrom_54 : decode cX0_stepsFrom 54 = .ok (.iload_n 2, 1) := by decide +kernel
theorem dX0_stepsFrom_55 : decode cX0_stepsFrom 55 = .ok (.ireturn, 1) := by decide +kernel
theorem dX1_init_0 : decode cX1_init 0 = .ok (.aload_n 0, 1) := by decide +kernel
theorem dX1_init_1 : decode cX1_init 1 = .ok (.invokespecial 3, 3) := by decide +kernel
theorem dX1_init_4 : decode cX1_init 4 = .ok (.aload_n 0, 1) := by decide +kernel
theorem dX1_init_5 : decode cX1_init 5 = .ok (.iconst (-1), 1) := by decide +kernel
theorem dX1_init_6 : decode cX1_init 6 = .ok (.putfield 9, 3) := by decide +kernel
theorem dX1_init_9 : decode cX1_init 9 = .ok (.aload_n 0, 1) := by decide +kernel
theorem dX1_init_10 : decode cX1_init 10 = .ok (.bipush 6, 2) := by decide +kernel
theorem dX1_init_12 : decode cX1_init 12 = .ok (.newarray .float, 2) := by decide +kernel
theorem dX1_init_14 : decode cX1_init 14 = .ok (.putfield 15, 3) := by decide +kernel
theorem dX1_init_17 : decode cX1_init 17 = .ok (.aload_n 0, 1) := by decide +kernel
theorem dX1_init_18 : decode cX1_init 18 = .ok (.bipush 6, 2) := by decide +kernel
theorem dX1_init_20 : decode cX1_init 20 = .ok (.newarray .float, 2) := by decide +kernel
theorem dX1_init_22 : decode cX1_init 22 = .ok (.putfield 19, 3) := by decide +kernel
theorem dX1_init_25 : decode cX1_init 25 = .ok (.aload_n 0, 1) := by decide +kernel
theorem dX1_init_26 : decode cX1_init 26 = .ok (.getfield 15, 3) := by decide +kernel
theorem dX1_init_29 : decode cX1_init 29 = .ok (.iconst 0, 1) := by decide +kernel
theorem dX1_init_30 : decode cX1_init 30 = .ok (.fconst 1, 1) := by decide +kernel
theorem dX1_init_31 : decode cX1_init 31 = .ok (.fastore, 1) := by decide +kernel
theorem dX1_init_32 : decode cX1_init 32 = .ok (.return_, 1) := by decide +kernel
theorem dX1_copyFrom_0 : decode cX1_copyFrom 0 = .ok (.aload_n 0, 1) := by decide +kernel
theorem dX1_copyFrom_1 : decode cX1_copyFrom 1 = .ok (.aload_n 1, 1) := by decide +kernel
theorem dX1_copyFrom_2 : decode cX1_copyFrom 2 = .ok (.getfield 22, 3) := by decide +kernel
theorem dX1_copyFrom_5 : decode cX1_copyFrom 5 = .ok (.putfield 22, 3) := by decide +kernel
theorem dX1_copyFrom_8 : decode cX1_copyFrom 8 = .ok (.aload_n 0, 1) := by decide +kernel
theorem dX1_copyFrom_9 : decode cX1_copyFrom 9 = .ok (.aload_n 1, 1) := by decide +kernel
theorem dX1_copyFrom_10 : decode cX1_copyFrom 10 = .ok (.getfield 25, 3) := by decide +kernel
theorem dX1_copyFrom_13 : decode cX1_copyFrom 13 = .ok (.putfield 25, 3) := by decide +kernel
theorem dX1_copyFrom_16 : decode cX1_copyFrom 16 = .ok (.aload_n 0, 1) := by decide +kernel
theorem dX1_copyFrom_17 : decode cX1_copyFrom 17 = .ok (.aload_n 1, 1) := by decide +kernel
theorem dX1_copyFrom_18 : decode cX1_copyFrom 18 = .ok (.getfield 9, 3) := by decide +kernel
theorem dX1_copyFrom_21 : decode cX1_copyFrom 21 = .ok (.putfield 9, 3) := by decide +kernel
theorem dX1_copyFrom_24 : decode cX1_copyFrom 24 = .ok (.aload_n 0, 1) := by decide +kernel
theorem dX1_copyFrom_25 : decode cX1_copyFrom 25 = .ok (.aload_n 1, 1) := by decide +kernel
theorem dX1_copyFrom_26 : decode cX1_copyFrom 26 = .ok (.getfield 28, 3) := by decide +kernel
theorem dX1_copyFrom_29 : decode cX1_copyFrom 29 = .ok (.putfield 28, 3) := by decide +kernel
theorem dX1_copyFrom_32 : decode cX1_copyFrom 32 = .ok (.aload_n 0, 1) := by decide +kernel
theorem dX1_copyFrom_33 : decode cX1_copyFrom 33 = .ok (.aload_n 1, 1) := by decide +kernel
theorem dX1_copyFrom_34 : decode cX1_copyFrom 34 = .ok (.getfield 31, 3) := by decide +kernel
theorem dX1_copyFrom_37 : decode cX1_copyFrom 37 = .ok (.putfield 31, 3) := by decide +kernel
theorem dX1_copyFrom_40 : decode cX1_copyFrom 40 = .ok (.aload_n 1, 1) := by decide +kernel
theorem dX1_copyFrom_41 : decode cX1_copyFrom 41 = .ok (.getfield 15, 3) := by decide +kernel
theorem dX1_copyFrom_44 : decode cX1_copyFrom 44 = .ok (.iconst 0, 1) := by decide +kernel
theorem dX1_copyFrom_45 : decode cX1_copyFrom 45 = .ok (.aload_n 0, 1) := by decide +kernel
theorem dX1_copyFrom_46 : decode cX1_copyFrom 46 = .ok (.getfield 15, 3) := by decide +kernel
theorem dX1_copyFrom_49 : decode cX1_copyFrom 49 = .ok (.iconst 0, 1) := by decide +kernel
theorem dX1_copyFrom_50 : decode cX1_copyFrom 50 = .ok (.bipush 6, 2) := by decide +kernel
theorem dX1_copyFrom_52 : decode cX1_copyFrom 52 = .ok (.invokestatic 34, 3) := by decide +kernel
theorem dX1_copyFrom_55 : decode cX1_copyFrom 55 = .ok (.aload_n 1, 1) := by decide +kernel
theorem dX1_copyFrom_56 : decode cX1_copyFrom 56 = .ok (.getfield 19, 3) := by decide +kernel
theorem dX1_copyFrom_59 : decode cX1_copyFrom 59 = .ok (.iconst 0, 1) := by decide +kernel
theorem dX1_copyFrom_60 : decode cX1_copyFrom 60 = .ok (.aload_n 0, 1) := by decide +kernel
theorem dX1_copyFrom_61 : decode cX1_copyFrom 61 = .ok (.getfield 19, 3) := by decide +kernel
theorem dX1_copyFrom_64 : decode cX1_copyFrom 64 = .ok (.iconst 0, 1) := by decide +kernel
theorem dX1_copyFrom_65 : decode cX1_copyFrom 65 = .ok (.bipush 6, 2) := by decide +kernel
theorem dX1_copyFrom_67 : decode cX1_copyFrom 67 = .ok (.invokestatic 34, 3) := by decide +kernel
theorem dX1_copyFrom_70 : decode cX1_copyFrom 70 = .ok (.return_, 1) := by decide +kernel
set_option maxRecDepth 20000 in
theorem ggX1_reset_X1_settle : GoodIn wsX1_reset wsX1_settle := goodIn_r _ [7, 8, 9, 10, 11, 1, 12, 13, 14, 15, 16, 17, 18, 19, 20, 21, 22] (by decide +kernel) (by decide +kernel)
set_option maxRecDepth 20000 in
theorem gX1_reset_X1_settle : GoodIn wsX1_reset (wsV RX1 40 RX1 yX1_settle wsX1_settle) := goodIn_app (goodIn_of _ (by decide +kernel)) ggX1_reset_X1_settle
theorem dX1_reset_0 : decode cX1_reset 0 = .ok (.aload_n 0, 1) := by decide +kernel
theorem dX1_reset_1 : decode cX1_reset 1 = .ok (.iconst 0, 1) := by decide +kernel
theorem dX1_reset_2 : decode cX1_reset 2 = .ok (.putfield 22, 3) := by decide +kernel
theorem dX1_reset_5 : decode cX1_reset 5 = .ok (.aload_n 0, 1) := by decide +kernel
theorem dX1_reset_6 : decode cX1_reset 6 = .ok (.iconst 0, 1) := by decide +kernel
theorem dX1_reset_7 : decode cX1_reset 7 = .ok (.putfield 25, 3) := by decide +kernel
theorem dX1_reset_10 : decode cX1_reset 10 = .ok (.aload_n 0, 1) := by decide +kernel
theorem dX1_reset_11 : decode cX1_reset 11 = .ok (.invokevirtual 40, 3) := by decide +kernel
theorem dX1_reset_14 : decode cX1_reset 14 = .ok (.return_, 1) := by decide +kernel
theorem dX1_isSteady_0 : decode cX1_isSteady 0 = .ok (.aload_n 0, 1) := by decide +kernel
theorem dX1_isSteady_1 : decode cX1_isSteady 1 = .ok (.getfield 9, 3) := by decide +kernel
theorem dX1_isSteady_4 : decode cX1_isSteady 4 = .ok (.iconst (-1), 1) := by decide +kernel
theorem dX1_isSteady_5 : decode cX1_isSteady 5 = .ok (.if_icmp .ne 7, 3) := by decide +kernel
theorem dX1_isSteady_8 : decode cX1_isSteady 8 = .ok (.iconst 1, 1) := by decide +kernel
theorem dX1_isSteady_9 : decode cX1_isSteady 9 = .ok (.goto 4, 3) := by decide +kernel
theorem dX1_isSteady_12 : decode cX1_isSteady 12 = .ok (.iconst 0, 1) := by decide +kernel
theorem dX1_isSteady_13 : decode cX1_isSteady 13 = .ok (.ireturn, 1) := by decide +kernel
set_option maxRecDepth 20000 in
theorem ggX1_part_X1_isSteady : GoodIn wsX1_part wsX1_isSteady := goodIn_r _ [10, 5, 11, 12, 13, 14, 15, 16, 17] (by decide +kernel) (by decide +kernel)
set_option maxRecDepth 20000 in
theorem gX1_part_X1_isSteady : GoodIn wsX1_part (wsV RX1 43 RX1 yX1_isSteady wsX1_isSteady) := goodIn_app (goodIn_of _ (by decide +kernel)) ggX1_part_X1_isSteady
theorem dX1_part_0 : decode cX1_part 0 = .ok (.iload_n 1, 1) := by decide +kernel
theorem dX1_part_1 : decode cX1_part 1 = .ok (.tableswitch 68 0 4 #[35, 40, 45, 50, 55], 35) := by decide +kernel
theorem dX1_part_36 : decode cX1_part 36 = .ok (.aload_n 0, 1) := by decide +kernel
theorem dX1_part_37 : decode cX1_part 37 = .ok (.getfield 22, 3) := by decide +kernel
theorem dX1_part_40 : decode cX1_part 40 = .ok (.ireturn, 1) := by decide +kernel
theorem dX1_part_41 : decode cX1_part 41 = .ok (.aload_n 0, 1) := by decide +kernel
theorem dX1_part_42 : decode cX1_part 42 = .ok (.getfield 25, 3) := by decide +kernel
theorem dX1_part_45 : decode cX1_part 45 = .ok (.ireturn, 1) := by decide +kernel
theorem dX1_part_46 : decode cX1_part 46 = .ok (.aload_n 0, 1) := by decide +kernel
theorem dX1_part_47 : decode cX1_part 47 = .ok (.getfield 28, 3) := by decide +kernel
theorem dX1_part_50 : decode cX1_part 50 = .ok (.ireturn, 1) := by decide +kernel
theorem dX1_part_51 : decode cX1_part 51 = .ok (.aload_n 0, 1) := by decide +kernel
theorem dX1_part_52 : decode cX1_part 52 = .ok (.getfield 31, 3) := by decide +kernel
theorem dX1_part_55 : decode cX1_part 55 = .ok (.ireturn, 1) := by decide +kernel
theorem dX1_part_56 : decode cX1_part 56 = .ok (.aload_n 0, 1) := by decide +kernel
theorem dX1_part_57 : decode cX1_part 57 = .ok (.invokevirtual 43, 3) := by decide +kernel
theorem dX1_part_60 : decode cX1_part 60 = .ok (.ifCond .eq 7, 3) := by decide +kernel
theorem dX1_part_63 : decode cX1_part 63 = .ok (.iconst 1, 1) := by decide +kernel
theorem dX1_part_64 : decode cX1_part 64 = .ok (.goto 4, 3) := by decide +kernel
theorem dX1_part_67 : decode cX1_part 67 = .ok (.iconst 0, 1) := by decide +kernel
theorem dX1_part_68 : decode cX1_part 68 = .ok (.ireturn, 1) := by decide +kernel
theorem dX1_part_69 : decode cX1_part 69 = .ok (.aload_n 0, 1) := by decide +kernel
theorem dX1_part_70 : decode cX1_part 70 = .ok (.getfield 9, 3) := by decide +kernel
theorem dX1_part_73 : decode cX1_part 73 = .ok (.ireturn, 1) := by decide +kernel
set_option maxRecDepth 20000 in
theorem ggX1_goOn_X1_isSteady : GoodIn wsX1_goOn wsX1_isSteady := goodIn_r _ [11, 1, 70, 71, 72, 73, 74, 75, 76] (by decide +kernel) (by decide +kernel)
set_option maxRecDepth 20000 in
theorem gX1_goOn_X1_isSteady : GoodIn wsX1_goOn (wsV RX1 43 RX1 yX1_isSteady wsX1_isSteady) := goodIn_app (goodIn_of _ (by decide +kernel)) ggX1_goOn_X1_isSteady
set_option maxRecDepth 20000 in
theorem ggX1_goOn_X0_part : GoodIn wsX1_goOn wsX0_part := goodIn_r _ [16, 17, 77, 78, 79, 80, 81, 82] (by decide +kernel) (by decide +kernel)
set_option maxRecDepth 20000 in
theorem gX1_goOn_X0_part : GoodIn wsX1_goOn (wsV RX1 47 RX0 yX0_part wsX0_part) := goodIn_app (goodIn_of _ (by decide +kernel)) ggX1_goOn_X0_part
set_option maxRecDepth 20000 in
theorem ggX1_goOn_X1_takeFirstWay : GoodIn wsX1_goOn wsX1_takeFirstWay := goodIn_r _ [21, 22, 23, 24, 10, 25, 26, 27, 28, 29, 15, 30, 31, 13, 14, 16, 17, 12, 32, 33, 34, 35, 2, 36, 37, 38, 39, 40, 41, 42, 43, 44, 45, 46, 47, 48, 49, 1, 50, 51, 52, 53, 54, 55, 56, 57, 58, 59, 60, 61, 62, 63, 64, 65, 77, 78, 79, 80, 81, 82, 70, 71, 72, 73, 74, 75, 76, 83, 84, 85, 86] (by decide +kernel) (by decide +kernel)
set_option maxRecDepth 20000 in
theorem gX1_goOn_X1_takeFirstWay : GoodIn wsX1_goOn (wsV RX1 53 RX1 yX1_takeFirstWay wsX1_takeFirstWay) := goodIn_app (goodIn_of _ (by decide +kernel)) ggX1_goOn_X1_takeFirstWay
set_option maxRecDepth 20000 in
theorem ggX1_goOn_X1_blend : GoodIn wsX1_goOn wsX1_blend := goodIn_r _ [69, 51, 50, 53, 52, 26, 58, 59, 60, 10, 61, 1, 62, 63, 64, 65, 70, 71, 72, 73, 74, 75, 76] (by decide +kernel) (by decide +kernel)
set_option maxRecDepth 20000 in
theorem gX1_goOn_X1_blend : GoodIn wsX1_goOn (wsV RX1 62 RX1 yX1_blend wsX1_blend) := goodIn_app (goodIn_of _ (by decide +kernel)) ggX1_goOn_X1_blend
theorem dX1_goOn_0 : decode cX1_goOn 0 = .ok (.aload_n 0, 1) := by decide +kernel
theorem dX1_goOn_1 : decode cX1_goOn 1 = .ok (.invokevirtual 43, 3) := by decide +kernel
theorem dX1_goOn_4 : decode cX1_goOn 4 = .ok (.ifCond .ne 16, 3) := by decide +kernel
theorem dX1_goOn_7 : decode cX1_goOn 7 = .ok (.aload_n 1, 1) := by decide +kernel
theorem dX1_goOn_8 : decode cX1_goOn 8 = .ok (.aload_n 0, 1) := by decide +kernel
theorem dX1_goOn_9 : decode cX1_goOn 9 = .ok (.getfield 9, 3) := by decide +kernel
theorem dX1_goOn_12 : decode cX1_goOn 12 = .ok (.iconst 3, 1) := by decide +kernel
theorem dX1_goOn_13 : decode cX1_goOn 13 = .ok (.invokevirtual 47, 3) := by decide +kernel
theorem dX1_goOn_16 : decode cX1_goOn 16 = .ok (.iconst 1, 1) := by decide +kernel
theorem dX1_goOn_17 : decode cX1_goOn 17 = .ok (.if_icmp .ne 9, 3) := by decide +kernel
theorem dX1_goOn_20 : decode cX1_goOn 20 = .ok (.aload_n 0, 1) := by decide +kernel
theorem dX1_goOn_21 : decode cX1_goOn 21 = .ok (.aload_n 1, 1) := by decide +kernel
theorem dX1_goOn_22 : decode cX1_goOn 22 = .ok (.aload_n 2, 1) := by decide +kernel
theorem dX1_goOn_23 : decode cX1_goOn 23 = .ok (.invokevirtual 53, 3) := by decide +kernel
theorem dX1_goOn_26 : decode cX1_goOn 26 = .ok (.aload_n 0, 1) := by decide +kernel
theorem dX1_goOn_27 : decode cX1_goOn 27 = .ok (.aload_n 0, 1) := by decide +kernel
theorem dX1_goOn_28 : decode cX1_goOn 28 = .ok (.getfield 25, 3) := by decide +kernel
theorem dX1_goOn_31 : decode cX1_goOn 31 = .ok (.iconst 1, 1) := by decide +kernel
theorem dX1_goOn_32 : decode cX1_goOn 32 = .ok (.iadd, 1) := by decide +kernel
theorem dX1_goOn_33 : decode cX1_goOn 33 = .ok (.sipush 9999, 3) := by decide +kernel
theorem dX1_goOn_36 : decode cX1_goOn 36 = .ok (.invokestatic 57, 3) := by decide +kernel
theorem dX1_goOn_39 : decode cX1_goOn 39 = .ok (.putfield 25, 3) := by decide +kernel
theorem dX1_goOn_42 : decode cX1_goOn 42 = .ok (.aload_n 0, 1) := by decide +kernel
theorem dX1_goOn_43 : decode cX1_goOn 43 = .ok (.invokevirtual 43, 3) := by decide +kernel
theorem dX1_goOn_46 : decode cX1_goOn 46 = .ok (.ifCond .ne 7, 3) := by decide +kernel
theorem dX1_goOn_49 : decode cX1_goOn 49 = .ok (.aload_n 0, 1) := by decide +kernel
theorem dX1_goOn_50 : decode cX1_goOn 50 = .ok (.invokevirtual 62, 3) := by decide +kernel
theorem dX1_goOn_53 : decode cX1_goOn 53 = .ok (.return_, 1) := by decide +kernel
set_option maxRecDepth 20000 in
theorem ggX1_takeFirstWay_X1_isOpen : GoodIn wsX1_takeFirstWay wsX1_isOpen := goodIn_r _ [5, 6, 7, 8, 9, 10, 11, 12, 13, 14, 15, 16, 17, 18, 19, 20, 4, 21, 22, 23, 24, 25, 26, 27, 28, 60, 61, 62, 63, 64, 65, 66, 54, 55, 56, 57, 58, 59, 67, 68, 69, 70] (by decide +kernel) (by decide +kernel)
set_option maxRecDepth 20000 in
theorem gX1_takeFirstWay_X1_isOpen : GoodIn wsX1_takeFirstWay (wsV RX1 68 RX1 yX1_isOpen wsX1_isOpen) := goodIn_app (goodIn_of _ (by decide +kernel)) ggX1_takeFirstWay_X1_isOpen
set_option maxRecDepth 20000 in
theorem ggX1_takeFirstWay_X0_part : GoodIn wsX1_takeFirstWay wsX0_part := goodIn_r _ [15, 16, 54, 55, 56, 57, 58, 59] (by decide +kernel) (by decide +kernel)
set_option maxRecDepth 20000 in
theorem gX1_takeFirstWay_X0_part : GoodIn wsX1_takeFirstWay (wsV RX1 47 RX0 yX0_part wsX0_part) := goodIn_app (goodIn_of _ (by decide +kernel)) ggX1_takeFirstWay_X0_part
set_option maxRecDepth 20000 in
theorem ggX1_takeFirstWay_X2_release : GoodIn wsX1_takeFirstWay wsX2_release := goodIn_r _ [32, 28, 67, 68, 69, 70] (by decide +kernel) (by decide +kernel)
set_option maxRecDepth 20000 in
theorem gX1_takeFirstWay_X2_release : GoodIn wsX1_takeFirstWay (wsV RX1 72 RX2 yX2_release wsX2_release) := goodIn_app (goodIn_of _ (by decide +kernel)) ggX1_takeFirstWay_X2_release
set_option maxRecDepth 20000 in
theorem ggX1_takeFirstWay_X1_begin : GoodIn wsX1_takeFirstWay wsX1_begin := goodIn_r _ [36, 6, 22, 37, 38, 39, 40, 41, 42, 43, 44, 45, 46, 47, 48, 4, 49, 50, 51, 52, 53, 60, 61, 62, 63, 64, 65, 66] (by decide +kernel) (by decide +kernel)
set_option maxRecDepth 20000 in
theorem gX1_takeFirstWay_X1_begin : GoodIn wsX1_takeFirstWay (wsV RX1 78 RX1 yX1_begin wsX1_begin) := goodIn_app (goodIn_of _ (by decide +kernel)) ggX1_takeFirstWay_X1_begin
theorem dX1_takeFirstWay_0 : decode cX1_takeFirstWay 0 = .ok (.iconst 0, 1) := by decide +kernel
theorem dX1_takeFirstWay_1 : decode cX1_takeFirstWay 1 = .ok (.istore_n 3, 1) := by decide +kernel
theorem dX1_takeFirstWay_2 : decode cX1_takeFirstWay 2 = .ok (.iload_n 3, 1) := by decide +kernel
theorem dX1_takeFirstWay_3 : decode cX1_takeFirstWay 3 = .ok (.aload_n 1, 1) := by decide +kernel
theorem dX1_takeFirstWay_4 : decode cX1_takeFirstWay 4 = .ok (.getfield 65, 3) := by decide +kernel
theorem dX1_takeFirstWay_7 : decode cX1_takeFirstWay 7 = .ok (.if_icmp .ge 57, 3) := by decide +kernel
theorem dX1_takeFirstWay_10 : decode cX1_takeFirstWay 10 = .ok (.aload_n 0, 1) := by decide +kernel
theorem dX1_takeFirstWay_11 : decode cX1_takeFirstWay 11 = .ok (.aload_n 1, 1) := by decide +kernel
theorem dX1_takeFirstWay_12 : decode cX1_takeFirstWay 12 = .ok (.iload_n 3, 1) := by decide +kernel
theorem dX1_takeFirstWay_13 : decode cX1_takeFirstWay 13 = .ok (.aload_n 2, 1) := by decide +kernel
theorem dX1_takeFirstWay_14 : decode cX1_takeFirstWay 14 = .ok (.invokevirtual 68, 3) := by decide +kernel
theorem dX1_takeFirstWay_17 : decode cX1_takeFirstWay 17 = .ok (.ifCond .eq 41, 3) := by decide +kernel
theorem dX1_takeFirstWay_20 : decode cX1_takeFirstWay 20 = .ok (.aload_n 1, 1) := by decide +kernel
theorem dX1_takeFirstWay_21 : decode cX1_takeFirstWay 21 = .ok (.iload_n 3, 1) := by decide +kernel
theorem dX1_takeFirstWay_22 : decode cX1_takeFirstWay 22 = .ok (.iconst 4, 1) := by decide +kernel
theorem dX1_takeFirstWay_23 : decode cX1_takeFirstWay 23 = .ok (.invokevirtual 47, 3) := by decide +kernel
theorem dX1_takeFirstWay_26 : decode cX1_takeFirstWay 26 = .ok (.iconst 3, 1) := by decide +kernel
theorem dX1_takeFirstWay_27 : decode cX1_takeFirstWay 27 = .ok (.if_icmp .ne 13, 3) := by decide +kernel
theorem dX1_takeFirstWay_30 : decode cX1_takeFirstWay 30 = .ok (.aload_n 2, 1) := by decide +kernel
theorem dX1_takeFirstWay_31 : decode cX1_takeFirstWay 31 = .ok (.aload_n 1, 1) := by decide +kernel
theorem dX1_takeFirstWay_32 : decode cX1_takeFirstWay 32 = .ok (.iload_n 3, 1) := by decide +kernel
theorem dX1_takeFirstWay_33 : decode cX1_takeFirstWay 33 = .ok (.iconst 5, 1) := by decide +kernel
theorem dX1_takeFirstWay_34 : decode cX1_takeFirstWay 34 = .ok (.invokevirtual 47, 3) := by decide +kernel
theorem dX1_takeFirstWay_37 : decode cX1_takeFirstWay 37 = .ok (.invokevirtual 72, 3) := by decide +kernel
theorem dX1_takeFirstWay_40 : decode cX1_takeFirstWay 40 = .ok (.aload_n 0, 1) := by decide +kernel
theorem dX1_takeFirstWay_41 : decode cX1_takeFirstWay 41 = .ok (.iload_n 3, 1) := by decide +kernel
theorem dX1_takeFirstWay_42 : decode cX1_takeFirstWay 42 = .ok (.aload_n 1, 1) := by decide +kernel
theorem dX1_takeFirstWay_43 : decode cX1_takeFirstWay 43 = .ok (.iload_n 3, 1) := by decide +kernel
theorem dX1_takeFirstWay_44 : decode cX1_takeFirstWay 44 = .ok (.iconst 1, 1) := by decide +kernel
theorem dX1_takeFirstWay_45 : decode cX1_takeFirstWay 45 = .ok (.invokevirtual 47, 3) := by decide +kernel
theorem dX1_takeFirstWay_48 : decode cX1_takeFirstWay 48 = .ok (.aload_n 1, 1) := by decide +kernel
theorem dX1_takeFirstWay_49 : decode cX1_takeFirstWay 49 = .ok (.iload_n 3, 1) := by decide +kernel
theorem dX1_takeFirstWay_50 : decode cX1_takeFirstWay 50 = .ok (.iconst 2, 1) := by decide +kernel
theorem dX1_takeFirstWay_51 : decode cX1_takeFirstWay 51 = .ok (.invokevirtual 47, 3) := by decide +kernel
theorem dX1_takeFirstWay_54 : decode cX1_takeFirstWay 54 = .ok (.invokevirtual 78, 3) := by decide +kernel
theorem dX1_takeFirstWay_57 : decode cX1_takeFirstWay 57 = .ok (.return_, 1) := by decide +kernel
theorem dX1_takeFirstWay_58 : decode cX1_takeFirstWay 58 = .ok (.iinc 3 1, 3) := by decide +kernel
theorem dX1_takeFirstWay_61 : decode cX1_takeFirstWay 61 = .ok (.goto (-59), 3) := by decide +kernel
theorem dX1_takeFirstWay_64 : decode cX1_takeFirstWay 64 = .ok (.return_, 1) := by decide +kernel
set_option maxRecDepth 20000 in
theorem ggX1_isOpen_X0_leadsFrom : GoodIn wsX1_isOpen wsX0_leadsFrom := goodIn_r _ [6, 7, 8, 9, 5, 10, 11, 32, 33, 34, 35, 36, 37] (by decide +kernel) (by decide +kernel)
set_option maxRecDepth 20000 in
theorem gX1_isOpen_X0_leadsFrom : GoodIn wsX1_isOpen (wsV RX1 82 RX0 yX0_leadsFrom wsX0_leadsFrom) := goodIn_app (goodIn_of _ (by decide +kernel)) ggX1_isOpen_X0_leadsFrom
set_option maxRecDepth 20000 in
theorem ggX1_isOpen_X0_part : GoodIn wsX1_isOpen wsX0_part := goodIn_r _ [10, 11, 32, 33, 34, 35, 36, 37] (by decide +kernel) (by decide +kernel)
set_option maxRecDepth 20000 in
theorem gX1_isOpen_X0_part : GoodIn wsX1_isOpen (wsV RX1 47 RX0 yX0_part wsX0_part) := goodIn_app (goodIn_of _ (by decide +kernel)) ggX1_isOpen_X0_part
set_option maxRecDepth 20000 in
theorem ggX1_isOpen_X1_holds : GoodIn wsX1_isOpen wsX1_holds := goodIn_r _ [17, 18, 12, 8, 9, 5, 10, 11, 19, 20, 21, 22, 23, 24, 25, 26, 27, 28, 29, 30, 31, 38, 39, 40, 41, 32, 33, 34, 35, 36, 37] (by decide +kernel) (by decide +kernel)
set_option maxRecDepth 20000 in
theorem gX1_isOpen_X1_holds : GoodIn wsX1_isOpen (wsV RX1 86 RX1 yX1_holds wsX1_holds) := goodIn_app (goodIn_of _ (by decide +kernel)) ggX1_isOpen_X1_holds
theorem dX1_isOpen_0 : decode cX1_isOpen 0 = .ok (.aload_n 1, 1) := by decide +kernel
theorem dX1_isOpen_1 : decode cX1_isOpen 1 = .ok (.iload_n 2, 1) := by decide +kernel
theorem dX1_isOpen_2 : decode cX1_isOpen 2 = .ok (.aload_n 0, 1) := by decide +kernel
theorem dX1_isOpen_3 : decode cX1_isOpen 3 = .ok (.getfield 22, 3) := by decide +kernel
theorem dX1_isOpen_6 : decode cX1_isOpen 6 = .ok (.invokevirtual 82, 3) := by decide +kernel
theorem dX1_isOpen_9 : decode cX1_isOpen 9 = .ok (.ifCond .eq 30, 3) := by decide +kernel
theorem dX1_isOpen_12 : decode cX1_isOpen 12 = .ok (.aload_n 1, 1) := by decide +kernel
theorem dX1_isOpen_13 : decode cX1_isOpen 13 = .ok (.iload_n 2, 1) := by decide +kernel
theorem dX1_isOpen_14 : decode cX1_isOpen 14 = .ok (.iconst 1, 1) := by decide +kernel
theorem dX1_isOpen_15 : decode cX1_isOpen 15 = .ok (.invokevirtual 47, 3) := by decide +kernel
theorem dX1_isOpen_18 : decode cX1_isOpen 18 = .ok (.aload_n 0, 1) := by decide +kernel
theorem dX1_isOpen_19 : decode cX1_isOpen 19 = .ok (.getfield 22, 3) := by decide +kernel
theorem dX1_isOpen_22 : decode cX1_isOpen 22 = .ok (.if_icmp .eq 17, 3) := by decide +kernel
theorem dX1_isOpen_25 : decode cX1_isOpen 25 = .ok (.aload_n 0, 1) := by decide +kernel
theorem dX1_isOpen_26 : decode cX1_isOpen 26 = .ok (.aload_n 1, 1) := by decide +kernel
theorem dX1_isOpen_27 : decode cX1_isOpen 27 = .ok (.iload_n 2, 1) := by decide +kernel
theorem dX1_isOpen_28 : decode cX1_isOpen 28 = .ok (.aload_n 3, 1) := by decide +kernel
theorem dX1_isOpen_29 : decode cX1_isOpen 29 = .ok (.invokevirtual 86, 3) := by decide +kernel
theorem dX1_isOpen_32 : decode cX1_isOpen 32 = .ok (.ifCond .eq 7, 3) := by decide +kernel
theorem dX1_isOpen_35 : decode cX1_isOpen 35 = .ok (.iconst 1, 1) := by decide +kernel
theorem dX1_isOpen_36 : decode cX1_isOpen 36 = .ok (.goto 4, 3) := by decide +kernel
theorem dX1_isOpen_39 : decode cX1_isOpen 39 = .ok (.iconst 0, 1) := by decide +kernel
theorem dX1_isOpen_40 : decode cX1_isOpen 40 = .ok (.ireturn, 1) := by decide +kernel
set_option maxRecDepth 20000 in
theorem ggX1_holds_X0_part : GoodIn wsX1_holds wsX0_part := goodIn_r _ [6, 7, 25, 26, 27, 28, 29, 30] (by decide +kernel) (by decide +kernel)
set_option maxRecDepth 20000 in
theorem gX1_holds_X0_part : GoodIn wsX1_holds (wsV RX1 47 RX0 yX0_part wsX0_part) := goodIn_app (goodIn_of _ (by decide +kernel)) ggX1_holds_X0_part
set_option maxRecDepth 20000 in
theorem ggX1_holds_X2_isTriggered : GoodIn wsX1_holds wsX2_isTriggered := goodIn_r _ [12, 13, 21, 22, 23, 24] (by decide +kernel) (by decide +kernel)
set_option maxRecDepth 20000 in
theorem gX1_holds_X2_isTriggered : GoodIn wsX1_holds (wsV RX1 93 RX2 yX2_isTriggered wsX2_isTriggered) := goodIn_app (goodIn_of _ (by decide +kernel)) ggX1_holds_X2_isTriggered
theorem dX1_holds_0 : decode cX1_holds 0 = .ok (.aload_n 1, 1) := by decide +kernel
theorem dX1_holds_1 : decode cX1_holds 1 = .ok (.iload_n 2, 1) := by decide +kernel
theorem dX1_holds_2 : decode cX1_holds 2 = .ok (.iconst 5, 1) := by decide +kernel
theorem dX1_holds_3 : decode cX1_holds 3 = .ok (.invokevirtual 47, 3) := by decide +kernel
theorem dX1_holds_6 : decode cX1_holds 6 = .ok (.istore 4, 2) := by decide +kernel
theorem dX1_holds_8 : decode cX1_holds 8 = .ok (.aload_n 1, 1) := by decide +kernel
theorem dX1_holds_9 : decode cX1_holds 9 = .ok (.iload_n 2, 1) := by decide +kernel
theorem dX1_holds_10 : decode cX1_holds 10 = .ok (.bipush 6, 2) := by decide +kernel
theorem dX1_holds_12 : decode cX1_holds 12 = .ok (.invokevirtual 47, 3) := by decide +kernel
theorem dX1_holds_15 : decode cX1_holds 15 = .ok (.istore 5, 2) := by decide +kernel
theorem dX1_holds_17 : decode cX1_holds 17 = .ok (.aload_n 1, 1) := by decide +kernel
theorem dX1_holds_18 : decode cX1_holds 18 = .ok (.iload_n 2, 1) := by decide +kernel
theorem dX1_holds_19 : decode cX1_holds 19 = .ok (.iconst 4, 1) := by decide +kernel
theorem dX1_holds_20 : decode cX1_holds 20 = .ok (.invokevirtual 47, 3) := by decide +kernel
theorem dX1_holds_23 : decode cX1_holds 23 = .ok (.tableswitch 76 0 2 #[25, 40, 58], 25) := by decide +kernel
theorem dX1_holds_48 : decode cX1_holds 48 = .ok (.aload_n 0, 1) := by decide +kernel
theorem dX1_holds_49 : decode cX1_holds 49 = .ok (.getfield 25, 3) := by decide +kernel
theorem dX1_holds_52 : decode cX1_holds 52 = .ok (.iload 5, 2) := by decide +kernel
theorem dX1_holds_54 : decode cX1_holds 54 = .ok (.if_icmp .lt 7, 3) := by decide +kernel
theorem dX1_holds_57 : decode cX1_holds 57 = .ok (.iconst 1, 1) := by decide +kernel
theorem dX1_holds_58 : decode cX1_holds 58 = .ok (.goto 4, 3) := by decide +kernel
theorem dX1_holds_61 : decode cX1_holds 61 = .ok (.iconst 0, 1) := by decide +kernel
theorem dX1_holds_62 : decode cX1_holds 62 = .ok (.ireturn, 1) := by decide +kernel
theorem dX1_holds_63 : decode cX1_holds 63 = .ok (.aload_n 3, 1) := by decide +kernel
theorem dX1_holds_64 : decode cX1_holds 64 = .ok (.getfield 89, 3) := by decide +kernel
theorem dX1_holds_67 : decode cX1_holds 67 = .ok (.iload 4, 2) := by decide +kernel
theorem dX1_holds_69 : decode cX1_holds 69 = .ok (.iaload, 1) := by decide +kernel
theorem dX1_holds_70 : decode cX1_holds 70 = .ok (.iload 5, 2) := by decide +kernel
theorem dX1_holds_72 : decode cX1_holds 72 = .ok (.if_icmp .le 7, 3) := by decide +kernel
theorem dX1_holds_75 : decode cX1_holds 75 = .ok (.iconst 1, 1) := by decide +kernel
theorem dX1_holds_76 : decode cX1_holds 76 = .ok (.goto 4, 3) := by decide +kernel
theorem dX1_holds_79 : decode cX1_holds 79 = .ok (.iconst 0, 1) := by decide +kernel
theorem dX1_holds_80 : decode cX1_holds 80 = .ok (.ireturn, 1) := by decide +kernel
theorem dX1_holds_81 : decode cX1_holds 81 = .ok (.aload_n 3, 1) := by decide +kernel
theorem dX1_holds_82 : decode cX1_holds 82 = .ok (.getfield 89, 3) := by decide +kernel
theorem dX1_holds_85 : decode cX1_holds 85 = .ok (.iload 4, 2) := by decide +kernel
theorem dX1_holds_87 : decode cX1_holds 87 = .ok (.iaload, 1) := by decide +kernel
theorem dX1_holds_88 : decode cX1_holds 88 = .ok (.iload 5, 2) := by decide +kernel
theorem dX1_holds_90 : decode cX1_holds 90 = .ok (.if_icmp .ge 7, 3) := by decide +kernel
theorem dX1_holds_93 : decode cX1_holds 93 = .ok (.iconst 1, 1) := by decide +kernel
theorem dX1_holds_94 : decode cX1_holds 94 = .ok (.goto 4, 3) := by decide +kernel
theorem dX1_holds_97 : decode cX1_holds 97 = .ok (.iconst 0, 1) := by decide +kernel
theorem dX1_holds_98 : decode cX1_holds 98 = .ok (.ireturn, 1) := by decide +kernel
theorem dX1_holds_99 : decode cX1_holds 99 = .ok (.aload_n 3, 1) := by decide +kernel
theorem dX1_holds_100 : decode cX1_holds 100 = .ok (.iload 4, 2) := by decide +kernel
theorem dX1_holds_102 : decode cX1_holds 102 = .ok (.invokevirtual 93, 3) := by decide +kernel
theorem dX1_holds_105 : decode cX1_holds 105 = .ok (.ireturn, 1) := by decide +kernel
set_option maxRecDepth 20000 in
theorem ggX1_begin_X1_settle : GoodIn wsX1_begin wsX1_settle := goodIn_r _ [16, 3, 4, 5, 6, 1, 17, 18, 19, 20, 21, 22, 23, 24, 25, 26, 27] (by decide +kernel) (by decide +kernel)
set_option maxRecDepth 20000 in
theorem gX1_begin_X1_settle : GoodIn wsX1_begin (wsV RX1 40 RX1 yX1_settle wsX1_settle) := goodIn_app (goodIn_of _ (by decide +kernel)) ggX1_begin_X1_settle
theorem dX1_begin_0 : decode cX1_begin 0 = .ok (.aload_n 0, 1) := by decide +kernel
theorem dX1_begin_1 : decode cX1_begin 1 = .ok (.iload_n 2, 1) := by decide +kernel
theorem dX1_begin_2 : decode cX1_begin 2 = .ok (.putfield 22, 3) := by decide +kernel
theorem dX1_begin_5 : decode cX1_begin 5 = .ok (.aload_n 0, 1) := by decide +kernel
theorem dX1_begin_6 : decode cX1_begin 6 = .ok (.iconst 0, 1) := by decide +kernel
theorem dX1_begin_7 : decode cX1_begin 7 = .ok (.putfield 25, 3) := by decide +kernel
theorem dX1_begin_10 : decode cX1_begin 10 = .ok (.iload_n 3, 1) := by decide +kernel
theorem dX1_begin_11 : decode cX1_begin 11 = .ok (.ifCond .ne 8, 3) := by decide +kernel
theorem dX1_begin_14 : decode cX1_begin 14 = .ok (.aload_n 0, 1) := by decide +kernel
theorem dX1_begin_15 : decode cX1_begin 15 = .ok (.invokevirtual 40, 3) := by decide +kernel
theorem dX1_begin_18 : decode cX1_begin 18 = .ok (.return_, 1) := by decide +kernel
theorem dX1_begin_19 : decode cX1_begin 19 = .ok (.aload_n 0, 1) := by decide +kernel
theorem dX1_begin_20 : decode cX1_begin 20 = .ok (.iload_n 1, 1) := by decide +kernel
theorem dX1_begin_21 : decode cX1_begin 21 = .ok (.putfield 9, 3) := by decide +kernel
theorem dX1_begin_24 : decode cX1_begin 24 = .ok (.aload_n 0, 1) := by decide +kernel
theorem dX1_begin_25 : decode cX1_begin 25 = .ok (.iload_n 3, 1) := by decide +kernel
theorem dX1_begin_26 : decode cX1_begin 26 = .ok (.putfield 28, 3) := by decide +kernel
theorem dX1_begin_29 : decode cX1_begin 29 = .ok (.aload_n 0, 1) := by decide +kernel
theorem dX1_begin_30 : decode cX1_begin 30 = .ok (.iconst 0, 1) := by decide +kernel
theorem dX1_begin_31 : decode cX1_begin 31 = .ok (.putfield 31, 3) := by decide +kernel
theorem dX1_begin_34 : decode cX1_begin 34 = .ok (.aload_n 0, 1) := by decide +kernel
theorem dX1_begin_35 : decode cX1_begin 35 = .ok (.getfield 15, 3) := by decide +kernel
theorem dX1_begin_38 : decode cX1_begin 38 = .ok (.iconst 0, 1) := by decide +kernel
theorem dX1_begin_39 : decode cX1_begin 39 = .ok (.aload_n 0, 1) := by decide +kernel
theorem dX1_begin_40 : decode cX1_begin 40 = .ok (.getfield 19, 3) := by decide +kernel
theorem dX1_begin_43 : decode cX1_begin 43 = .ok (.iconst 0, 1) := by decide +kernel
theorem dX1_begin_44 : decode cX1_begin 44 = .ok (.bipush 6, 2) := by decide +kernel
theorem dX1_begin_46 : decode cX1_begin 46 = .ok (.invokestatic 34, 3) := by decide +kernel
theorem dX1_begin_49 : decode cX1_begin 49 = .ok (.return_, 1) := by decide +kernel
set_option maxRecDepth 20000 in
theorem ggX1_blend_X1_settle : GoodIn wsX1_blend wsX1_settle := goodIn_r _ [10, 11, 2, 1, 4, 5, 12, 13, 14, 15, 16, 17, 18, 19, 20, 21, 22] (by decide +kernel) (by decide +kernel)
set_option maxRecDepth 20000 in
theorem gX1_blend_X1_settle : GoodIn wsX1_blend (wsV RX1 40 RX1 yX1_settle wsX1_settle) := goodIn_app (goodIn_of _ (by decide +kernel)) ggX1_blend_X1_settle
theorem dX1_blend_0 : decode cX1_blend 0 = .ok (.aload_n 0, 1) := by decide +kernel
theorem dX1_blend_1 : decode cX1_blend 1 = .ok (.dup, 1) := by decide +kernel
theorem dX1_blend_2 : decode cX1_blend 2 = .ok (.getfield 31, 3) := by decide +kernel
theorem dX1_blend_5 : decode cX1_blend 5 = .ok (.iconst 1, 1) := by decide +kernel
theorem dX1_blend_6 : decode cX1_blend 6 = .ok (.iadd, 1) := by decide +kernel
theorem dX1_blend_7 : decode cX1_blend 7 = .ok (.putfield 31, 3) := by decide +kernel
theorem dX1_blend_10 : decode cX1_blend 10 = .ok (.aload_n 0, 1) := by decide +kernel
theorem dX1_blend_11 : decode cX1_blend 11 = .ok (.getfield 31, 3) := by decide +kernel
theorem dX1_blend_14 : decode cX1_blend 14 = .ok (.aload_n 0, 1) := by decide +kernel
theorem dX1_blend_15 : decode cX1_blend 15 = .ok (.getfield 28, 3) := by decide +kernel
theorem dX1_blend_18 : decode cX1_blend 18 = .ok (.if_icmp .lt 8, 3) := by decide +kernel
theorem dX1_blend_21 : decode cX1_blend 21 = .ok (.aload_n 0, 1) := by decide +kernel
theorem dX1_blend_22 : decode cX1_blend 22 = .ok (.invokevirtual 40, 3) := by decide +kernel
theorem dX1_blend_25 : decode cX1_blend 25 = .ok (.return_, 1) := by decide +kernel
theorem dX1_blend_26 : decode cX1_blend 26 = .ok (.aload_n 0, 1) := by decide +kernel
theorem dX1_blend_27 : decode cX1_blend 27 = .ok (.getfield 31, 3) := by decide +kernel
theorem dX1_blend_30 : decode cX1_blend 30 = .ok (.i2f, 1) := by decide +kernel
theorem dX1_blend_31 : decode cX1_blend 31 = .ok (.aload_n 0, 1) := by decide +kernel
theorem dX1_blend_32 : decode cX1_blend 32 = .ok (.getfield 28, 3) := by decide +kernel
theorem dX1_blend_35 : decode cX1_blend 35 = .ok (.i2f, 1) := by decide +kernel
theorem dX1_blend_36 : decode cX1_blend 36 = .ok (.fdiv, 1) := by decide +kernel
theorem dX1_blend_37 : decode cX1_blend 37 = .ok (.fstore_n 1, 1) := by decide +kernel
theorem dX1_blend_38 : decode cX1_blend 38 = .ok (.iconst 0, 1) := by decide +kernel
theorem dX1_blend_39 : decode cX1_blend 39 = .ok (.istore_n 2, 1) := by decide +kernel
theorem dX1_blend_40 : decode cX1_blend 40 = .ok (.iload_n 2, 1) := by decide +kernel
theorem dX1_blend_41 : decode cX1_blend 41 = .ok (.bipush 6, 2) := by decide +kernel
theorem dX1_blend_43 : decode cX1_blend 43 = .ok (.if_icmp .ge 41, 3) := by decide +kernel
theorem dX1_blend_46 : decode cX1_blend 46 = .ok (.aload_n 0, 1) := by decide +kernel
theorem dX1_blend_47 : decode cX1_blend 47 = .ok (.getfield 19, 3) := by decide +kernel
theorem dX1_blend_50 : decode cX1_blend 50 = .ok (.iload_n 2, 1) := by decide +kernel
theorem dX1_blend_51 : decode cX1_blend 51 = .ok (.faload, 1) := by decide +kernel
theorem dX1_blend_52 : decode cX1_blend 52 = .ok (.fconst 1, 1) := by decide +kernel
theorem dX1_blend_53 : decode cX1_blend 53 = .ok (.fload_n 1, 1) := by decide +kernel
theorem dX1_blend_54 : decode cX1_blend 54 = .ok (.fsub, 1) := by decide +kernel
theorem dX1_blend_55 : decode cX1_blend 55 = .ok (.fmul, 1) := by decide +kernel
theorem dX1_blend_56 : decode cX1_blend 56 = .ok (.fstore_n 3, 1) := by decide +kernel
theorem dX1_blend_57 : decode cX1_blend 57 = .ok (.aload_n 0, 1) := by decide +kernel
theorem dX1_blend_58 : decode cX1_blend 58 = .ok (.getfield 15, 3) := by decide +kernel
theorem dX1_blend_61 : decode cX1_blend 61 = .ok (.iload_n 2, 1) := by decide +kernel
theorem dX1_blend_62 : decode cX1_blend 62 = .ok (.iload_n 2, 1) := by decide +kernel
theorem dX1_blend_63 : decode cX1_blend 63 = .ok (.aload_n 0, 1) := by decide +kernel
theorem dX1_blend_64 : decode cX1_blend 64 = .ok (.getfield 22, 3) := by decide +kernel
theorem dX1_blend_67 : decode cX1_blend 67 = .ok (.if_icmp .ne 9, 3) := by decide +kernel
theorem dX1_blend_70 : decode cX1_blend 70 = .ok (.fload_n 3, 1) := by decide +kernel
theorem dX1_blend_71 : decode cX1_blend 71 = .ok (.fload_n 1, 1) := by decide +kernel
theorem dX1_blend_72 : decode cX1_blend 72 = .ok (.fadd, 1) := by decide +kernel
theorem dX1_blend_73 : decode cX1_blend 73 = .ok (.goto 4, 3) := by decide +kernel
theorem dX1_blend_76 : decode cX1_blend 76 = .ok (.fload_n 3, 1) := by decide +kernel
theorem dX1_blend_77 : decode cX1_blend 77 = .ok (.fastore, 1) := by decide +kernel
theorem dX1_blend_78 : decode cX1_blend 78 = .ok (.iinc 2 1, 3) := by decide +kernel
theorem dX1_blend_81 : decode cX1_blend 81 = .ok (.goto (-41), 3) := by decide +kernel
theorem dX1_blend_84 : decode cX1_blend 84 = .ok (.return_, 1) := by decide +kernel
set_option maxRecDepth 20000 in
theorem ggX1_settle_J7_fill_e525d : GoodIn wsX1_settle wsJ7_fill_e525d := goodIn_r _ [9] (by decide +kernel) (by decide +kernel)
set_option maxRecDepth 20000 in
theorem gX1_settle_J7_fill_e525d : GoodIn wsX1_settle (va_wsS RX1 97 yJ7_fill_e525d wsJ7_fill_e525d) := goodIn_app (goodIn_of _ (by decide +kernel)) ggX1_settle_J7_fill_e525d
theorem dX1_settle_0 : decode cX1_settle 0 = .ok (.aload_n 0, 1) := by decide +kernel
theorem dX1_settle_1 : decode cX1_settle 1 = .ok (.iconst (-1), 1) := by decide +kernel
theorem dX1_settle_2 : decode cX1_settle 2 = .ok (.putfield 9, 3) := by decide +kernel
theorem dX1_settle_5 : decode cX1_settle 5 = .ok (.aload_n 0, 1) := by decide +kernel
theorem dX1_settle_6 : decode cX1_settle 6 = .ok (.iconst 0, 1) := by decide +kernel
theorem dX1_settle_7 : decode cX1_settle 7 = .ok (.putfield 28, 3) := by decide +kernel
theorem dX1_settle_10 : decode cX1_settle 10 = .ok (.aload_n 0, 1) := by decide +kernel
theorem dX1_settle_11 : decode cX1_settle 11 = .ok (.iconst 0, 1) := by decide +kernel
theorem dX1_settle_12 : decode cX1_settle 12 = .ok (.putfield 31, 3) := by decide +kernel
theorem dX1_settle_15 : decode cX1_settle 15 = .ok (.aload_n 0, 1) := by decide +kernel
theorem dX1_settle_16 : decode cX1_settle 16 = .ok (.getfield 15, 3) := by decide +kernel
theorem dX1_settle_19 : decode cX1_settle 19 = .ok (.fconst 0, 1) := by decide +kernel
theorem dX1_settle_20 : decode cX1_settle 20 = .ok (.invokestatic 97, 3) := by decide +kernel
theorem dX1_settle_23 : decode cX1_settle 23 = .ok (.aload_n 0, 1) := by decide +kernel
theorem dX1_settle_24 : decode cX1_settle 24 = .ok (.getfield 15, 3) := by decide +kernel
theorem dX1_settle_27 : decode cX1_settle 27 = .ok (.aload_n 0, 1) := by decide +kernel
theorem dX1_settle_28 : decode cX1_settle 28 = .ok (.getfield 22, 3) := by decide +kernel
theorem dX1_settle_31 : decode cX1_settle 31 = .ok (.fconst 1, 1) := by decide +kernel
theorem dX1_settle_32 : decode cX1_settle 32 = .ok (.fastore, 1) := by decide +kernel
theorem dX1_settle_33 : decode cX1_settle 33 = .ok (.return_, 1) := by decide +kernel
theorem dX1_sumOfShares_0 : decode cX1_sumOfShares 0 = .ok (.fconst 0, 1) := by decide +kernel
theorem dX1_sumOfShares_1 : decode cX1_sumOfShares 1 = .ok (.fstore_n 2, 1) := by decide +kernel
theorem dX1_sumOfShares_2 : decode cX1_sumOfShares 2 = .ok (.iconst 0, 1) := by decide +kernel
theorem dX1_sumOfShares_3 : decode cX1_sumOfShares 3 = .ok (.istore_n 3, 1) := by decide +kernel
theorem dX1_sumOfShares_4 : decode cX1_sumOfShares 4 = .ok (.iload_n 3, 1) := by decide +kernel
theorem dX1_sumOfShares_5 : decode cX1_sumOfShares 5 = .ok (.iload_n 1, 1) := by decide +kernel
theorem dX1_sumOfShares_6 : decode cX1_sumOfShares 6 = .ok (.if_icmp .ge 18, 3) := by decide +kernel
theorem dX1_sumOfShares_9 : decode cX1_sumOfShares 9 = .ok (.fload_n 2, 1) := by decide +kernel
theorem dX1_sumOfShares_10 : decode cX1_sumOfShares 10 = .ok (.aload_n 0, 1) := by decide +kernel
theorem dX1_sumOfShares_11 : decode cX1_sumOfShares 11 = .ok (.getfield 15, 3) := by decide +kernel
theorem dX1_sumOfShares_14 : decode cX1_sumOfShares 14 = .ok (.iload_n 3, 1) := by decide +kernel
theorem dX1_sumOfShares_15 : decode cX1_sumOfShares 15 = .ok (.faload, 1) := by decide +kernel
theorem dX1_sumOfShares_16 : decode cX1_sumOfShares 16 = .ok (.fadd, 1) := by decide +kernel
theorem dX1_sumOfShares_17 : decode cX1_sumOfShares 17 = .ok (.fstore_n 2, 1) := by decide +kernel
theorem dX1_sumOfShares_18 : decode cX1_sumOfShares 18 = .ok (.iinc 3 1, 3) := by decide +kernel
theorem dX1_sumOfShares_21 : decode cX1_sumOfShares 21 = .ok (.goto (-17), 3) := by decide +kernel
theorem dX1_sumOfShares_24 : decode cX1_sumOfShares 24 = .ok (.fload_n 2, 1) := by decide +kernel
theorem dX1_sumOfShares_25 : decode cX1_sumOfShares 25 = .ok (.freturn, 1) := by decide +kernel
theorem dX1_limbOf_0 : decode cX1_limbOf 0 = .ok (.fconst 0, 1) := by decide +kernel
theorem dX1_limbOf_1 : decode cX1_limbOf 1 = .ok (.fstore_n 3, 1) := by decide +kernel
theorem dX1_limbOf_2 : decode cX1_limbOf 2 = .ok (.iconst 0, 1) := by decide +kernel
theorem dX1_limbOf_3 : decode cX1_limbOf 3 = .ok (.istore 4, 2) := by decide +kernel
theorem dX1_limbOf_5 : decode cX1_limbOf 5 = .ok (.iload 4, 2) := by decide +kernel
theorem dX1_limbOf_7 : decode cX1_limbOf 7 = .ok (.aload_n 1, 1) := by decide +kernel
theorem dX1_limbOf_8 : decode cX1_limbOf 8 = .ok (.getfield 103, 3) := by decide +kernel
theorem dX1_limbOf_11 : decode cX1_limbOf 11 = .ok (.if_icmp .ge 39, 3) := by decide +kernel
theorem dX1_limbOf_14 : decode cX1_limbOf 14 = .ok (.aload_n 1, 1) := by decide +kernel
theorem dX1_limbOf_15 : decode cX1_limbOf 15 = .ok (.getfield 106, 3) := by decide +kernel
theorem dX1_limbOf_18 : decode cX1_limbOf 18 = .ok (.iload 4, 2) := by decide +kernel
theorem dX1_limbOf_20 : decode cX1_limbOf 20 = .ok (.iconst 4, 1) := by decide +kernel
theorem dX1_limbOf_21 : decode cX1_limbOf 21 = .ok (.imul, 1) := by decide +kernel
theorem dX1_limbOf_22 : decode cX1_limbOf 22 = .ok (.iload_n 2, 1) := by decide +kernel
theorem dX1_limbOf_23 : decode cX1_limbOf 23 = .ok (.iadd, 1) := by decide +kernel
theorem dX1_limbOf_24 : decode cX1_limbOf 24 = .ok (.iaload, 1) := by decide +kernel
theorem dX1_limbOf_25 : decode cX1_limbOf 25 = .ok (.i2f, 1) := by decide +kernel
theorem dX1_limbOf_26 : decode cX1_limbOf 26 = .ok (.ldc 109, 2) := by decide +kernel
theorem dX1_limbOf_28 : decode cX1_limbOf 28 = .ok (.fdiv, 1) := by decide +kernel
theorem dX1_limbOf_29 : decode cX1_limbOf 29 = .ok (.fstore 5, 2) := by decide +kernel
theorem dX1_limbOf_31 : decode cX1_limbOf 31 = .ok (.fload_n 3, 1) := by decide +kernel
theorem dX1_limbOf_32 : decode cX1_limbOf 32 = .ok (.fload 5, 2) := by decide +kernel
theorem dX1_limbOf_34 : decode cX1_limbOf 34 = .ok (.aload_n 0, 1) := by decide +kernel
theorem dX1_limbOf_35 : decode cX1_limbOf 35 = .ok (.getfield 15, 3) := by decide +kernel
theorem dX1_limbOf_38 : decode cX1_limbOf 38 = .ok (.iload 4, 2) := by decide +kernel
theorem dX1_limbOf_40 : decode cX1_limbOf 40 = .ok (.faload, 1) := by decide +kernel
theorem dX1_limbOf_41 : decode cX1_limbOf 41 = .ok (.fmul, 1) := by decide +kernel
theorem dX1_limbOf_42 : decode cX1_limbOf 42 = .ok (.fadd, 1) := by decide +kernel
theorem dX1_limbOf_43 : decode cX1_limbOf 43 = .ok (.fstore_n 3, 1) := by decide +kernel
theorem dX1_limbOf_44 : decode cX1_limbOf 44 = .ok (.iinc 4 1, 3) := by decide +kernel
theorem dX1_limbOf_47 : decode cX1_limbOf 47 = .ok (.goto (-42), 3) := by decide +kernel
theorem dX1_limbOf_50 : decode cX1_limbOf 50 = .ok (.fload_n 3, 1) := by decide +kernel
theorem dX1_limbOf_51 : decode cX1_limbOf 51 = .ok (.freturn, 1) := by decide +kernel
set_option maxRecDepth 20000 in
theorem ggX2_init_X1_init : GoodIn wsX2_init wsX1_init := goodIn_r _ [13, 14, 2, 3, 15, 16, 17, 18, 19, 20, 21, 22, 23, 24, 25] (by decide +kernel) (by decide +kernel)
set_option maxRecDepth 20000 in
theorem gX2_init_X1_init : GoodIn wsX2_init (wsX1_init) := ggX2_init_X1_init
theorem dX2_init_0 : decode cX2_init 0 = .ok (.aload_n 0, 1) := by decide +kernel
theorem dX2_init_1 : decode cX2_init 1 = .ok (.invokespecial 3, 3) := by decide +kernel
theorem dX2_init_4 : decode cX2_init 4 = .ok (.aload_n 0, 1) := by decide +kernel
theorem dX2_init_5 : decode cX2_init 5 = .ok (.new 9, 3) := by decide +kernel
theorem dX2_init_8 : decode cX2_init 8 = .ok (.dup, 1) := by decide +kernel
theorem dX2_init_9 : decode cX2_init 9 = .ok (.invokespecial 11, 3) := by decide +kernel
theorem dX2_init_12 : decode cX2_init 12 = .ok (.putfield 12, 3) := by decide +kernel
theorem dX2_init_15 : decode cX2_init 15 = .ok (.aload_n 0, 1) := by decide +kernel
theorem dX2_init_16 : decode cX2_init 16 = .ok (.new 9, 3) := by decide +kernel
theorem dX2_init_19 : decode cX2_init 19 = .ok (.dup, 1) := by decide +kernel
theorem dX2_init_20 : decode cX2_init 20 = .ok (.invokespecial 11, 3) := by decide +kernel
theorem dX2_init_23 : decode cX2_init 23 = .ok (.putfield 18, 3) := by decide +kernel
theorem dX2_init_26 : decode cX2_init 26 = .ok (.aload_n 0, 1) := by decide +kernel
theorem dX2_init_27 : decode cX2_init 27 = .ok (.iconst 3, 1) := by decide +kernel
theorem dX2_init_28 : decode cX2_init 28 = .ok (.newarray .int, 2) := by decide +kernel
theorem dX2_init_30 : decode cX2_init 30 = .ok (.putfield 21, 3) := by decide +kernel
theorem dX2_init_33 : decode cX2_init 33 = .ok (.return_, 1) := by decide +kernel
set_option maxRecDepth 20000 in
theorem ggX2_copyFrom_X1_copyFrom : GoodIn wsX2_copyFrom wsX1_copyFrom := goodIn_r _ [13, 14, 15, 16, 17, 18, 19, 20, 5, 6, 7, 21, 26, 27, 28, 29, 30, 31, 32] (by decide +kernel) (by decide +kernel)
set_option maxRecDepth 20000 in
theorem gX2_copyFrom_X1_copyFrom : GoodIn wsX2_copyFrom (wsV RX2 25 RX1 yX1_copyFrom wsX1_copyFrom) := goodIn_app (goodIn_of _ (by decide +kernel)) ggX2_copyFrom_X1_copyFrom
theorem dX2_copyFrom_0 : decode cX2_copyFrom 0 = .ok (.aload_n 0, 1) := by decide +kernel
theorem dX2_copyFrom_1 : decode cX2_copyFrom 1 = .ok (.getfield 12, 3) := by decide +kernel
theorem dX2_copyFrom_4 : decode cX2_copyFrom 4 = .ok (.aload_n 1, 1) := by decide +kernel
theorem dX2_copyFrom_5 : decode cX2_copyFrom 5 = .ok (.getfield 12, 3) := by decide +kernel
theorem dX2_copyFrom_8 : decode cX2_copyFrom 8 = .ok (.invokevirtual 25, 3) := by decide +kernel
theorem dX2_copyFrom_11 : decode cX2_copyFrom 11 = .ok (.aload_n 0, 1) := by decide +kernel
theorem dX2_copyFrom_12 : decode cX2_copyFrom 12 = .ok (.getfield 18, 3) := by decide +kernel
theorem dX2_copyFrom_15 : decode cX2_copyFrom 15 = .ok (.aload_n 1, 1) := by decide +kernel
theorem dX2_copyFrom_16 : decode cX2_copyFrom 16 = .ok (.getfield 18, 3) := by decide +kernel
theorem dX2_copyFrom_19 : decode cX2_copyFrom 19 = .ok (.invokevirtual 25, 3) := by decide +kernel
theorem dX2_copyFrom_22 : decode cX2_copyFrom 22 = .ok (.aload_n 1, 1) := by decide +kernel
theorem dX2_copyFrom_23 : decode cX2_copyFrom 23 = .ok (.getfield 21, 3) := by decide +kernel
theorem dX2_copyFrom_26 : decode cX2_copyFrom 26 = .ok (.iconst 0, 1) := by decide +kernel
theorem dX2_copyFrom_27 : decode cX2_copyFrom 27 = .ok (.aload_n 0, 1) := by decide +kernel
theorem dX2_copyFrom_28 : decode cX2_copyFrom 28 = .ok (.getfield 21, 3) := by decide +kernel
theorem dX2_copyFrom_31 : decode cX2_copyFrom 31 = .ok (.iconst 0, 1) := by decide +kernel
theorem dX2_copyFrom_32 : decode cX2_copyFrom 32 = .ok (.iconst 3, 1) := by decide +kernel
theorem dX2_copyFrom_33 : decode cX2_copyFrom 33 = .ok (.invokestatic 29, 3) := by decide +kernel
theorem dX2_copyFrom_36 : decode cX2_copyFrom 36 = .ok (.aload_n 0, 1) := by decide +kernel
theorem dX2_copyFrom_37 : decode cX2_copyFrom 37 = .ok (.aload_n 1, 1) := by decide +kernel
theorem dX2_copyFrom_38 : decode cX2_copyFrom 38 = .ok (.getfield 35, 3) := by decide +kernel
theorem dX2_copyFrom_41 : decode cX2_copyFrom 41 = .ok (.putfield 35, 3) := by decide +kernel
theorem dX2_copyFrom_44 : decode cX2_copyFrom 44 = .ok (.return_, 1) := by decide +kernel
set_option maxRecDepth 20000 in
theorem ggX2_reset_X1_reset : GoodIn wsX2_reset wsX1_reset := goodIn_r _ [9, 10, 11, 12, 13, 14, 8, 15, 16, 17, 18, 19, 20, 21, 22, 23, 31, 32, 33, 34, 35, 36, 37] (by decide +kernel) (by decide +kernel)
set_option maxRecDepth 20000 in
theorem gX2_reset_X1_reset : GoodIn wsX2_reset (wsV RX2 39 RX1 yX1_reset wsX1_reset) := goodIn_app (goodIn_of _ (by decide +kernel)) ggX2_reset_X1_reset
set_option maxRecDepth 20000 in
theorem ggX2_reset_J7_fill_53178 : GoodIn wsX2_reset wsJ7_fill_53178 := goodIn_r _ [26] (by decide +kernel) (by decide +kernel)
set_option maxRecDepth 20000 in
theorem gX2_reset_J7_fill_53178 : GoodIn wsX2_reset (va_wsS RX2 42 yJ7_fill_53178 wsJ7_fill_53178) := goodIn_app (goodIn_of _ (by decide +kernel)) ggX2_reset_J7_fill_53178
theorem dX2_reset_0 : decode cX2_reset 0 = .ok (.aload_n 0, 1) := by decide +kernel
theorem dX2_reset_1 : decode cX2_reset 1 = .ok (.getfield 12, 3) := by decide +kernel
theorem dX2_reset_4 : decode cX2_reset 4 = .ok (.invokevirtual 39, 3) := by decide +kernel
theorem dX2_reset_7 : decode cX2_reset 7 = .ok (.aload_n 0, 1) := by decide +kernel
theorem dX2_reset_8 : decode cX2_reset 8 = .ok (.getfield 18, 3) := by decide +kernel
theorem dX2_reset_11 : decode cX2_reset 11 = .ok (.invokevirtual 39, 3) := by decide +kernel
theorem dX2_reset_14 : decode cX2_reset 14 = .ok (.aload_n 0, 1) := by decide +kernel
theorem dX2_reset_15 : decode cX2_reset 15 = .ok (.getfield 21, 3) := by decide +kernel
theorem dX2_reset_18 : decode cX2_reset 18 = .ok (.iconst 0, 1) := by decide +kernel
theorem dX2_reset_19 : decode cX2_reset 19 = .ok (.invokestatic 42, 3) := by decide +kernel
theorem dX2_reset_22 : decode cX2_reset 22 = .ok (.aload_n 0, 1) := by decide +kernel
theorem dX2_reset_23 : decode cX2_reset 23 = .ok (.iconst 0, 1) := by decide +kernel
theorem dX2_reset_24 : decode cX2_reset 24 = .ok (.putfield 35, 3) := by decide +kernel
theorem dX2_reset_27 : decode cX2_reset 27 = .ok (.return_, 1) := by decide +kernel
theorem dX2_layerAt_0 : decode cX2_layerAt 0 = .ok (.iload_n 1, 1) := by decide +kernel
theorem dX2_layerAt_1 : decode cX2_layerAt 1 = .ok (.ifCond .ne 10, 3) := by decide +kernel
theorem dX2_layerAt_4 : decode cX2_layerAt 4 = .ok (.aload_n 0, 1) := by decide +kernel
theorem dX2_layerAt_5 : decode cX2_layerAt 5 = .ok (.getfield 12, 3) := by decide +kernel
theorem dX2_layerAt_8 : decode cX2_layerAt 8 = .ok (.goto 7, 3) := by decide +kernel
theorem dX2_layerAt_11 : decode cX2_layerAt 11 = .ok (.aload_n 0, 1) := by decide +kernel
theorem dX2_layerAt_12 : decode cX2_layerAt 12 = .ok (.getfield 18, 3) := by decide +kernel
theorem dX2_layerAt_15 : decode cX2_layerAt 15 = .ok (.areturn, 1) := by decide +kernel
theorem dX2_isTriggered_0 : decode cX2_isTriggered 0 = .ok (.aload_n 0, 1) := by decide +kernel
theorem dX2_isTriggered_1 : decode cX2_isTriggered 1 = .ok (.getfield 35, 3) := by decide +kernel
theorem dX2_isTriggered_4 : decode cX2_isTriggered 4 = .ok (.iload_n 1, 1) := by decide +kernel
theorem dX2_isTriggered_5 : decode cX2_isTriggered 5 = .ok (.ishr, 1) := by decide +kernel
theorem dX2_isTriggered_6 : decode cX2_isTriggered 6 = .ok (.iconst 1, 1) := by decide +kernel
theorem dX2_isTriggered_7 : decode cX2_isTriggered 7 = .ok (.iand, 1) := by decide +kernel
theorem dX2_isTriggered_8 : decode cX2_isTriggered 8 = .ok (.iconst 1, 1) := by decide +kernel
theorem dX2_isTriggered_9 : decode cX2_isTriggered 9 = .ok (.if_icmp .ne 7, 3) := by decide +kernel
theorem dX2_isTriggered_12 : decode cX2_isTriggered 12 = .ok (.iconst 1, 1) := by decide +kernel
theorem dX2_isTriggered_13 : decode cX2_isTriggered 13 = .ok (.goto 4, 3) := by decide +kernel
theorem dX2_isTriggered_16 : decode cX2_isTriggered 16 = .ok (.iconst 0, 1) := by decide +kernel
theorem dX2_isTriggered_17 : decode cX2_isTriggered 17 = .ok (.ireturn, 1) := by decide +kernel
theorem dX2_trigger_0 : decode cX2_trigger 0 = .ok (.aload_n 0, 1) := by decide +kernel
theorem dX2_trigger_1 : decode cX2_trigger 1 = .ok (.dup, 1) := by decide +kernel
theorem dX2_trigger_2 : decode cX2_trigger 2 = .ok (.getfield 35, 3) := by decide +kernel
theorem dX2_trigger_5 : decode cX2_trigger 5 = .ok (.iconst 1, 1) := by decide +kernel
theorem dX2_trigger_6 : decode cX2_trigger 6 = .ok (.iload_n 1, 1) := by decide +kernel
theorem dX2_trigger_7 : decode cX2_trigger 7 = .ok (.ishl, 1) := by decide +kernel
theorem dX2_trigger_8 : decode cX2_trigger 8 = .ok (.ior, 1) := by decide +kernel
theorem dX2_trigger_9 : decode cX2_trigger 9 = .ok (.putfield 35, 3) := by decide +kernel
theorem dX2_trigger_12 : decode cX2_trigger 12 = .ok (.return_, 1) := by decide +kernel
theorem dX2_release_0 : decode cX2_release 0 = .ok (.aload_n 0, 1) := by decide +kernel
theorem dX2_release_1 : decode cX2_release 1 = .ok (.dup, 1) := by decide +kernel
theorem dX2_release_2 : decode cX2_release 2 = .ok (.getfield 35, 3) := by decide +kernel
theorem dX2_release_5 : decode cX2_release 5 = .ok (.iconst 1, 1) := by decide +kernel
theorem dX2_release_6 : decode cX2_release 6 = .ok (.iload_n 1, 1) := by decide +kernel
theorem dX2_release_7 : decode cX2_release 7 = .ok (.ishl, 1) := by decide +kernel
theorem dX2_release_8 : decode cX2_release 8 = .ok (.iconst (-1), 1) := by decide +kernel
theorem dX2_release_9 : decode cX2_release 9 = .ok (.ixor, 1) := by decide +kernel
theorem dX2_release_10 : decode cX2_release 10 = .ok (.iand, 1) := by decide +kernel
theorem dX2_release_11 : decode cX2_release 11 = .ok (.putfield 35, 3) := by decide +kernel
theorem dX2_release_14 : decode cX2_release 14 = .ok (.return_, 1) := by decide +kernel
set_option maxRecDepth 20000 in
theorem ggX2_goOn_X1_goOn : GoodIn wsX2_goOn wsX1_goOn := goodIn_r _ [7, 8, 9, 10, 11, 12, 13, 14, 15, 16, 6, 17, 18, 19, 20, 21, 22, 23, 24, 25, 26, 27, 28, 29, 30, 31, 32, 33, 34, 35, 36, 37, 38, 39, 40, 41, 42, 43, 44, 45, 46, 47, 48, 49, 50, 51, 52, 53, 54, 55, 56, 57, 58, 59, 60, 61, 62, 63, 64, 65, 66, 67, 68, 69, 70, 71, 72, 73, 74, 75, 80, 81, 82, 83, 84, 85, 86, 87, 88, 89, 90, 91, 92, 76, 77, 78, 79] (by decide +kernel) (by decide +kernel)
set_option maxRecDepth 20000 in
theorem gX2_goOn_X1_goOn : GoodIn wsX2_goOn (wsV RX2 48 RX1 yX1_goOn wsX1_goOn) := goodIn_app (goodIn_of _ (by decide +kernel)) ggX2_goOn_X1_goOn
theorem dX2_goOn_0 : decode cX2_goOn 0 = .ok (.aload_n 0, 1) := by decide +kernel
theorem dX2_goOn_1 : decode cX2_goOn 1 = .ok (.getfield 12, 3) := by decide +kernel
theorem dX2_goOn_4 : decode cX2_goOn 4 = .ok (.aload_n 1, 1) := by decide +kernel
theorem dX2_goOn_5 : decode cX2_goOn 5 = .ok (.aload_n 0, 1) := by decide +kernel
theorem dX2_goOn_6 : decode cX2_goOn 6 = .ok (.invokevirtual 48, 3) := by decide +kernel
theorem dX2_goOn_9 : decode cX2_goOn 9 = .ok (.aload_n 0, 1) := by decide +kernel
theorem dX2_goOn_10 : decode cX2_goOn 10 = .ok (.getfield 18, 3) := by decide +kernel
theorem dX2_goOn_13 : decode cX2_goOn 13 = .ok (.aload_n 1, 1) := by decide +kernel
theorem dX2_goOn_14 : decode cX2_goOn 14 = .ok (.aload_n 0, 1) := by decide +kernel
theorem dX2_goOn_15 : decode cX2_goOn 15 = .ok (.invokevirtual 48, 3) := by decide +kernel
theorem dX2_goOn_18 : decode cX2_goOn 18 = .ok (.return_, 1) := by decide +kernel
theorem dX3_init_0 : decode cX3_init 0 = .ok (.aload_n 0, 1) := by decide +kernel
theorem dX3_init_1 : decode cX3_init 1 = .ok (.invokespecial 3, 3) := by decide +kernel
theorem dX3_init_4 : decode cX3_init 4 = .ok (.aload_n 0, 1) := by decide +kernel
theorem dX3_init_5 : decode cX3_init 5 = .ok (.iconst 1, 1) := by decide +kernel
theorem dX3_init_6 : decode cX3_init 6 = .ok (.putfield 9, 3) := by decide +kernel
theorem dX3_init_9 : decode cX3_init 9 = .ok (.aload_n 0, 1) := by decide +kernel
theorem dX3_init_10 : decode cX3_init 10 = .ok (.bipush 8, 2) := by decide +kernel
theorem dX3_init_12 : decode cX3_init 12 = .ok (.newarray .int, 2) := by decide +kernel
theorem dX3_init_14 : decode cX3_init 14 = .ok (.putfield 15, 3) := by decide +kernel
theorem dX3_init_17 : decode cX3_init 17 = .ok (.return_, 1) := by decide +kernel
set_option maxRecDepth 20000 in
theorem ggX3_makeNew_J7_fill_53178 : GoodIn wsX3_makeNew wsJ7_fill_53178 := goodIn_r _ [8] (by decide +kernel) (by decide +kernel)
set_option maxRecDepth 20000 in
theorem gX3_makeNew_J7_fill_53178 : GoodIn wsX3_makeNew (va_wsS RX3 26 yJ7_fill_53178 wsJ7_fill_53178) := goodIn_app (goodIn_of _ (by decide +kernel)) ggX3_makeNew_J7_fill_53178
theorem dX3_makeNew_0 : decode cX3_makeNew 0 = .ok (.aload_n 0, 1) := by decide +kernel
theorem dX3_makeNew_1 : decode cX3_makeNew 1 = .ok (.iconst 0, 1) := by decide +kernel
theorem dX3_makeNew_2 : decode cX3_makeNew 2 = .ok (.putfield 9, 3) := by decide +kernel
theorem dX3_makeNew_5 : decode cX3_makeNew 5 = .ok (.aload_n 0, 1) := by decide +kernel
theorem dX3_makeNew_6 : decode cX3_makeNew 6 = .ok (.iload_n 1, 1) := by decide +kernel
theorem dX3_makeNew_7 : decode cX3_makeNew 7 = .ok (.putfield 19, 3) := by decide +kernel
theorem dX3_makeNew_10 : decode cX3_makeNew 10 = .ok (.aload_n 0, 1) := by decide +kernel
theorem dX3_makeNew_11 : decode cX3_makeNew 11 = .ok (.iload_n 2, 1) := by decide +kernel
theorem dX3_makeNew_12 : decode cX3_makeNew 12 = .ok (.putfield 23, 3) := by decide +kernel
theorem dX3_makeNew_15 : decode cX3_makeNew 15 = .ok (.aload_n 0, 1) := by decide +kernel
theorem dX3_makeNew_16 : decode cX3_makeNew 16 = .ok (.getfield 15, 3) := by decide +kernel
theorem dX3_makeNew_19 : decode cX3_makeNew 19 = .ok (.bipush (-15), 2) := by decide +kernel
theorem dX3_makeNew_21 : decode cX3_makeNew 21 = .ok (.invokestatic 26, 3) := by decide +kernel
theorem dX3_makeNew_24 : decode cX3_makeNew 24 = .ok (.return_, 1) := by decide +kernel
set_option maxRecDepth 20000 in
theorem ggX3_remove_X3_makeNew : GoodIn wsX3_remove wsX3_makeNew := goodIn_r _ [6, 1, 7, 8, 9, 10, 11, 12, 13, 14, 15, 16, 17] (by decide +kernel) (by decide +kernel)
set_option maxRecDepth 20000 in
theorem gX3_remove_X3_makeNew : GoodIn wsX3_remove (wsV RX3 32 RX3 yX3_makeNew wsX3_makeNew) := goodIn_app (goodIn_of _ (by decide +kernel)) ggX3_remove_X3_makeNew
theorem dX3_remove_0 : decode cX3_remove 0 = .ok (.aload_n 0, 1) := by decide +kernel
theorem dX3_remove_1 : decode cX3_remove 1 = .ok (.iconst 0, 1) := by decide +kernel
theorem dX3_remove_2 : decode cX3_remove 2 = .ok (.iconst 0, 1) := by decide +kernel
theorem dX3_remove_3 : decode cX3_remove 3 = .ok (.invokevirtual 32, 3) := by decide +kernel
theorem dX3_remove_6 : decode cX3_remove 6 = .ok (.aload_n 0, 1) := by decide +kernel
theorem dX3_remove_7 : decode cX3_remove 7 = .ok (.iconst 1, 1) := by decide +kernel
theorem dX3_remove_8 : decode cX3_remove 8 = .ok (.putfield 9, 3) := by decide +kernel
theorem dX3_remove_11 : decode cX3_remove 11 = .ok (.return_, 1) := by decide +kernel
theorem dX3_copyFrom_0 : decode cX3_copyFrom 0 = .ok (.aload_n 0, 1) := by decide +kernel
theorem dX3_copyFrom_1 : decode cX3_copyFrom 1 = .ok (.aload_n 1, 1) := by decide +kernel
theorem dX3_copyFrom_2 : decode cX3_copyFrom 2 = .ok (.getfield 9, 3) := by decide +kernel
theorem dX3_copyFrom_5 : decode cX3_copyFrom 5 = .ok (.putfield 9, 3) := by decide +kernel
theorem dX3_copyFrom_8 : decode cX3_copyFrom 8 = .ok (.aload_n 0, 1) := by decide +kernel
theorem dX3_copyFrom_9 : decode cX3_copyFrom 9 = .ok (.aload_n 1, 1) := by decide +kernel
theorem dX3_copyFrom_10 : decode cX3_copyFrom 10 = .ok (.getfield 19, 3) := by decide +kernel
theorem dX3_copyFrom_13 : decode cX3_copyFrom 13 = .ok (.putfield 19, 3) := by decide +kernel
theorem dX3_copyFrom_16 : decode cX3_copyFrom 16 = .ok (.aload_n 0, 1) := by decide +kernel
theorem dX3_copyFrom_17 : decode cX3_copyFrom 17 = .ok (.aload_n 1, 1) := by decide +kernel
theorem dX3_copyFrom_18 : decode cX3_copyFrom 18 = .ok (.getfield 23, 3) := by decide +kernel
theorem dX3_copyFrom_21 : decode cX3_copyFrom 21 = .ok (.putfield 23, 3) := by decide +kernel
theorem dX3_copyFrom_24 : decode cX3_copyFrom 24 = .ok (.aload_n 1, 1) := by decide +kernel
theorem dX3_copyFrom_25 : decode cX3_copyFrom 25 = .ok (.getfield 15, 3) := by decide +kernel
theorem dX3_copyFrom_28 : decode cX3_copyFrom 28 = .ok (.iconst 0, 1) := by decide +kernel
theorem dX3_copyFrom_29 : decode cX3_copyFrom 29 = .ok (.aload_n 0, 1) := by decide +kernel
theorem dX3_copyFrom_30 : decode cX3_copyFrom 30 = .ok (.getfield 15, 3) := by decide +kernel
theorem dX3_copyFrom_33 : decode cX3_copyFrom 33 = .ok (.iconst 0, 1) := by decide +kernel
theorem dX3_copyFrom_34 : decode cX3_copyFrom 34 = .ok (.bipush 8, 2) := by decide +kernel
theorem dX3_copyFrom_36 : decode cX3_copyFrom 36 = .ok (.invokestatic 36, 3) := by decide +kernel
theorem dX3_copyFrom_39 : decode cX3_copyFrom 39 = .ok (.return_, 1) := by decide +kernel
theorem dX3_hasPlace_0 : decode cX3_hasPlace 0 = .ok (.iload_n 1, 1) := by decide +kernel
theorem dX3_hasPlace_1 : decode cX3_hasPlace 1 = .ok (.ifCond .lt 15, 3) := by decide +kernel
theorem dX3_hasPlace_4 : decode cX3_hasPlace 4 = .ok (.iload_n 1, 1) := by decide +kernel
theorem dX3_hasPlace_5 : decode cX3_hasPlace 5 = .ok (.aload_n 0, 1) := by decide +kernel
theorem dX3_hasPlace_6 : decode cX3_hasPlace 6 = .ok (.getfield 23, 3) := by decide +kernel
theorem dX3_hasPlace_9 : decode cX3_hasPlace 9 = .ok (.if_icmp .ge 7, 3) := by decide +kernel
theorem dX3_hasPlace_12 : decode cX3_hasPlace 12 = .ok (.iconst 1, 1) := by decide +kernel
theorem dX3_hasPlace_13 : decode cX3_hasPlace 13 = .ok (.goto 4, 3) := by decide +kernel
theorem dX3_hasPlace_16 : decode cX3_hasPlace 16 = .ok (.iconst 0, 1) := by decide +kernel
theorem dX3_hasPlace_17 : decode cX3_hasPlace 17 = .ok (.ireturn, 1) := by decide +kernel
theorem dX3_takes_0 : decode cX3_takes 0 = .ok (.aload_n 0, 1) := by decide +kernel
theorem dX3_takes_1 : decode cX3_takes 1 = .ok (.getfield 19, 3) := by decide +kernel
theorem dX3_takes_4 : decode cX3_takes 4 = .ok (.ifCond .eq 22, 3) := by decide +kernel
theorem dX3_takes_7 : decode cX3_takes 7 = .ok (.aload_n 0, 1) := by decide +kernel
theorem dX3_takes_8 : decode cX3_takes 8 = .ok (.getfield 19, 3) := by decide +kernel
theorem dX3_takes_11 : decode cX3_takes 11 = .ok (.iload_n 1, 1) := by decide +kernel
theorem dX3_takes_12 : decode cX3_takes 12 = .ok (.sipush 1000, 3) := by decide +kernel
theorem dX3_takes_15 : decode cX3_takes 15 = .ok (.if_icmp .ge 7, 3) := by decide +kernel
theorem dX3_takes_18 : decode cX3_takes 18 = .ok (.iconst 1, 1) := by decide +kernel
theorem dX3_takes_19 : decode cX3_takes 19 = .ok (.goto 4, 3) := by decide +kernel
theorem dX3_takes_22 : decode cX3_takes 22 = .ok (.iconst 2, 1) := by decide +kernel
theorem dX3_takes_23 : decode cX3_takes 23 = .ok (.if_icmp .ne 7, 3) := by decide +kernel
theorem dX3_takes_26 : decode cX3_takes 26 = .ok (.iconst 1, 1) := by decide +kernel
theorem dX3_takes_27 : decode cX3_takes 27 = .ok (.goto 4, 3) := by decide +kernel
theorem dX3_takes_30 : decode cX3_takes 30 = .ok (.iconst 0, 1) := by decide +kernel
theorem dX3_takes_31 : decode cX3_takes 31 = .ok (.ireturn, 1) := by decide +kernel
set_option maxRecDepth 20000 in
theorem ggX3_refusalOf_X3_hasPlace : GoodIn wsX3_refusalOf wsX3_hasPlace := goodIn_r _ [6, 7, 13, 14, 15, 16] (by decide +kernel) (by decide +kernel)
set_option maxRecDepth 20000 in
theorem gX3_refusalOf_X3_hasPlace : GoodIn wsX3_refusalOf (wsV RX3 42 RX3 yX3_hasPlace wsX3_hasPlace) := goodIn_app (goodIn_of _ (by decide +kernel)) ggX3_refusalOf_X3_hasPlace
set_option maxRecDepth 20000 in
theorem ggX3_refusalOf_X3_takes : GoodIn wsX3_refusalOf wsX3_takes := goodIn_r _ [11, 12, 13, 14, 15, 16] (by decide +kernel) (by decide +kernel)
set_option maxRecDepth 20000 in
theorem gX3_refusalOf_X3_takes : GoodIn wsX3_refusalOf (wsV RX3 46 RX3 yX3_takes wsX3_takes) := goodIn_app (goodIn_of _ (by decide +kernel)) ggX3_refusalOf_X3_takes
theorem dX3_refusalOf_0 : decode cX3_refusalOf 0 = .ok (.aload_n 0, 1) := by decide +kernel
theorem dX3_refusalOf_1 : decode cX3_refusalOf 1 = .ok (.getfield 9, 3) := by decide +kernel
theorem dX3_refusalOf_4 : decode cX3_refusalOf 4 = .ok (.ifCond .eq 6, 3) := by decide +kernel
theorem dX3_refusalOf_7 : decode cX3_refusalOf 7 = .ok (.bipush (-11), 2) := by decide +kernel
theorem dX3_refusalOf_9 : decode cX3_refusalOf 9 = .ok (.ireturn, 1) := by decide +kernel
theorem dX3_refusalOf_10 : decode cX3_refusalOf 10 = .ok (.aload_n 0, 1) := by decide +kernel
theorem dX3_refusalOf_11 : decode cX3_refusalOf 11 = .ok (.iload_n 1, 1) := by decide +kernel
theorem dX3_refusalOf_12 : decode cX3_refusalOf 12 = .ok (.invokevirtual 42, 3) := by decide +kernel
theorem dX3_refusalOf_15 : decode cX3_refusalOf 15 = .ok (.ifCond .ne 6, 3) := by decide +kernel
theorem dX3_refusalOf_18 : decode cX3_refusalOf 18 = .ok (.bipush (-13), 2) := by decide +kernel
theorem dX3_refusalOf_20 : decode cX3_refusalOf 20 = .ok (.ireturn, 1) := by decide +kernel
theorem dX3_refusalOf_21 : decode cX3_refusalOf 21 = .ok (.aload_n 0, 1) := by decide +kernel
theorem dX3_refusalOf_22 : decode cX3_refusalOf 22 = .ok (.iload_n 2, 1) := by decide +kernel
theorem dX3_refusalOf_23 : decode cX3_refusalOf 23 = .ok (.invokevirtual 46, 3) := by decide +kernel
theorem dX3_refusalOf_26 : decode cX3_refusalOf 26 = .ok (.ifCond .eq 7, 3) := by decide +kernel
theorem dX3_refusalOf_29 : decode cX3_refusalOf 29 = .ok (.iconst (-1), 1) := by decide +kernel
theorem dX3_refusalOf_30 : decode cX3_refusalOf 30 = .ok (.goto 5, 3) := by decide +kernel
theorem dX3_refusalOf_33 : decode cX3_refusalOf 33 = .ok (.bipush (-14), 2) := by decide +kernel
theorem dX3_refusalOf_35 : decode cX3_refusalOf 35 = .ok (.ireturn, 1) := by decide +kernel
set_option maxRecDepth 20000 in
theorem ggX3_markAt_X3_hasPlace : GoodIn wsX3_markAt wsX3_hasPlace := goodIn_r _ [7, 8, 9, 10, 11, 12] (by decide +kernel) (by decide +kernel)
set_option maxRecDepth 20000 in
theorem gX3_markAt_X3_hasPlace : GoodIn wsX3_markAt (wsV RX3 42 RX3 yX3_hasPlace wsX3_hasPlace) := goodIn_app (goodIn_of _ (by decide +kernel)) ggX3_markAt_X3_hasPlace
theorem dX3_markAt_0 : decode cX3_markAt 0 = .ok (.aload_n 0, 1) := by decide +kernel
theorem dX3_markAt_1 : decode cX3_markAt 1 = .ok (.getfield 9, 3) := by decide +kernel
theorem dX3_markAt_4 : decode cX3_markAt 4 = .ok (.ifCond .eq 6, 3) := by decide +kernel
theorem dX3_markAt_7 : decode cX3_markAt 7 = .ok (.bipush (-11), 2) := by decide +kernel
theorem dX3_markAt_9 : decode cX3_markAt 9 = .ok (.ireturn, 1) := by decide +kernel
theorem dX3_markAt_10 : decode cX3_markAt 10 = .ok (.aload_n 0, 1) := by decide +kernel
theorem dX3_markAt_11 : decode cX3_markAt 11 = .ok (.iload_n 1, 1) := by decide +kernel
theorem dX3_markAt_12 : decode cX3_markAt 12 = .ok (.invokevirtual 42, 3) := by decide +kernel
theorem dX3_markAt_15 : decode cX3_markAt 15 = .ok (.ifCond .eq 12, 3) := by decide +kernel
theorem dX3_markAt_18 : decode cX3_markAt 18 = .ok (.aload_n 0, 1) := by decide +kernel
theorem dX3_markAt_19 : decode cX3_markAt 19 = .ok (.getfield 15, 3) := by decide +kernel
theorem dX3_markAt_22 : decode cX3_markAt 22 = .ok (.iload_n 1, 1) := by decide +kernel
theorem dX3_markAt_23 : decode cX3_markAt 23 = .ok (.iaload, 1) := by decide +kernel
theorem dX3_markAt_24 : decode cX3_markAt 24 = .ok (.goto 5, 3) := by decide +kernel
theorem dX3_markAt_27 : decode cX3_markAt 27 = .ok (.bipush (-13), 2) := by decide +kernel
theorem dX3_markAt_29 : decode cX3_markAt 29 = .ok (.ireturn, 1) := by decide +kernel
theorem dX3_things_0 : decode cX3_things 0 = .ok (.iconst 0, 1) := by decide +kernel
theorem dX3_things_1 : decode cX3_things 1 = .ok (.istore_n 1, 1) := by decide +kernel
theorem dX3_things_2 : decode cX3_things 2 = .ok (.iconst 0, 1) := by decide +kernel
theorem dX3_things_3 : decode cX3_things 3 = .ok (.istore_n 2, 1) := by decide +kernel
theorem dX3_things_4 : decode cX3_things 4 = .ok (.iload_n 2, 1) := by decide +kernel
theorem dX3_things_5 : decode cX3_things 5 = .ok (.aload_n 0, 1) := by decide +kernel
theorem dX3_things_6 : decode cX3_things 6 = .ok (.getfield 23, 3) := by decide +kernel
theorem dX3_things_9 : decode cX3_things 9 = .ok (.if_icmp .ge 26, 3) := by decide +kernel
theorem dX3_things_12 : decode cX3_things 12 = .ok (.iload_n 1, 1) := by decide +kernel
theorem dX3_things_13 : decode cX3_things 13 = .ok (.aload_n 0, 1) := by decide +kernel
theorem dX3_things_14 : decode cX3_things 14 = .ok (.getfield 15, 3) := by decide +kernel
theorem dX3_things_17 : decode cX3_things 17 = .ok (.iload_n 2, 1) := by decide +kernel
theorem dX3_things_18 : decode cX3_things 18 = .ok (.iaload, 1) := by decide +kernel
theorem dX3_things_19 : decode cX3_things 19 = .ok (.ifCond .lt 7, 3) := by decide +kernel
theorem dX3_things_22 : decode cX3_things 22 = .ok (.iconst 1, 1) := by decide +kernel
theorem dX3_things_23 : decode cX3_things 23 = .ok (.goto 4, 3) := by decide +kernel
theorem dX3_things_26 : decode cX3_things 26 = .ok (.iconst 0, 1) := by decide +kernel
theorem dX3_things_27 : decode cX3_things 27 = .ok (.iadd, 1) := by decide +kernel
theorem dX3_things_28 : decode cX3_things 28 = .ok (.istore_n 1, 1) := by decide +kernel
theorem dX3_things_29 : decode cX3_things 29 = .ok (.iinc 2 1, 3) := by decide +kernel
theorem dX3_things_32 : decode cX3_things 32 = .ok (.goto (-28), 3) := by decide +kernel
theorem dX3_things_35 : decode cX3_things 35 = .ok (.iload_n 1, 1) := by decide +kernel
theorem dX3_things_36 : decode cX3_things 36 = .ok (.ireturn, 1) := by decide +kernel
