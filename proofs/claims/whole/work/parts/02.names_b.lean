theorem dX0_init_0 : decode cX0_init 0 = .ok (.aload_n 0, 1) := by decide +kernel
theorem dX0_init_1 : decode cX0_init 1 = .ok (.invokespecial 3, 3) := by decide +kernel
theorem dX0_init_4 : decode cX0_init 4 = .ok (.aload_n 0, 1) := by decide +kernel
theorem dX0_init_5 : decode cX0_init 5 = .ok (.bipush 64, 2) := by decide +kernel
theorem dX0_init_7 : decode cX0_init 7 = .ok (.newarray .long, 2) := by decide +kernel
theorem dX0_init_9 : decode cX0_init 9 = .ok (.putfield 9, 3) := by decide +kernel
theorem dX0_init_12 : decode cX0_init 12 = .ok (.aload_n 0, 1) := by decide +kernel
theorem dX0_init_13 : decode cX0_init 13 = .ok (.bipush 64, 2) := by decide +kernel
theorem dX0_init_15 : decode cX0_init 15 = .ok (.newarray .int, 2) := by decide +kernel
theorem dX0_init_17 : decode cX0_init 17 = .ok (.putfield 15, 3) := by decide +kernel
theorem dX0_init_20 : decode cX0_init 20 = .ok (.aload_n 0, 1) := by decide +kernel
theorem dX0_init_21 : decode cX0_init 21 = .ok (.bipush 64, 2) := by decide +kernel
theorem dX0_init_23 : decode cX0_init 23 = .ok (.newarray .int, 2) := by decide +kernel
theorem dX0_init_25 : decode cX0_init 25 = .ok (.putfield 19, 3) := by decide +kernel
theorem dX0_init_28 : decode cX0_init 28 = .ok (.aload_n 0, 1) := by decide +kernel
theorem dX0_init_29 : decode cX0_init 29 = .ok (.lconst 0, 1) := by decide +kernel
theorem dX0_init_30 : decode cX0_init 30 = .ok (.putfield 22, 3) := by decide +kernel
theorem dX0_init_33 : decode cX0_init 33 = .ok (.aload_n 0, 1) := by decide +kernel
theorem dX0_init_34 : decode cX0_init 34 = .ok (.iconst 0, 1) := by decide +kernel
theorem dX0_init_35 : decode cX0_init 35 = .ok (.putfield 26, 3) := by decide +kernel
theorem dX0_init_38 : decode cX0_init 38 = .ok (.return_, 1) := by decide +kernel
theorem dX0_empty_0 : decode cX0_empty 0 = .ok (.aload_n 0, 1) := by decide +kernel
theorem dX0_empty_1 : decode cX0_empty 1 = .ok (.lconst 0, 1) := by decide +kernel
theorem dX0_empty_2 : decode cX0_empty 2 = .ok (.putfield 22, 3) := by decide +kernel
theorem dX0_empty_5 : decode cX0_empty 5 = .ok (.aload_n 0, 1) := by decide +kernel
theorem dX0_empty_6 : decode cX0_empty 6 = .ok (.iconst 0, 1) := by decide +kernel
theorem dX0_empty_7 : decode cX0_empty 7 = .ok (.putfield 26, 3) := by decide +kernel
theorem dX0_empty_10 : decode cX0_empty 10 = .ok (.return_, 1) := by decide +kernel
set_option maxRecDepth 20000 in
theorem ggX0_add_X2_hasBit : GoodIn wsX0_add wsX2_hasBit := goodIn_r _ [5] (by decide +kernel) (by decide +kernel)
set_option maxRecDepth 20000 in
theorem gX0_add_X2_hasBit_n33 : GoodIn wsX0_add (wsX2_hasBit) := ggX0_add_X2_hasBit
set_option maxRecDepth 20000 in
theorem ggX0_add_X0_keep : GoodIn wsX0_add wsX0_keep := goodIn_r _ [10, 11, 2, 12, 13, 1, 14, 15, 16, 17, 18] (by decide +kernel) (by decide +kernel)
set_option maxRecDepth 20000 in
theorem gX0_add_X0_keep : GoodIn wsX0_add (wsV RX0 37 RX0 yX0_keep wsX0_keep) := goodIn_app (goodIn_of _ (by decide +kernel)) ggX0_add_X0_keep
theorem dX0_add_0 : decode cX0_add 0 = .ok (.lload_n 1, 1) := by decide +kernel
theorem dX0_add_1 : decode cX0_add 1 = .ok (.lstore 4, 2) := by decide +kernel
theorem dX0_add_3 : decode cX0_add 3 = .ok (.bipush 63, 2) := by decide +kernel
theorem dX0_add_5 : decode cX0_add 5 = .ok (.istore 6, 2) := by decide +kernel
theorem dX0_add_7 : decode cX0_add 7 = .ok (.iload 6, 2) := by decide +kernel
theorem dX0_add_9 : decode cX0_add 9 = .ok (.ifCond .lt 68, 3) := by decide +kernel
theorem dX0_add_12 : decode cX0_add 12 = .ok (.lload 4, 2) := by decide +kernel
theorem dX0_add_14 : decode cX0_add 14 = .ok (.lconst 0, 1) := by decide +kernel
theorem dX0_add_15 : decode cX0_add 15 = .ok (.lcmp, 1) := by decide +kernel
theorem dX0_add_16 : decode cX0_add 16 = .ok (.ifCond .eq 61, 3) := by decide +kernel
theorem dX0_add_19 : decode cX0_add 19 = .ok (.getstatic 30, 3) := by decide +kernel
theorem dX0_add_22 : decode cX0_add 22 = .ok (.iload 6, 2) := by decide +kernel
theorem dX0_add_24 : decode cX0_add 24 = .ok (.iaload, 1) := by decide +kernel
theorem dX0_add_25 : decode cX0_add 25 = .ok (.istore 7, 2) := by decide +kernel
theorem dX0_add_27 : decode cX0_add 27 = .ok (.lload 4, 2) := by decide +kernel
theorem dX0_add_29 : decode cX0_add 29 = .ok (.iload 7, 2) := by decide +kernel
theorem dX0_add_31 : decode cX0_add 31 = .ok (.invokestatic 33, 3) := by decide +kernel
theorem dX0_add_34 : decode cX0_add 34 = .ok (.ifCond .eq 37, 3) := by decide +kernel
theorem dX0_add_37 : decode cX0_add 37 = .ok (.aload_n 0, 1) := by decide +kernel
theorem dX0_add_38 : decode cX0_add 38 = .ok (.getfield 22, 3) := by decide +kernel
theorem dX0_add_41 : decode cX0_add 41 = .ok (.iload 7, 2) := by decide +kernel
theorem dX0_add_43 : decode cX0_add 43 = .ok (.invokestatic 33, 3) := by decide +kernel
theorem dX0_add_46 : decode cX0_add 46 = .ok (.ifCond .ne 13, 3) := by decide +kernel
theorem dX0_add_49 : decode cX0_add 49 = .ok (.aload_n 0, 1) := by decide +kernel
theorem dX0_add_50 : decode cX0_add 50 = .ok (.iload 7, 2) := by decide +kernel
theorem dX0_add_52 : decode cX0_add 52 = .ok (.lload 4, 2) := by decide +kernel
theorem dX0_add_54 : decode cX0_add 54 = .ok (.iload_n 3, 1) := by decide +kernel
theorem dX0_add_55 : decode cX0_add 55 = .ok (.invokevirtual 37, 3) := by decide +kernel
theorem dX0_add_58 : decode cX0_add 58 = .ok (.return_, 1) := by decide +kernel
theorem dX0_add_59 : decode cX0_add 59 = .ok (.lload 4, 2) := by decide +kernel
theorem dX0_add_61 : decode cX0_add 61 = .ok (.aload_n 0, 1) := by decide +kernel
theorem dX0_add_62 : decode cX0_add 62 = .ok (.getfield 9, 3) := by decide +kernel
theorem dX0_add_65 : decode cX0_add 65 = .ok (.iload 7, 2) := by decide +kernel
theorem dX0_add_67 : decode cX0_add 67 = .ok (.laload, 1) := by decide +kernel
theorem dX0_add_68 : decode cX0_add 68 = .ok (.lxor, 1) := by decide +kernel
theorem dX0_add_69 : decode cX0_add 69 = .ok (.lstore 4, 2) := by decide +kernel
theorem dX0_add_71 : decode cX0_add 71 = .ok (.iinc 6 (-1), 3) := by decide +kernel
theorem dX0_add_74 : decode cX0_add 74 = .ok (.goto (-67), 3) := by decide +kernel
theorem dX0_add_77 : decode cX0_add 77 = .ok (.return_, 1) := by decide +kernel
theorem dX0_keep_0 : decode cX0_keep 0 = .ok (.aload_n 0, 1) := by decide +kernel
theorem dX0_keep_1 : decode cX0_keep 1 = .ok (.getfield 26, 3) := by decide +kernel
theorem dX0_keep_4 : decode cX0_keep 4 = .ok (.bipush 64, 2) := by decide +kernel
theorem dX0_keep_6 : decode cX0_keep 6 = .ok (.if_icmp .ge 50, 3) := by decide +kernel
theorem dX0_keep_9 : decode cX0_keep 9 = .ok (.aload_n 0, 1) := by decide +kernel
theorem dX0_keep_10 : decode cX0_keep 10 = .ok (.getfield 9, 3) := by decide +kernel
theorem dX0_keep_13 : decode cX0_keep 13 = .ok (.iload_n 1, 1) := by decide +kernel
theorem dX0_keep_14 : decode cX0_keep 14 = .ok (.lload_n 2, 1) := by decide +kernel
theorem dX0_keep_15 : decode cX0_keep 15 = .ok (.lastore, 1) := by decide +kernel
theorem dX0_keep_16 : decode cX0_keep 16 = .ok (.aload_n 0, 1) := by decide +kernel
theorem dX0_keep_17 : decode cX0_keep 17 = .ok (.getfield 15, 3) := by decide +kernel
theorem dX0_keep_20 : decode cX0_keep 20 = .ok (.iload_n 1, 1) := by decide +kernel
theorem dX0_keep_21 : decode cX0_keep 21 = .ok (.iload 4, 2) := by decide +kernel
theorem dX0_keep_23 : decode cX0_keep 23 = .ok (.iastore, 1) := by decide +kernel
theorem dX0_keep_24 : decode cX0_keep 24 = .ok (.aload_n 0, 1) := by decide +kernel
theorem dX0_keep_25 : decode cX0_keep 25 = .ok (.getfield 19, 3) := by decide +kernel
theorem dX0_keep_28 : decode cX0_keep 28 = .ok (.aload_n 0, 1) := by decide +kernel
theorem dX0_keep_29 : decode cX0_keep 29 = .ok (.getfield 26, 3) := by decide +kernel
theorem dX0_keep_32 : decode cX0_keep 32 = .ok (.iload_n 1, 1) := by decide +kernel
theorem dX0_keep_33 : decode cX0_keep 33 = .ok (.iastore, 1) := by decide +kernel
theorem dX0_keep_34 : decode cX0_keep 34 = .ok (.aload_n 0, 1) := by decide +kernel
theorem dX0_keep_35 : decode cX0_keep 35 = .ok (.dup, 1) := by decide +kernel
theorem dX0_keep_36 : decode cX0_keep 36 = .ok (.getfield 22, 3) := by decide +kernel
theorem dX0_keep_39 : decode cX0_keep 39 = .ok (.lconst 1, 1) := by decide +kernel
theorem dX0_keep_40 : decode cX0_keep 40 = .ok (.iload_n 1, 1) := by decide +kernel
theorem dX0_keep_41 : decode cX0_keep 41 = .ok (.lshl, 1) := by decide +kernel
theorem dX0_keep_42 : decode cX0_keep 42 = .ok (.lor, 1) := by decide +kernel
theorem dX0_keep_43 : decode cX0_keep 43 = .ok (.putfield 22, 3) := by decide +kernel
theorem dX0_keep_46 : decode cX0_keep 46 = .ok (.aload_n 0, 1) := by decide +kernel
theorem dX0_keep_47 : decode cX0_keep 47 = .ok (.dup, 1) := by decide +kernel
theorem dX0_keep_48 : decode cX0_keep 48 = .ok (.getfield 26, 3) := by decide +kernel
theorem dX0_keep_51 : decode cX0_keep 51 = .ok (.iconst 1, 1) := by decide +kernel
theorem dX0_keep_52 : decode cX0_keep 52 = .ok (.iadd, 1) := by decide +kernel
theorem dX0_keep_53 : decode cX0_keep 53 = .ok (.putfield 26, 3) := by decide +kernel
theorem dX0_keep_56 : decode cX0_keep 56 = .ok (.return_, 1) := by decide +kernel
theorem dX0_sumOfRow_0 : decode cX0_sumOfRow 0 = .ok (.iload_n 1, 1) := by decide +kernel
theorem dX0_sumOfRow_1 : decode cX0_sumOfRow 1 = .ok (.ifCond .lt 25, 3) := by decide +kernel
theorem dX0_sumOfRow_4 : decode cX0_sumOfRow 4 = .ok (.iload_n 1, 1) := by decide +kernel
theorem dX0_sumOfRow_5 : decode cX0_sumOfRow 5 = .ok (.aload_n 0, 1) := by decide +kernel
theorem dX0_sumOfRow_6 : decode cX0_sumOfRow 6 = .ok (.getfield 26, 3) := by decide +kernel
theorem dX0_sumOfRow_9 : decode cX0_sumOfRow 9 = .ok (.if_icmp .ge 17, 3) := by decide +kernel
theorem dX0_sumOfRow_12 : decode cX0_sumOfRow 12 = .ok (.aload_n 0, 1) := by decide +kernel
theorem dX0_sumOfRow_13 : decode cX0_sumOfRow 13 = .ok (.getfield 9, 3) := by decide +kernel
theorem dX0_sumOfRow_16 : decode cX0_sumOfRow 16 = .ok (.aload_n 0, 1) := by decide +kernel
theorem dX0_sumOfRow_17 : decode cX0_sumOfRow 17 = .ok (.getfield 19, 3) := by decide +kernel
theorem dX0_sumOfRow_20 : decode cX0_sumOfRow 20 = .ok (.iload_n 1, 1) := by decide +kernel
theorem dX0_sumOfRow_21 : decode cX0_sumOfRow 21 = .ok (.iaload, 1) := by decide +kernel
theorem dX0_sumOfRow_22 : decode cX0_sumOfRow 22 = .ok (.laload, 1) := by decide +kernel
theorem dX0_sumOfRow_23 : decode cX0_sumOfRow 23 = .ok (.goto 4, 3) := by decide +kernel
theorem dX0_sumOfRow_26 : decode cX0_sumOfRow 26 = .ok (.lconst 0, 1) := by decide +kernel
theorem dX0_sumOfRow_27 : decode cX0_sumOfRow 27 = .ok (.lreturn, 1) := by decide +kernel
theorem dX0_levelOfRow_0 : decode cX0_levelOfRow 0 = .ok (.iload_n 1, 1) := by decide +kernel
theorem dX0_levelOfRow_1 : decode cX0_levelOfRow 1 = .ok (.ifCond .lt 25, 3) := by decide +kernel
theorem dX0_levelOfRow_4 : decode cX0_levelOfRow 4 = .ok (.iload_n 1, 1) := by decide +kernel
theorem dX0_levelOfRow_5 : decode cX0_levelOfRow 5 = .ok (.aload_n 0, 1) := by decide +kernel
theorem dX0_levelOfRow_6 : decode cX0_levelOfRow 6 = .ok (.getfield 26, 3) := by decide +kernel
theorem dX0_levelOfRow_9 : decode cX0_levelOfRow 9 = .ok (.if_icmp .ge 17, 3) := by decide +kernel
theorem dX0_levelOfRow_12 : decode cX0_levelOfRow 12 = .ok (.aload_n 0, 1) := by decide +kernel
theorem dX0_levelOfRow_13 : decode cX0_levelOfRow 13 = .ok (.getfield 15, 3) := by decide +kernel
theorem dX0_levelOfRow_16 : decode cX0_levelOfRow 16 = .ok (.aload_n 0, 1) := by decide +kernel
theorem dX0_levelOfRow_17 : decode cX0_levelOfRow 17 = .ok (.getfield 19, 3) := by decide +kernel
theorem dX0_levelOfRow_20 : decode cX0_levelOfRow 20 = .ok (.iload_n 1, 1) := by decide +kernel
theorem dX0_levelOfRow_21 : decode cX0_levelOfRow 21 = .ok (.iaload, 1) := by decide +kernel
theorem dX0_levelOfRow_22 : decode cX0_levelOfRow 22 = .ok (.iaload, 1) := by decide +kernel
theorem dX0_levelOfRow_23 : decode cX0_levelOfRow 23 = .ok (.goto 5, 3) := by decide +kernel
theorem dX0_levelOfRow_26 : decode cX0_levelOfRow 26 = .ok (.bipush (-9), 2) := by decide +kernel
theorem dX0_levelOfRow_28 : decode cX0_levelOfRow 28 = .ok (.ireturn, 1) := by decide +kernel
set_option maxRecDepth 20000 in
theorem ggX0_reduced_X2_hasBit : GoodIn wsX0_reduced wsX2_hasBit := goodIn_r _ [5] (by decide +kernel) (by decide +kernel)
set_option maxRecDepth 20000 in
theorem gX0_reduced_X2_hasBit_n33 : GoodIn wsX0_reduced (wsX2_hasBit) := ggX0_reduced_X2_hasBit
theorem dX0_reduced_0 : decode cX0_reduced 0 = .ok (.lload_n 1, 1) := by decide +kernel
theorem dX0_reduced_1 : decode cX0_reduced 1 = .ok (.lstore_n 3, 1) := by decide +kernel
theorem dX0_reduced_2 : decode cX0_reduced 2 = .ok (.bipush 63, 2) := by decide +kernel
theorem dX0_reduced_4 : decode cX0_reduced 4 = .ok (.istore 5, 2) := by decide +kernel
theorem dX0_reduced_6 : decode cX0_reduced 6 = .ok (.iload 5, 2) := by decide +kernel
theorem dX0_reduced_8 : decode cX0_reduced 8 = .ok (.ifCond .lt 48, 3) := by decide +kernel
theorem dX0_reduced_11 : decode cX0_reduced 11 = .ok (.getstatic 30, 3) := by decide +kernel
theorem dX0_reduced_14 : decode cX0_reduced 14 = .ok (.iload 5, 2) := by decide +kernel
theorem dX0_reduced_16 : decode cX0_reduced 16 = .ok (.iaload, 1) := by decide +kernel
theorem dX0_reduced_17 : decode cX0_reduced 17 = .ok (.istore 6, 2) := by decide +kernel
theorem dX0_reduced_19 : decode cX0_reduced 19 = .ok (.lload_n 3, 1) := by decide +kernel
theorem dX0_reduced_20 : decode cX0_reduced 20 = .ok (.iload 6, 2) := by decide +kernel
theorem dX0_reduced_22 : decode cX0_reduced 22 = .ok (.invokestatic 33, 3) := by decide +kernel
theorem dX0_reduced_25 : decode cX0_reduced 25 = .ok (.ifCond .eq 25, 3) := by decide +kernel
theorem dX0_reduced_28 : decode cX0_reduced 28 = .ok (.aload_n 0, 1) := by decide +kernel
theorem dX0_reduced_29 : decode cX0_reduced 29 = .ok (.getfield 22, 3) := by decide +kernel
theorem dX0_reduced_32 : decode cX0_reduced 32 = .ok (.iload 6, 2) := by decide +kernel
theorem dX0_reduced_34 : decode cX0_reduced 34 = .ok (.invokestatic 33, 3) := by decide +kernel
theorem dX0_reduced_37 : decode cX0_reduced 37 = .ok (.ifCond .eq 13, 3) := by decide +kernel
theorem dX0_reduced_40 : decode cX0_reduced 40 = .ok (.lload_n 3, 1) := by decide +kernel
theorem dX0_reduced_41 : decode cX0_reduced 41 = .ok (.aload_n 0, 1) := by decide +kernel
theorem dX0_reduced_42 : decode cX0_reduced 42 = .ok (.getfield 9, 3) := by decide +kernel
theorem dX0_reduced_45 : decode cX0_reduced 45 = .ok (.iload 6, 2) := by decide +kernel
theorem dX0_reduced_47 : decode cX0_reduced 47 = .ok (.laload, 1) := by decide +kernel
theorem dX0_reduced_48 : decode cX0_reduced 48 = .ok (.lxor, 1) := by decide +kernel
theorem dX0_reduced_49 : decode cX0_reduced 49 = .ok (.lstore_n 3, 1) := by decide +kernel
theorem dX0_reduced_50 : decode cX0_reduced 50 = .ok (.iinc 5 (-1), 3) := by decide +kernel
theorem dX0_reduced_53 : decode cX0_reduced 53 = .ok (.goto (-47), 3) := by decide +kernel
theorem dX0_reduced_56 : decode cX0_reduced 56 = .ok (.lload_n 3, 1) := by decide +kernel
theorem dX0_reduced_57 : decode cX0_reduced 57 = .ok (.lreturn, 1) := by decide +kernel
set_option maxRecDepth 20000 in
theorem ggX0_levelOf_X2_hasBit : GoodIn wsX0_levelOf wsX2_hasBit := goodIn_r _ [10] (by decide +kernel) (by decide +kernel)
set_option maxRecDepth 20000 in
theorem gX0_levelOf_X2_hasBit_n33 : GoodIn wsX0_levelOf (wsX2_hasBit) := ggX0_levelOf_X2_hasBit
theorem dX0_levelOf_0 : decode cX0_levelOf 0 = .ok (.lload_n 1, 1) := by decide +kernel
theorem dX0_levelOf_1 : decode cX0_levelOf 1 = .ok (.lstore_n 3, 1) := by decide +kernel
theorem dX0_levelOf_2 : decode cX0_levelOf 2 = .ok (.iconst 0, 1) := by decide +kernel
theorem dX0_levelOf_3 : decode cX0_levelOf 3 = .ok (.istore 5, 2) := by decide +kernel
theorem dX0_levelOf_5 : decode cX0_levelOf 5 = .ok (.bipush 63, 2) := by decide +kernel
theorem dX0_levelOf_7 : decode cX0_levelOf 7 = .ok (.istore 6, 2) := by decide +kernel
theorem dX0_levelOf_9 : decode cX0_levelOf 9 = .ok (.iload 6, 2) := by decide +kernel
theorem dX0_levelOf_11 : decode cX0_levelOf 11 = .ok (.ifCond .lt 71, 3) := by decide +kernel
theorem dX0_levelOf_14 : decode cX0_levelOf 14 = .ok (.lload_n 3, 1) := by decide +kernel
theorem dX0_levelOf_15 : decode cX0_levelOf 15 = .ok (.lconst 0, 1) := by decide +kernel
theorem dX0_levelOf_16 : decode cX0_levelOf 16 = .ok (.lcmp, 1) := by decide +kernel
theorem dX0_levelOf_17 : decode cX0_levelOf 17 = .ok (.ifCond .eq 65, 3) := by decide +kernel
theorem dX0_levelOf_20 : decode cX0_levelOf 20 = .ok (.getstatic 30, 3) := by decide +kernel
theorem dX0_levelOf_23 : decode cX0_levelOf 23 = .ok (.iload 6, 2) := by decide +kernel
theorem dX0_levelOf_25 : decode cX0_levelOf 25 = .ok (.iaload, 1) := by decide +kernel
theorem dX0_levelOf_26 : decode cX0_levelOf 26 = .ok (.istore 7, 2) := by decide +kernel
theorem dX0_levelOf_28 : decode cX0_levelOf 28 = .ok (.lload_n 3, 1) := by decide +kernel
theorem dX0_levelOf_29 : decode cX0_levelOf 29 = .ok (.iload 7, 2) := by decide +kernel
theorem dX0_levelOf_31 : decode cX0_levelOf 31 = .ok (.invokestatic 33, 3) := by decide +kernel
theorem dX0_levelOf_34 : decode cX0_levelOf 34 = .ok (.ifCond .eq 42, 3) := by decide +kernel
theorem dX0_levelOf_37 : decode cX0_levelOf 37 = .ok (.aload_n 0, 1) := by decide +kernel
theorem dX0_levelOf_38 : decode cX0_levelOf 38 = .ok (.getfield 22, 3) := by decide +kernel
theorem dX0_levelOf_41 : decode cX0_levelOf 41 = .ok (.iload 7, 2) := by decide +kernel
theorem dX0_levelOf_43 : decode cX0_levelOf 43 = .ok (.invokestatic 33, 3) := by decide +kernel
theorem dX0_levelOf_46 : decode cX0_levelOf 46 = .ok (.ifCond .ne 6, 3) := by decide +kernel
theorem dX0_levelOf_49 : decode cX0_levelOf 49 = .ok (.bipush (-9), 2) := by decide +kernel
theorem dX0_levelOf_51 : decode cX0_levelOf 51 = .ok (.ireturn, 1) := by decide +kernel
theorem dX0_levelOf_52 : decode cX0_levelOf 52 = .ok (.iload 5, 2) := by decide +kernel
theorem dX0_levelOf_54 : decode cX0_levelOf 54 = .ok (.aload_n 0, 1) := by decide +kernel
theorem dX0_levelOf_55 : decode cX0_levelOf 55 = .ok (.getfield 15, 3) := by decide +kernel
theorem dX0_levelOf_58 : decode cX0_levelOf 58 = .ok (.iload 7, 2) := by decide +kernel
theorem dX0_levelOf_60 : decode cX0_levelOf 60 = .ok (.iaload, 1) := by decide +kernel
theorem dX0_levelOf_61 : decode cX0_levelOf 61 = .ok (.invokestatic 41, 3) := by decide +kernel
theorem dX0_levelOf_64 : decode cX0_levelOf 64 = .ok (.istore 5, 2) := by decide +kernel
theorem dX0_levelOf_66 : decode cX0_levelOf 66 = .ok (.lload_n 3, 1) := by decide +kernel
theorem dX0_levelOf_67 : decode cX0_levelOf 67 = .ok (.aload_n 0, 1) := by decide +kernel
theorem dX0_levelOf_68 : decode cX0_levelOf 68 = .ok (.getfield 9, 3) := by decide +kernel
theorem dX0_levelOf_71 : decode cX0_levelOf 71 = .ok (.iload 7, 2) := by decide +kernel
theorem dX0_levelOf_73 : decode cX0_levelOf 73 = .ok (.laload, 1) := by decide +kernel
theorem dX0_levelOf_74 : decode cX0_levelOf 74 = .ok (.lxor, 1) := by decide +kernel
theorem dX0_levelOf_75 : decode cX0_levelOf 75 = .ok (.lstore_n 3, 1) := by decide +kernel
theorem dX0_levelOf_76 : decode cX0_levelOf 76 = .ok (.iinc 6 (-1), 3) := by decide +kernel
theorem dX0_levelOf_79 : decode cX0_levelOf 79 = .ok (.goto (-70), 3) := by decide +kernel
theorem dX0_levelOf_82 : decode cX0_levelOf 82 = .ok (.iload 5, 2) := by decide +kernel
theorem dX0_levelOf_84 : decode cX0_levelOf 84 = .ok (.ireturn, 1) := by decide +kernel
theorem dX1_init_0 : decode cX1_init 0 = .ok (.aload_n 0, 1) := by decide +kernel
theorem dX1_init_1 : decode cX1_init 1 = .ok (.invokespecial 3, 3) := by decide +kernel
theorem dX1_init_4 : decode cX1_init 4 = .ok (.aload_n 0, 1) := by decide +kernel
theorem dX1_init_5 : decode cX1_init 5 = .ok (.sipush 400, 3) := by decide +kernel
theorem dX1_init_8 : decode cX1_init 8 = .ok (.newarray .int, 2) := by decide +kernel
theorem dX1_init_10 : decode cX1_init 10 = .ok (.putfield 9, 3) := by decide +kernel
theorem dX1_init_13 : decode cX1_init 13 = .ok (.aload_n 0, 1) := by decide +kernel
theorem dX1_init_14 : decode cX1_init 14 = .ok (.iconst 0, 1) := by decide +kernel
theorem dX1_init_15 : decode cX1_init 15 = .ok (.putfield 15, 3) := by decide +kernel
theorem dX1_init_18 : decode cX1_init 18 = .ok (.aload_n 0, 1) := by decide +kernel
theorem dX1_init_19 : decode cX1_init 19 = .ok (.iconst 0, 1) := by decide +kernel
theorem dX1_init_20 : decode cX1_init 20 = .ok (.putfield 19, 3) := by decide +kernel
theorem dX1_init_23 : decode cX1_init 23 = .ok (.aload_n 0, 1) := by decide +kernel
theorem dX1_init_24 : decode cX1_init 24 = .ok (.iconst 0, 1) := by decide +kernel
theorem dX1_init_25 : decode cX1_init 25 = .ok (.putfield 22, 3) := by decide +kernel
theorem dX1_init_28 : decode cX1_init 28 = .ok (.aload_n 0, 1) := by decide +kernel
theorem dX1_init_29 : decode cX1_init 29 = .ok (.bipush 9, 2) := by decide +kernel
theorem dX1_init_31 : decode cX1_init 31 = .ok (.putfield 25, 3) := by decide +kernel
theorem dX1_init_34 : decode cX1_init 34 = .ok (.aload_n 0, 1) := by decide +kernel
theorem dX1_init_35 : decode cX1_init 35 = .ok (.iconst 0, 1) := by decide +kernel
theorem dX1_init_36 : decode cX1_init 36 = .ok (.putfield 28, 3) := by decide +kernel
theorem dX1_init_39 : decode cX1_init 39 = .ok (.aload_n 0, 1) := by decide +kernel
theorem dX1_init_40 : decode cX1_init 40 = .ok (.iconst 0, 1) := by decide +kernel
theorem dX1_init_41 : decode cX1_init 41 = .ok (.putfield 31, 3) := by decide +kernel
theorem dX1_init_44 : decode cX1_init 44 = .ok (.aload_n 0, 1) := by decide +kernel
theorem dX1_init_45 : decode cX1_init 45 = .ok (.bipush 24, 2) := by decide +kernel
theorem dX1_init_47 : decode cX1_init 47 = .ok (.newarray .long, 2) := by decide +kernel
theorem dX1_init_49 : decode cX1_init 49 = .ok (.putfield 34, 3) := by decide +kernel
theorem dX1_init_52 : decode cX1_init 52 = .ok (.aload_n 0, 1) := by decide +kernel
theorem dX1_init_53 : decode cX1_init 53 = .ok (.bipush 24, 2) := by decide +kernel
theorem dX1_init_55 : decode cX1_init 55 = .ok (.newarray .int, 2) := by decide +kernel
theorem dX1_init_57 : decode cX1_init 57 = .ok (.putfield 38, 3) := by decide +kernel
theorem dX1_init_60 : decode cX1_init 60 = .ok (.aload_n 0, 1) := by decide +kernel
theorem dX1_init_61 : decode cX1_init 61 = .ok (.bipush 24, 2) := by decide +kernel
theorem dX1_init_63 : decode cX1_init 63 = .ok (.newarray .int, 2) := by decide +kernel
theorem dX1_init_65 : decode cX1_init 65 = .ok (.putfield 41, 3) := by decide +kernel
theorem dX1_init_68 : decode cX1_init 68 = .ok (.aload_n 0, 1) := by decide +kernel
theorem dX1_init_69 : decode cX1_init 69 = .ok (.bipush 24, 2) := by decide +kernel
theorem dX1_init_71 : decode cX1_init 71 = .ok (.newarray .int, 2) := by decide +kernel
theorem dX1_init_73 : decode cX1_init 73 = .ok (.putfield 44, 3) := by decide +kernel
theorem dX1_init_76 : decode cX1_init 76 = .ok (.return_, 1) := by decide +kernel
theorem dX1_append_0 : decode cX1_append 0 = .ok (.aload_n 0, 1) := by decide +kernel
theorem dX1_append_1 : decode cX1_append 1 = .ok (.getfield 15, 3) := by decide +kernel
theorem dX1_append_4 : decode cX1_append 4 = .ok (.ifCond .lt 33, 3) := by decide +kernel
theorem dX1_append_7 : decode cX1_append 7 = .ok (.aload_n 0, 1) := by decide +kernel
theorem dX1_append_8 : decode cX1_append 8 = .ok (.getfield 15, 3) := by decide +kernel
theorem dX1_append_11 : decode cX1_append 11 = .ok (.sipush 400, 3) := by decide +kernel
theorem dX1_append_14 : decode cX1_append 14 = .ok (.if_icmp .ge 23, 3) := by decide +kernel
theorem dX1_append_17 : decode cX1_append 17 = .ok (.aload_n 0, 1) := by decide +kernel
theorem dX1_append_18 : decode cX1_append 18 = .ok (.getfield 9, 3) := by decide +kernel
theorem dX1_append_21 : decode cX1_append 21 = .ok (.aload_n 0, 1) := by decide +kernel
theorem dX1_append_22 : decode cX1_append 22 = .ok (.getfield 15, 3) := by decide +kernel
theorem dX1_append_25 : decode cX1_append 25 = .ok (.iload_n 1, 1) := by decide +kernel
theorem dX1_append_26 : decode cX1_append 26 = .ok (.iastore, 1) := by decide +kernel
theorem dX1_append_27 : decode cX1_append 27 = .ok (.aload_n 0, 1) := by decide +kernel
theorem dX1_append_28 : decode cX1_append 28 = .ok (.dup, 1) := by decide +kernel
theorem dX1_append_29 : decode cX1_append 29 = .ok (.getfield 15, 3) := by decide +kernel
theorem dX1_append_32 : decode cX1_append 32 = .ok (.iconst 1, 1) := by decide +kernel
theorem dX1_append_33 : decode cX1_append 33 = .ok (.iadd, 1) := by decide +kernel
theorem dX1_append_34 : decode cX1_append 34 = .ok (.putfield 15, 3) := by decide +kernel
theorem dX1_append_37 : decode cX1_append 37 = .ok (.return_, 1) := by decide +kernel
set_option maxRecDepth 20000 in
theorem ggX1_readGiven_X1_begin : GoodIn wsX1_readGiven wsX1_begin := goodIn_r _ [8, 9, 1, 10, 11, 12, 7, 13, 14, 3, 15, 2, 16, 17, 18, 19, 20, 21, 22, 23, 24, 25, 26, 27, 28, 29, 30, 31, 32, 33, 34, 35, 36, 37, 38, 39, 40, 41, 42, 43, 44, 45, 46, 47, 48, 49, 50, 51, 52, 53, 54, 55, 56, 57, 58, 59, 60, 61, 62, 63, 64, 65, 66, 67, 68, 69, 70, 71, 72, 73, 74, 75, 76, 77, 78, 79, 80, 81, 82, 83, 84, 85, 86, 87, 88, 89, 90, 91, 92, 93, 94, 95, 109, 110, 111, 112, 113, 114, 115, 116, 117, 118, 119] (by decide +kernel) (by decide +kernel)
set_option maxRecDepth 20000 in
theorem gX1_readGiven_X1_begin : GoodIn wsX1_readGiven (wsV RX1 47 RX1 yX1_begin wsX1_begin) := goodIn_app (goodIn_of _ (by decide +kernel)) ggX1_readGiven_X1_begin
set_option maxRecDepth 20000 in
theorem ggX1_readGiven_X1_readSum : GoodIn wsX1_readGiven wsX1_readSum := goodIn_r _ [99, 2, 1, 100, 101, 102, 103, 7, 104, 15, 105, 106, 107, 108, 10, 11, 12, 13, 9, 14, 3, 16, 17, 18, 19, 20, 21, 22, 23, 24, 25, 26, 27, 28, 29, 30, 31, 32, 33, 34, 35, 36, 37, 38, 39, 40, 41, 42, 43, 44, 45, 46, 47, 48, 49, 50, 51, 52, 53, 54, 55, 56, 57, 58, 59, 60, 61, 62, 63, 64, 65, 66, 67, 68, 69, 70, 71, 72, 73, 74, 75, 76, 77, 78, 79, 80, 81, 82, 83, 84, 85, 86, 87, 88, 89, 90, 91, 92, 93, 94, 95, 109, 110, 111, 112, 113, 114, 115, 116, 117, 118, 119] (by decide +kernel) (by decide +kernel)
set_option maxRecDepth 20000 in
theorem gX1_readGiven_X1_readSum : GoodIn wsX1_readGiven (wsV RX1 50 RX1 yX1_readSum wsX1_readSum) := goodIn_app (goodIn_of _ (by decide +kernel)) ggX1_readGiven_X1_readSum
set_option maxRecDepth 20000 in
theorem ggX1_readGiven_X1_next : GoodIn wsX1_readGiven wsX1_next := goodIn_r _ [13, 9, 14, 3, 15, 2, 16, 17, 18, 7, 19, 20, 21, 22, 23, 24, 25, 26, 27, 28, 29, 30, 31, 32, 33, 34, 35, 36, 37, 38, 39, 40, 41, 42, 43, 44, 45, 46, 47, 48, 49, 50, 51, 52, 53, 54, 55, 56, 57, 58, 59, 60, 61, 62, 63, 64, 65, 66, 67, 68, 69, 70, 71, 72, 73, 74, 75, 76, 77, 78, 79, 80, 81, 82, 83, 84, 85, 86, 87, 88, 89, 90, 91, 92, 93, 94, 95, 109, 110, 111, 112, 113, 114, 115, 116, 117, 118, 119] (by decide +kernel) (by decide +kernel)
set_option maxRecDepth 20000 in
theorem gX1_readGiven_X1_next : GoodIn wsX1_readGiven (wsV RX1 54 RX1 yX1_next wsX1_next) := goodIn_app (goodIn_of _ (by decide +kernel)) ggX1_readGiven_X1_next
theorem dX1_readGiven_0 : decode cX1_readGiven 0 = .ok (.aload_n 0, 1) := by decide +kernel
theorem dX1_readGiven_1 : decode cX1_readGiven 1 = .ok (.invokevirtual 47, 3) := by decide +kernel
theorem dX1_readGiven_4 : decode cX1_readGiven 4 = .ok (.aload_n 0, 1) := by decide +kernel
theorem dX1_readGiven_5 : decode cX1_readGiven 5 = .ok (.getfield 31, 3) := by decide +kernel
theorem dX1_readGiven_8 : decode cX1_readGiven 8 = .ok (.bipush 8, 2) := by decide +kernel
theorem dX1_readGiven_10 : decode cX1_readGiven 10 = .ok (.if_icmp .ge 41, 3) := by decide +kernel
theorem dX1_readGiven_13 : decode cX1_readGiven 13 = .ok (.aload_n 0, 1) := by decide +kernel
theorem dX1_readGiven_14 : decode cX1_readGiven 14 = .ok (.getfield 25, 3) := by decide +kernel
theorem dX1_readGiven_17 : decode cX1_readGiven 17 = .ok (.bipush 9, 2) := by decide +kernel
theorem dX1_readGiven_19 : decode cX1_readGiven 19 = .ok (.if_icmp .eq 32, 3) := by decide +kernel
theorem dX1_readGiven_22 : decode cX1_readGiven 22 = .ok (.aload_n 0, 1) := by decide +kernel
theorem dX1_readGiven_23 : decode cX1_readGiven 23 = .ok (.invokevirtual 50, 3) := by decide +kernel
theorem dX1_readGiven_26 : decode cX1_readGiven 26 = .ok (.ifCond .ne 8, 3) := by decide +kernel
theorem dX1_readGiven_29 : decode cX1_readGiven 29 = .ok (.aload_n 0, 1) := by decide +kernel
theorem dX1_readGiven_30 : decode cX1_readGiven 30 = .ok (.getfield 22, 3) := by decide +kernel
theorem dX1_readGiven_33 : decode cX1_readGiven 33 = .ok (.ireturn, 1) := by decide +kernel
theorem dX1_readGiven_34 : decode cX1_readGiven 34 = .ok (.aload_n 0, 1) := by decide +kernel
theorem dX1_readGiven_35 : decode cX1_readGiven 35 = .ok (.dup, 1) := by decide +kernel
theorem dX1_readGiven_36 : decode cX1_readGiven 36 = .ok (.getfield 31, 3) := by decide +kernel
theorem dX1_readGiven_39 : decode cX1_readGiven 39 = .ok (.iconst 1, 1) := by decide +kernel
theorem dX1_readGiven_40 : decode cX1_readGiven 40 = .ok (.iadd, 1) := by decide +kernel
theorem dX1_readGiven_41 : decode cX1_readGiven 41 = .ok (.putfield 31, 3) := by decide +kernel
theorem dX1_readGiven_44 : decode cX1_readGiven 44 = .ok (.aload_n 0, 1) := by decide +kernel
theorem dX1_readGiven_45 : decode cX1_readGiven 45 = .ok (.invokevirtual 54, 3) := by decide +kernel
theorem dX1_readGiven_48 : decode cX1_readGiven 48 = .ok (.goto (-44), 3) := by decide +kernel
theorem dX1_readGiven_51 : decode cX1_readGiven 51 = .ok (.aload_n 0, 1) := by decide +kernel
theorem dX1_readGiven_52 : decode cX1_readGiven 52 = .ok (.getfield 25, 3) := by decide +kernel
theorem dX1_readGiven_55 : decode cX1_readGiven 55 = .ok (.bipush 9, 2) := by decide +kernel
theorem dX1_readGiven_57 : decode cX1_readGiven 57 = .ok (.if_icmp .ne 7, 3) := by decide +kernel
theorem dX1_readGiven_60 : decode cX1_readGiven 60 = .ok (.iconst (-1), 1) := by decide +kernel
theorem dX1_readGiven_61 : decode cX1_readGiven 61 = .ok (.goto 7, 3) := by decide +kernel
theorem dX1_readGiven_64 : decode cX1_readGiven 64 = .ok (.aload_n 0, 1) := by decide +kernel
theorem dX1_readGiven_65 : decode cX1_readGiven 65 = .ok (.getfield 22, 3) := by decide +kernel
theorem dX1_readGiven_68 : decode cX1_readGiven 68 = .ok (.ireturn, 1) := by decide +kernel
set_option maxRecDepth 20000 in
theorem ggX1_readProof_X1_begin : GoodIn wsX1_readProof wsX1_begin := goodIn_r _ [8, 9, 1, 10, 11, 12, 7, 13, 14, 3, 15, 2, 16, 17, 18, 19, 20, 21, 22, 23, 24, 25, 26, 27, 28, 29, 30, 31, 32, 33, 34, 35, 36, 37, 38, 39, 40, 41, 42, 43, 44, 45, 46, 47, 48, 49, 50, 51, 52, 53, 54, 55, 56, 57, 58, 59, 60, 61, 62, 63, 64, 65, 66, 67, 68, 69, 70, 71, 72, 73, 74, 75, 76, 77, 78, 79, 80, 81, 82, 83, 84, 85, 86, 87, 88, 89, 90, 91, 92, 93, 94, 95, 135, 136, 137, 138, 139, 140, 141, 142, 143, 144, 145] (by decide +kernel) (by decide +kernel)
set_option maxRecDepth 20000 in
theorem gX1_readProof_X1_begin : GoodIn wsX1_readProof (wsV RX1 47 RX1 yX1_begin wsX1_begin) := goodIn_app (goodIn_of _ (by decide +kernel)) ggX1_readProof_X1_begin
set_option maxRecDepth 20000 in
theorem ggX1_readProof_X1_readStep : GoodIn wsX1_readProof wsX1_readStep := goodIn_r _ [99, 1, 100, 2, 101, 102, 103, 104, 105, 7, 106, 15, 10, 11, 12, 13, 9, 14, 3, 16, 17, 18, 19, 20, 21, 22, 23, 24, 25, 26, 27, 28, 29, 30, 31, 32, 33, 34, 35, 36, 37, 38, 39, 40, 41, 42, 43, 44, 45, 46, 47, 48, 49, 50, 51, 52, 53, 54, 55, 56, 57, 58, 59, 60, 61, 62, 63, 64, 65, 66, 67, 68, 69, 70, 71, 72, 73, 74, 75, 76, 77, 78, 79, 80, 81, 82, 83, 84, 85, 86, 87, 88, 89, 90, 91, 92, 93, 94, 95, 107, 108, 109, 110, 111, 112, 113, 114, 115, 116, 117, 118, 119, 120, 121, 122, 123, 124, 125, 126, 127, 128, 129, 130, 131, 132, 133, 134, 135, 136, 137, 138, 139, 140, 141, 142, 143, 144, 145] (by decide +kernel) (by decide +kernel)
set_option maxRecDepth 20000 in
theorem gX1_readProof_X1_readStep : GoodIn wsX1_readProof (wsV RX1 57 RX1 yX1_readStep wsX1_readStep) := goodIn_app (goodIn_of _ (by decide +kernel)) ggX1_readProof_X1_readStep
set_option maxRecDepth 20000 in
theorem ggX1_readProof_X1_next : GoodIn wsX1_readProof wsX1_next := goodIn_r _ [13, 9, 14, 3, 15, 2, 16, 17, 18, 7, 19, 20, 21, 22, 23, 24, 25, 26, 27, 28, 29, 30, 31, 32, 33, 34, 35, 36, 37, 38, 39, 40, 41, 42, 43, 44, 45, 46, 47, 48, 49, 50, 51, 52, 53, 54, 55, 56, 57, 58, 59, 60, 61, 62, 63, 64, 65, 66, 67, 68, 69, 70, 71, 72, 73, 74, 75, 76, 77, 78, 79, 80, 81, 82, 83, 84, 85, 86, 87, 88, 89, 90, 91, 92, 93, 94, 95, 135, 136, 137, 138, 139, 140, 141, 142, 143, 144, 145] (by decide +kernel) (by decide +kernel)
set_option maxRecDepth 20000 in
theorem gX1_readProof_X1_next : GoodIn wsX1_readProof (wsV RX1 54 RX1 yX1_next wsX1_next) := goodIn_app (goodIn_of _ (by decide +kernel)) ggX1_readProof_X1_next
theorem dX1_readProof_0 : decode cX1_readProof 0 = .ok (.aload_n 0, 1) := by decide +kernel
theorem dX1_readProof_1 : decode cX1_readProof 1 = .ok (.invokevirtual 47, 3) := by decide +kernel
theorem dX1_readProof_4 : decode cX1_readProof 4 = .ok (.aload_n 0, 1) := by decide +kernel
theorem dX1_readProof_5 : decode cX1_readProof 5 = .ok (.getfield 31, 3) := by decide +kernel
theorem dX1_readProof_8 : decode cX1_readProof 8 = .ok (.bipush 24, 2) := by decide +kernel
theorem dX1_readProof_10 : decode cX1_readProof 10 = .ok (.if_icmp .ge 47, 3) := by decide +kernel
theorem dX1_readProof_13 : decode cX1_readProof 13 = .ok (.aload_n 0, 1) := by decide +kernel
theorem dX1_readProof_14 : decode cX1_readProof 14 = .ok (.getfield 25, 3) := by decide +kernel
theorem dX1_readProof_17 : decode cX1_readProof 17 = .ok (.bipush 9, 2) := by decide +kernel
theorem dX1_readProof_19 : decode cX1_readProof 19 = .ok (.if_icmp .eq 38, 3) := by decide +kernel
theorem dX1_readProof_22 : decode cX1_readProof 22 = .ok (.aload_n 0, 1) := by decide +kernel
theorem dX1_readProof_23 : decode cX1_readProof 23 = .ok (.iload_n 1, 1) := by decide +kernel
theorem dX1_readProof_24 : decode cX1_readProof 24 = .ok (.aload_n 0, 1) := by decide +kernel
theorem dX1_readProof_25 : decode cX1_readProof 25 = .ok (.getfield 31, 3) := by decide +kernel
theorem dX1_readProof_28 : decode cX1_readProof 28 = .ok (.iadd, 1) := by decide +kernel
theorem dX1_readProof_29 : decode cX1_readProof 29 = .ok (.invokevirtual 57, 3) := by decide +kernel
theorem dX1_readProof_32 : decode cX1_readProof 32 = .ok (.ifCond .ne 8, 3) := by decide +kernel
theorem dX1_readProof_35 : decode cX1_readProof 35 = .ok (.aload_n 0, 1) := by decide +kernel
theorem dX1_readProof_36 : decode cX1_readProof 36 = .ok (.getfield 22, 3) := by decide +kernel
theorem dX1_readProof_39 : decode cX1_readProof 39 = .ok (.ireturn, 1) := by decide +kernel
theorem dX1_readProof_40 : decode cX1_readProof 40 = .ok (.aload_n 0, 1) := by decide +kernel
theorem dX1_readProof_41 : decode cX1_readProof 41 = .ok (.dup, 1) := by decide +kernel
theorem dX1_readProof_42 : decode cX1_readProof 42 = .ok (.getfield 31, 3) := by decide +kernel
theorem dX1_readProof_45 : decode cX1_readProof 45 = .ok (.iconst 1, 1) := by decide +kernel
theorem dX1_readProof_46 : decode cX1_readProof 46 = .ok (.iadd, 1) := by decide +kernel
theorem dX1_readProof_47 : decode cX1_readProof 47 = .ok (.putfield 31, 3) := by decide +kernel
theorem dX1_readProof_50 : decode cX1_readProof 50 = .ok (.aload_n 0, 1) := by decide +kernel
theorem dX1_readProof_51 : decode cX1_readProof 51 = .ok (.invokevirtual 54, 3) := by decide +kernel
theorem dX1_readProof_54 : decode cX1_readProof 54 = .ok (.goto (-50), 3) := by decide +kernel
theorem dX1_readProof_57 : decode cX1_readProof 57 = .ok (.aload_n 0, 1) := by decide +kernel
theorem dX1_readProof_58 : decode cX1_readProof 58 = .ok (.getfield 25, 3) := by decide +kernel
theorem dX1_readProof_61 : decode cX1_readProof 61 = .ok (.bipush 9, 2) := by decide +kernel
theorem dX1_readProof_63 : decode cX1_readProof 63 = .ok (.if_icmp .ne 7, 3) := by decide +kernel
theorem dX1_readProof_66 : decode cX1_readProof 66 = .ok (.iconst (-1), 1) := by decide +kernel
theorem dX1_readProof_67 : decode cX1_readProof 67 = .ok (.goto 7, 3) := by decide +kernel
theorem dX1_readProof_70 : decode cX1_readProof 70 = .ok (.aload_n 0, 1) := by decide +kernel
theorem dX1_readProof_71 : decode cX1_readProof 71 = .ok (.getfield 22, 3) := by decide +kernel
theorem dX1_readProof_74 : decode cX1_readProof 74 = .ok (.ireturn, 1) := by decide +kernel
set_option maxRecDepth 20000 in
theorem ggX1_begin_X1_next : GoodIn wsX1_begin wsX1_next := goodIn_r _ [7, 1, 8, 9, 10, 11, 12, 13, 14, 6, 15, 16, 17, 18, 19, 20, 21, 22, 23, 24, 25, 26, 27, 28, 29, 30, 31, 32, 33, 34, 35, 36, 37, 38, 39, 40, 41, 42, 43, 44, 45, 46, 47, 48, 49, 50, 51, 52, 53, 54, 55, 56, 57, 58, 59, 60, 61, 62, 63, 64, 65, 66, 67, 68, 69, 70, 71, 72, 73, 74, 75, 76, 77, 78, 79, 80, 81, 82, 83, 84, 85, 86, 87, 88, 89, 90, 91, 92, 93, 94, 95, 96, 97, 98, 99, 100, 101, 102] (by decide +kernel) (by decide +kernel)
set_option maxRecDepth 20000 in
theorem gX1_begin_X1_next : GoodIn wsX1_begin (wsV RX1 54 RX1 yX1_next wsX1_next) := goodIn_app (goodIn_of _ (by decide +kernel)) ggX1_begin_X1_next
theorem dX1_begin_0 : decode cX1_begin 0 = .ok (.aload_n 0, 1) := by decide +kernel
theorem dX1_begin_1 : decode cX1_begin 1 = .ok (.iconst 0, 1) := by decide +kernel
theorem dX1_begin_2 : decode cX1_begin 2 = .ok (.putfield 19, 3) := by decide +kernel
theorem dX1_begin_5 : decode cX1_begin 5 = .ok (.aload_n 0, 1) := by decide +kernel
theorem dX1_begin_6 : decode cX1_begin 6 = .ok (.iconst 0, 1) := by decide +kernel
theorem dX1_begin_7 : decode cX1_begin 7 = .ok (.putfield 31, 3) := by decide +kernel
theorem dX1_begin_10 : decode cX1_begin 10 = .ok (.aload_n 0, 1) := by decide +kernel
theorem dX1_begin_11 : decode cX1_begin 11 = .ok (.invokevirtual 54, 3) := by decide +kernel
theorem dX1_begin_14 : decode cX1_begin 14 = .ok (.return_, 1) := by decide +kernel
set_option maxRecDepth 20000 in
theorem ggX1_readStep_X1_readLine : GoodIn wsX1_readStep wsX1_readLine := goodIn_r _ [10, 3, 11, 1, 12, 13, 14, 9, 15, 16, 17, 18, 19, 20, 21, 22, 23, 24, 25, 26, 27, 28, 29, 30, 31, 32, 33, 34, 35, 36, 37, 38, 39, 40, 41, 42, 43, 44, 45, 46, 47, 48, 49, 50, 51, 52, 53, 54, 55, 56, 57, 58, 59, 60, 61, 62, 63, 64, 65, 66, 67, 68, 69, 70, 71, 72, 73, 74, 75, 76, 77, 78, 79, 80, 81, 82, 83, 84, 85, 86, 87, 88, 89, 90, 91, 92, 93, 94, 95, 96, 97, 98, 127, 128, 129, 130, 131, 132, 133, 134, 135, 136, 137] (by decide +kernel) (by decide +kernel)
set_option maxRecDepth 20000 in
theorem gX1_readStep_X1_readLine : GoodIn wsX1_readStep (wsV RX1 61 RX1 yX1_readLine wsX1_readLine) := goodIn_app (goodIn_of _ (by decide +kernel)) ggX1_readStep_X1_readLine
set_option maxRecDepth 20000 in
theorem ggX1_readStep_X1_readSemicolon : GoodIn wsX1_readStep wsX1_readSemicolon := goodIn_r _ [102, 3, 12, 13, 14, 9, 15, 16, 17, 18, 11, 19, 20, 21, 22, 23, 24, 25, 26, 27, 28, 29, 30, 31, 32, 33, 34, 35, 36, 37, 38, 39, 40, 41, 42, 43, 44, 45, 46, 47, 48, 49, 50, 51, 52, 53, 54, 55, 56, 57, 58, 59, 60, 61, 62, 63, 64, 65, 66, 67, 68, 69, 70, 71, 72, 73, 74, 75, 76, 77, 78, 79, 80, 81, 82, 83, 84, 85, 86, 87, 88, 89, 90, 91, 92, 93, 94, 95, 96, 97, 98, 127, 128, 129, 130, 131, 132, 133, 134, 135, 136, 137] (by decide +kernel) (by decide +kernel)
set_option maxRecDepth 20000 in
theorem gX1_readStep_X1_readSemicolon : GoodIn wsX1_readStep (wsV RX1 65 RX1 yX1_readSemicolon wsX1_readSemicolon) := goodIn_app (goodIn_of _ (by decide +kernel)) ggX1_readStep_X1_readSemicolon
set_option maxRecDepth 20000 in
theorem ggX1_readStep_X1_readLetter : GoodIn wsX1_readStep wsX1_readLetter := goodIn_r _ [106, 3, 11, 1, 5, 12, 13, 14, 9, 15, 16, 17, 18, 19, 20, 21, 22, 23, 24, 25, 26, 27, 28, 29, 30, 31, 32, 33, 34, 35, 36, 37, 38, 39, 40, 41, 42, 43, 44, 45, 46, 47, 48, 49, 50, 51, 52, 53, 54, 55, 56, 57, 58, 59, 60, 61, 62, 63, 64, 65, 66, 67, 68, 69, 70, 71, 72, 73, 74, 75, 76, 77, 78, 79, 80, 81, 82, 83, 84, 85, 86, 87, 88, 89, 90, 91, 92, 93, 94, 95, 96, 97, 98, 107, 108, 109, 110, 111, 112, 113, 127, 128, 129, 130, 131, 132, 133, 134, 135, 136, 137] (by decide +kernel) (by decide +kernel)
set_option maxRecDepth 20000 in
theorem gX1_readStep_X1_readLetter : GoodIn wsX1_readStep (wsV RX1 68 RX1 yX1_readLetter wsX1_readLetter) := goodIn_app (goodIn_of _ (by decide +kernel)) ggX1_readStep_X1_readLetter
set_option maxRecDepth 20000 in
theorem ggX1_readStep_X1_next : GoodIn wsX1_readStep wsX1_next := goodIn_r _ [15, 16, 17, 18, 11, 3, 19, 20, 21, 9, 22, 23, 24, 25, 26, 27, 28, 29, 30, 31, 32, 33, 34, 35, 36, 37, 38, 39, 40, 41, 42, 43, 44, 45, 46, 47, 48, 49, 50, 51, 52, 53, 54, 55, 56, 57, 58, 59, 60, 61, 62, 63, 64, 65, 66, 67, 68, 69, 70, 71, 72, 73, 74, 75, 76, 77, 78, 79, 80, 81, 82, 83, 84, 85, 86, 87, 88, 89, 90, 91, 92, 93, 94, 95, 96, 97, 98, 127, 128, 129, 130, 131, 132, 133, 134, 135, 136, 137] (by decide +kernel) (by decide +kernel)
set_option maxRecDepth 20000 in
theorem gX1_readStep_X1_next : GoodIn wsX1_readStep (wsV RX1 54 RX1 yX1_next wsX1_next) := goodIn_app (goodIn_of _ (by decide +kernel)) ggX1_readStep_X1_next
set_option maxRecDepth 20000 in
theorem ggX1_readStep_X1_readSum : GoodIn wsX1_readStep wsX1_readSum := goodIn_r _ [117, 3, 1, 118, 119, 120, 121, 9, 122, 11, 123, 124, 125, 126, 12, 13, 14, 15, 16, 17, 18, 19, 20, 21, 22, 23, 24, 25, 26, 27, 28, 29, 30, 31, 32, 33, 34, 35, 36, 37, 38, 39, 40, 41, 42, 43, 44, 45, 46, 47, 48, 49, 50, 51, 52, 53, 54, 55, 56, 57, 58, 59, 60, 61, 62, 63, 64, 65, 66, 67, 68, 69, 70, 71, 72, 73, 74, 75, 76, 77, 78, 79, 80, 81, 82, 83, 84, 85, 86, 87, 88, 89, 90, 91, 92, 93, 94, 95, 96, 97, 98, 127, 128, 129, 130, 131, 132, 133, 134, 135, 136, 137] (by decide +kernel) (by decide +kernel)
set_option maxRecDepth 20000 in
theorem gX1_readStep_X1_readSum : GoodIn wsX1_readStep (wsV RX1 50 RX1 yX1_readSum wsX1_readSum) := goodIn_app (goodIn_of _ (by decide +kernel)) ggX1_readStep_X1_readSum
theorem dX1_readStep_0 : decode cX1_readStep 0 = .ok (.aload_n 0, 1) := by decide +kernel
theorem dX1_readStep_1 : decode cX1_readStep 1 = .ok (.getfield 31, 3) := by decide +kernel
theorem dX1_readStep_4 : decode cX1_readStep 4 = .ok (.ifCond .lt 12, 3) := by decide +kernel
theorem dX1_readStep_7 : decode cX1_readStep 7 = .ok (.aload_n 0, 1) := by decide +kernel
theorem dX1_readStep_8 : decode cX1_readStep 8 = .ok (.getfield 31, 3) := by decide +kernel
theorem dX1_readStep_11 : decode cX1_readStep 11 = .ok (.bipush 24, 2) := by decide +kernel
theorem dX1_readStep_13 : decode cX1_readStep 13 = .ok (.if_icmp .lt 5, 3) := by decide +kernel
theorem dX1_readStep_16 : decode cX1_readStep 16 = .ok (.iconst 0, 1) := by decide +kernel
theorem dX1_readStep_17 : decode cX1_readStep 17 = .ok (.ireturn, 1) := by decide +kernel
theorem dX1_readStep_18 : decode cX1_readStep 18 = .ok (.aload_n 0, 1) := by decide +kernel
theorem dX1_readStep_19 : decode cX1_readStep 19 = .ok (.getfield 38, 3) := by decide +kernel
theorem dX1_readStep_22 : decode cX1_readStep 22 = .ok (.aload_n 0, 1) := by decide +kernel
theorem dX1_readStep_23 : decode cX1_readStep 23 = .ok (.getfield 31, 3) := by decide +kernel
theorem dX1_readStep_26 : decode cX1_readStep 26 = .ok (.aload_n 0, 1) := by decide +kernel
theorem dX1_readStep_27 : decode cX1_readStep 27 = .ok (.getfield 25, 3) := by decide +kernel
theorem dX1_readStep_30 : decode cX1_readStep 30 = .ok (.iastore, 1) := by decide +kernel
theorem dX1_readStep_31 : decode cX1_readStep 31 = .ok (.aload_n 0, 1) := by decide +kernel
theorem dX1_readStep_32 : decode cX1_readStep 32 = .ok (.getfield 25, 3) := by decide +kernel
theorem dX1_readStep_35 : decode cX1_readStep 35 = .ok (.tableswitch 107 1 4 #[29, 66, 29, 98], 29) := by decide +kernel
theorem dX1_readStep_64 : decode cX1_readStep 64 = .ok (.aload_n 0, 1) := by decide +kernel
theorem dX1_readStep_65 : decode cX1_readStep 65 = .ok (.aload_n 0, 1) := by decide +kernel
theorem dX1_readStep_66 : decode cX1_readStep 66 = .ok (.getfield 41, 3) := by decide +kernel
theorem dX1_readStep_69 : decode cX1_readStep 69 = .ok (.iload_n 1, 1) := by decide +kernel
theorem dX1_readStep_70 : decode cX1_readStep 70 = .ok (.invokevirtual 61, 3) := by decide +kernel
theorem dX1_readStep_73 : decode cX1_readStep 73 = .ok (.ifCond .eq 26, 3) := by decide +kernel
theorem dX1_readStep_76 : decode cX1_readStep 76 = .ok (.aload_n 0, 1) := by decide +kernel
theorem dX1_readStep_77 : decode cX1_readStep 77 = .ok (.aload_n 0, 1) := by decide +kernel
theorem dX1_readStep_78 : decode cX1_readStep 78 = .ok (.getfield 44, 3) := by decide +kernel
theorem dX1_readStep_81 : decode cX1_readStep 81 = .ok (.iload_n 1, 1) := by decide +kernel
theorem dX1_readStep_82 : decode cX1_readStep 82 = .ok (.invokevirtual 61, 3) := by decide +kernel
theorem dX1_readStep_85 : decode cX1_readStep 85 = .ok (.ifCond .eq 14, 3) := by decide +kernel
theorem dX1_readStep_88 : decode cX1_readStep 88 = .ok (.aload_n 0, 1) := by decide +kernel
theorem dX1_readStep_89 : decode cX1_readStep 89 = .ok (.invokevirtual 65, 3) := by decide +kernel
theorem dX1_readStep_92 : decode cX1_readStep 92 = .ok (.ifCond .eq 7, 3) := by decide +kernel
theorem dX1_readStep_95 : decode cX1_readStep 95 = .ok (.iconst 1, 1) := by decide +kernel
theorem dX1_readStep_96 : decode cX1_readStep 96 = .ok (.goto 4, 3) := by decide +kernel
theorem dX1_readStep_99 : decode cX1_readStep 99 = .ok (.iconst 0, 1) := by decide +kernel
theorem dX1_readStep_100 : decode cX1_readStep 100 = .ok (.ireturn, 1) := by decide +kernel
theorem dX1_readStep_101 : decode cX1_readStep 101 = .ok (.aload_n 0, 1) := by decide +kernel
theorem dX1_readStep_102 : decode cX1_readStep 102 = .ok (.aload_n 0, 1) := by decide +kernel
theorem dX1_readStep_103 : decode cX1_readStep 103 = .ok (.getfield 41, 3) := by decide +kernel
theorem dX1_readStep_106 : decode cX1_readStep 106 = .ok (.iload_n 1, 1) := by decide +kernel
theorem dX1_readStep_107 : decode cX1_readStep 107 = .ok (.invokevirtual 61, 3) := by decide +kernel
theorem dX1_readStep_110 : decode cX1_readStep 110 = .ok (.ifCond .eq 21, 3) := by decide +kernel
theorem dX1_readStep_113 : decode cX1_readStep 113 = .ok (.aload_n 0, 1) := by decide +kernel
theorem dX1_readStep_114 : decode cX1_readStep 114 = .ok (.invokevirtual 68, 3) := by decide +kernel
theorem dX1_readStep_117 : decode cX1_readStep 117 = .ok (.ifCond .eq 14, 3) := by decide +kernel
theorem dX1_readStep_120 : decode cX1_readStep 120 = .ok (.aload_n 0, 1) := by decide +kernel
theorem dX1_readStep_121 : decode cX1_readStep 121 = .ok (.invokevirtual 65, 3) := by decide +kernel
theorem dX1_readStep_124 : decode cX1_readStep 124 = .ok (.ifCond .eq 7, 3) := by decide +kernel
theorem dX1_readStep_127 : decode cX1_readStep 127 = .ok (.iconst 1, 1) := by decide +kernel
theorem dX1_readStep_128 : decode cX1_readStep 128 = .ok (.goto 4, 3) := by decide +kernel
theorem dX1_readStep_131 : decode cX1_readStep 131 = .ok (.iconst 0, 1) := by decide +kernel
theorem dX1_readStep_132 : decode cX1_readStep 132 = .ok (.ireturn, 1) := by decide +kernel
theorem dX1_readStep_133 : decode cX1_readStep 133 = .ok (.aload_n 0, 1) := by decide +kernel
theorem dX1_readStep_134 : decode cX1_readStep 134 = .ok (.invokevirtual 54, 3) := by decide +kernel
theorem dX1_readStep_137 : decode cX1_readStep 137 = .ok (.aload_n 0, 1) := by decide +kernel
theorem dX1_readStep_138 : decode cX1_readStep 138 = .ok (.invokevirtual 50, 3) := by decide +kernel
theorem dX1_readStep_141 : decode cX1_readStep 141 = .ok (.ireturn, 1) := by decide +kernel
theorem dX1_readStep_142 : decode cX1_readStep 142 = .ok (.iconst 0, 1) := by decide +kernel
theorem dX1_readStep_143 : decode cX1_readStep 143 = .ok (.ireturn, 1) := by decide +kernel
set_option maxRecDepth 20000 in
theorem ggX1_readLine_X1_next : GoodIn wsX1_readLine wsX1_next := goodIn_r _ [8, 9, 10, 11, 2, 1, 12, 13, 14, 7, 15, 16, 17, 18, 19, 20, 21, 22, 23, 24, 25, 26, 27, 28, 29, 30, 31, 32, 33, 34, 35, 36, 37, 38, 39, 40, 41, 42, 43, 44, 45, 46, 47, 48, 49, 50, 51, 52, 53, 54, 55, 56, 57, 58, 59, 60, 61, 62, 63, 64, 65, 66, 67, 68, 69, 70, 71, 72, 73, 74, 75, 76, 77, 78, 79, 80, 81, 82, 83, 84, 85, 86, 87, 88, 89, 90, 91, 92, 93, 94, 95, 96, 97, 98, 99, 100, 101, 102] (by decide +kernel) (by decide +kernel)
set_option maxRecDepth 20000 in
theorem gX1_readLine_X1_next : GoodIn wsX1_readLine (wsV RX1 54 RX1 yX1_next wsX1_next) := goodIn_app (goodIn_of _ (by decide +kernel)) ggX1_readLine_X1_next
theorem dX1_readLine_0 : decode cX1_readLine 0 = .ok (.aload_n 0, 1) := by decide +kernel
theorem dX1_readLine_1 : decode cX1_readLine 1 = .ok (.invokevirtual 54, 3) := by decide +kernel
theorem dX1_readLine_4 : decode cX1_readLine 4 = .ok (.aload_n 0, 1) := by decide +kernel
theorem dX1_readLine_5 : decode cX1_readLine 5 = .ok (.getfield 25, 3) := by decide +kernel
theorem dX1_readLine_8 : decode cX1_readLine 8 = .ok (.bipush 6, 2) := by decide +kernel
theorem dX1_readLine_10 : decode cX1_readLine 10 = .ok (.if_icmp .ne 27, 3) := by decide +kernel
theorem dX1_readLine_13 : decode cX1_readLine 13 = .ok (.aload_n 0, 1) := by decide +kernel
theorem dX1_readLine_14 : decode cX1_readLine 14 = .ok (.getfield 28, 3) := by decide +kernel
theorem dX1_readLine_17 : decode cX1_readLine 17 = .ok (.iload_n 2, 1) := by decide +kernel
theorem dX1_readLine_18 : decode cX1_readLine 18 = .ok (.if_icmp .ge 19, 3) := by decide +kernel
theorem dX1_readLine_21 : decode cX1_readLine 21 = .ok (.aload_n 0, 1) := by decide +kernel
theorem dX1_readLine_22 : decode cX1_readLine 22 = .ok (.getfield 31, 3) := by decide +kernel
theorem dX1_readLine_25 : decode cX1_readLine 25 = .ok (.ifCond .lt 12, 3) := by decide +kernel
theorem dX1_readLine_28 : decode cX1_readLine 28 = .ok (.aload_n 0, 1) := by decide +kernel
theorem dX1_readLine_29 : decode cX1_readLine 29 = .ok (.getfield 31, 3) := by decide +kernel
theorem dX1_readLine_32 : decode cX1_readLine 32 = .ok (.aload_n 1, 1) := by decide +kernel
theorem dX1_readLine_33 : decode cX1_readLine 33 = .ok (.arraylength, 1) := by decide +kernel
theorem dX1_readLine_34 : decode cX1_readLine 34 = .ok (.if_icmp .lt 5, 3) := by decide +kernel
theorem dX1_readLine_37 : decode cX1_readLine 37 = .ok (.iconst 0, 1) := by decide +kernel
theorem dX1_readLine_38 : decode cX1_readLine 38 = .ok (.ireturn, 1) := by decide +kernel
theorem dX1_readLine_39 : decode cX1_readLine 39 = .ok (.aload_n 1, 1) := by decide +kernel
theorem dX1_readLine_40 : decode cX1_readLine 40 = .ok (.aload_n 0, 1) := by decide +kernel
theorem dX1_readLine_41 : decode cX1_readLine 41 = .ok (.getfield 31, 3) := by decide +kernel
theorem dX1_readLine_44 : decode cX1_readLine 44 = .ok (.aload_n 0, 1) := by decide +kernel
theorem dX1_readLine_45 : decode cX1_readLine 45 = .ok (.getfield 28, 3) := by decide +kernel
theorem dX1_readLine_48 : decode cX1_readLine 48 = .ok (.iastore, 1) := by decide +kernel
theorem dX1_readLine_49 : decode cX1_readLine 49 = .ok (.iconst 1, 1) := by decide +kernel
theorem dX1_readLine_50 : decode cX1_readLine 50 = .ok (.ireturn, 1) := by decide +kernel
set_option maxRecDepth 20000 in
theorem ggX1_readLetter_X1_next : GoodIn wsX1_readLetter wsX1_next := goodIn_r _ [9, 10, 11, 12, 2, 1, 13, 14, 15, 8, 16, 17, 18, 19, 20, 21, 22, 23, 24, 25, 26, 27, 28, 29, 30, 31, 32, 33, 34, 35, 36, 37, 38, 39, 40, 41, 42, 43, 44, 45, 46, 47, 48, 49, 50, 51, 52, 53, 54, 55, 56, 57, 58, 59, 60, 61, 62, 63, 64, 65, 66, 67, 68, 69, 70, 71, 72, 73, 74, 75, 76, 77, 78, 79, 80, 81, 82, 83, 84, 85, 86, 87, 88, 89, 90, 91, 92, 100, 101, 102, 103, 104, 105, 106, 107, 108, 109, 110] (by decide +kernel) (by decide +kernel)
set_option maxRecDepth 20000 in
theorem gX1_readLetter_X1_next : GoodIn wsX1_readLetter (wsV RX1 54 RX1 yX1_next wsX1_next) := goodIn_app (goodIn_of _ (by decide +kernel)) ggX1_readLetter_X1_next
set_option maxRecDepth 20000 in
theorem ggX1_readLetter_J6_bitCount_0f7a4 : GoodIn wsX1_readLetter wsJ6_bitCount_0f7a4 := goodIn_r _ [96, 97, 98, 99] (by decide +kernel) (by decide +kernel)
set_option maxRecDepth 20000 in
theorem gX1_readLetter_J6_bitCount_0f7a4 : GoodIn wsX1_readLetter (va_wsS RX1 71 yJ6_bitCount_0f7a4 wsJ6_bitCount_0f7a4) := goodIn_app (goodIn_of _ (by decide +kernel)) ggX1_readLetter_J6_bitCount_0f7a4
theorem dX1_readLetter_0 : decode cX1_readLetter 0 = .ok (.aload_n 0, 1) := by decide +kernel
theorem dX1_readLetter_1 : decode cX1_readLetter 1 = .ok (.invokevirtual 54, 3) := by decide +kernel
theorem dX1_readLetter_4 : decode cX1_readLetter 4 = .ok (.aload_n 0, 1) := by decide +kernel
theorem dX1_readLetter_5 : decode cX1_readLetter 5 = .ok (.getfield 25, 3) := by decide +kernel
theorem dX1_readLetter_8 : decode cX1_readLetter 8 = .ok (.iconst 5, 1) := by decide +kernel
theorem dX1_readLetter_9 : decode cX1_readLetter 9 = .ok (.if_icmp .ne 30, 3) := by decide +kernel
theorem dX1_readLetter_12 : decode cX1_readLetter 12 = .ok (.aload_n 0, 1) := by decide +kernel
theorem dX1_readLetter_13 : decode cX1_readLetter 13 = .ok (.getfield 28, 3) := by decide +kernel
theorem dX1_readLetter_16 : decode cX1_readLetter 16 = .ok (.invokestatic 71, 3) := by decide +kernel
theorem dX1_readLetter_19 : decode cX1_readLetter 19 = .ok (.iconst 1, 1) := by decide +kernel
theorem dX1_readLetter_20 : decode cX1_readLetter 20 = .ok (.if_icmp .ne 19, 3) := by decide +kernel
theorem dX1_readLetter_23 : decode cX1_readLetter 23 = .ok (.aload_n 0, 1) := by decide +kernel
theorem dX1_readLetter_24 : decode cX1_readLetter 24 = .ok (.getfield 31, 3) := by decide +kernel
theorem dX1_readLetter_27 : decode cX1_readLetter 27 = .ok (.ifCond .lt 12, 3) := by decide +kernel
theorem dX1_readLetter_30 : decode cX1_readLetter 30 = .ok (.aload_n 0, 1) := by decide +kernel
theorem dX1_readLetter_31 : decode cX1_readLetter 31 = .ok (.getfield 31, 3) := by decide +kernel
theorem dX1_readLetter_34 : decode cX1_readLetter 34 = .ok (.bipush 24, 2) := by decide +kernel
theorem dX1_readLetter_36 : decode cX1_readLetter 36 = .ok (.if_icmp .lt 5, 3) := by decide +kernel
theorem dX1_readLetter_39 : decode cX1_readLetter 39 = .ok (.iconst 0, 1) := by decide +kernel
theorem dX1_readLetter_40 : decode cX1_readLetter 40 = .ok (.ireturn, 1) := by decide +kernel
theorem dX1_readLetter_41 : decode cX1_readLetter 41 = .ok (.aload_n 0, 1) := by decide +kernel
theorem dX1_readLetter_42 : decode cX1_readLetter 42 = .ok (.getfield 44, 3) := by decide +kernel
theorem dX1_readLetter_45 : decode cX1_readLetter 45 = .ok (.aload_n 0, 1) := by decide +kernel
theorem dX1_readLetter_46 : decode cX1_readLetter 46 = .ok (.getfield 31, 3) := by decide +kernel
theorem dX1_readLetter_49 : decode cX1_readLetter 49 = .ok (.aload_n 0, 1) := by decide +kernel
theorem dX1_readLetter_50 : decode cX1_readLetter 50 = .ok (.getfield 28, 3) := by decide +kernel
theorem dX1_readLetter_53 : decode cX1_readLetter 53 = .ok (.iastore, 1) := by decide +kernel
theorem dX1_readLetter_54 : decode cX1_readLetter 54 = .ok (.iconst 1, 1) := by decide +kernel
theorem dX1_readLetter_55 : decode cX1_readLetter 55 = .ok (.ireturn, 1) := by decide +kernel
set_option maxRecDepth 20000 in
theorem ggX1_readSemicolon_X1_next : GoodIn wsX1_readSemicolon wsX1_next := goodIn_r _ [6, 7, 8, 9, 10, 1, 11, 12, 13, 5, 14, 15, 16, 17, 18, 19, 20, 21, 22, 23, 24, 25, 26, 27, 28, 29, 30, 31, 32, 33, 34, 35, 36, 37, 38, 39, 40, 41, 42, 43, 44, 45, 46, 47, 48, 49, 50, 51, 52, 53, 54, 55, 56, 57, 58, 59, 60, 61, 62, 63, 64, 65, 66, 67, 68, 69, 70, 71, 72, 73, 74, 75, 76, 77, 78, 79, 80, 81, 82, 83, 84, 85, 86, 87, 88, 89, 90, 91, 92, 93, 94, 95, 96, 97, 98, 99, 100, 101] (by decide +kernel) (by decide +kernel)
set_option maxRecDepth 20000 in
theorem gX1_readSemicolon_X1_next : GoodIn wsX1_readSemicolon (wsV RX1 54 RX1 yX1_next wsX1_next) := goodIn_app (goodIn_of _ (by decide +kernel)) ggX1_readSemicolon_X1_next
theorem dX1_readSemicolon_0 : decode cX1_readSemicolon 0 = .ok (.aload_n 0, 1) := by decide +kernel
theorem dX1_readSemicolon_1 : decode cX1_readSemicolon 1 = .ok (.invokevirtual 54, 3) := by decide +kernel
theorem dX1_readSemicolon_4 : decode cX1_readSemicolon 4 = .ok (.aload_n 0, 1) := by decide +kernel
theorem dX1_readSemicolon_5 : decode cX1_readSemicolon 5 = .ok (.getfield 25, 3) := by decide +kernel
theorem dX1_readSemicolon_8 : decode cX1_readSemicolon 8 = .ok (.bipush 8, 2) := by decide +kernel
theorem dX1_readSemicolon_10 : decode cX1_readSemicolon 10 = .ok (.if_icmp .ne 7, 3) := by decide +kernel
theorem dX1_readSemicolon_13 : decode cX1_readSemicolon 13 = .ok (.iconst 1, 1) := by decide +kernel
theorem dX1_readSemicolon_14 : decode cX1_readSemicolon 14 = .ok (.goto 4, 3) := by decide +kernel
theorem dX1_readSemicolon_17 : decode cX1_readSemicolon 17 = .ok (.iconst 0, 1) := by decide +kernel
theorem dX1_readSemicolon_18 : decode cX1_readSemicolon 18 = .ok (.ireturn, 1) := by decide +kernel
set_option maxRecDepth 20000 in
theorem ggX1_readSum_X1_isTerm : GoodIn wsX1_readSum wsX1_isTerm := goodIn_r _ [8, 1, 9, 101, 102, 103, 104, 105, 106, 107, 108, 109, 110, 111] (by decide +kernel) (by decide +kernel)
set_option maxRecDepth 20000 in
theorem gX1_readSum_X1_isTerm : GoodIn wsX1_readSum (wsV RX1 77 RX1 yX1_isTerm wsX1_isTerm) := goodIn_app (goodIn_of _ (by decide +kernel)) ggX1_readSum_X1_isTerm
set_option maxRecDepth 20000 in
theorem ggX1_readSum_X1_termAtHand : GoodIn wsX1_readSum wsX1_termAtHand := goodIn_r _ [13, 1, 9, 101, 102, 103, 104, 105, 106, 107, 108, 109, 110, 111] (by decide +kernel) (by decide +kernel)
set_option maxRecDepth 20000 in
theorem gX1_readSum_X1_termAtHand : GoodIn wsX1_readSum (wsV RX1 80 RX1 yX1_termAtHand wsX1_termAtHand) := goodIn_app (goodIn_of _ (by decide +kernel)) ggX1_readSum_X1_termAtHand
set_option maxRecDepth 20000 in
theorem ggX1_readSum_X1_next : GoodIn wsX1_readSum wsX1_next := goodIn_r _ [17, 18, 19, 20, 9, 1, 21, 22, 23, 7, 24, 25, 26, 27, 28, 29, 30, 31, 32, 33, 34, 35, 36, 37, 38, 39, 40, 41, 42, 43, 44, 45, 46, 47, 48, 49, 50, 51, 52, 53, 54, 55, 56, 57, 58, 59, 60, 61, 62, 63, 64, 65, 66, 67, 68, 69, 70, 71, 72, 73, 74, 75, 76, 77, 78, 79, 80, 81, 82, 83, 84, 85, 86, 87, 88, 89, 90, 91, 92, 93, 94, 95, 96, 97, 98, 99, 100, 101, 102, 103, 104, 105, 106, 107, 108, 109, 110, 111] (by decide +kernel) (by decide +kernel)
set_option maxRecDepth 20000 in
theorem gX1_readSum_X1_next : GoodIn wsX1_readSum (wsV RX1 54 RX1 yX1_next wsX1_next) := goodIn_app (goodIn_of _ (by decide +kernel)) ggX1_readSum_X1_next
theorem dX1_readSum_0 : decode cX1_readSum 0 = .ok (.lconst 0, 1) := by decide +kernel
theorem dX1_readSum_1 : decode cX1_readSum 1 = .ok (.lstore_n 1, 1) := by decide +kernel
theorem dX1_readSum_2 : decode cX1_readSum 2 = .ok (.iconst 0, 1) := by decide +kernel
theorem dX1_readSum_3 : decode cX1_readSum 3 = .ok (.istore_n 3, 1) := by decide +kernel
theorem dX1_readSum_4 : decode cX1_readSum 4 = .ok (.iload_n 3, 1) := by decide +kernel
theorem dX1_readSum_5 : decode cX1_readSum 5 = .ok (.sipush 400, 3) := by decide +kernel
theorem dX1_readSum_8 : decode cX1_readSum 8 = .ok (.if_icmp .ge 45, 3) := by decide +kernel
theorem dX1_readSum_11 : decode cX1_readSum 11 = .ok (.aload_n 0, 1) := by decide +kernel
theorem dX1_readSum_12 : decode cX1_readSum 12 = .ok (.invokevirtual 77, 3) := by decide +kernel
theorem dX1_readSum_15 : decode cX1_readSum 15 = .ok (.ifCond .ne 5, 3) := by decide +kernel
theorem dX1_readSum_18 : decode cX1_readSum 18 = .ok (.iconst 0, 1) := by decide +kernel
theorem dX1_readSum_19 : decode cX1_readSum 19 = .ok (.ireturn, 1) := by decide +kernel
theorem dX1_readSum_20 : decode cX1_readSum 20 = .ok (.lload_n 1, 1) := by decide +kernel
theorem dX1_readSum_21 : decode cX1_readSum 21 = .ok (.aload_n 0, 1) := by decide +kernel
theorem dX1_readSum_22 : decode cX1_readSum 22 = .ok (.invokevirtual 80, 3) := by decide +kernel
theorem dX1_readSum_25 : decode cX1_readSum 25 = .ok (.lxor, 1) := by decide +kernel
theorem dX1_readSum_26 : decode cX1_readSum 26 = .ok (.lstore_n 1, 1) := by decide +kernel
theorem dX1_readSum_27 : decode cX1_readSum 27 = .ok (.aload_n 0, 1) := by decide +kernel
theorem dX1_readSum_28 : decode cX1_readSum 28 = .ok (.invokevirtual 54, 3) := by decide +kernel
theorem dX1_readSum_31 : decode cX1_readSum 31 = .ok (.aload_n 0, 1) := by decide +kernel
theorem dX1_readSum_32 : decode cX1_readSum 32 = .ok (.getfield 25, 3) := by decide +kernel
theorem dX1_readSum_35 : decode cX1_readSum 35 = .ok (.bipush 7, 2) := by decide +kernel
theorem dX1_readSum_37 : decode cX1_readSum 37 = .ok (.if_icmp .eq 6, 3) := by decide +kernel
theorem dX1_readSum_40 : decode cX1_readSum 40 = .ok (.goto 13, 3) := by decide +kernel
theorem dX1_readSum_43 : decode cX1_readSum 43 = .ok (.aload_n 0, 1) := by decide +kernel
theorem dX1_readSum_44 : decode cX1_readSum 44 = .ok (.invokevirtual 54, 3) := by decide +kernel
theorem dX1_readSum_47 : decode cX1_readSum 47 = .ok (.iinc 3 1, 3) := by decide +kernel
theorem dX1_readSum_50 : decode cX1_readSum 50 = .ok (.goto (-46), 3) := by decide +kernel
theorem dX1_readSum_53 : decode cX1_readSum 53 = .ok (.aload_n 0, 1) := by decide +kernel
theorem dX1_readSum_54 : decode cX1_readSum 54 = .ok (.getfield 25, 3) := by decide +kernel
theorem dX1_readSum_57 : decode cX1_readSum 57 = .ok (.bipush 8, 2) := by decide +kernel
theorem dX1_readSum_59 : decode cX1_readSum 59 = .ok (.if_icmp .ne 19, 3) := by decide +kernel
theorem dX1_readSum_62 : decode cX1_readSum 62 = .ok (.aload_n 0, 1) := by decide +kernel
theorem dX1_readSum_63 : decode cX1_readSum 63 = .ok (.getfield 31, 3) := by decide +kernel
theorem dX1_readSum_66 : decode cX1_readSum 66 = .ok (.ifCond .lt 12, 3) := by decide +kernel
theorem dX1_readSum_69 : decode cX1_readSum 69 = .ok (.aload_n 0, 1) := by decide +kernel
theorem dX1_readSum_70 : decode cX1_readSum 70 = .ok (.getfield 31, 3) := by decide +kernel
theorem dX1_readSum_73 : decode cX1_readSum 73 = .ok (.bipush 24, 2) := by decide +kernel
theorem dX1_readSum_75 : decode cX1_readSum 75 = .ok (.if_icmp .lt 5, 3) := by decide +kernel
theorem dX1_readSum_78 : decode cX1_readSum 78 = .ok (.iconst 0, 1) := by decide +kernel
theorem dX1_readSum_79 : decode cX1_readSum 79 = .ok (.ireturn, 1) := by decide +kernel
theorem dX1_readSum_80 : decode cX1_readSum 80 = .ok (.aload_n 0, 1) := by decide +kernel
theorem dX1_readSum_81 : decode cX1_readSum 81 = .ok (.getfield 34, 3) := by decide +kernel
theorem dX1_readSum_84 : decode cX1_readSum 84 = .ok (.aload_n 0, 1) := by decide +kernel
theorem dX1_readSum_85 : decode cX1_readSum 85 = .ok (.getfield 31, 3) := by decide +kernel
theorem dX1_readSum_88 : decode cX1_readSum 88 = .ok (.lload_n 1, 1) := by decide +kernel
theorem dX1_readSum_89 : decode cX1_readSum 89 = .ok (.lastore, 1) := by decide +kernel
theorem dX1_readSum_90 : decode cX1_readSum 90 = .ok (.iconst 1, 1) := by decide +kernel
theorem dX1_readSum_91 : decode cX1_readSum 91 = .ok (.ireturn, 1) := by decide +kernel
theorem dX1_isTerm_0 : decode cX1_isTerm 0 = .ok (.aload_n 0, 1) := by decide +kernel
theorem dX1_isTerm_1 : decode cX1_isTerm 1 = .ok (.getfield 25, 3) := by decide +kernel
theorem dX1_isTerm_4 : decode cX1_isTerm 4 = .ok (.iconst 5, 1) := by decide +kernel
theorem dX1_isTerm_5 : decode cX1_isTerm 5 = .ok (.if_icmp .eq 20, 3) := by decide +kernel
theorem dX1_isTerm_8 : decode cX1_isTerm 8 = .ok (.aload_n 0, 1) := by decide +kernel
theorem dX1_isTerm_9 : decode cX1_isTerm 9 = .ok (.getfield 25, 3) := by decide +kernel
theorem dX1_isTerm_12 : decode cX1_isTerm 12 = .ok (.bipush 6, 2) := by decide +kernel
theorem dX1_isTerm_14 : decode cX1_isTerm 14 = .ok (.if_icmp .ne 15, 3) := by decide +kernel
theorem dX1_isTerm_17 : decode cX1_isTerm 17 = .ok (.aload_n 0, 1) := by decide +kernel
theorem dX1_isTerm_18 : decode cX1_isTerm 18 = .ok (.getfield 28, 3) := by decide +kernel
theorem dX1_isTerm_21 : decode cX1_isTerm 21 = .ok (.iconst 1, 1) := by decide +kernel
theorem dX1_isTerm_22 : decode cX1_isTerm 22 = .ok (.if_icmp .gt 7, 3) := by decide +kernel
theorem dX1_isTerm_25 : decode cX1_isTerm 25 = .ok (.iconst 1, 1) := by decide +kernel
theorem dX1_isTerm_26 : decode cX1_isTerm 26 = .ok (.goto 4, 3) := by decide +kernel
theorem dX1_isTerm_29 : decode cX1_isTerm 29 = .ok (.iconst 0, 1) := by decide +kernel
theorem dX1_isTerm_30 : decode cX1_isTerm 30 = .ok (.ireturn, 1) := by decide +kernel
theorem dX1_termAtHand_0 : decode cX1_termAtHand 0 = .ok (.aload_n 0, 1) := by decide +kernel
theorem dX1_termAtHand_1 : decode cX1_termAtHand 1 = .ok (.getfield 25, 3) := by decide +kernel
theorem dX1_termAtHand_4 : decode cX1_termAtHand 4 = .ok (.iconst 5, 1) := by decide +kernel
theorem dX1_termAtHand_5 : decode cX1_termAtHand 5 = .ok (.if_icmp .ne 10, 3) := by decide +kernel
theorem dX1_termAtHand_8 : decode cX1_termAtHand 8 = .ok (.lconst 1, 1) := by decide +kernel
theorem dX1_termAtHand_9 : decode cX1_termAtHand 9 = .ok (.aload_n 0, 1) := by decide +kernel
theorem dX1_termAtHand_10 : decode cX1_termAtHand 10 = .ok (.getfield 28, 3) := by decide +kernel
theorem dX1_termAtHand_13 : decode cX1_termAtHand 13 = .ok (.lshl, 1) := by decide +kernel
theorem dX1_termAtHand_14 : decode cX1_termAtHand 14 = .ok (.lreturn, 1) := by decide +kernel
theorem dX1_termAtHand_15 : decode cX1_termAtHand 15 = .ok (.aload_n 0, 1) := by decide +kernel
theorem dX1_termAtHand_16 : decode cX1_termAtHand 16 = .ok (.getfield 28, 3) := by decide +kernel
theorem dX1_termAtHand_19 : decode cX1_termAtHand 19 = .ok (.iconst 1, 1) := by decide +kernel
theorem dX1_termAtHand_20 : decode cX1_termAtHand 20 = .ok (.if_icmp .ne 7, 3) := by decide +kernel
theorem dX1_termAtHand_23 : decode cX1_termAtHand 23 = .ok (.lconst 1, 1) := by decide +kernel
theorem dX1_termAtHand_24 : decode cX1_termAtHand 24 = .ok (.goto 4, 3) := by decide +kernel
theorem dX1_termAtHand_27 : decode cX1_termAtHand 27 = .ok (.lconst 0, 1) := by decide +kernel
theorem dX1_termAtHand_28 : decode cX1_termAtHand 28 = .ok (.lreturn, 1) := by decide +kernel
set_option maxRecDepth 20000 in
theorem ggX1_next_X1_byteAt : GoodIn wsX1_next wsX1_byteAt := goodIn_r _ [10, 2, 11, 87, 88, 89, 90, 91, 92, 93, 94, 95, 96, 97] (by decide +kernel) (by decide +kernel)
set_option maxRecDepth 20000 in
theorem gX1_next_X1_byteAt : GoodIn wsX1_next (wsV RX1 84 RX1 yX1_byteAt wsX1_byteAt) := goodIn_app (goodIn_of _ (by decide +kernel)) ggX1_next_X1_byteAt
set_option maxRecDepth 20000 in
theorem ggX1_next_X1_isSmallLetter : GoodIn wsX1_next wsX1_isSmallLetter := goodIn_r _ [14] (by decide +kernel) (by decide +kernel)
set_option maxRecDepth 20000 in
theorem gX1_next_X1_isSmallLetter : GoodIn wsX1_next (va_wsS RX1 87 yX1_isSmallLetter wsX1_isSmallLetter) := goodIn_app (goodIn_of _ (by decide +kernel)) ggX1_next_X1_isSmallLetter
set_option maxRecDepth 20000 in
theorem ggX1_next_X1_readWord : GoodIn wsX1_next wsX1_readWord := goodIn_r _ [18, 1, 2, 5, 6, 7, 8, 9, 10, 11, 12, 13, 14, 19, 20, 21, 22, 3, 23, 24, 25, 26, 27, 28, 29, 30, 31, 32, 33, 34, 35, 36, 37, 38, 39, 40, 41, 42, 43, 44, 45, 46, 47, 48, 49, 50, 51, 52, 53, 54, 55, 56, 57, 58, 59, 60, 61, 62, 63, 64, 65, 66, 67, 68, 69, 70, 71, 72, 73, 74, 75, 4, 87, 88, 89, 90, 91, 92, 93, 94, 95, 96, 97] (by decide +kernel) (by decide +kernel)
set_option maxRecDepth 20000 in
theorem gX1_next_X1_readWord : GoodIn wsX1_next (wsV RX1 90 RX1 yX1_readWord wsX1_readWord) := goodIn_app (goodIn_of _ (by decide +kernel)) ggX1_next_X1_readWord
set_option maxRecDepth 20000 in
theorem ggX1_next_X1_isDigit : GoodIn wsX1_next wsX1_isDigit := goodIn_r _ [78] (by decide +kernel) (by decide +kernel)
set_option maxRecDepth 20000 in
theorem gX1_next_X1_isDigit : GoodIn wsX1_next (va_wsS RX1 93 yX1_isDigit wsX1_isDigit) := goodIn_app (goodIn_of _ (by decide +kernel)) ggX1_next_X1_isDigit
set_option maxRecDepth 20000 in
theorem ggX1_next_X1_readNumber : GoodIn wsX1_next wsX1_readNumber := goodIn_r _ [82, 1, 2, 4, 83, 84, 85, 86, 3, 5, 6, 7, 8, 9, 10, 11, 76, 77, 78, 87, 88, 89, 90, 91, 92, 93, 94, 95, 96, 97] (by decide +kernel) (by decide +kernel)
set_option maxRecDepth 20000 in
theorem gX1_next_X1_readNumber : GoodIn wsX1_next (wsV RX1 96 RX1 yX1_readNumber wsX1_readNumber) := goodIn_app (goodIn_of _ (by decide +kernel)) ggX1_next_X1_readNumber
theorem dX1_next_0 : decode cX1_next 0 = .ok (.aload_n 0, 1) := by decide +kernel
theorem dX1_next_1 : decode cX1_next 1 = .ok (.getfield 19, 3) := by decide +kernel
theorem dX1_next_4 : decode cX1_next 4 = .ok (.aload_n 0, 1) := by decide +kernel
theorem dX1_next_5 : decode cX1_next 5 = .ok (.getfield 15, 3) := by decide +kernel
theorem dX1_next_8 : decode cX1_next 8 = .ok (.if_icmp .ge 29, 3) := by decide +kernel
theorem dX1_next_11 : decode cX1_next 11 = .ok (.aload_n 0, 1) := by decide +kernel
theorem dX1_next_12 : decode cX1_next 12 = .ok (.aload_n 0, 1) := by decide +kernel
theorem dX1_next_13 : decode cX1_next 13 = .ok (.getfield 19, 3) := by decide +kernel
theorem dX1_next_16 : decode cX1_next 16 = .ok (.invokevirtual 84, 3) := by decide +kernel
theorem dX1_next_19 : decode cX1_next 19 = .ok (.bipush 32, 2) := by decide +kernel
theorem dX1_next_21 : decode cX1_next 21 = .ok (.if_icmp .ne 16, 3) := by decide +kernel
theorem dX1_next_24 : decode cX1_next 24 = .ok (.aload_n 0, 1) := by decide +kernel
theorem dX1_next_25 : decode cX1_next 25 = .ok (.dup, 1) := by decide +kernel
theorem dX1_next_26 : decode cX1_next 26 = .ok (.getfield 19, 3) := by decide +kernel
theorem dX1_next_29 : decode cX1_next 29 = .ok (.iconst 1, 1) := by decide +kernel
theorem dX1_next_30 : decode cX1_next 30 = .ok (.iadd, 1) := by decide +kernel
theorem dX1_next_31 : decode cX1_next 31 = .ok (.putfield 19, 3) := by decide +kernel
theorem dX1_next_34 : decode cX1_next 34 = .ok (.goto (-34), 3) := by decide +kernel
theorem dX1_next_37 : decode cX1_next 37 = .ok (.aload_n 0, 1) := by decide +kernel
theorem dX1_next_38 : decode cX1_next 38 = .ok (.aload_n 0, 1) := by decide +kernel
theorem dX1_next_39 : decode cX1_next 39 = .ok (.getfield 19, 3) := by decide +kernel
theorem dX1_next_42 : decode cX1_next 42 = .ok (.putfield 22, 3) := by decide +kernel
theorem dX1_next_45 : decode cX1_next 45 = .ok (.aload_n 0, 1) := by decide +kernel
theorem dX1_next_46 : decode cX1_next 46 = .ok (.iconst 0, 1) := by decide +kernel
theorem dX1_next_47 : decode cX1_next 47 = .ok (.putfield 28, 3) := by decide +kernel
theorem dX1_next_50 : decode cX1_next 50 = .ok (.aload_n 0, 1) := by decide +kernel
theorem dX1_next_51 : decode cX1_next 51 = .ok (.aload_n 0, 1) := by decide +kernel
theorem dX1_next_52 : decode cX1_next 52 = .ok (.getfield 22, 3) := by decide +kernel
theorem dX1_next_55 : decode cX1_next 55 = .ok (.invokevirtual 84, 3) := by decide +kernel
theorem dX1_next_58 : decode cX1_next 58 = .ok (.istore_n 1, 1) := by decide +kernel
theorem dX1_next_59 : decode cX1_next 59 = .ok (.aload_n 0, 1) := by decide +kernel
theorem dX1_next_60 : decode cX1_next 60 = .ok (.getfield 22, 3) := by decide +kernel
theorem dX1_next_63 : decode cX1_next 63 = .ok (.aload_n 0, 1) := by decide +kernel
theorem dX1_next_64 : decode cX1_next 64 = .ok (.getfield 15, 3) := by decide +kernel
theorem dX1_next_67 : decode cX1_next 67 = .ok (.if_icmp .lt 12, 3) := by decide +kernel
theorem dX1_next_70 : decode cX1_next 70 = .ok (.aload_n 0, 1) := by decide +kernel
theorem dX1_next_71 : decode cX1_next 71 = .ok (.bipush 9, 2) := by decide +kernel
theorem dX1_next_73 : decode cX1_next 73 = .ok (.putfield 25, 3) := by decide +kernel
theorem dX1_next_76 : decode cX1_next 76 = .ok (.goto 69, 3) := by decide +kernel
theorem dX1_next_79 : decode cX1_next 79 = .ok (.iload_n 1, 1) := by decide +kernel
theorem dX1_next_80 : decode cX1_next 80 = .ok (.invokestatic 87, 3) := by decide +kernel
theorem dX1_next_83 : decode cX1_next 83 = .ok (.ifCond .eq 10, 3) := by decide +kernel
theorem dX1_next_86 : decode cX1_next 86 = .ok (.aload_n 0, 1) := by decide +kernel
theorem dX1_next_87 : decode cX1_next 87 = .ok (.invokevirtual 90, 3) := by decide +kernel
theorem dX1_next_90 : decode cX1_next 90 = .ok (.goto 55, 3) := by decide +kernel
theorem dX1_next_93 : decode cX1_next 93 = .ok (.iload_n 1, 1) := by decide +kernel
theorem dX1_next_94 : decode cX1_next 94 = .ok (.invokestatic 93, 3) := by decide +kernel
theorem dX1_next_97 : decode cX1_next 97 = .ok (.ifCond .eq 10, 3) := by decide +kernel
theorem dX1_next_100 : decode cX1_next 100 = .ok (.aload_n 0, 1) := by decide +kernel
theorem dX1_next_101 : decode cX1_next 101 = .ok (.invokevirtual 96, 3) := by decide +kernel
theorem dX1_next_104 : decode cX1_next 104 = .ok (.goto 41, 3) := by decide +kernel
theorem dX1_next_107 : decode cX1_next 107 = .ok (.aload_n 0, 1) := by decide +kernel
theorem dX1_next_108 : decode cX1_next 108 = .ok (.dup, 1) := by decide +kernel
theorem dX1_next_109 : decode cX1_next 109 = .ok (.getfield 19, 3) := by decide +kernel
theorem dX1_next_112 : decode cX1_next 112 = .ok (.iconst 1, 1) := by decide +kernel
theorem dX1_next_113 : decode cX1_next 113 = .ok (.iadd, 1) := by decide +kernel
theorem dX1_next_114 : decode cX1_next 114 = .ok (.putfield 19, 3) := by decide +kernel
theorem dX1_next_117 : decode cX1_next 117 = .ok (.aload_n 0, 1) := by decide +kernel
theorem dX1_next_118 : decode cX1_next 118 = .ok (.iload_n 1, 1) := by decide +kernel
theorem dX1_next_119 : decode cX1_next 119 = .ok (.bipush 43, 2) := by decide +kernel
theorem dX1_next_121 : decode cX1_next 121 = .ok (.if_icmp .ne 8, 3) := by decide +kernel
theorem dX1_next_124 : decode cX1_next 124 = .ok (.bipush 7, 2) := by decide +kernel
theorem dX1_next_126 : decode cX1_next 126 = .ok (.goto 16, 3) := by decide +kernel
theorem dX1_next_129 : decode cX1_next 129 = .ok (.iload_n 1, 1) := by decide +kernel
theorem dX1_next_130 : decode cX1_next 130 = .ok (.bipush 59, 2) := by decide +kernel
theorem dX1_next_132 : decode cX1_next 132 = .ok (.if_icmp .ne 8, 3) := by decide +kernel
theorem dX1_next_135 : decode cX1_next 135 = .ok (.bipush 8, 2) := by decide +kernel
theorem dX1_next_137 : decode cX1_next 137 = .ok (.goto 5, 3) := by decide +kernel
theorem dX1_next_140 : decode cX1_next 140 = .ok (.bipush 10, 2) := by decide +kernel
theorem dX1_next_142 : decode cX1_next 142 = .ok (.putfield 25, 3) := by decide +kernel
theorem dX1_next_145 : decode cX1_next 145 = .ok (.return_, 1) := by decide +kernel
set_option maxRecDepth 20000 in
theorem ggX1_readWord_X1_byteAt : GoodIn wsX1_readWord wsX1_byteAt := goodIn_r _ [8, 2, 9, 72, 73, 74, 75, 76, 77, 78, 79, 80, 81, 82] (by decide +kernel) (by decide +kernel)
set_option maxRecDepth 20000 in
theorem gX1_readWord_X1_byteAt : GoodIn wsX1_readWord (wsV RX1 84 RX1 yX1_byteAt wsX1_byteAt) := goodIn_app (goodIn_of _ (by decide +kernel)) ggX1_readWord_X1_byteAt
set_option maxRecDepth 20000 in
theorem ggX1_readWord_X1_isSmallLetter : GoodIn wsX1_readWord wsX1_isSmallLetter := goodIn_r _ [12] (by decide +kernel) (by decide +kernel)
set_option maxRecDepth 20000 in
theorem gX1_readWord_X1_isSmallLetter : GoodIn wsX1_readWord (va_wsS RX1 87 yX1_isSmallLetter wsX1_isSmallLetter) := goodIn_app (goodIn_of _ (by decide +kernel)) ggX1_readWord_X1_isSmallLetter
set_option maxRecDepth 20000 in
theorem ggX1_readWord_X1_isWord : GoodIn wsX1_readWord wsX1_isWord := goodIn_r _ [16, 17, 1, 9, 18, 19, 20, 21, 22, 23, 24, 25, 26, 27, 28, 29, 30, 31, 32, 33, 34, 35, 36, 37, 38, 39, 40, 41, 42, 43, 44, 45, 46, 47, 48, 49, 50, 51, 52, 53, 54, 55, 56, 57, 58, 59, 60, 61, 62, 63, 64, 65, 66, 72, 73, 74, 75, 76, 77, 78, 79, 80, 81, 82] (by decide +kernel) (by decide +kernel)
set_option maxRecDepth 20000 in
theorem gX1_readWord_X1_isWord : GoodIn wsX1_readWord (wsV RX1 101 RX1 yX1_isWord wsX1_isWord) := goodIn_app (goodIn_of _ (by decide +kernel)) ggX1_readWord_X1_isWord
set_option maxRecDepth 20000 in
theorem ggX1_readWord_X1_takeRun : GoodIn wsX1_readWord wsX1_takeRun := goodIn_r _ [70, 17, 1, 71, 4, 5, 6, 7, 8, 2, 9, 72, 73, 74, 75, 76, 77, 78, 79, 80, 81, 82] (by decide +kernel) (by decide +kernel)
set_option maxRecDepth 20000 in
theorem gX1_readWord_X1_takeRun : GoodIn wsX1_readWord (wsV RX1 111 RX1 yX1_takeRun wsX1_takeRun) := goodIn_app (goodIn_of _ (by decide +kernel)) ggX1_readWord_X1_takeRun
theorem dX1_readWord_0 : decode cX1_readWord 0 = .ok (.aload_n 0, 1) := by decide +kernel
theorem dX1_readWord_1 : decode cX1_readWord 1 = .ok (.getfield 19, 3) := by decide +kernel
theorem dX1_readWord_4 : decode cX1_readWord 4 = .ok (.aload_n 0, 1) := by decide +kernel
theorem dX1_readWord_5 : decode cX1_readWord 5 = .ok (.getfield 15, 3) := by decide +kernel
theorem dX1_readWord_8 : decode cX1_readWord 8 = .ok (.if_icmp .ge 30, 3) := by decide +kernel
theorem dX1_readWord_11 : decode cX1_readWord 11 = .ok (.aload_n 0, 1) := by decide +kernel
theorem dX1_readWord_12 : decode cX1_readWord 12 = .ok (.aload_n 0, 1) := by decide +kernel
theorem dX1_readWord_13 : decode cX1_readWord 13 = .ok (.getfield 19, 3) := by decide +kernel
theorem dX1_readWord_16 : decode cX1_readWord 16 = .ok (.invokevirtual 84, 3) := by decide +kernel
theorem dX1_readWord_19 : decode cX1_readWord 19 = .ok (.invokestatic 87, 3) := by decide +kernel
theorem dX1_readWord_22 : decode cX1_readWord 22 = .ok (.ifCond .eq 16, 3) := by decide +kernel
theorem dX1_readWord_25 : decode cX1_readWord 25 = .ok (.aload_n 0, 1) := by decide +kernel
theorem dX1_readWord_26 : decode cX1_readWord 26 = .ok (.dup, 1) := by decide +kernel
theorem dX1_readWord_27 : decode cX1_readWord 27 = .ok (.getfield 19, 3) := by decide +kernel
theorem dX1_readWord_30 : decode cX1_readWord 30 = .ok (.iconst 1, 1) := by decide +kernel
theorem dX1_readWord_31 : decode cX1_readWord 31 = .ok (.iadd, 1) := by decide +kernel
theorem dX1_readWord_32 : decode cX1_readWord 32 = .ok (.putfield 19, 3) := by decide +kernel
theorem dX1_readWord_35 : decode cX1_readWord 35 = .ok (.goto (-35), 3) := by decide +kernel
theorem dX1_readWord_38 : decode cX1_readWord 38 = .ok (.aload_n 0, 1) := by decide +kernel
theorem dX1_readWord_39 : decode cX1_readWord 39 = .ok (.ldc 99, 2) := by decide +kernel
theorem dX1_readWord_41 : decode cX1_readWord 41 = .ok (.invokevirtual 101, 3) := by decide +kernel
theorem dX1_readWord_44 : decode cX1_readWord 44 = .ok (.ifCond .eq 11, 3) := by decide +kernel
theorem dX1_readWord_47 : decode cX1_readWord 47 = .ok (.aload_n 0, 1) := by decide +kernel
theorem dX1_readWord_48 : decode cX1_readWord 48 = .ok (.iconst 1, 1) := by decide +kernel
theorem dX1_readWord_49 : decode cX1_readWord 49 = .ok (.putfield 25, 3) := by decide +kernel
theorem dX1_readWord_52 : decode cX1_readWord 52 = .ok (.goto 71, 3) := by decide +kernel
theorem dX1_readWord_55 : decode cX1_readWord 55 = .ok (.aload_n 0, 1) := by decide +kernel
theorem dX1_readWord_56 : decode cX1_readWord 56 = .ok (.ldc 105, 2) := by decide +kernel
theorem dX1_readWord_58 : decode cX1_readWord 58 = .ok (.invokevirtual 101, 3) := by decide +kernel
theorem dX1_readWord_61 : decode cX1_readWord 61 = .ok (.ifCond .eq 11, 3) := by decide +kernel
theorem dX1_readWord_64 : decode cX1_readWord 64 = .ok (.aload_n 0, 1) := by decide +kernel
theorem dX1_readWord_65 : decode cX1_readWord 65 = .ok (.iconst 2, 1) := by decide +kernel
theorem dX1_readWord_66 : decode cX1_readWord 66 = .ok (.putfield 25, 3) := by decide +kernel
theorem dX1_readWord_69 : decode cX1_readWord 69 = .ok (.goto 54, 3) := by decide +kernel
theorem dX1_readWord_72 : decode cX1_readWord 72 = .ok (.aload_n 0, 1) := by decide +kernel
theorem dX1_readWord_73 : decode cX1_readWord 73 = .ok (.ldc 107, 2) := by decide +kernel
theorem dX1_readWord_75 : decode cX1_readWord 75 = .ok (.invokevirtual 101, 3) := by decide +kernel
theorem dX1_readWord_78 : decode cX1_readWord 78 = .ok (.ifCond .eq 11, 3) := by decide +kernel
theorem dX1_readWord_81 : decode cX1_readWord 81 = .ok (.aload_n 0, 1) := by decide +kernel
theorem dX1_readWord_82 : decode cX1_readWord 82 = .ok (.iconst 3, 1) := by decide +kernel
theorem dX1_readWord_83 : decode cX1_readWord 83 = .ok (.putfield 25, 3) := by decide +kernel
theorem dX1_readWord_86 : decode cX1_readWord 86 = .ok (.goto 37, 3) := by decide +kernel
theorem dX1_readWord_89 : decode cX1_readWord 89 = .ok (.aload_n 0, 1) := by decide +kernel
theorem dX1_readWord_90 : decode cX1_readWord 90 = .ok (.ldc 109, 2) := by decide +kernel
theorem dX1_readWord_92 : decode cX1_readWord 92 = .ok (.invokevirtual 101, 3) := by decide +kernel
theorem dX1_readWord_95 : decode cX1_readWord 95 = .ok (.ifCond .eq 11, 3) := by decide +kernel
theorem dX1_readWord_98 : decode cX1_readWord 98 = .ok (.aload_n 0, 1) := by decide +kernel
theorem dX1_readWord_99 : decode cX1_readWord 99 = .ok (.iconst 4, 1) := by decide +kernel
theorem dX1_readWord_100 : decode cX1_readWord 100 = .ok (.putfield 25, 3) := by decide +kernel
theorem dX1_readWord_103 : decode cX1_readWord 103 = .ok (.goto 20, 3) := by decide +kernel
theorem dX1_readWord_106 : decode cX1_readWord 106 = .ok (.aload_n 0, 1) := by decide +kernel
theorem dX1_readWord_107 : decode cX1_readWord 107 = .ok (.aload_n 0, 1) := by decide +kernel
theorem dX1_readWord_108 : decode cX1_readWord 108 = .ok (.invokevirtual 111, 3) := by decide +kernel
theorem dX1_readWord_111 : decode cX1_readWord 111 = .ok (.ifCond .eq 7, 3) := by decide +kernel
theorem dX1_readWord_114 : decode cX1_readWord 114 = .ok (.iconst 5, 1) := by decide +kernel
theorem dX1_readWord_115 : decode cX1_readWord 115 = .ok (.goto 5, 3) := by decide +kernel
theorem dX1_readWord_118 : decode cX1_readWord 118 = .ok (.bipush 10, 2) := by decide +kernel
theorem dX1_readWord_120 : decode cX1_readWord 120 = .ok (.putfield 25, 3) := by decide +kernel
theorem dX1_readWord_123 : decode cX1_readWord 123 = .ok (.return_, 1) := by decide +kernel
set_option maxRecDepth 20000 in
theorem ggX1_isWord_J0_length_8abf5 : GoodIn wsX1_isWord wsJ0_length_8abf5 := goodIn_r _ [8, 9, 10, 11, 12, 7, 13, 14, 15] (by decide +kernel) (by decide +kernel)
set_option maxRecDepth 20000 in
theorem gX1_isWord_J0_length_8abf5 : GoodIn wsX1_isWord (wsV RX1 114 RJ0 yJ0_length_8abf5 wsJ0_length_8abf5) := goodIn_app (goodIn_of _ (by decide +kernel)) ggX1_isWord_J0_length_8abf5
set_option maxRecDepth 20000 in
theorem ggX1_isWord_J0_charAt_5068e : GoodIn wsX1_isWord wsJ0_charAt_5068e := goodIn_r _ [19, 9, 20, 21, 22, 7, 23, 14, 15, 24, 25, 26, 27, 28, 29, 30, 31, 32, 33, 34, 35, 36, 37, 38, 39, 40, 41, 42, 43, 44, 45, 46, 47, 48, 49, 50, 51, 52] (by decide +kernel) (by decide +kernel)
set_option maxRecDepth 20000 in
theorem gX1_isWord_J0_charAt_5068e : GoodIn wsX1_isWord (wsV RX1 119 RJ0 yJ0_charAt_5068e wsJ0_charAt_5068e) := goodIn_app (goodIn_of _ (by decide +kernel)) ggX1_isWord_J0_charAt_5068e
theorem dX1_isWord_0 : decode cX1_isWord 0 = .ok (.aload_n 0, 1) := by decide +kernel
theorem dX1_isWord_1 : decode cX1_isWord 1 = .ok (.getfield 22, 3) := by decide +kernel
theorem dX1_isWord_4 : decode cX1_isWord 4 = .ok (.ifCond .lt 29, 3) := by decide +kernel
theorem dX1_isWord_7 : decode cX1_isWord 7 = .ok (.aload_n 0, 1) := by decide +kernel
theorem dX1_isWord_8 : decode cX1_isWord 8 = .ok (.getfield 19, 3) := by decide +kernel
theorem dX1_isWord_11 : decode cX1_isWord 11 = .ok (.sipush 400, 3) := by decide +kernel
theorem dX1_isWord_14 : decode cX1_isWord 14 = .ok (.if_icmp .gt 19, 3) := by decide +kernel
theorem dX1_isWord_17 : decode cX1_isWord 17 = .ok (.aload_n 0, 1) := by decide +kernel
theorem dX1_isWord_18 : decode cX1_isWord 18 = .ok (.getfield 19, 3) := by decide +kernel
theorem dX1_isWord_21 : decode cX1_isWord 21 = .ok (.aload_n 0, 1) := by decide +kernel
theorem dX1_isWord_22 : decode cX1_isWord 22 = .ok (.getfield 22, 3) := by decide +kernel
theorem dX1_isWord_25 : decode cX1_isWord 25 = .ok (.isub, 1) := by decide +kernel
theorem dX1_isWord_26 : decode cX1_isWord 26 = .ok (.aload_n 1, 1) := by decide +kernel
theorem dX1_isWord_27 : decode cX1_isWord 27 = .ok (.invokevirtual 114, 3) := by decide +kernel
theorem dX1_isWord_30 : decode cX1_isWord 30 = .ok (.if_icmp .eq 5, 3) := by decide +kernel
theorem dX1_isWord_33 : decode cX1_isWord 33 = .ok (.iconst 0, 1) := by decide +kernel
theorem dX1_isWord_34 : decode cX1_isWord 34 = .ok (.ireturn, 1) := by decide +kernel
theorem dX1_isWord_35 : decode cX1_isWord 35 = .ok (.iconst 0, 1) := by decide +kernel
theorem dX1_isWord_36 : decode cX1_isWord 36 = .ok (.istore_n 2, 1) := by decide +kernel
theorem dX1_isWord_37 : decode cX1_isWord 37 = .ok (.iload_n 2, 1) := by decide +kernel
theorem dX1_isWord_38 : decode cX1_isWord 38 = .ok (.aload_n 1, 1) := by decide +kernel
theorem dX1_isWord_39 : decode cX1_isWord 39 = .ok (.invokevirtual 114, 3) := by decide +kernel
theorem dX1_isWord_42 : decode cX1_isWord 42 = .ok (.if_icmp .ge 30, 3) := by decide +kernel
theorem dX1_isWord_45 : decode cX1_isWord 45 = .ok (.aload_n 0, 1) := by decide +kernel
theorem dX1_isWord_46 : decode cX1_isWord 46 = .ok (.getfield 9, 3) := by decide +kernel
theorem dX1_isWord_49 : decode cX1_isWord 49 = .ok (.aload_n 0, 1) := by decide +kernel
theorem dX1_isWord_50 : decode cX1_isWord 50 = .ok (.getfield 22, 3) := by decide +kernel
theorem dX1_isWord_53 : decode cX1_isWord 53 = .ok (.iload_n 2, 1) := by decide +kernel
theorem dX1_isWord_54 : decode cX1_isWord 54 = .ok (.iadd, 1) := by decide +kernel
theorem dX1_isWord_55 : decode cX1_isWord 55 = .ok (.iaload, 1) := by decide +kernel
theorem dX1_isWord_56 : decode cX1_isWord 56 = .ok (.aload_n 1, 1) := by decide +kernel
theorem dX1_isWord_57 : decode cX1_isWord 57 = .ok (.iload_n 2, 1) := by decide +kernel
theorem dX1_isWord_58 : decode cX1_isWord 58 = .ok (.invokevirtual 119, 3) := by decide +kernel
theorem dX1_isWord_61 : decode cX1_isWord 61 = .ok (.if_icmp .eq 5, 3) := by decide +kernel
theorem dX1_isWord_64 : decode cX1_isWord 64 = .ok (.iconst 0, 1) := by decide +kernel
theorem dX1_isWord_65 : decode cX1_isWord 65 = .ok (.ireturn, 1) := by decide +kernel
theorem dX1_isWord_66 : decode cX1_isWord 66 = .ok (.iinc 2 1, 3) := by decide +kernel
theorem dX1_isWord_69 : decode cX1_isWord 69 = .ok (.goto (-32), 3) := by decide +kernel
theorem dX1_isWord_72 : decode cX1_isWord 72 = .ok (.iconst 1, 1) := by decide +kernel
theorem dX1_isWord_73 : decode cX1_isWord 73 = .ok (.ireturn, 1) := by decide +kernel
set_option maxRecDepth 20000 in
theorem ggX1_takeRun_X1_byteAt : GoodIn wsX1_takeRun wsX1_byteAt := goodIn_r _ [8, 9, 10, 11, 12, 13, 14, 15, 16, 17, 18, 19, 20, 21] (by decide +kernel) (by decide +kernel)
set_option maxRecDepth 20000 in
theorem gX1_takeRun_X1_byteAt : GoodIn wsX1_takeRun (wsV RX1 84 RX1 yX1_byteAt wsX1_byteAt) := goodIn_app (goodIn_of _ (by decide +kernel)) ggX1_takeRun_X1_byteAt
theorem dX1_takeRun_0 : decode cX1_takeRun 0 = .ok (.aload_n 0, 1) := by decide +kernel
theorem dX1_takeRun_1 : decode cX1_takeRun 1 = .ok (.getfield 22, 3) := by decide +kernel
theorem dX1_takeRun_4 : decode cX1_takeRun 4 = .ok (.istore_n 1, 1) := by decide +kernel
theorem dX1_takeRun_5 : decode cX1_takeRun 5 = .ok (.iload_n 1, 1) := by decide +kernel
theorem dX1_takeRun_6 : decode cX1_takeRun 6 = .ok (.aload_n 0, 1) := by decide +kernel
theorem dX1_takeRun_7 : decode cX1_takeRun 7 = .ok (.getfield 19, 3) := by decide +kernel
theorem dX1_takeRun_10 : decode cX1_takeRun 10 = .ok (.if_icmp .ge 53, 3) := by decide +kernel
theorem dX1_takeRun_13 : decode cX1_takeRun 13 = .ok (.aload_n 0, 1) := by decide +kernel
theorem dX1_takeRun_14 : decode cX1_takeRun 14 = .ok (.iload_n 1, 1) := by decide +kernel
theorem dX1_takeRun_15 : decode cX1_takeRun 15 = .ok (.invokevirtual 84, 3) := by decide +kernel
theorem dX1_takeRun_18 : decode cX1_takeRun 18 = .ok (.bipush 97, 2) := by decide +kernel
theorem dX1_takeRun_20 : decode cX1_takeRun 20 = .ok (.isub, 1) := by decide +kernel
theorem dX1_takeRun_21 : decode cX1_takeRun 21 = .ok (.istore_n 2, 1) := by decide +kernel
theorem dX1_takeRun_22 : decode cX1_takeRun 22 = .ok (.iload_n 2, 1) := by decide +kernel
theorem dX1_takeRun_23 : decode cX1_takeRun 23 = .ok (.ifCond .lt 20, 3) := by decide +kernel
theorem dX1_takeRun_26 : decode cX1_takeRun 26 = .ok (.iload_n 2, 1) := by decide +kernel
theorem dX1_takeRun_27 : decode cX1_takeRun 27 = .ok (.bipush 6, 2) := by decide +kernel
theorem dX1_takeRun_29 : decode cX1_takeRun 29 = .ok (.if_icmp .ge 14, 3) := by decide +kernel
theorem dX1_takeRun_32 : decode cX1_takeRun 32 = .ok (.aload_n 0, 1) := by decide +kernel
theorem dX1_takeRun_33 : decode cX1_takeRun 33 = .ok (.getfield 28, 3) := by decide +kernel
theorem dX1_takeRun_36 : decode cX1_takeRun 36 = .ok (.iload_n 2, 1) := by decide +kernel
theorem dX1_takeRun_37 : decode cX1_takeRun 37 = .ok (.iushr, 1) := by decide +kernel
theorem dX1_takeRun_38 : decode cX1_takeRun 38 = .ok (.iconst 1, 1) := by decide +kernel
theorem dX1_takeRun_39 : decode cX1_takeRun 39 = .ok (.iand, 1) := by decide +kernel
theorem dX1_takeRun_40 : decode cX1_takeRun 40 = .ok (.ifCond .eq 5, 3) := by decide +kernel
theorem dX1_takeRun_43 : decode cX1_takeRun 43 = .ok (.iconst 0, 1) := by decide +kernel
theorem dX1_takeRun_44 : decode cX1_takeRun 44 = .ok (.ireturn, 1) := by decide +kernel
theorem dX1_takeRun_45 : decode cX1_takeRun 45 = .ok (.aload_n 0, 1) := by decide +kernel
theorem dX1_takeRun_46 : decode cX1_takeRun 46 = .ok (.dup, 1) := by decide +kernel
theorem dX1_takeRun_47 : decode cX1_takeRun 47 = .ok (.getfield 28, 3) := by decide +kernel
theorem dX1_takeRun_50 : decode cX1_takeRun 50 = .ok (.iconst 1, 1) := by decide +kernel
theorem dX1_takeRun_51 : decode cX1_takeRun 51 = .ok (.iload_n 2, 1) := by decide +kernel
theorem dX1_takeRun_52 : decode cX1_takeRun 52 = .ok (.ishl, 1) := by decide +kernel
theorem dX1_takeRun_53 : decode cX1_takeRun 53 = .ok (.ior, 1) := by decide +kernel
theorem dX1_takeRun_54 : decode cX1_takeRun 54 = .ok (.putfield 28, 3) := by decide +kernel
theorem dX1_takeRun_57 : decode cX1_takeRun 57 = .ok (.iinc 1 1, 3) := by decide +kernel
theorem dX1_takeRun_60 : decode cX1_takeRun 60 = .ok (.goto (-55), 3) := by decide +kernel
theorem dX1_takeRun_63 : decode cX1_takeRun 63 = .ok (.iconst 1, 1) := by decide +kernel
theorem dX1_takeRun_64 : decode cX1_takeRun 64 = .ok (.ireturn, 1) := by decide +kernel
set_option maxRecDepth 20000 in
theorem ggX1_readNumber_X1_byteAt : GoodIn wsX1_readNumber wsX1_byteAt := goodIn_r _ [14, 2, 15, 19, 20, 21, 22, 23, 24, 25, 26, 27, 28, 29] (by decide +kernel) (by decide +kernel)
set_option maxRecDepth 20000 in
theorem gX1_readNumber_X1_byteAt : GoodIn wsX1_readNumber (wsV RX1 84 RX1 yX1_byteAt wsX1_byteAt) := goodIn_app (goodIn_of _ (by decide +kernel)) ggX1_readNumber_X1_byteAt
set_option maxRecDepth 20000 in
theorem ggX1_readNumber_X1_isDigit : GoodIn wsX1_readNumber wsX1_isDigit := goodIn_r _ [18] (by decide +kernel) (by decide +kernel)
set_option maxRecDepth 20000 in
theorem gX1_readNumber_X1_isDigit : GoodIn wsX1_readNumber (va_wsS RX1 93 yX1_isDigit wsX1_isDigit) := goodIn_app (goodIn_of _ (by decide +kernel)) ggX1_readNumber_X1_isDigit
theorem dX1_readNumber_0 : decode cX1_readNumber 0 = .ok (.aload_n 0, 1) := by decide +kernel
theorem dX1_readNumber_1 : decode cX1_readNumber 1 = .ok (.getfield 19, 3) := by decide +kernel
theorem dX1_readNumber_4 : decode cX1_readNumber 4 = .ok (.aload_n 0, 1) := by decide +kernel
theorem dX1_readNumber_5 : decode cX1_readNumber 5 = .ok (.getfield 15, 3) := by decide +kernel
theorem dX1_readNumber_8 : decode cX1_readNumber 8 = .ok (.if_icmp .ge 58, 3) := by decide +kernel
theorem dX1_readNumber_11 : decode cX1_readNumber 11 = .ok (.aload_n 0, 1) := by decide +kernel
theorem dX1_readNumber_12 : decode cX1_readNumber 12 = .ok (.aload_n 0, 1) := by decide +kernel
theorem dX1_readNumber_13 : decode cX1_readNumber 13 = .ok (.getfield 19, 3) := by decide +kernel
theorem dX1_readNumber_16 : decode cX1_readNumber 16 = .ok (.invokevirtual 84, 3) := by decide +kernel
theorem dX1_readNumber_19 : decode cX1_readNumber 19 = .ok (.invokestatic 93, 3) := by decide +kernel
theorem dX1_readNumber_22 : decode cX1_readNumber 22 = .ok (.ifCond .eq 44, 3) := by decide +kernel
theorem dX1_readNumber_25 : decode cX1_readNumber 25 = .ok (.aload_n 0, 1) := by decide +kernel
theorem dX1_readNumber_26 : decode cX1_readNumber 26 = .ok (.bipush 10, 2) := by decide +kernel
theorem dX1_readNumber_28 : decode cX1_readNumber 28 = .ok (.aload_n 0, 1) := by decide +kernel
theorem dX1_readNumber_29 : decode cX1_readNumber 29 = .ok (.getfield 28, 3) := by decide +kernel
theorem dX1_readNumber_32 : decode cX1_readNumber 32 = .ok (.imul, 1) := by decide +kernel
theorem dX1_readNumber_33 : decode cX1_readNumber 33 = .ok (.aload_n 0, 1) := by decide +kernel
theorem dX1_readNumber_34 : decode cX1_readNumber 34 = .ok (.aload_n 0, 1) := by decide +kernel
theorem dX1_readNumber_35 : decode cX1_readNumber 35 = .ok (.getfield 19, 3) := by decide +kernel
theorem dX1_readNumber_38 : decode cX1_readNumber 38 = .ok (.invokevirtual 84, 3) := by decide +kernel
theorem dX1_readNumber_41 : decode cX1_readNumber 41 = .ok (.iadd, 1) := by decide +kernel
theorem dX1_readNumber_42 : decode cX1_readNumber 42 = .ok (.bipush 48, 2) := by decide +kernel
theorem dX1_readNumber_44 : decode cX1_readNumber 44 = .ok (.isub, 1) := by decide +kernel
theorem dX1_readNumber_45 : decode cX1_readNumber 45 = .ok (.bipush 100, 2) := by decide +kernel
theorem dX1_readNumber_47 : decode cX1_readNumber 47 = .ok (.invokestatic 123, 3) := by decide +kernel
theorem dX1_readNumber_50 : decode cX1_readNumber 50 = .ok (.putfield 28, 3) := by decide +kernel
theorem dX1_readNumber_53 : decode cX1_readNumber 53 = .ok (.aload_n 0, 1) := by decide +kernel
theorem dX1_readNumber_54 : decode cX1_readNumber 54 = .ok (.dup, 1) := by decide +kernel
theorem dX1_readNumber_55 : decode cX1_readNumber 55 = .ok (.getfield 19, 3) := by decide +kernel
theorem dX1_readNumber_58 : decode cX1_readNumber 58 = .ok (.iconst 1, 1) := by decide +kernel
theorem dX1_readNumber_59 : decode cX1_readNumber 59 = .ok (.iadd, 1) := by decide +kernel
theorem dX1_readNumber_60 : decode cX1_readNumber 60 = .ok (.putfield 19, 3) := by decide +kernel
theorem dX1_readNumber_63 : decode cX1_readNumber 63 = .ok (.goto (-63), 3) := by decide +kernel
theorem dX1_readNumber_66 : decode cX1_readNumber 66 = .ok (.aload_n 0, 1) := by decide +kernel
theorem dX1_readNumber_67 : decode cX1_readNumber 67 = .ok (.aload_n 0, 1) := by decide +kernel
theorem dX1_readNumber_68 : decode cX1_readNumber 68 = .ok (.getfield 22, 3) := by decide +kernel
theorem dX1_readNumber_71 : decode cX1_readNumber 71 = .ok (.invokevirtual 84, 3) := by decide +kernel
theorem dX1_readNumber_74 : decode cX1_readNumber 74 = .ok (.bipush 48, 2) := by decide +kernel
theorem dX1_readNumber_76 : decode cX1_readNumber 76 = .ok (.if_icmp .ne 20, 3) := by decide +kernel
theorem dX1_readNumber_79 : decode cX1_readNumber 79 = .ok (.aload_n 0, 1) := by decide +kernel
theorem dX1_readNumber_80 : decode cX1_readNumber 80 = .ok (.getfield 19, 3) := by decide +kernel
theorem dX1_readNumber_83 : decode cX1_readNumber 83 = .ok (.aload_n 0, 1) := by decide +kernel
theorem dX1_readNumber_84 : decode cX1_readNumber 84 = .ok (.getfield 22, 3) := by decide +kernel
theorem dX1_readNumber_87 : decode cX1_readNumber 87 = .ok (.isub, 1) := by decide +kernel
theorem dX1_readNumber_88 : decode cX1_readNumber 88 = .ok (.iconst 1, 1) := by decide +kernel
theorem dX1_readNumber_89 : decode cX1_readNumber 89 = .ok (.if_icmp .le 7, 3) := by decide +kernel
theorem dX1_readNumber_92 : decode cX1_readNumber 92 = .ok (.iconst 1, 1) := by decide +kernel
theorem dX1_readNumber_93 : decode cX1_readNumber 93 = .ok (.goto 4, 3) := by decide +kernel
theorem dX1_readNumber_96 : decode cX1_readNumber 96 = .ok (.iconst 0, 1) := by decide +kernel
theorem dX1_readNumber_97 : decode cX1_readNumber 97 = .ok (.istore_n 1, 1) := by decide +kernel
theorem dX1_readNumber_98 : decode cX1_readNumber 98 = .ok (.aload_n 0, 1) := by decide +kernel
theorem dX1_readNumber_99 : decode cX1_readNumber 99 = .ok (.iload_n 1, 1) := by decide +kernel
theorem dX1_readNumber_100 : decode cX1_readNumber 100 = .ok (.ifCond .ne 12, 3) := by decide +kernel
theorem dX1_readNumber_103 : decode cX1_readNumber 103 = .ok (.aload_n 0, 1) := by decide +kernel
theorem dX1_readNumber_104 : decode cX1_readNumber 104 = .ok (.getfield 28, 3) := by decide +kernel
theorem dX1_readNumber_107 : decode cX1_readNumber 107 = .ok (.bipush 99, 2) := by decide +kernel
theorem dX1_readNumber_109 : decode cX1_readNumber 109 = .ok (.if_icmp .le 8, 3) := by decide +kernel
theorem dX1_readNumber_112 : decode cX1_readNumber 112 = .ok (.bipush 10, 2) := by decide +kernel
theorem dX1_readNumber_114 : decode cX1_readNumber 114 = .ok (.goto 5, 3) := by decide +kernel
theorem dX1_readNumber_117 : decode cX1_readNumber 117 = .ok (.bipush 6, 2) := by decide +kernel
theorem dX1_readNumber_119 : decode cX1_readNumber 119 = .ok (.putfield 25, 3) := by decide +kernel
theorem dX1_readNumber_122 : decode cX1_readNumber 122 = .ok (.return_, 1) := by decide +kernel
theorem dX1_byteAt_0 : decode cX1_byteAt 0 = .ok (.iload_n 1, 1) := by decide +kernel
theorem dX1_byteAt_1 : decode cX1_byteAt 1 = .ok (.ifCond .lt 27, 3) := by decide +kernel
theorem dX1_byteAt_4 : decode cX1_byteAt 4 = .ok (.iload_n 1, 1) := by decide +kernel
theorem dX1_byteAt_5 : decode cX1_byteAt 5 = .ok (.aload_n 0, 1) := by decide +kernel
theorem dX1_byteAt_6 : decode cX1_byteAt 6 = .ok (.getfield 15, 3) := by decide +kernel
theorem dX1_byteAt_9 : decode cX1_byteAt 9 = .ok (.if_icmp .ge 19, 3) := by decide +kernel
theorem dX1_byteAt_12 : decode cX1_byteAt 12 = .ok (.iload_n 1, 1) := by decide +kernel
theorem dX1_byteAt_13 : decode cX1_byteAt 13 = .ok (.sipush 400, 3) := by decide +kernel
theorem dX1_byteAt_16 : decode cX1_byteAt 16 = .ok (.if_icmp .ge 12, 3) := by decide +kernel
theorem dX1_byteAt_19 : decode cX1_byteAt 19 = .ok (.aload_n 0, 1) := by decide +kernel
theorem dX1_byteAt_20 : decode cX1_byteAt 20 = .ok (.getfield 9, 3) := by decide +kernel
theorem dX1_byteAt_23 : decode cX1_byteAt 23 = .ok (.iload_n 1, 1) := by decide +kernel
theorem dX1_byteAt_24 : decode cX1_byteAt 24 = .ok (.iaload, 1) := by decide +kernel
theorem dX1_byteAt_25 : decode cX1_byteAt 25 = .ok (.goto 4, 3) := by decide +kernel
theorem dX1_byteAt_28 : decode cX1_byteAt 28 = .ok (.iconst 0, 1) := by decide +kernel
theorem dX1_byteAt_29 : decode cX1_byteAt 29 = .ok (.ireturn, 1) := by decide +kernel
theorem dX1_isSmallLetter_0 : decode cX1_isSmallLetter 0 = .ok (.iload_n 0, 1) := by decide +kernel
theorem dX1_isSmallLetter_1 : decode cX1_isSmallLetter 1 = .ok (.bipush 97, 2) := by decide +kernel
theorem dX1_isSmallLetter_3 : decode cX1_isSmallLetter 3 = .ok (.if_icmp .lt 13, 3) := by decide +kernel
theorem dX1_isSmallLetter_6 : decode cX1_isSmallLetter 6 = .ok (.iload_n 0, 1) := by decide +kernel
