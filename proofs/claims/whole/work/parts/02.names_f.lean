set_option maxRecDepth 20000 in
theorem ggX3_with_X3_has : GoodIn wsX3_with wsX3_has := goodIn_r _ [15] (by decide +kernel) (by decide +kernel)
set_option maxRecDepth 20000 in
theorem gX3_with_X3_has : GoodIn wsX3_with (va_wsS RX3 59 yX3_has wsX3_has) := goodIn_app (goodIn_of _ (by decide +kernel)) ggX3_with_X3_has
theorem dX3_with_0 : decode cX3_with 0 = .ok (.aload_n 0, 1) := by decide +kernel
theorem dX3_with_1 : decode cX3_with 1 = .ok (.iconst 0, 1) := by decide +kernel
theorem dX3_with_2 : decode cX3_with 2 = .ok (.putfield 56, 3) := by decide +kernel
theorem dX3_with_5 : decode cX3_with 5 = .ok (.aload_n 0, 1) := by decide +kernel
theorem dX3_with_6 : decode cX3_with 6 = .ok (.iload_n 1, 1) := by decide +kernel
theorem dX3_with_7 : decode cX3_with 7 = .ok (.invokevirtual 149, 3) := by decide +kernel
theorem dX3_with_10 : decode cX3_with 10 = .ok (.ifCond .eq 21, 3) := by decide +kernel
theorem dX3_with_13 : decode cX3_with 13 = .ok (.iload_n 2, 1) := by decide +kernel
theorem dX3_with_14 : decode cX3_with 14 = .ok (.iconst 0, 1) := by decide +kernel
theorem dX3_with_15 : decode cX3_with 15 = .ok (.iconst 5, 1) := by decide +kernel
theorem dX3_with_16 : decode cX3_with 16 = .ok (.invokestatic 71, 3) := by decide +kernel
theorem dX3_with_19 : decode cX3_with 19 = .ok (.ifCond .eq 12, 3) := by decide +kernel
theorem dX3_with_22 : decode cX3_with 22 = .ok (.iload_n 3, 1) := by decide +kernel
theorem dX3_with_23 : decode cX3_with 23 = .ok (.iconst 0, 1) := by decide +kernel
theorem dX3_with_24 : decode cX3_with 24 = .ok (.iconst 1, 1) := by decide +kernel
theorem dX3_with_25 : decode cX3_with 25 = .ok (.invokestatic 71, 3) := by decide +kernel
theorem dX3_with_28 : decode cX3_with 28 = .ok (.ifCond .ne 5, 3) := by decide +kernel
theorem dX3_with_31 : decode cX3_with 31 = .ok (.lconst 0, 1) := by decide +kernel
theorem dX3_with_32 : decode cX3_with 32 = .ok (.lreturn, 1) := by decide +kernel
theorem dX3_with_33 : decode cX3_with 33 = .ok (.lconst 0, 1) := by decide +kernel
theorem dX3_with_34 : decode cX3_with 34 = .ok (.lstore 4, 2) := by decide +kernel
theorem dX3_with_36 : decode cX3_with 36 = .ok (.iconst 0, 1) := by decide +kernel
theorem dX3_with_37 : decode cX3_with 37 = .ok (.istore 6, 2) := by decide +kernel
theorem dX3_with_39 : decode cX3_with 39 = .ok (.iload 6, 2) := by decide +kernel
theorem dX3_with_41 : decode cX3_with 41 = .ok (.bipush 64, 2) := by decide +kernel
theorem dX3_with_43 : decode cX3_with 43 = .ok (.if_icmp .ge 65, 3) := by decide +kernel
theorem dX3_with_46 : decode cX3_with 46 = .ok (.iload 6, 2) := by decide +kernel
theorem dX3_with_48 : decode cX3_with 48 = .ok (.iload_n 2, 1) := by decide +kernel
theorem dX3_with_49 : decode cX3_with 49 = .ok (.ishr, 1) := by decide +kernel
theorem dX3_with_50 : decode cX3_with 50 = .ok (.iconst 1, 1) := by decide +kernel
theorem dX3_with_51 : decode cX3_with 51 = .ok (.iand, 1) := by decide +kernel
theorem dX3_with_52 : decode cX3_with 52 = .ok (.iconst 1, 1) := by decide +kernel
theorem dX3_with_53 : decode cX3_with 53 = .ok (.if_icmp .ne 7, 3) := by decide +kernel
theorem dX3_with_56 : decode cX3_with 56 = .ok (.iconst 1, 1) := by decide +kernel
theorem dX3_with_57 : decode cX3_with 57 = .ok (.goto 4, 3) := by decide +kernel
theorem dX3_with_60 : decode cX3_with 60 = .ok (.iconst 0, 1) := by decide +kernel
theorem dX3_with_61 : decode cX3_with 61 = .ok (.istore 7, 2) := by decide +kernel
theorem dX3_with_63 : decode cX3_with 63 = .ok (.aload_n 0, 1) := by decide +kernel
theorem dX3_with_64 : decode cX3_with 64 = .ok (.getfield 20, 3) := by decide +kernel
theorem dX3_with_67 : decode cX3_with 67 = .ok (.iload_n 1, 1) := by decide +kernel
theorem dX3_with_68 : decode cX3_with 68 = .ok (.laload, 1) := by decide +kernel
theorem dX3_with_69 : decode cX3_with 69 = .ok (.iload 6, 2) := by decide +kernel
theorem dX3_with_71 : decode cX3_with 71 = .ok (.invokestatic 59, 3) := by decide +kernel
theorem dX3_with_74 : decode cX3_with 74 = .ok (.ifCond .eq 28, 3) := by decide +kernel
theorem dX3_with_77 : decode cX3_with 77 = .ok (.iload_n 3, 1) := by decide +kernel
theorem dX3_with_78 : decode cX3_with 78 = .ok (.iconst 1, 1) := by decide +kernel
theorem dX3_with_79 : decode cX3_with 79 = .ok (.if_icmp .eq 8, 3) := by decide +kernel
theorem dX3_with_82 : decode cX3_with 82 = .ok (.iload 7, 2) := by decide +kernel
theorem dX3_with_84 : decode cX3_with 84 = .ok (.ifCond .ne 18, 3) := by decide +kernel
theorem dX3_with_87 : decode cX3_with 87 = .ok (.lload 4, 2) := by decide +kernel
theorem dX3_with_89 : decode cX3_with 89 = .ok (.lconst 1, 1) := by decide +kernel
theorem dX3_with_90 : decode cX3_with 90 = .ok (.iload 6, 2) := by decide +kernel
theorem dX3_with_92 : decode cX3_with 92 = .ok (.iconst 1, 1) := by decide +kernel
theorem dX3_with_93 : decode cX3_with 93 = .ok (.iload_n 2, 1) := by decide +kernel
theorem dX3_with_94 : decode cX3_with 94 = .ok (.ishl, 1) := by decide +kernel
theorem dX3_with_95 : decode cX3_with 95 = .ok (.iconst (-1), 1) := by decide +kernel
theorem dX3_with_96 : decode cX3_with 96 = .ok (.ixor, 1) := by decide +kernel
theorem dX3_with_97 : decode cX3_with 97 = .ok (.iand, 1) := by decide +kernel
theorem dX3_with_98 : decode cX3_with 98 = .ok (.lshl, 1) := by decide +kernel
theorem dX3_with_99 : decode cX3_with 99 = .ok (.lxor, 1) := by decide +kernel
theorem dX3_with_100 : decode cX3_with 100 = .ok (.lstore 4, 2) := by decide +kernel
theorem dX3_with_102 : decode cX3_with 102 = .ok (.iinc 6 1, 3) := by decide +kernel
theorem dX3_with_105 : decode cX3_with 105 = .ok (.goto (-66), 3) := by decide +kernel
theorem dX3_with_108 : decode cX3_with 108 = .ok (.lload 4, 2) := by decide +kernel
theorem dX3_with_110 : decode cX3_with 110 = .ok (.lreturn, 1) := by decide +kernel
theorem dX3_bears_0 : decode cX3_bears 0 = .ok (.lload_n 1, 1) := by decide +kernel
theorem dX3_bears_1 : decode cX3_bears 1 = .ok (.lstore_n 3, 1) := by decide +kernel
theorem dX3_bears_2 : decode cX3_bears 2 = .ok (.aload_n 0, 1) := by decide +kernel
theorem dX3_bears_3 : decode cX3_bears 3 = .ok (.lconst 0, 1) := by decide +kernel
theorem dX3_bears_4 : decode cX3_bears 4 = .ok (.putfield 160, 3) := by decide +kernel
theorem dX3_bears_7 : decode cX3_bears 7 = .ok (.iconst 0, 1) := by decide +kernel
theorem dX3_bears_8 : decode cX3_bears 8 = .ok (.istore 5, 2) := by decide +kernel
theorem dX3_bears_10 : decode cX3_bears 10 = .ok (.iload 5, 2) := by decide +kernel
theorem dX3_bears_12 : decode cX3_bears 12 = .ok (.aload_n 0, 1) := by decide +kernel
theorem dX3_bears_13 : decode cX3_bears 13 = .ok (.getfield 164, 3) := by decide +kernel
theorem dX3_bears_16 : decode cX3_bears 16 = .ok (.if_icmp .ge 62, 3) := by decide +kernel
theorem dX3_bears_19 : decode cX3_bears 19 = .ok (.aload_n 0, 1) := by decide +kernel
theorem dX3_bears_20 : decode cX3_bears 20 = .ok (.getfield 33, 3) := by decide +kernel
theorem dX3_bears_23 : decode cX3_bears 23 = .ok (.iload 5, 2) := by decide +kernel
theorem dX3_bears_25 : decode cX3_bears 25 = .ok (.laload, 1) := by decide +kernel
theorem dX3_bears_26 : decode cX3_bears 26 = .ok (.aload_n 0, 1) := by decide +kernel
theorem dX3_bears_27 : decode cX3_bears 27 = .ok (.getfield 33, 3) := by decide +kernel
theorem dX3_bears_30 : decode cX3_bears 30 = .ok (.iload 5, 2) := by decide +kernel
theorem dX3_bears_32 : decode cX3_bears 32 = .ok (.laload, 1) := by decide +kernel
theorem dX3_bears_33 : decode cX3_bears 33 = .ok (.lneg, 1) := by decide +kernel
theorem dX3_bears_34 : decode cX3_bears 34 = .ok (.land, 1) := by decide +kernel
theorem dX3_bears_35 : decode cX3_bears 35 = .ok (.lstore 6, 2) := by decide +kernel
theorem dX3_bears_37 : decode cX3_bears 37 = .ok (.lload_n 3, 1) := by decide +kernel
theorem dX3_bears_38 : decode cX3_bears 38 = .ok (.lload 6, 2) := by decide +kernel
theorem dX3_bears_40 : decode cX3_bears 40 = .ok (.land, 1) := by decide +kernel
theorem dX3_bears_41 : decode cX3_bears 41 = .ok (.lconst 0, 1) := by decide +kernel
theorem dX3_bears_42 : decode cX3_bears 42 = .ok (.lcmp, 1) := by decide +kernel
theorem dX3_bears_43 : decode cX3_bears 43 = .ok (.ifCond .eq 29, 3) := by decide +kernel
theorem dX3_bears_46 : decode cX3_bears 46 = .ok (.lload_n 3, 1) := by decide +kernel
theorem dX3_bears_47 : decode cX3_bears 47 = .ok (.aload_n 0, 1) := by decide +kernel
theorem dX3_bears_48 : decode cX3_bears 48 = .ok (.getfield 33, 3) := by decide +kernel
theorem dX3_bears_51 : decode cX3_bears 51 = .ok (.iload 5, 2) := by decide +kernel
theorem dX3_bears_53 : decode cX3_bears 53 = .ok (.laload, 1) := by decide +kernel
theorem dX3_bears_54 : decode cX3_bears 54 = .ok (.lxor, 1) := by decide +kernel
theorem dX3_bears_55 : decode cX3_bears 55 = .ok (.lstore_n 3, 1) := by decide +kernel
theorem dX3_bears_56 : decode cX3_bears 56 = .ok (.aload_n 0, 1) := by decide +kernel
theorem dX3_bears_57 : decode cX3_bears 57 = .ok (.dup, 1) := by decide +kernel
theorem dX3_bears_58 : decode cX3_bears 58 = .ok (.getfield 160, 3) := by decide +kernel
theorem dX3_bears_61 : decode cX3_bears 61 = .ok (.aload_n 0, 1) := by decide +kernel
theorem dX3_bears_62 : decode cX3_bears 62 = .ok (.getfield 36, 3) := by decide +kernel
theorem dX3_bears_65 : decode cX3_bears 65 = .ok (.iload 5, 2) := by decide +kernel
theorem dX3_bears_67 : decode cX3_bears 67 = .ok (.laload, 1) := by decide +kernel
theorem dX3_bears_68 : decode cX3_bears 68 = .ok (.lxor, 1) := by decide +kernel
theorem dX3_bears_69 : decode cX3_bears 69 = .ok (.putfield 160, 3) := by decide +kernel
theorem dX3_bears_72 : decode cX3_bears 72 = .ok (.iinc 5 1, 3) := by decide +kernel
theorem dX3_bears_75 : decode cX3_bears 75 = .ok (.goto (-65), 3) := by decide +kernel
theorem dX3_bears_78 : decode cX3_bears 78 = .ok (.lload_n 3, 1) := by decide +kernel
theorem dX3_bears_79 : decode cX3_bears 79 = .ok (.lreturn, 1) := by decide +kernel
set_option maxRecDepth 20000 in
theorem ggX3_stands_X3_values : GoodIn wsX3_stands wsX3_values := goodIn_r _ [14, 15, 16, 13, 17] (by decide +kernel) (by decide +kernel)
set_option maxRecDepth 20000 in
theorem gX3_stands_X3_values : GoodIn wsX3_stands (va_wsS RX3 153 yX3_values wsX3_values) := goodIn_app (goodIn_of _ (by decide +kernel)) ggX3_stands_X3_values
set_option maxRecDepth 20000 in
theorem ggX3_stands_X3_bears : GoodIn wsX3_stands wsX3_bears := goodIn_r _ [21, 10, 6, 8, 9, 22, 23, 24, 25, 26, 27, 28, 29, 30, 31, 32, 33, 34, 35, 36, 37, 38, 39, 40, 41, 42, 43, 44, 45, 46, 47, 48] (by decide +kernel) (by decide +kernel)
set_option maxRecDepth 20000 in
theorem gX3_stands_X3_bears : GoodIn wsX3_stands (wsV RX3 175 RX3 yX3_bears wsX3_bears) := goodIn_app (goodIn_of _ (by decide +kernel)) ggX3_stands_X3_bears
theorem dX3_stands_0 : decode cX3_stands 0 = .ok (.aload_n 0, 1) := by decide +kernel
theorem dX3_stands_1 : decode cX3_stands 1 = .ok (.ldc2_w 167, 3) := by decide +kernel
theorem dX3_stands_4 : decode cX3_stands 4 = .ok (.putfield 169, 3) := by decide +kernel
theorem dX3_stands_7 : decode cX3_stands 7 = .ok (.iconst 0, 1) := by decide +kernel
theorem dX3_stands_8 : decode cX3_stands 8 = .ok (.istore_n 1, 1) := by decide +kernel
theorem dX3_stands_9 : decode cX3_stands 9 = .ok (.iload_n 1, 1) := by decide +kernel
theorem dX3_stands_10 : decode cX3_stands 10 = .ok (.aload_n 0, 1) := by decide +kernel
theorem dX3_stands_11 : decode cX3_stands 11 = .ok (.getfield 129, 3) := by decide +kernel
theorem dX3_stands_14 : decode cX3_stands 14 = .ok (.if_icmp .ge 31, 3) := by decide +kernel
theorem dX3_stands_17 : decode cX3_stands 17 = .ok (.aload_n 0, 1) := by decide +kernel
theorem dX3_stands_18 : decode cX3_stands 18 = .ok (.dup, 1) := by decide +kernel
theorem dX3_stands_19 : decode cX3_stands 19 = .ok (.getfield 169, 3) := by decide +kernel
theorem dX3_stands_22 : decode cX3_stands 22 = .ok (.aload_n 0, 1) := by decide +kernel
theorem dX3_stands_23 : decode cX3_stands 23 = .ok (.getfield 20, 3) := by decide +kernel
theorem dX3_stands_26 : decode cX3_stands 26 = .ok (.iload_n 1, 1) := by decide +kernel
theorem dX3_stands_27 : decode cX3_stands 27 = .ok (.laload, 1) := by decide +kernel
theorem dX3_stands_28 : decode cX3_stands 28 = .ok (.invokestatic 153, 3) := by decide +kernel
theorem dX3_stands_31 : decode cX3_stands 31 = .ok (.ldc2_w 167, 3) := by decide +kernel
theorem dX3_stands_34 : decode cX3_stands 34 = .ok (.lxor, 1) := by decide +kernel
theorem dX3_stands_35 : decode cX3_stands 35 = .ok (.land, 1) := by decide +kernel
theorem dX3_stands_36 : decode cX3_stands 36 = .ok (.putfield 169, 3) := by decide +kernel
theorem dX3_stands_39 : decode cX3_stands 39 = .ok (.iinc 1 1, 3) := by decide +kernel
theorem dX3_stands_42 : decode cX3_stands 42 = .ok (.goto (-33), 3) := by decide +kernel
theorem dX3_stands_45 : decode cX3_stands 45 = .ok (.aload_n 0, 1) := by decide +kernel
theorem dX3_stands_46 : decode cX3_stands 46 = .ok (.lconst 0, 1) := by decide +kernel
theorem dX3_stands_47 : decode cX3_stands 47 = .ok (.putfield 172, 3) := by decide +kernel
theorem dX3_stands_50 : decode cX3_stands 50 = .ok (.aload_n 0, 1) := by decide +kernel
theorem dX3_stands_51 : decode cX3_stands 51 = .ok (.iconst 0, 1) := by decide +kernel
theorem dX3_stands_52 : decode cX3_stands 52 = .ok (.putfield 164, 3) := by decide +kernel
theorem dX3_stands_55 : decode cX3_stands 55 = .ok (.iconst 0, 1) := by decide +kernel
theorem dX3_stands_56 : decode cX3_stands 56 = .ok (.istore_n 1, 1) := by decide +kernel
theorem dX3_stands_57 : decode cX3_stands 57 = .ok (.iload_n 1, 1) := by decide +kernel
theorem dX3_stands_58 : decode cX3_stands 58 = .ok (.bipush 64, 2) := by decide +kernel
theorem dX3_stands_60 : decode cX3_stands 60 = .ok (.if_icmp .ge 95, 3) := by decide +kernel
theorem dX3_stands_63 : decode cX3_stands 63 = .ok (.aload_n 0, 1) := by decide +kernel
theorem dX3_stands_64 : decode cX3_stands 64 = .ok (.lconst 1, 1) := by decide +kernel
theorem dX3_stands_65 : decode cX3_stands 65 = .ok (.aload_n 0, 1) := by decide +kernel
theorem dX3_stands_66 : decode cX3_stands 66 = .ok (.getfield 7, 3) := by decide +kernel
theorem dX3_stands_69 : decode cX3_stands 69 = .ok (.iload_n 1, 1) := by decide +kernel
theorem dX3_stands_70 : decode cX3_stands 70 = .ok (.iaload, 1) := by decide +kernel
theorem dX3_stands_71 : decode cX3_stands 71 = .ok (.lshl, 1) := by decide +kernel
theorem dX3_stands_72 : decode cX3_stands 72 = .ok (.invokestatic 153, 3) := by decide +kernel
theorem dX3_stands_75 : decode cX3_stands 75 = .ok (.aload_n 0, 1) := by decide +kernel
theorem dX3_stands_76 : decode cX3_stands 76 = .ok (.getfield 169, 3) := by decide +kernel
theorem dX3_stands_79 : decode cX3_stands 79 = .ok (.land, 1) := by decide +kernel
theorem dX3_stands_80 : decode cX3_stands 80 = .ok (.invokevirtual 175, 3) := by decide +kernel
theorem dX3_stands_83 : decode cX3_stands 83 = .ok (.lstore_n 2, 1) := by decide +kernel
theorem dX3_stands_84 : decode cX3_stands 84 = .ok (.lload_n 2, 1) := by decide +kernel
theorem dX3_stands_85 : decode cX3_stands 85 = .ok (.lconst 0, 1) := by decide +kernel
theorem dX3_stands_86 : decode cX3_stands 86 = .ok (.lcmp, 1) := by decide +kernel
theorem dX3_stands_87 : decode cX3_stands 87 = .ok (.ifCond .eq 62, 3) := by decide +kernel
theorem dX3_stands_90 : decode cX3_stands 90 = .ok (.aload_n 0, 1) := by decide +kernel
theorem dX3_stands_91 : decode cX3_stands 91 = .ok (.dup, 1) := by decide +kernel
theorem dX3_stands_92 : decode cX3_stands 92 = .ok (.getfield 172, 3) := by decide +kernel
theorem dX3_stands_95 : decode cX3_stands 95 = .ok (.lconst 1, 1) := by decide +kernel
theorem dX3_stands_96 : decode cX3_stands 96 = .ok (.aload_n 0, 1) := by decide +kernel
theorem dX3_stands_97 : decode cX3_stands 97 = .ok (.getfield 7, 3) := by decide +kernel
theorem dX3_stands_100 : decode cX3_stands 100 = .ok (.iload_n 1, 1) := by decide +kernel
theorem dX3_stands_101 : decode cX3_stands 101 = .ok (.iaload, 1) := by decide +kernel
theorem dX3_stands_102 : decode cX3_stands 102 = .ok (.lshl, 1) := by decide +kernel
theorem dX3_stands_103 : decode cX3_stands 103 = .ok (.lor, 1) := by decide +kernel
theorem dX3_stands_104 : decode cX3_stands 104 = .ok (.putfield 172, 3) := by decide +kernel
theorem dX3_stands_107 : decode cX3_stands 107 = .ok (.aload_n 0, 1) := by decide +kernel
theorem dX3_stands_108 : decode cX3_stands 108 = .ok (.getfield 33, 3) := by decide +kernel
theorem dX3_stands_111 : decode cX3_stands 111 = .ok (.aload_n 0, 1) := by decide +kernel
theorem dX3_stands_112 : decode cX3_stands 112 = .ok (.getfield 164, 3) := by decide +kernel
theorem dX3_stands_115 : decode cX3_stands 115 = .ok (.lload_n 2, 1) := by decide +kernel
theorem dX3_stands_116 : decode cX3_stands 116 = .ok (.lastore, 1) := by decide +kernel
theorem dX3_stands_117 : decode cX3_stands 117 = .ok (.aload_n 0, 1) := by decide +kernel
theorem dX3_stands_118 : decode cX3_stands 118 = .ok (.getfield 36, 3) := by decide +kernel
theorem dX3_stands_121 : decode cX3_stands 121 = .ok (.aload_n 0, 1) := by decide +kernel
theorem dX3_stands_122 : decode cX3_stands 122 = .ok (.getfield 164, 3) := by decide +kernel
theorem dX3_stands_125 : decode cX3_stands 125 = .ok (.aload_n 0, 1) := by decide +kernel
theorem dX3_stands_126 : decode cX3_stands 126 = .ok (.getfield 160, 3) := by decide +kernel
theorem dX3_stands_129 : decode cX3_stands 129 = .ok (.lconst 1, 1) := by decide +kernel
theorem dX3_stands_130 : decode cX3_stands 130 = .ok (.aload_n 0, 1) := by decide +kernel
theorem dX3_stands_131 : decode cX3_stands 131 = .ok (.getfield 7, 3) := by decide +kernel
theorem dX3_stands_134 : decode cX3_stands 134 = .ok (.iload_n 1, 1) := by decide +kernel
theorem dX3_stands_135 : decode cX3_stands 135 = .ok (.iaload, 1) := by decide +kernel
theorem dX3_stands_136 : decode cX3_stands 136 = .ok (.lshl, 1) := by decide +kernel
theorem dX3_stands_137 : decode cX3_stands 137 = .ok (.lxor, 1) := by decide +kernel
theorem dX3_stands_138 : decode cX3_stands 138 = .ok (.lastore, 1) := by decide +kernel
theorem dX3_stands_139 : decode cX3_stands 139 = .ok (.aload_n 0, 1) := by decide +kernel
theorem dX3_stands_140 : decode cX3_stands 140 = .ok (.dup, 1) := by decide +kernel
theorem dX3_stands_141 : decode cX3_stands 141 = .ok (.getfield 164, 3) := by decide +kernel
theorem dX3_stands_144 : decode cX3_stands 144 = .ok (.iconst 1, 1) := by decide +kernel
theorem dX3_stands_145 : decode cX3_stands 145 = .ok (.iadd, 1) := by decide +kernel
theorem dX3_stands_146 : decode cX3_stands 146 = .ok (.putfield 164, 3) := by decide +kernel
theorem dX3_stands_149 : decode cX3_stands 149 = .ok (.iinc 1 1, 3) := by decide +kernel
theorem dX3_stands_152 : decode cX3_stands 152 = .ok (.goto (-95), 3) := by decide +kernel
theorem dX3_stands_155 : decode cX3_stands 155 = .ok (.return_, 1) := by decide +kernel
set_option maxRecDepth 20000 in
theorem ggX3_isFollowing_X3_values : GoodIn wsX3_isFollowing wsX3_values := goodIn_r _ [5, 6, 7, 4, 8] (by decide +kernel) (by decide +kernel)
set_option maxRecDepth 20000 in
theorem gX3_isFollowing_X3_values : GoodIn wsX3_isFollowing (va_wsS RX3 153 yX3_values wsX3_values) := goodIn_app (goodIn_of _ (by decide +kernel)) ggX3_isFollowing_X3_values
theorem dX3_isFollowing_0 : decode cX3_isFollowing 0 = .ok (.lload_n 1, 1) := by decide +kernel
theorem dX3_isFollowing_1 : decode cX3_isFollowing 1 = .ok (.invokestatic 153, 3) := by decide +kernel
theorem dX3_isFollowing_4 : decode cX3_isFollowing 4 = .ok (.aload_n 0, 1) := by decide +kernel
theorem dX3_isFollowing_5 : decode cX3_isFollowing 5 = .ok (.getfield 169, 3) := by decide +kernel
theorem dX3_isFollowing_8 : decode cX3_isFollowing 8 = .ok (.land, 1) := by decide +kernel
theorem dX3_isFollowing_9 : decode cX3_isFollowing 9 = .ok (.lconst 0, 1) := by decide +kernel
theorem dX3_isFollowing_10 : decode cX3_isFollowing 10 = .ok (.lcmp, 1) := by decide +kernel
theorem dX3_isFollowing_11 : decode cX3_isFollowing 11 = .ok (.ifCond .ne 7, 3) := by decide +kernel
theorem dX3_isFollowing_14 : decode cX3_isFollowing 14 = .ok (.iconst 1, 1) := by decide +kernel
theorem dX3_isFollowing_15 : decode cX3_isFollowing 15 = .ok (.goto 4, 3) := by decide +kernel
theorem dX3_isFollowing_18 : decode cX3_isFollowing 18 = .ok (.iconst 0, 1) := by decide +kernel
theorem dX3_isFollowing_19 : decode cX3_isFollowing 19 = .ok (.ireturn, 1) := by decide +kernel
set_option maxRecDepth 20000 in
theorem ggX3_leftOf_X3_values : GoodIn wsX3_leftOf wsX3_values := goodIn_r _ [6, 7, 8, 5, 9] (by decide +kernel) (by decide +kernel)
set_option maxRecDepth 20000 in
theorem gX3_leftOf_X3_values : GoodIn wsX3_leftOf (va_wsS RX3 153 yX3_values wsX3_values) := goodIn_app (goodIn_of _ (by decide +kernel)) ggX3_leftOf_X3_values
set_option maxRecDepth 20000 in
theorem ggX3_leftOf_X3_bears : GoodIn wsX3_leftOf wsX3_bears := goodIn_r _ [13, 2, 14, 15, 16, 17, 18, 19, 20, 21, 22, 23, 24, 25, 26, 27, 28, 29, 30, 31, 32, 33, 34, 35, 36, 37, 38, 39, 40, 41, 42, 43] (by decide +kernel) (by decide +kernel)
set_option maxRecDepth 20000 in
theorem gX3_leftOf_X3_bears : GoodIn wsX3_leftOf (wsV RX3 175 RX3 yX3_bears wsX3_bears) := goodIn_app (goodIn_of _ (by decide +kernel)) ggX3_leftOf_X3_bears
theorem dX3_leftOf_0 : decode cX3_leftOf 0 = .ok (.aload_n 0, 1) := by decide +kernel
theorem dX3_leftOf_1 : decode cX3_leftOf 1 = .ok (.lload_n 1, 1) := by decide +kernel
theorem dX3_leftOf_2 : decode cX3_leftOf 2 = .ok (.invokestatic 153, 3) := by decide +kernel
theorem dX3_leftOf_5 : decode cX3_leftOf 5 = .ok (.aload_n 0, 1) := by decide +kernel
theorem dX3_leftOf_6 : decode cX3_leftOf 6 = .ok (.getfield 169, 3) := by decide +kernel
theorem dX3_leftOf_9 : decode cX3_leftOf 9 = .ok (.land, 1) := by decide +kernel
theorem dX3_leftOf_10 : decode cX3_leftOf 10 = .ok (.invokevirtual 175, 3) := by decide +kernel
theorem dX3_leftOf_13 : decode cX3_leftOf 13 = .ok (.pop2, 1) := by decide +kernel
theorem dX3_leftOf_14 : decode cX3_leftOf 14 = .ok (.aload_n 0, 1) := by decide +kernel
theorem dX3_leftOf_15 : decode cX3_leftOf 15 = .ok (.getfield 160, 3) := by decide +kernel
theorem dX3_leftOf_18 : decode cX3_leftOf 18 = .ok (.lreturn, 1) := by decide +kernel
theorem dX3_common_0 : decode cX3_common 0 = .ok (.aload_n 0, 1) := by decide +kernel
theorem dX3_common_1 : decode cX3_common 1 = .ok (.iconst 0, 1) := by decide +kernel
theorem dX3_common_2 : decode cX3_common 2 = .ok (.putfield 56, 3) := by decide +kernel
theorem dX3_common_5 : decode cX3_common 5 = .ok (.aload_n 0, 1) := by decide +kernel
theorem dX3_common_6 : decode cX3_common 6 = .ok (.getfield 169, 3) := by decide +kernel
theorem dX3_common_9 : decode cX3_common 9 = .ok (.lreturn, 1) := by decide +kernel
set_option maxRecDepth 20000 in
theorem ggX3_follows_X3_isLine : GoodIn wsX3_follows wsX3_isLine := goodIn_r _ [7, 8, 9, 10, 11, 6, 12, 24, 25, 26, 27, 28, 29, 30, 31, 32, 33, 34, 35, 36, 37, 38, 39, 40, 41, 42, 43, 44, 45, 46, 47, 48, 49, 50] (by decide +kernel) (by decide +kernel)
set_option maxRecDepth 20000 in
theorem gX3_follows_X3_isLine : GoodIn wsX3_follows (wsV RX3 149 RX3 yX3_isLine wsX3_isLine) := goodIn_app (goodIn_of _ (by decide +kernel)) ggX3_follows_X3_isLine
set_option maxRecDepth 20000 in
theorem ggX3_follows_X3_isFollowing : GoodIn wsX3_follows wsX3_isFollowing := goodIn_r _ [16, 17, 18, 19, 6, 20, 21, 22, 23, 24, 25, 26, 27, 28, 29, 30, 31, 32, 33, 34, 35, 36, 37, 38, 39, 40, 41, 42, 43, 44, 45, 46, 47, 48, 49, 50] (by decide +kernel) (by decide +kernel)
set_option maxRecDepth 20000 in
theorem gX3_follows_X3_isFollowing : GoodIn wsX3_follows (wsV RX3 145 RX3 yX3_isFollowing wsX3_isFollowing) := goodIn_app (goodIn_of _ (by decide +kernel)) ggX3_follows_X3_isFollowing
theorem dX3_follows_0 : decode cX3_follows 0 = .ok (.aload_n 0, 1) := by decide +kernel
theorem dX3_follows_1 : decode cX3_follows 1 = .ok (.iconst 0, 1) := by decide +kernel
theorem dX3_follows_2 : decode cX3_follows 2 = .ok (.putfield 56, 3) := by decide +kernel
theorem dX3_follows_5 : decode cX3_follows 5 = .ok (.aload_n 0, 1) := by decide +kernel
theorem dX3_follows_6 : decode cX3_follows 6 = .ok (.iload_n 1, 1) := by decide +kernel
theorem dX3_follows_7 : decode cX3_follows 7 = .ok (.invokevirtual 149, 3) := by decide +kernel
theorem dX3_follows_10 : decode cX3_follows 10 = .ok (.ifCond .ne 7, 3) := by decide +kernel
theorem dX3_follows_13 : decode cX3_follows 13 = .ok (.iconst (-1), 1) := by decide +kernel
theorem dX3_follows_14 : decode cX3_follows 14 = .ok (.goto 21, 3) := by decide +kernel
theorem dX3_follows_17 : decode cX3_follows 17 = .ok (.aload_n 0, 1) := by decide +kernel
theorem dX3_follows_18 : decode cX3_follows 18 = .ok (.aload_n 0, 1) := by decide +kernel
theorem dX3_follows_19 : decode cX3_follows 19 = .ok (.getfield 20, 3) := by decide +kernel
theorem dX3_follows_22 : decode cX3_follows 22 = .ok (.iload_n 1, 1) := by decide +kernel
theorem dX3_follows_23 : decode cX3_follows 23 = .ok (.laload, 1) := by decide +kernel
theorem dX3_follows_24 : decode cX3_follows 24 = .ok (.invokevirtual 145, 3) := by decide +kernel
theorem dX3_follows_27 : decode cX3_follows 27 = .ok (.ifCond .eq 7, 3) := by decide +kernel
theorem dX3_follows_30 : decode cX3_follows 30 = .ok (.iconst 1, 1) := by decide +kernel
theorem dX3_follows_31 : decode cX3_follows 31 = .ok (.goto 4, 3) := by decide +kernel
theorem dX3_follows_34 : decode cX3_follows 34 = .ok (.iconst 0, 1) := by decide +kernel
theorem dX3_follows_35 : decode cX3_follows 35 = .ok (.ireturn, 1) := by decide +kernel
theorem dX3_standing_0 : decode cX3_standing 0 = .ok (.aload_n 0, 1) := by decide +kernel
theorem dX3_standing_1 : decode cX3_standing 1 = .ok (.iconst 0, 1) := by decide +kernel
theorem dX3_standing_2 : decode cX3_standing 2 = .ok (.putfield 56, 3) := by decide +kernel
theorem dX3_standing_5 : decode cX3_standing 5 = .ok (.aload_n 0, 1) := by decide +kernel
theorem dX3_standing_6 : decode cX3_standing 6 = .ok (.getfield 172, 3) := by decide +kernel
theorem dX3_standing_9 : decode cX3_standing 9 = .ok (.lreturn, 1) := by decide +kernel
set_option maxRecDepth 20000 in
theorem ggX3_left_X3_isLine : GoodIn wsX3_left wsX3_isLine := goodIn_r _ [7, 8, 9, 10, 11, 6, 12, 32, 33, 34, 35, 36, 37, 38, 39, 40, 41, 42, 43, 44, 45, 46, 47, 48, 49, 50, 51, 52, 53, 54, 55, 56, 57, 58] (by decide +kernel) (by decide +kernel)
set_option maxRecDepth 20000 in
theorem gX3_left_X3_isLine : GoodIn wsX3_left (wsV RX3 149 RX3 yX3_isLine wsX3_isLine) := goodIn_app (goodIn_of _ (by decide +kernel)) ggX3_left_X3_isLine
set_option maxRecDepth 20000 in
theorem ggX3_left_X3_leftOf : GoodIn wsX3_left wsX3_leftOf := goodIn_r _ [16, 17, 18, 19, 20, 6, 21, 22, 23, 24, 25, 26, 27, 28, 29, 30, 31, 32, 33, 34, 35, 36, 37, 38, 39, 40, 41, 42, 43, 44, 45, 46, 47, 48, 49, 50, 51, 52, 53, 54, 55, 56, 57, 58] (by decide +kernel) (by decide +kernel)
set_option maxRecDepth 20000 in
theorem gX3_left_X3_leftOf : GoodIn wsX3_left (wsV RX3 178 RX3 yX3_leftOf wsX3_leftOf) := goodIn_app (goodIn_of _ (by decide +kernel)) ggX3_left_X3_leftOf
theorem dX3_left_0 : decode cX3_left 0 = .ok (.aload_n 0, 1) := by decide +kernel
theorem dX3_left_1 : decode cX3_left 1 = .ok (.iconst 0, 1) := by decide +kernel
theorem dX3_left_2 : decode cX3_left 2 = .ok (.putfield 56, 3) := by decide +kernel
theorem dX3_left_5 : decode cX3_left 5 = .ok (.aload_n 0, 1) := by decide +kernel
theorem dX3_left_6 : decode cX3_left 6 = .ok (.iload_n 1, 1) := by decide +kernel
theorem dX3_left_7 : decode cX3_left 7 = .ok (.invokevirtual 149, 3) := by decide +kernel
theorem dX3_left_10 : decode cX3_left 10 = .ok (.ifCond .eq 16, 3) := by decide +kernel
theorem dX3_left_13 : decode cX3_left 13 = .ok (.aload_n 0, 1) := by decide +kernel
theorem dX3_left_14 : decode cX3_left 14 = .ok (.aload_n 0, 1) := by decide +kernel
theorem dX3_left_15 : decode cX3_left 15 = .ok (.getfield 20, 3) := by decide +kernel
theorem dX3_left_18 : decode cX3_left 18 = .ok (.iload_n 1, 1) := by decide +kernel
theorem dX3_left_19 : decode cX3_left 19 = .ok (.laload, 1) := by decide +kernel
theorem dX3_left_20 : decode cX3_left 20 = .ok (.invokevirtual 178, 3) := by decide +kernel
theorem dX3_left_23 : decode cX3_left 23 = .ok (.goto 4, 3) := by decide +kernel
theorem dX3_left_26 : decode cX3_left 26 = .ok (.lconst 0, 1) := by decide +kernel
theorem dX3_left_27 : decode cX3_left 27 = .ok (.lreturn, 1) := by decide +kernel
set_option maxRecDepth 20000 in
theorem ggX3_rest_X3_leftOf : GoodIn wsX3_rest wsX3_leftOf := goodIn_r _ [6, 7, 8, 9, 10, 5, 11, 12, 13, 14, 15, 16, 17, 18, 19, 20, 21, 22, 23, 24, 25, 26, 27, 28, 29, 30, 31, 32, 33, 34, 35, 36, 37, 38, 39, 40, 41, 42, 43, 44, 45, 46, 47, 48] (by decide +kernel) (by decide +kernel)
set_option maxRecDepth 20000 in
theorem gX3_rest_X3_leftOf : GoodIn wsX3_rest (wsV RX3 178 RX3 yX3_leftOf wsX3_leftOf) := goodIn_app (goodIn_of _ (by decide +kernel)) ggX3_rest_X3_leftOf
theorem dX3_rest_0 : decode cX3_rest 0 = .ok (.aload_n 0, 1) := by decide +kernel
theorem dX3_rest_1 : decode cX3_rest 1 = .ok (.iconst 0, 1) := by decide +kernel
theorem dX3_rest_2 : decode cX3_rest 2 = .ok (.putfield 56, 3) := by decide +kernel
theorem dX3_rest_5 : decode cX3_rest 5 = .ok (.aload_n 0, 1) := by decide +kernel
theorem dX3_rest_6 : decode cX3_rest 6 = .ok (.lload_n 1, 1) := by decide +kernel
theorem dX3_rest_7 : decode cX3_rest 7 = .ok (.invokevirtual 178, 3) := by decide +kernel
theorem dX3_rest_10 : decode cX3_rest 10 = .ok (.lreturn, 1) := by decide +kernel
set_option maxRecDepth 20000 in
theorem ggX3_isLeast_X3_has : GoodIn wsX3_isLeast wsX3_has := goodIn_r _ [5] (by decide +kernel) (by decide +kernel)
set_option maxRecDepth 20000 in
theorem gX3_isLeast_X3_has : GoodIn wsX3_isLeast (va_wsS RX3 59 yX3_has wsX3_has) := goodIn_app (goodIn_of _ (by decide +kernel)) ggX3_isLeast_X3_has
theorem dX3_isLeast_0 : decode cX3_isLeast 0 = .ok (.aload_n 0, 1) := by decide +kernel
theorem dX3_isLeast_1 : decode cX3_isLeast 1 = .ok (.getfield 172, 3) := by decide +kernel
theorem dX3_isLeast_4 : decode cX3_isLeast 4 = .ok (.iload_n 1, 1) := by decide +kernel
theorem dX3_isLeast_5 : decode cX3_isLeast 5 = .ok (.invokestatic 59, 3) := by decide +kernel
theorem dX3_isLeast_8 : decode cX3_isLeast 8 = .ok (.ifCond .ne 7, 3) := by decide +kernel
theorem dX3_isLeast_11 : decode cX3_isLeast 11 = .ok (.iconst 1, 1) := by decide +kernel
theorem dX3_isLeast_12 : decode cX3_isLeast 12 = .ok (.goto 4, 3) := by decide +kernel
theorem dX3_isLeast_15 : decode cX3_isLeast 15 = .ok (.iconst 0, 1) := by decide +kernel
theorem dX3_isLeast_16 : decode cX3_isLeast 16 = .ok (.istore_n 2, 1) := by decide +kernel
theorem dX3_isLeast_17 : decode cX3_isLeast 17 = .ok (.iconst 0, 1) := by decide +kernel
theorem dX3_isLeast_18 : decode cX3_isLeast 18 = .ok (.istore_n 3, 1) := by decide +kernel
theorem dX3_isLeast_19 : decode cX3_isLeast 19 = .ok (.iload_n 3, 1) := by decide +kernel
theorem dX3_isLeast_20 : decode cX3_isLeast 20 = .ok (.bipush 6, 2) := by decide +kernel
theorem dX3_isLeast_22 : decode cX3_isLeast 22 = .ok (.if_icmp .ge 44, 3) := by decide +kernel
theorem dX3_isLeast_25 : decode cX3_isLeast 25 = .ok (.iload_n 2, 1) := by decide +kernel
theorem dX3_isLeast_26 : decode cX3_isLeast 26 = .ok (.ifCond .eq 32, 3) := by decide +kernel
theorem dX3_isLeast_29 : decode cX3_isLeast 29 = .ok (.iload_n 1, 1) := by decide +kernel
theorem dX3_isLeast_30 : decode cX3_isLeast 30 = .ok (.iload_n 3, 1) := by decide +kernel
theorem dX3_isLeast_31 : decode cX3_isLeast 31 = .ok (.ishr, 1) := by decide +kernel
theorem dX3_isLeast_32 : decode cX3_isLeast 32 = .ok (.iconst 1, 1) := by decide +kernel
theorem dX3_isLeast_33 : decode cX3_isLeast 33 = .ok (.iand, 1) := by decide +kernel
theorem dX3_isLeast_34 : decode cX3_isLeast 34 = .ok (.ifCond .eq 20, 3) := by decide +kernel
theorem dX3_isLeast_37 : decode cX3_isLeast 37 = .ok (.aload_n 0, 1) := by decide +kernel
theorem dX3_isLeast_38 : decode cX3_isLeast 38 = .ok (.getfield 172, 3) := by decide +kernel
theorem dX3_isLeast_41 : decode cX3_isLeast 41 = .ok (.iload_n 1, 1) := by decide +kernel
theorem dX3_isLeast_42 : decode cX3_isLeast 42 = .ok (.iconst 1, 1) := by decide +kernel
theorem dX3_isLeast_43 : decode cX3_isLeast 43 = .ok (.iload_n 3, 1) := by decide +kernel
theorem dX3_isLeast_44 : decode cX3_isLeast 44 = .ok (.ishl, 1) := by decide +kernel
theorem dX3_isLeast_45 : decode cX3_isLeast 45 = .ok (.iconst (-1), 1) := by decide +kernel
theorem dX3_isLeast_46 : decode cX3_isLeast 46 = .ok (.ixor, 1) := by decide +kernel
theorem dX3_isLeast_47 : decode cX3_isLeast 47 = .ok (.iand, 1) := by decide +kernel
theorem dX3_isLeast_48 : decode cX3_isLeast 48 = .ok (.invokestatic 59, 3) := by decide +kernel
theorem dX3_isLeast_51 : decode cX3_isLeast 51 = .ok (.ifCond .eq 7, 3) := by decide +kernel
theorem dX3_isLeast_54 : decode cX3_isLeast 54 = .ok (.iconst 1, 1) := by decide +kernel
theorem dX3_isLeast_55 : decode cX3_isLeast 55 = .ok (.goto 4, 3) := by decide +kernel
theorem dX3_isLeast_58 : decode cX3_isLeast 58 = .ok (.iconst 0, 1) := by decide +kernel
theorem dX3_isLeast_59 : decode cX3_isLeast 59 = .ok (.istore_n 2, 1) := by decide +kernel
theorem dX3_isLeast_60 : decode cX3_isLeast 60 = .ok (.iinc 3 1, 3) := by decide +kernel
theorem dX3_isLeast_63 : decode cX3_isLeast 63 = .ok (.goto (-44), 3) := by decide +kernel
theorem dX3_isLeast_66 : decode cX3_isLeast 66 = .ok (.iload_n 2, 1) := by decide +kernel
theorem dX3_isLeast_67 : decode cX3_isLeast 67 = .ok (.ireturn, 1) := by decide +kernel
set_option maxRecDepth 20000 in
theorem ggX3_base_X3_isLeast : GoodIn wsX3_base wsX3_isLeast := goodIn_r _ [7, 8, 9, 10, 6, 11, 28, 29, 30, 31, 32, 33, 34, 35, 36, 37, 38, 39, 40, 41, 42, 43, 44, 45, 46, 47, 48, 49, 50, 51, 52, 53, 54] (by decide +kernel) (by decide +kernel)
set_option maxRecDepth 20000 in
theorem gX3_base_X3_isLeast : GoodIn wsX3_base (wsV RX3 181 RX3 yX3_isLeast wsX3_isLeast) := goodIn_app (goodIn_of _ (by decide +kernel)) ggX3_base_X3_isLeast
set_option maxRecDepth 20000 in
theorem ggX3_base_X3_leftOf : GoodIn wsX3_base wsX3_leftOf := goodIn_r _ [15, 16, 17, 18, 19, 6, 20, 9, 10, 11, 21, 22, 23, 24, 25, 26, 27, 28, 29, 30, 31, 32, 33, 34, 35, 36, 37, 38, 39, 40, 41, 42, 43, 44, 45, 46, 47, 48, 49, 50, 51, 52, 53, 54] (by decide +kernel) (by decide +kernel)
set_option maxRecDepth 20000 in
theorem gX3_base_X3_leftOf : GoodIn wsX3_base (wsV RX3 178 RX3 yX3_leftOf wsX3_leftOf) := goodIn_app (goodIn_of _ (by decide +kernel)) ggX3_base_X3_leftOf
theorem dX3_base_0 : decode cX3_base 0 = .ok (.aload_n 0, 1) := by decide +kernel
theorem dX3_base_1 : decode cX3_base 1 = .ok (.iconst 0, 1) := by decide +kernel
theorem dX3_base_2 : decode cX3_base 2 = .ok (.putfield 56, 3) := by decide +kernel
theorem dX3_base_5 : decode cX3_base 5 = .ok (.iconst 0, 1) := by decide +kernel
theorem dX3_base_6 : decode cX3_base 6 = .ok (.istore_n 2, 1) := by decide +kernel
theorem dX3_base_7 : decode cX3_base 7 = .ok (.iconst 0, 1) := by decide +kernel
theorem dX3_base_8 : decode cX3_base 8 = .ok (.istore_n 3, 1) := by decide +kernel
theorem dX3_base_9 : decode cX3_base 9 = .ok (.iload_n 3, 1) := by decide +kernel
theorem dX3_base_10 : decode cX3_base 10 = .ok (.bipush 64, 2) := by decide +kernel
theorem dX3_base_12 : decode cX3_base 12 = .ok (.if_icmp .ge 48, 3) := by decide +kernel
theorem dX3_base_15 : decode cX3_base 15 = .ok (.aload_n 0, 1) := by decide +kernel
theorem dX3_base_16 : decode cX3_base 16 = .ok (.getfield 7, 3) := by decide +kernel
theorem dX3_base_19 : decode cX3_base 19 = .ok (.iload_n 3, 1) := by decide +kernel
theorem dX3_base_20 : decode cX3_base 20 = .ok (.iaload, 1) := by decide +kernel
theorem dX3_base_21 : decode cX3_base 21 = .ok (.istore 4, 2) := by decide +kernel
theorem dX3_base_23 : decode cX3_base 23 = .ok (.aload_n 0, 1) := by decide +kernel
theorem dX3_base_24 : decode cX3_base 24 = .ok (.iload 4, 2) := by decide +kernel
theorem dX3_base_26 : decode cX3_base 26 = .ok (.invokevirtual 181, 3) := by decide +kernel
theorem dX3_base_29 : decode cX3_base 29 = .ok (.ifCond .eq 25, 3) := by decide +kernel
theorem dX3_base_32 : decode cX3_base 32 = .ok (.iload_n 2, 1) := by decide +kernel
theorem dX3_base_33 : decode cX3_base 33 = .ok (.iload_n 1, 1) := by decide +kernel
theorem dX3_base_34 : decode cX3_base 34 = .ok (.if_icmp .ne 17, 3) := by decide +kernel
theorem dX3_base_37 : decode cX3_base 37 = .ok (.lconst 1, 1) := by decide +kernel
theorem dX3_base_38 : decode cX3_base 38 = .ok (.iload 4, 2) := by decide +kernel
theorem dX3_base_40 : decode cX3_base 40 = .ok (.lshl, 1) := by decide +kernel
theorem dX3_base_41 : decode cX3_base 41 = .ok (.aload_n 0, 1) := by decide +kernel
theorem dX3_base_42 : decode cX3_base 42 = .ok (.lconst 1, 1) := by decide +kernel
theorem dX3_base_43 : decode cX3_base 43 = .ok (.iload 4, 2) := by decide +kernel
theorem dX3_base_45 : decode cX3_base 45 = .ok (.lshl, 1) := by decide +kernel
theorem dX3_base_46 : decode cX3_base 46 = .ok (.invokevirtual 178, 3) := by decide +kernel
theorem dX3_base_49 : decode cX3_base 49 = .ok (.lxor, 1) := by decide +kernel
theorem dX3_base_50 : decode cX3_base 50 = .ok (.lreturn, 1) := by decide +kernel
theorem dX3_base_51 : decode cX3_base 51 = .ok (.iinc 2 1, 3) := by decide +kernel
theorem dX3_base_54 : decode cX3_base 54 = .ok (.iinc 3 1, 3) := by decide +kernel
theorem dX3_base_57 : decode cX3_base 57 = .ok (.goto (-48), 3) := by decide +kernel
theorem dX3_base_60 : decode cX3_base 60 = .ok (.lconst 0, 1) := by decide +kernel
theorem dX3_base_61 : decode cX3_base 61 = .ok (.lreturn, 1) := by decide +kernel
set_option maxRecDepth 20000 in
theorem ggX3_reduced_X3_has : GoodIn wsX3_reduced wsX3_has := goodIn_r _ [7] (by decide +kernel) (by decide +kernel)
set_option maxRecDepth 20000 in
theorem gX3_reduced_X3_has : GoodIn wsX3_reduced (va_wsS RX3 59 yX3_has wsX3_has) := goodIn_app (goodIn_of _ (by decide +kernel)) ggX3_reduced_X3_has
theorem dX3_reduced_0 : decode cX3_reduced 0 = .ok (.lload_n 1, 1) := by decide +kernel
theorem dX3_reduced_1 : decode cX3_reduced 1 = .ok (.lstore_n 3, 1) := by decide +kernel
theorem dX3_reduced_2 : decode cX3_reduced 2 = .ok (.bipush 63, 2) := by decide +kernel
theorem dX3_reduced_4 : decode cX3_reduced 4 = .ok (.istore 5, 2) := by decide +kernel
theorem dX3_reduced_6 : decode cX3_reduced 6 = .ok (.iload 5, 2) := by decide +kernel
theorem dX3_reduced_8 : decode cX3_reduced 8 = .ok (.ifCond .lt 51, 3) := by decide +kernel
theorem dX3_reduced_11 : decode cX3_reduced 11 = .ok (.aload_n 0, 1) := by decide +kernel
theorem dX3_reduced_12 : decode cX3_reduced 12 = .ok (.getfield 7, 3) := by decide +kernel
theorem dX3_reduced_15 : decode cX3_reduced 15 = .ok (.iload 5, 2) := by decide +kernel
theorem dX3_reduced_17 : decode cX3_reduced 17 = .ok (.iaload, 1) := by decide +kernel
theorem dX3_reduced_18 : decode cX3_reduced 18 = .ok (.istore 6, 2) := by decide +kernel
theorem dX3_reduced_20 : decode cX3_reduced 20 = .ok (.lload_n 3, 1) := by decide +kernel
theorem dX3_reduced_21 : decode cX3_reduced 21 = .ok (.lload_n 3, 1) := by decide +kernel
theorem dX3_reduced_22 : decode cX3_reduced 22 = .ok (.iload 6, 2) := by decide +kernel
theorem dX3_reduced_24 : decode cX3_reduced 24 = .ok (.invokestatic 59, 3) := by decide +kernel
theorem dX3_reduced_27 : decode cX3_reduced 27 = .ok (.ifCond .eq 23, 3) := by decide +kernel
theorem dX3_reduced_30 : decode cX3_reduced 30 = .ok (.aload_n 0, 1) := by decide +kernel
theorem dX3_reduced_31 : decode cX3_reduced 31 = .ok (.getfield 42, 3) := by decide +kernel
theorem dX3_reduced_34 : decode cX3_reduced 34 = .ok (.iload 6, 2) := by decide +kernel
theorem dX3_reduced_36 : decode cX3_reduced 36 = .ok (.baload, 1) := by decide +kernel
theorem dX3_reduced_37 : decode cX3_reduced 37 = .ok (.ifCond .eq 13, 3) := by decide +kernel
theorem dX3_reduced_40 : decode cX3_reduced 40 = .ok (.aload_n 0, 1) := by decide +kernel
theorem dX3_reduced_41 : decode cX3_reduced 41 = .ok (.getfield 39, 3) := by decide +kernel
theorem dX3_reduced_44 : decode cX3_reduced 44 = .ok (.iload 6, 2) := by decide +kernel
theorem dX3_reduced_46 : decode cX3_reduced 46 = .ok (.laload, 1) := by decide +kernel
theorem dX3_reduced_47 : decode cX3_reduced 47 = .ok (.goto 4, 3) := by decide +kernel
theorem dX3_reduced_50 : decode cX3_reduced 50 = .ok (.lconst 0, 1) := by decide +kernel
theorem dX3_reduced_51 : decode cX3_reduced 51 = .ok (.lxor, 1) := by decide +kernel
theorem dX3_reduced_52 : decode cX3_reduced 52 = .ok (.lstore_n 3, 1) := by decide +kernel
theorem dX3_reduced_53 : decode cX3_reduced 53 = .ok (.iinc 5 (-1), 3) := by decide +kernel
theorem dX3_reduced_56 : decode cX3_reduced 56 = .ok (.goto (-50), 3) := by decide +kernel
theorem dX3_reduced_59 : decode cX3_reduced 59 = .ok (.lload_n 3, 1) := by decide +kernel
theorem dX3_reduced_60 : decode cX3_reduced 60 = .ok (.lreturn, 1) := by decide +kernel
set_option maxRecDepth 20000 in
theorem ggX3_joins_X3_reduced : GoodIn wsX3_joins wsX3_reduced := goodIn_r _ [7, 8, 2, 1, 9, 10, 6, 11, 16, 17, 18, 19, 20, 21, 22, 23, 24, 25, 26, 27, 28, 29, 30, 31, 32, 33, 34, 35, 36, 37, 38, 39, 40, 41, 42] (by decide +kernel) (by decide +kernel)
set_option maxRecDepth 20000 in
theorem gX3_joins_X3_reduced : GoodIn wsX3_joins (wsV RX3 184 RX3 yX3_reduced wsX3_reduced) := goodIn_app (goodIn_of _ (by decide +kernel)) ggX3_joins_X3_reduced
set_option maxRecDepth 20000 in
theorem ggX3_joins_X3_leadOf : GoodIn wsX3_joins wsX3_leadOf := goodIn_r _ [15, 8, 9, 10, 6, 11, 16, 17, 18, 19, 20, 21, 22, 23, 24, 25, 26, 27, 28, 29, 30, 31, 32, 33, 34, 35, 36, 37, 38, 39, 40, 41, 42] (by decide +kernel) (by decide +kernel)
set_option maxRecDepth 20000 in
theorem gX3_joins_X3_leadOf : GoodIn wsX3_joins (wsV RX3 67 RX3 yX3_leadOf wsX3_leadOf) := goodIn_app (goodIn_of _ (by decide +kernel)) ggX3_joins_X3_leadOf
theorem dX3_joins_0 : decode cX3_joins 0 = .ok (.aload_n 0, 1) := by decide +kernel
theorem dX3_joins_1 : decode cX3_joins 1 = .ok (.lload_n 1, 1) := by decide +kernel
theorem dX3_joins_2 : decode cX3_joins 2 = .ok (.invokevirtual 184, 3) := by decide +kernel
theorem dX3_joins_5 : decode cX3_joins 5 = .ok (.lstore_n 3, 1) := by decide +kernel
theorem dX3_joins_6 : decode cX3_joins 6 = .ok (.lload_n 3, 1) := by decide +kernel
theorem dX3_joins_7 : decode cX3_joins 7 = .ok (.lconst 0, 1) := by decide +kernel
theorem dX3_joins_8 : decode cX3_joins 8 = .ok (.lcmp, 1) := by decide +kernel
theorem dX3_joins_9 : decode cX3_joins 9 = .ok (.ifCond .ne 5, 3) := by decide +kernel
theorem dX3_joins_12 : decode cX3_joins 12 = .ok (.iconst 0, 1) := by decide +kernel
theorem dX3_joins_13 : decode cX3_joins 13 = .ok (.ireturn, 1) := by decide +kernel
theorem dX3_joins_14 : decode cX3_joins 14 = .ok (.aload_n 0, 1) := by decide +kernel
theorem dX3_joins_15 : decode cX3_joins 15 = .ok (.lload_n 3, 1) := by decide +kernel
theorem dX3_joins_16 : decode cX3_joins 16 = .ok (.invokevirtual 67, 3) := by decide +kernel
theorem dX3_joins_19 : decode cX3_joins 19 = .ok (.istore 5, 2) := by decide +kernel
theorem dX3_joins_21 : decode cX3_joins 21 = .ok (.aload_n 0, 1) := by decide +kernel
theorem dX3_joins_22 : decode cX3_joins 22 = .ok (.getfield 39, 3) := by decide +kernel
theorem dX3_joins_25 : decode cX3_joins 25 = .ok (.iload 5, 2) := by decide +kernel
theorem dX3_joins_27 : decode cX3_joins 27 = .ok (.lload_n 3, 1) := by decide +kernel
theorem dX3_joins_28 : decode cX3_joins 28 = .ok (.lastore, 1) := by decide +kernel
theorem dX3_joins_29 : decode cX3_joins 29 = .ok (.aload_n 0, 1) := by decide +kernel
theorem dX3_joins_30 : decode cX3_joins 30 = .ok (.getfield 42, 3) := by decide +kernel
theorem dX3_joins_33 : decode cX3_joins 33 = .ok (.iload 5, 2) := by decide +kernel
theorem dX3_joins_35 : decode cX3_joins 35 = .ok (.iconst 1, 1) := by decide +kernel
theorem dX3_joins_36 : decode cX3_joins 36 = .ok (.bastore, 1) := by decide +kernel
theorem dX3_joins_37 : decode cX3_joins 37 = .ok (.iconst 1, 1) := by decide +kernel
theorem dX3_joins_38 : decode cX3_joins 38 = .ok (.ireturn, 1) := by decide +kernel
theorem dX3_forgets_0 : decode cX3_forgets 0 = .ok (.iconst 0, 1) := by decide +kernel
theorem dX3_forgets_1 : decode cX3_forgets 1 = .ok (.istore_n 1, 1) := by decide +kernel
theorem dX3_forgets_2 : decode cX3_forgets 2 = .ok (.iload_n 1, 1) := by decide +kernel
theorem dX3_forgets_3 : decode cX3_forgets 3 = .ok (.bipush 64, 2) := by decide +kernel
theorem dX3_forgets_5 : decode cX3_forgets 5 = .ok (.if_icmp .ge 23, 3) := by decide +kernel
theorem dX3_forgets_8 : decode cX3_forgets 8 = .ok (.aload_n 0, 1) := by decide +kernel
theorem dX3_forgets_9 : decode cX3_forgets 9 = .ok (.getfield 42, 3) := by decide +kernel
theorem dX3_forgets_12 : decode cX3_forgets 12 = .ok (.iload_n 1, 1) := by decide +kernel
theorem dX3_forgets_13 : decode cX3_forgets 13 = .ok (.iconst 0, 1) := by decide +kernel
theorem dX3_forgets_14 : decode cX3_forgets 14 = .ok (.bastore, 1) := by decide +kernel
theorem dX3_forgets_15 : decode cX3_forgets 15 = .ok (.aload_n 0, 1) := by decide +kernel
theorem dX3_forgets_16 : decode cX3_forgets 16 = .ok (.getfield 46, 3) := by decide +kernel
theorem dX3_forgets_19 : decode cX3_forgets 19 = .ok (.iload_n 1, 1) := by decide +kernel
theorem dX3_forgets_20 : decode cX3_forgets 20 = .ok (.iconst 0, 1) := by decide +kernel
theorem dX3_forgets_21 : decode cX3_forgets 21 = .ok (.bastore, 1) := by decide +kernel
theorem dX3_forgets_22 : decode cX3_forgets 22 = .ok (.iinc 1 1, 3) := by decide +kernel
theorem dX3_forgets_25 : decode cX3_forgets 25 = .ok (.goto (-23), 3) := by decide +kernel
theorem dX3_forgets_28 : decode cX3_forgets 28 = .ok (.return_, 1) := by decide +kernel
set_option maxRecDepth 20000 in
theorem ggX3_atOnce_X3_forgets : GoodIn wsX3_atOnce wsX3_forgets := goodIn_r _ [7, 8, 9, 37, 38, 39, 40, 41, 42, 43, 44, 45, 46, 47, 48, 49, 50, 51, 52, 53, 54, 55, 56, 57, 58, 59, 60, 61, 62, 63] (by decide +kernel) (by decide +kernel)
set_option maxRecDepth 20000 in
theorem gX3_atOnce_X3_forgets : GoodIn wsX3_atOnce (wsV RX3 187 RX3 yX3_forgets wsX3_forgets) := goodIn_app (goodIn_of _ (by decide +kernel)) ggX3_atOnce_X3_forgets
set_option maxRecDepth 20000 in
theorem ggX3_atOnce_X3_degreeOf : GoodIn wsX3_atOnce wsX3_degreeOf := goodIn_r _ [13, 14, 15, 16, 6, 17, 18, 19, 20, 21, 22, 23, 24, 37, 38, 39, 40, 41, 42, 43, 44, 45, 46, 47, 48, 49, 50, 51, 52, 53, 54, 55, 56, 57, 58, 59, 60, 61, 62, 63] (by decide +kernel) (by decide +kernel)
set_option maxRecDepth 20000 in
theorem gX3_atOnce_X3_degreeOf : GoodIn wsX3_atOnce (wsV RX3 157 RX3 yX3_degreeOf wsX3_degreeOf) := goodIn_app (goodIn_of _ (by decide +kernel)) ggX3_atOnce_X3_degreeOf
set_option maxRecDepth 20000 in
theorem ggX3_atOnce_X3_letters : GoodIn wsX3_atOnce wsX3_letters := goodIn_r _ [24] (by decide +kernel) (by decide +kernel)
set_option maxRecDepth 20000 in
theorem gX3_atOnce_X3_letters : GoodIn wsX3_atOnce (va_wsS RX3 49 yX3_letters wsX3_letters) := goodIn_app (goodIn_of _ (by decide +kernel)) ggX3_atOnce_X3_letters
set_option maxRecDepth 20000 in
theorem ggX3_atOnce_X3_raised : GoodIn wsX3_atOnce wsX3_raised := goodIn_r _ [27, 19, 20, 6, 21] (by decide +kernel) (by decide +kernel)
set_option maxRecDepth 20000 in
theorem gX3_atOnce_X3_raised : GoodIn wsX3_atOnce (va_wsS RX3 63 yX3_raised wsX3_raised) := goodIn_app (goodIn_of _ (by decide +kernel)) ggX3_atOnce_X3_raised
set_option maxRecDepth 20000 in
theorem ggX3_atOnce_X3_joins : GoodIn wsX3_atOnce wsX3_joins := goodIn_r _ [31, 32, 8, 33, 34, 35, 6, 36, 18, 19, 20, 21, 14, 15, 16, 17, 37, 38, 39, 40, 41, 42, 43, 44, 45, 46, 47, 48, 49, 50, 51, 52, 53, 54, 55, 56, 57, 58, 59, 60, 61, 62, 63] (by decide +kernel) (by decide +kernel)
set_option maxRecDepth 20000 in
theorem gX3_atOnce_X3_joins : GoodIn wsX3_atOnce (wsV RX3 190 RX3 yX3_joins wsX3_joins) := goodIn_app (goodIn_of _ (by decide +kernel)) ggX3_atOnce_X3_joins
set_option maxRecDepth 20000 in
theorem ggX3_atOnce_X3_reduced : GoodIn wsX3_atOnce wsX3_reduced := goodIn_r _ [36, 18, 8, 32, 19, 20, 6, 21, 37, 38, 39, 40, 41, 42, 43, 44, 45, 46, 47, 48, 49, 50, 51, 52, 53, 54, 55, 56, 57, 58, 59, 60, 61, 62, 63] (by decide +kernel) (by decide +kernel)
set_option maxRecDepth 20000 in
theorem gX3_atOnce_X3_reduced : GoodIn wsX3_atOnce (wsV RX3 184 RX3 yX3_reduced wsX3_reduced) := goodIn_app (goodIn_of _ (by decide +kernel)) ggX3_atOnce_X3_reduced
theorem dX3_atOnce_0 : decode cX3_atOnce 0 = .ok (.aload_n 0, 1) := by decide +kernel
theorem dX3_atOnce_1 : decode cX3_atOnce 1 = .ok (.invokevirtual 187, 3) := by decide +kernel
theorem dX3_atOnce_4 : decode cX3_atOnce 4 = .ok (.iconst 0, 1) := by decide +kernel
theorem dX3_atOnce_5 : decode cX3_atOnce 5 = .ok (.istore_n 3, 1) := by decide +kernel
theorem dX3_atOnce_6 : decode cX3_atOnce 6 = .ok (.iload_n 3, 1) := by decide +kernel
theorem dX3_atOnce_7 : decode cX3_atOnce 7 = .ok (.bipush 13, 2) := by decide +kernel
theorem dX3_atOnce_9 : decode cX3_atOnce 9 = .ok (.if_icmp .ge 104, 3) := by decide +kernel
theorem dX3_atOnce_12 : decode cX3_atOnce 12 = .ok (.iconst 0, 1) := by decide +kernel
theorem dX3_atOnce_13 : decode cX3_atOnce 13 = .ok (.istore 4, 2) := by decide +kernel
theorem dX3_atOnce_15 : decode cX3_atOnce 15 = .ok (.iload 4, 2) := by decide +kernel
theorem dX3_atOnce_17 : decode cX3_atOnce 17 = .ok (.aload_n 0, 1) := by decide +kernel
theorem dX3_atOnce_18 : decode cX3_atOnce 18 = .ok (.getfield 129, 3) := by decide +kernel
theorem dX3_atOnce_21 : decode cX3_atOnce 21 = .ok (.if_icmp .ge 74, 3) := by decide +kernel
theorem dX3_atOnce_24 : decode cX3_atOnce 24 = .ok (.aload_n 0, 1) := by decide +kernel
theorem dX3_atOnce_25 : decode cX3_atOnce 25 = .ok (.aload_n 0, 1) := by decide +kernel
theorem dX3_atOnce_26 : decode cX3_atOnce 26 = .ok (.getfield 20, 3) := by decide +kernel
theorem dX3_atOnce_29 : decode cX3_atOnce 29 = .ok (.iload 4, 2) := by decide +kernel
theorem dX3_atOnce_31 : decode cX3_atOnce 31 = .ok (.laload, 1) := by decide +kernel
theorem dX3_atOnce_32 : decode cX3_atOnce 32 = .ok (.invokevirtual 157, 3) := by decide +kernel
theorem dX3_atOnce_35 : decode cX3_atOnce 35 = .ok (.istore 5, 2) := by decide +kernel
theorem dX3_atOnce_37 : decode cX3_atOnce 37 = .ok (.iconst 0, 1) := by decide +kernel
theorem dX3_atOnce_38 : decode cX3_atOnce 38 = .ok (.istore 6, 2) := by decide +kernel
theorem dX3_atOnce_40 : decode cX3_atOnce 40 = .ok (.iload 6, 2) := by decide +kernel
theorem dX3_atOnce_42 : decode cX3_atOnce 42 = .ok (.bipush 64, 2) := by decide +kernel
theorem dX3_atOnce_44 : decode cX3_atOnce 44 = .ok (.if_icmp .ge 45, 3) := by decide +kernel
theorem dX3_atOnce_47 : decode cX3_atOnce 47 = .ok (.iload 5, 2) := by decide +kernel
theorem dX3_atOnce_49 : decode cX3_atOnce 49 = .ok (.bipush (-9), 2) := by decide +kernel
theorem dX3_atOnce_51 : decode cX3_atOnce 51 = .ok (.if_icmp .eq 38, 3) := by decide +kernel
theorem dX3_atOnce_54 : decode cX3_atOnce 54 = .ok (.iload 6, 2) := by decide +kernel
theorem dX3_atOnce_56 : decode cX3_atOnce 56 = .ok (.invokestatic 49, 3) := by decide +kernel
theorem dX3_atOnce_59 : decode cX3_atOnce 59 = .ok (.iload 5, 2) := by decide +kernel
theorem dX3_atOnce_61 : decode cX3_atOnce 61 = .ok (.iadd, 1) := by decide +kernel
theorem dX3_atOnce_62 : decode cX3_atOnce 62 = .ok (.iload_n 3, 1) := by decide +kernel
theorem dX3_atOnce_63 : decode cX3_atOnce 63 = .ok (.if_icmp .ne 20, 3) := by decide +kernel
theorem dX3_atOnce_66 : decode cX3_atOnce 66 = .ok (.aload_n 0, 1) := by decide +kernel
theorem dX3_atOnce_67 : decode cX3_atOnce 67 = .ok (.aload_n 0, 1) := by decide +kernel
theorem dX3_atOnce_68 : decode cX3_atOnce 68 = .ok (.getfield 20, 3) := by decide +kernel
theorem dX3_atOnce_71 : decode cX3_atOnce 71 = .ok (.iload 4, 2) := by decide +kernel
theorem dX3_atOnce_73 : decode cX3_atOnce 73 = .ok (.laload, 1) := by decide +kernel
theorem dX3_atOnce_74 : decode cX3_atOnce 74 = .ok (.iload 6, 2) := by decide +kernel
theorem dX3_atOnce_76 : decode cX3_atOnce 76 = .ok (.invokestatic 63, 3) := by decide +kernel
theorem dX3_atOnce_79 : decode cX3_atOnce 79 = .ok (.invokevirtual 190, 3) := by decide +kernel
theorem dX3_atOnce_82 : decode cX3_atOnce 82 = .ok (.pop, 1) := by decide +kernel
theorem dX3_atOnce_83 : decode cX3_atOnce 83 = .ok (.iinc 6 1, 3) := by decide +kernel
theorem dX3_atOnce_86 : decode cX3_atOnce 86 = .ok (.goto (-46), 3) := by decide +kernel
theorem dX3_atOnce_89 : decode cX3_atOnce 89 = .ok (.iinc 4 1, 3) := by decide +kernel
theorem dX3_atOnce_92 : decode cX3_atOnce 92 = .ok (.goto (-77), 3) := by decide +kernel
theorem dX3_atOnce_95 : decode cX3_atOnce 95 = .ok (.aload_n 0, 1) := by decide +kernel
theorem dX3_atOnce_96 : decode cX3_atOnce 96 = .ok (.lload_n 1, 1) := by decide +kernel
theorem dX3_atOnce_97 : decode cX3_atOnce 97 = .ok (.invokevirtual 184, 3) := by decide +kernel
theorem dX3_atOnce_100 : decode cX3_atOnce 100 = .ok (.lconst 0, 1) := by decide +kernel
theorem dX3_atOnce_101 : decode cX3_atOnce 101 = .ok (.lcmp, 1) := by decide +kernel
theorem dX3_atOnce_102 : decode cX3_atOnce 102 = .ok (.ifCond .ne 5, 3) := by decide +kernel
theorem dX3_atOnce_105 : decode cX3_atOnce 105 = .ok (.iload_n 3, 1) := by decide +kernel
theorem dX3_atOnce_106 : decode cX3_atOnce 106 = .ok (.ireturn, 1) := by decide +kernel
theorem dX3_atOnce_107 : decode cX3_atOnce 107 = .ok (.iinc 3 1, 3) := by decide +kernel
theorem dX3_atOnce_110 : decode cX3_atOnce 110 = .ok (.goto (-104), 3) := by decide +kernel
theorem dX3_atOnce_113 : decode cX3_atOnce 113 = .ok (.bipush (-9), 2) := by decide +kernel
theorem dX3_atOnce_115 : decode cX3_atOnce 115 = .ok (.ireturn, 1) := by decide +kernel
set_option maxRecDepth 20000 in
theorem ggX3_grown_X3_forgets : GoodIn wsX3_grown wsX3_forgets := goodIn_r _ [10, 3, 4, 40, 41, 42, 43, 44, 45, 46, 47, 48, 49, 50, 51, 52, 53, 54, 55, 56, 57, 58, 59, 60, 61, 62, 63, 64, 65, 66] (by decide +kernel) (by decide +kernel)
set_option maxRecDepth 20000 in
theorem gX3_grown_X3_forgets : GoodIn wsX3_grown (wsV RX3 187 RX3 yX3_forgets wsX3_forgets) := goodIn_app (goodIn_of _ (by decide +kernel)) ggX3_grown_X3_forgets
set_option maxRecDepth 20000 in
theorem ggX3_grown_X3_degreeOf : GoodIn wsX3_grown wsX3_degreeOf := goodIn_r _ [14, 15, 16, 17, 9, 18, 19, 20, 21, 22, 23, 24, 25, 40, 41, 42, 43, 44, 45, 46, 47, 48, 49, 50, 51, 52, 53, 54, 55, 56, 57, 58, 59, 60, 61, 62, 63, 64, 65, 66] (by decide +kernel) (by decide +kernel)
set_option maxRecDepth 20000 in
theorem gX3_grown_X3_degreeOf : GoodIn wsX3_grown (wsV RX3 157 RX3 yX3_degreeOf wsX3_degreeOf) := goodIn_app (goodIn_of _ (by decide +kernel)) ggX3_grown_X3_degreeOf
set_option maxRecDepth 20000 in
theorem ggX3_grown_X3_in : GoodIn wsX3_grown wsX3_in := goodIn_r _ [28] (by decide +kernel) (by decide +kernel)
set_option maxRecDepth 20000 in
theorem gX3_grown_X3_in : GoodIn wsX3_grown (va_wsS RX3 71 yX3_in wsX3_in) := goodIn_app (goodIn_of _ (by decide +kernel)) ggX3_grown_X3_in
set_option maxRecDepth 20000 in
theorem ggX3_grown_X3_joins : GoodIn wsX3_grown wsX3_joins := goodIn_r _ [32, 5, 3, 33, 34, 35, 9, 36, 19, 20, 21, 22, 15, 16, 17, 18, 40, 41, 42, 43, 44, 45, 46, 47, 48, 49, 50, 51, 52, 53, 54, 55, 56, 57, 58, 59, 60, 61, 62, 63, 64, 65, 66] (by decide +kernel) (by decide +kernel)
set_option maxRecDepth 20000 in
theorem gX3_grown_X3_joins : GoodIn wsX3_grown (wsV RX3 190 RX3 yX3_joins wsX3_joins) := goodIn_app (goodIn_of _ (by decide +kernel)) ggX3_grown_X3_joins
set_option maxRecDepth 20000 in
theorem ggX3_grown_X3_letters : GoodIn wsX3_grown wsX3_letters := goodIn_r _ [25] (by decide +kernel) (by decide +kernel)
set_option maxRecDepth 20000 in
theorem gX3_grown_X3_letters : GoodIn wsX3_grown (va_wsS RX3 49 yX3_letters wsX3_letters) := goodIn_app (goodIn_of _ (by decide +kernel)) ggX3_grown_X3_letters
set_option maxRecDepth 20000 in
theorem ggX3_grown_X3_raised : GoodIn wsX3_grown wsX3_raised := goodIn_r _ [39, 20, 21, 9, 22] (by decide +kernel) (by decide +kernel)
set_option maxRecDepth 20000 in
theorem gX3_grown_X3_raised : GoodIn wsX3_grown (va_wsS RX3 63 yX3_raised wsX3_raised) := goodIn_app (goodIn_of _ (by decide +kernel)) ggX3_grown_X3_raised
set_option maxRecDepth 20000 in
theorem ggX3_grown_X3_reduced : GoodIn wsX3_grown wsX3_reduced := goodIn_r _ [36, 19, 3, 5, 20, 21, 9, 22, 40, 41, 42, 43, 44, 45, 46, 47, 48, 49, 50, 51, 52, 53, 54, 55, 56, 57, 58, 59, 60, 61, 62, 63, 64, 65, 66] (by decide +kernel) (by decide +kernel)
set_option maxRecDepth 20000 in
theorem gX3_grown_X3_reduced : GoodIn wsX3_grown (wsV RX3 184 RX3 yX3_reduced wsX3_reduced) := goodIn_app (goodIn_of _ (by decide +kernel)) ggX3_grown_X3_reduced
theorem dX3_grown_0 : decode cX3_grown 0 = .ok (.iconst 0, 1) := by decide +kernel
theorem dX3_grown_1 : decode cX3_grown 1 = .ok (.istore_n 3, 1) := by decide +kernel
theorem dX3_grown_2 : decode cX3_grown 2 = .ok (.iload_n 3, 1) := by decide +kernel
theorem dX3_grown_3 : decode cX3_grown 3 = .ok (.bipush 7, 2) := by decide +kernel
theorem dX3_grown_5 : decode cX3_grown 5 = .ok (.if_icmp .ge 199, 3) := by decide +kernel
theorem dX3_grown_8 : decode cX3_grown 8 = .ok (.aload_n 0, 1) := by decide +kernel
theorem dX3_grown_9 : decode cX3_grown 9 = .ok (.invokevirtual 187, 3) := by decide +kernel
theorem dX3_grown_12 : decode cX3_grown 12 = .ok (.iconst 0, 1) := by decide +kernel
theorem dX3_grown_13 : decode cX3_grown 13 = .ok (.istore 4, 2) := by decide +kernel
theorem dX3_grown_15 : decode cX3_grown 15 = .ok (.iload 4, 2) := by decide +kernel
theorem dX3_grown_17 : decode cX3_grown 17 = .ok (.aload_n 0, 1) := by decide +kernel
theorem dX3_grown_18 : decode cX3_grown 18 = .ok (.getfield 129, 3) := by decide +kernel
theorem dX3_grown_21 : decode cX3_grown 21 = .ok (.if_icmp .ge 40, 3) := by decide +kernel
theorem dX3_grown_24 : decode cX3_grown 24 = .ok (.aload_n 0, 1) := by decide +kernel
theorem dX3_grown_25 : decode cX3_grown 25 = .ok (.aload_n 0, 1) := by decide +kernel
theorem dX3_grown_26 : decode cX3_grown 26 = .ok (.getfield 20, 3) := by decide +kernel
theorem dX3_grown_29 : decode cX3_grown 29 = .ok (.iload 4, 2) := by decide +kernel
theorem dX3_grown_31 : decode cX3_grown 31 = .ok (.laload, 1) := by decide +kernel
theorem dX3_grown_32 : decode cX3_grown 32 = .ok (.invokevirtual 157, 3) := by decide +kernel
theorem dX3_grown_35 : decode cX3_grown 35 = .ok (.iconst 0, 1) := by decide +kernel
theorem dX3_grown_36 : decode cX3_grown 36 = .ok (.iload_n 3, 1) := by decide +kernel
theorem dX3_grown_37 : decode cX3_grown 37 = .ok (.invokestatic 71, 3) := by decide +kernel
theorem dX3_grown_40 : decode cX3_grown 40 = .ok (.ifCond .eq 15, 3) := by decide +kernel
theorem dX3_grown_43 : decode cX3_grown 43 = .ok (.aload_n 0, 1) := by decide +kernel
theorem dX3_grown_44 : decode cX3_grown 44 = .ok (.aload_n 0, 1) := by decide +kernel
theorem dX3_grown_45 : decode cX3_grown 45 = .ok (.getfield 20, 3) := by decide +kernel
theorem dX3_grown_48 : decode cX3_grown 48 = .ok (.iload 4, 2) := by decide +kernel
theorem dX3_grown_50 : decode cX3_grown 50 = .ok (.laload, 1) := by decide +kernel
theorem dX3_grown_51 : decode cX3_grown 51 = .ok (.invokevirtual 190, 3) := by decide +kernel
theorem dX3_grown_54 : decode cX3_grown 54 = .ok (.pop, 1) := by decide +kernel
theorem dX3_grown_55 : decode cX3_grown 55 = .ok (.iinc 4 1, 3) := by decide +kernel
theorem dX3_grown_58 : decode cX3_grown 58 = .ok (.goto (-43), 3) := by decide +kernel
theorem dX3_grown_61 : decode cX3_grown 61 = .ok (.iconst 1, 1) := by decide +kernel
theorem dX3_grown_62 : decode cX3_grown 62 = .ok (.istore 4, 2) := by decide +kernel
theorem dX3_grown_64 : decode cX3_grown 64 = .ok (.iload 4, 2) := by decide +kernel
theorem dX3_grown_66 : decode cX3_grown 66 = .ok (.ifCond .eq 120, 3) := by decide +kernel
theorem dX3_grown_69 : decode cX3_grown 69 = .ok (.iconst 0, 1) := by decide +kernel
theorem dX3_grown_70 : decode cX3_grown 70 = .ok (.istore 4, 2) := by decide +kernel
theorem dX3_grown_72 : decode cX3_grown 72 = .ok (.iconst 0, 1) := by decide +kernel
theorem dX3_grown_73 : decode cX3_grown 73 = .ok (.istore 5, 2) := by decide +kernel
theorem dX3_grown_75 : decode cX3_grown 75 = .ok (.iload 5, 2) := by decide +kernel
theorem dX3_grown_77 : decode cX3_grown 77 = .ok (.bipush 64, 2) := by decide +kernel
theorem dX3_grown_79 : decode cX3_grown 79 = .ok (.if_icmp .ge 104, 3) := by decide +kernel
theorem dX3_grown_82 : decode cX3_grown 82 = .ok (.aload_n 0, 1) := by decide +kernel
theorem dX3_grown_83 : decode cX3_grown 83 = .ok (.getfield 42, 3) := by decide +kernel
theorem dX3_grown_86 : decode cX3_grown 86 = .ok (.iload 5, 2) := by decide +kernel
theorem dX3_grown_88 : decode cX3_grown 88 = .ok (.baload, 1) := by decide +kernel
theorem dX3_grown_89 : decode cX3_grown 89 = .ok (.ifCond .eq 26, 3) := by decide +kernel
theorem dX3_grown_92 : decode cX3_grown 92 = .ok (.aload_n 0, 1) := by decide +kernel
theorem dX3_grown_93 : decode cX3_grown 93 = .ok (.getfield 46, 3) := by decide +kernel
theorem dX3_grown_96 : decode cX3_grown 96 = .ok (.iload 5, 2) := by decide +kernel
theorem dX3_grown_98 : decode cX3_grown 98 = .ok (.baload, 1) := by decide +kernel
theorem dX3_grown_99 : decode cX3_grown 99 = .ok (.ifCond .ne 16, 3) := by decide +kernel
theorem dX3_grown_102 : decode cX3_grown 102 = .ok (.iload 5, 2) := by decide +kernel
theorem dX3_grown_104 : decode cX3_grown 104 = .ok (.invokestatic 49, 3) := by decide +kernel
theorem dX3_grown_107 : decode cX3_grown 107 = .ok (.iload_n 3, 1) := by decide +kernel
theorem dX3_grown_108 : decode cX3_grown 108 = .ok (.if_icmp .ge 7, 3) := by decide +kernel
theorem dX3_grown_111 : decode cX3_grown 111 = .ok (.iconst 1, 1) := by decide +kernel
theorem dX3_grown_112 : decode cX3_grown 112 = .ok (.goto 4, 3) := by decide +kernel
theorem dX3_grown_115 : decode cX3_grown 115 = .ok (.iconst 0, 1) := by decide +kernel
theorem dX3_grown_116 : decode cX3_grown 116 = .ok (.istore 6, 2) := by decide +kernel
theorem dX3_grown_118 : decode cX3_grown 118 = .ok (.aload_n 0, 1) := by decide +kernel
theorem dX3_grown_119 : decode cX3_grown 119 = .ok (.getfield 46, 3) := by decide +kernel
theorem dX3_grown_122 : decode cX3_grown 122 = .ok (.iload 5, 2) := by decide +kernel
theorem dX3_grown_124 : decode cX3_grown 124 = .ok (.dup2, 1) := by decide +kernel
theorem dX3_grown_125 : decode cX3_grown 125 = .ok (.baload, 1) := by decide +kernel
theorem dX3_grown_126 : decode cX3_grown 126 = .ok (.iload 6, 2) := by decide +kernel
theorem dX3_grown_128 : decode cX3_grown 128 = .ok (.ior, 1) := by decide +kernel
theorem dX3_grown_129 : decode cX3_grown 129 = .ok (.bastore, 1) := by decide +kernel
theorem dX3_grown_130 : decode cX3_grown 130 = .ok (.iload 4, 2) := by decide +kernel
theorem dX3_grown_132 : decode cX3_grown 132 = .ok (.iload 6, 2) := by decide +kernel
theorem dX3_grown_134 : decode cX3_grown 134 = .ok (.ior, 1) := by decide +kernel
theorem dX3_grown_135 : decode cX3_grown 135 = .ok (.istore 4, 2) := by decide +kernel
theorem dX3_grown_137 : decode cX3_grown 137 = .ok (.iconst 0, 1) := by decide +kernel
theorem dX3_grown_138 : decode cX3_grown 138 = .ok (.istore 7, 2) := by decide +kernel
theorem dX3_grown_140 : decode cX3_grown 140 = .ok (.iload 7, 2) := by decide +kernel
theorem dX3_grown_142 : decode cX3_grown 142 = .ok (.bipush 6, 2) := by decide +kernel
theorem dX3_grown_144 : decode cX3_grown 144 = .ok (.if_icmp .ge 33, 3) := by decide +kernel
theorem dX3_grown_147 : decode cX3_grown 147 = .ok (.iload 6, 2) := by decide +kernel
theorem dX3_grown_149 : decode cX3_grown 149 = .ok (.ifCond .eq 28, 3) := by decide +kernel
theorem dX3_grown_152 : decode cX3_grown 152 = .ok (.aload_n 0, 1) := by decide +kernel
theorem dX3_grown_153 : decode cX3_grown 153 = .ok (.aload_n 0, 1) := by decide +kernel
theorem dX3_grown_154 : decode cX3_grown 154 = .ok (.getfield 39, 3) := by decide +kernel
theorem dX3_grown_157 : decode cX3_grown 157 = .ok (.iload 5, 2) := by decide +kernel
theorem dX3_grown_159 : decode cX3_grown 159 = .ok (.laload, 1) := by decide +kernel
theorem dX3_grown_160 : decode cX3_grown 160 = .ok (.iconst 1, 1) := by decide +kernel
theorem dX3_grown_161 : decode cX3_grown 161 = .ok (.iload 7, 2) := by decide +kernel
theorem dX3_grown_163 : decode cX3_grown 163 = .ok (.ishl, 1) := by decide +kernel
theorem dX3_grown_164 : decode cX3_grown 164 = .ok (.invokestatic 63, 3) := by decide +kernel
theorem dX3_grown_167 : decode cX3_grown 167 = .ok (.invokevirtual 190, 3) := by decide +kernel
theorem dX3_grown_170 : decode cX3_grown 170 = .ok (.pop, 1) := by decide +kernel
theorem dX3_grown_171 : decode cX3_grown 171 = .ok (.iinc 7 1, 3) := by decide +kernel
theorem dX3_grown_174 : decode cX3_grown 174 = .ok (.goto (-34), 3) := by decide +kernel
theorem dX3_grown_177 : decode cX3_grown 177 = .ok (.iinc 5 1, 3) := by decide +kernel
theorem dX3_grown_180 : decode cX3_grown 180 = .ok (.goto (-105), 3) := by decide +kernel
theorem dX3_grown_183 : decode cX3_grown 183 = .ok (.goto (-119), 3) := by decide +kernel
theorem dX3_grown_186 : decode cX3_grown 186 = .ok (.aload_n 0, 1) := by decide +kernel
theorem dX3_grown_187 : decode cX3_grown 187 = .ok (.lload_n 1, 1) := by decide +kernel
theorem dX3_grown_188 : decode cX3_grown 188 = .ok (.invokevirtual 184, 3) := by decide +kernel
theorem dX3_grown_191 : decode cX3_grown 191 = .ok (.lconst 0, 1) := by decide +kernel
theorem dX3_grown_192 : decode cX3_grown 192 = .ok (.lcmp, 1) := by decide +kernel
theorem dX3_grown_193 : decode cX3_grown 193 = .ok (.ifCond .ne 5, 3) := by decide +kernel
theorem dX3_grown_196 : decode cX3_grown 196 = .ok (.iload_n 3, 1) := by decide +kernel
theorem dX3_grown_197 : decode cX3_grown 197 = .ok (.ireturn, 1) := by decide +kernel
theorem dX3_grown_198 : decode cX3_grown 198 = .ok (.iinc 3 1, 3) := by decide +kernel
theorem dX3_grown_201 : decode cX3_grown 201 = .ok (.goto (-199), 3) := by decide +kernel
theorem dX3_grown_204 : decode cX3_grown 204 = .ok (.bipush (-9), 2) := by decide +kernel
theorem dX3_grown_206 : decode cX3_grown 206 = .ok (.ireturn, 1) := by decide +kernel
set_option maxRecDepth 20000 in
theorem ggX3_deep_X3_isLine : GoodIn wsX3_deep wsX3_isLine := goodIn_r _ [7, 8, 9, 10, 11, 6, 12, 54, 55, 56, 57, 58, 59, 60, 61, 62, 63, 64, 65, 66, 67, 68, 69, 70, 71, 72, 73, 74, 75, 76, 77, 78, 79, 80] (by decide +kernel) (by decide +kernel)
set_option maxRecDepth 20000 in
theorem gX3_deep_X3_isLine : GoodIn wsX3_deep (wsV RX3 149 RX3 yX3_isLine wsX3_isLine) := goodIn_app (goodIn_of _ (by decide +kernel)) ggX3_deep_X3_isLine
set_option maxRecDepth 20000 in
theorem ggX3_deep_X3_in : GoodIn wsX3_deep wsX3_in := goodIn_r _ [12] (by decide +kernel) (by decide +kernel)
set_option maxRecDepth 20000 in
theorem gX3_deep_X3_in : GoodIn wsX3_deep (va_wsS RX3 71 yX3_in wsX3_in) := goodIn_app (goodIn_of _ (by decide +kernel)) ggX3_deep_X3_in
set_option maxRecDepth 20000 in
theorem ggX3_deep_X3_atOnce : GoodIn wsX3_deep wsX3_atOnce := goodIn_r _ [16, 8, 2, 17, 18, 19, 6, 20, 21, 22, 23, 24, 25, 26, 27, 28, 29, 30, 31, 32, 33, 34, 35, 36, 37, 38, 39, 40, 41, 42, 43, 44, 45, 46, 47, 48, 49, 54, 55, 56, 57, 58, 59, 60, 61, 62, 63, 64, 65, 66, 67, 68, 69, 70, 71, 72, 73, 74, 75, 76, 77, 78, 79, 80] (by decide +kernel) (by decide +kernel)
set_option maxRecDepth 20000 in
theorem gX3_deep_X3_atOnce : GoodIn wsX3_deep (wsV RX3 193 RX3 yX3_atOnce wsX3_atOnce) := goodIn_app (goodIn_of _ (by decide +kernel)) ggX3_deep_X3_atOnce
set_option maxRecDepth 20000 in
theorem ggX3_deep_X3_grown : GoodIn wsX3_deep wsX3_grown := goodIn_r _ [53, 8, 2, 21, 22, 45, 17, 18, 19, 6, 20, 23, 24, 25, 26, 27, 28, 29, 30, 31, 32, 33, 34, 35, 36, 37, 10, 11, 12, 41, 42, 43, 44, 46, 47, 48, 49, 38, 39, 40, 54, 55, 56, 57, 58, 59, 60, 61, 62, 63, 64, 65, 66, 67, 68, 69, 70, 71, 72, 73, 74, 75, 76, 77, 78, 79, 80] (by decide +kernel) (by decide +kernel)
set_option maxRecDepth 20000 in
theorem gX3_deep_X3_grown : GoodIn wsX3_deep (wsV RX3 196 RX3 yX3_grown wsX3_grown) := goodIn_app (goodIn_of _ (by decide +kernel)) ggX3_deep_X3_grown
theorem dX3_deep_0 : decode cX3_deep 0 = .ok (.aload_n 0, 1) := by decide +kernel
theorem dX3_deep_1 : decode cX3_deep 1 = .ok (.iconst 0, 1) := by decide +kernel
theorem dX3_deep_2 : decode cX3_deep 2 = .ok (.putfield 56, 3) := by decide +kernel
theorem dX3_deep_5 : decode cX3_deep 5 = .ok (.aload_n 0, 1) := by decide +kernel
theorem dX3_deep_6 : decode cX3_deep 6 = .ok (.iload_n 1, 1) := by decide +kernel
theorem dX3_deep_7 : decode cX3_deep 7 = .ok (.invokevirtual 149, 3) := by decide +kernel
theorem dX3_deep_10 : decode cX3_deep 10 = .ok (.ifCond .eq 12, 3) := by decide +kernel
theorem dX3_deep_13 : decode cX3_deep 13 = .ok (.iload_n 2, 1) := by decide +kernel
theorem dX3_deep_14 : decode cX3_deep 14 = .ok (.iconst 0, 1) := by decide +kernel
theorem dX3_deep_15 : decode cX3_deep 15 = .ok (.iconst 1, 1) := by decide +kernel
theorem dX3_deep_16 : decode cX3_deep 16 = .ok (.invokestatic 71, 3) := by decide +kernel
theorem dX3_deep_19 : decode cX3_deep 19 = .ok (.ifCond .ne 7, 3) := by decide +kernel
theorem dX3_deep_22 : decode cX3_deep 22 = .ok (.iconst (-1), 1) := by decide +kernel
theorem dX3_deep_23 : decode cX3_deep 23 = .ok (.goto 30, 3) := by decide +kernel
theorem dX3_deep_26 : decode cX3_deep 26 = .ok (.iload_n 2, 1) := by decide +kernel
theorem dX3_deep_27 : decode cX3_deep 27 = .ok (.ifCond .ne 16, 3) := by decide +kernel
theorem dX3_deep_30 : decode cX3_deep 30 = .ok (.aload_n 0, 1) := by decide +kernel
theorem dX3_deep_31 : decode cX3_deep 31 = .ok (.aload_n 0, 1) := by decide +kernel
theorem dX3_deep_32 : decode cX3_deep 32 = .ok (.getfield 20, 3) := by decide +kernel
theorem dX3_deep_35 : decode cX3_deep 35 = .ok (.iload_n 1, 1) := by decide +kernel
theorem dX3_deep_36 : decode cX3_deep 36 = .ok (.laload, 1) := by decide +kernel
theorem dX3_deep_37 : decode cX3_deep 37 = .ok (.invokevirtual 193, 3) := by decide +kernel
theorem dX3_deep_40 : decode cX3_deep 40 = .ok (.goto 13, 3) := by decide +kernel
theorem dX3_deep_43 : decode cX3_deep 43 = .ok (.aload_n 0, 1) := by decide +kernel
theorem dX3_deep_44 : decode cX3_deep 44 = .ok (.aload_n 0, 1) := by decide +kernel
theorem dX3_deep_45 : decode cX3_deep 45 = .ok (.getfield 20, 3) := by decide +kernel
theorem dX3_deep_48 : decode cX3_deep 48 = .ok (.iload_n 1, 1) := by decide +kernel
theorem dX3_deep_49 : decode cX3_deep 49 = .ok (.laload, 1) := by decide +kernel
theorem dX3_deep_50 : decode cX3_deep 50 = .ok (.invokevirtual 196, 3) := by decide +kernel
theorem dX3_deep_53 : decode cX3_deep 53 = .ok (.ireturn, 1) := by decide +kernel
set_option maxRecDepth 20000 in
theorem ggX3_needed_X3_isLine : GoodIn wsX3_needed wsX3_isLine := goodIn_r _ [9, 3, 10, 11, 12, 8, 13, 20, 21, 22, 23, 24, 25, 26, 27, 28, 29, 30, 31, 32, 33, 34, 35, 36, 37, 38, 39, 40, 41, 42, 43, 44, 45, 46] (by decide +kernel) (by decide +kernel)
set_option maxRecDepth 20000 in
theorem gX3_needed_X3_isLine : GoodIn wsX3_needed (wsV RX3 149 RX3 yX3_isLine wsX3_isLine) := goodIn_app (goodIn_of _ (by decide +kernel)) ggX3_needed_X3_isLine
set_option maxRecDepth 20000 in
theorem ggX3_needed_X3_in : GoodIn wsX3_needed wsX3_in := goodIn_r _ [13] (by decide +kernel) (by decide +kernel)
set_option maxRecDepth 20000 in
theorem gX3_needed_X3_in : GoodIn wsX3_needed (va_wsS RX3 71 yX3_in wsX3_in) := goodIn_app (goodIn_of _ (by decide +kernel)) ggX3_needed_X3_in
set_option maxRecDepth 20000 in
theorem ggX3_needed_X3_values : GoodIn wsX3_needed wsX3_values := goodIn_r _ [16, 17, 18, 8, 19] (by decide +kernel) (by decide +kernel)
set_option maxRecDepth 20000 in
theorem gX3_needed_X3_values : GoodIn wsX3_needed (va_wsS RX3 153 yX3_values wsX3_values) := goodIn_app (goodIn_of _ (by decide +kernel)) ggX3_needed_X3_values
theorem dX3_needed_0 : decode cX3_needed 0 = .ok (.aload_n 0, 1) := by decide +kernel
theorem dX3_needed_1 : decode cX3_needed 1 = .ok (.iconst 0, 1) := by decide +kernel
theorem dX3_needed_2 : decode cX3_needed 2 = .ok (.putfield 56, 3) := by decide +kernel
theorem dX3_needed_5 : decode cX3_needed 5 = .ok (.aload_n 0, 1) := by decide +kernel
theorem dX3_needed_6 : decode cX3_needed 6 = .ok (.iload_n 1, 1) := by decide +kernel
theorem dX3_needed_7 : decode cX3_needed 7 = .ok (.invokevirtual 149, 3) := by decide +kernel
theorem dX3_needed_10 : decode cX3_needed 10 = .ok (.ifCond .eq 12, 3) := by decide +kernel
theorem dX3_needed_13 : decode cX3_needed 13 = .ok (.iload_n 2, 1) := by decide +kernel
theorem dX3_needed_14 : decode cX3_needed 14 = .ok (.iconst 0, 1) := by decide +kernel
theorem dX3_needed_15 : decode cX3_needed 15 = .ok (.iconst 1, 1) := by decide +kernel
theorem dX3_needed_16 : decode cX3_needed 16 = .ok (.invokestatic 71, 3) := by decide +kernel
theorem dX3_needed_19 : decode cX3_needed 19 = .ok (.ifCond .ne 5, 3) := by decide +kernel
theorem dX3_needed_22 : decode cX3_needed 22 = .ok (.iconst (-1), 1) := by decide +kernel
theorem dX3_needed_23 : decode cX3_needed 23 = .ok (.ireturn, 1) := by decide +kernel
theorem dX3_needed_24 : decode cX3_needed 24 = .ok (.aload_n 0, 1) := by decide +kernel
theorem dX3_needed_25 : decode cX3_needed 25 = .ok (.getfield 20, 3) := by decide +kernel
theorem dX3_needed_28 : decode cX3_needed 28 = .ok (.iload_n 1, 1) := by decide +kernel
theorem dX3_needed_29 : decode cX3_needed 29 = .ok (.laload, 1) := by decide +kernel
theorem dX3_needed_30 : decode cX3_needed 30 = .ok (.invokestatic 153, 3) := by decide +kernel
theorem dX3_needed_33 : decode cX3_needed 33 = .ok (.lstore_n 3, 1) := by decide +kernel
theorem dX3_needed_34 : decode cX3_needed 34 = .ok (.bipush (-9), 2) := by decide +kernel
theorem dX3_needed_36 : decode cX3_needed 36 = .ok (.istore 5, 2) := by decide +kernel
theorem dX3_needed_38 : decode cX3_needed 38 = .ok (.bipush 9, 2) := by decide +kernel
theorem dX3_needed_40 : decode cX3_needed 40 = .ok (.istore 6, 2) := by decide +kernel
theorem dX3_needed_42 : decode cX3_needed 42 = .ok (.iconst 0, 1) := by decide +kernel
theorem dX3_needed_43 : decode cX3_needed 43 = .ok (.istore 7, 2) := by decide +kernel
theorem dX3_needed_45 : decode cX3_needed 45 = .ok (.iload 7, 2) := by decide +kernel
theorem dX3_needed_47 : decode cX3_needed 47 = .ok (.iconst 1, 1) := by decide +kernel
theorem dX3_needed_48 : decode cX3_needed 48 = .ok (.aload_n 0, 1) := by decide +kernel
theorem dX3_needed_49 : decode cX3_needed 49 = .ok (.getfield 129, 3) := by decide +kernel
theorem dX3_needed_52 : decode cX3_needed 52 = .ok (.ishl, 1) := by decide +kernel
theorem dX3_needed_53 : decode cX3_needed 53 = .ok (.if_icmp .ge 92, 3) := by decide +kernel
theorem dX3_needed_56 : decode cX3_needed 56 = .ok (.ldc2_w 167, 3) := by decide +kernel
theorem dX3_needed_59 : decode cX3_needed 59 = .ok (.lstore 8, 2) := by decide +kernel
theorem dX3_needed_61 : decode cX3_needed 61 = .ok (.iconst 0, 1) := by decide +kernel
theorem dX3_needed_62 : decode cX3_needed 62 = .ok (.istore 10, 2) := by decide +kernel
theorem dX3_needed_64 : decode cX3_needed 64 = .ok (.iconst 0, 1) := by decide +kernel
theorem dX3_needed_65 : decode cX3_needed 65 = .ok (.istore 11, 2) := by decide +kernel
theorem dX3_needed_67 : decode cX3_needed 67 = .ok (.iload 11, 2) := by decide +kernel
theorem dX3_needed_69 : decode cX3_needed 69 = .ok (.aload_n 0, 1) := by decide +kernel
theorem dX3_needed_70 : decode cX3_needed 70 = .ok (.getfield 129, 3) := by decide +kernel
theorem dX3_needed_73 : decode cX3_needed 73 = .ok (.if_icmp .ge 42, 3) := by decide +kernel
theorem dX3_needed_76 : decode cX3_needed 76 = .ok (.iload 7, 2) := by decide +kernel
theorem dX3_needed_78 : decode cX3_needed 78 = .ok (.iload 11, 2) := by decide +kernel
theorem dX3_needed_80 : decode cX3_needed 80 = .ok (.ishr, 1) := by decide +kernel
theorem dX3_needed_81 : decode cX3_needed 81 = .ok (.iconst 1, 1) := by decide +kernel
theorem dX3_needed_82 : decode cX3_needed 82 = .ok (.iand, 1) := by decide +kernel
theorem dX3_needed_83 : decode cX3_needed 83 = .ok (.iconst 1, 1) := by decide +kernel
theorem dX3_needed_84 : decode cX3_needed 84 = .ok (.if_icmp .ne 25, 3) := by decide +kernel
theorem dX3_needed_87 : decode cX3_needed 87 = .ok (.lload 8, 2) := by decide +kernel
theorem dX3_needed_89 : decode cX3_needed 89 = .ok (.aload_n 0, 1) := by decide +kernel
theorem dX3_needed_90 : decode cX3_needed 90 = .ok (.getfield 20, 3) := by decide +kernel
theorem dX3_needed_93 : decode cX3_needed 93 = .ok (.iload 11, 2) := by decide +kernel
theorem dX3_needed_95 : decode cX3_needed 95 = .ok (.laload, 1) := by decide +kernel
theorem dX3_needed_96 : decode cX3_needed 96 = .ok (.invokestatic 153, 3) := by decide +kernel
theorem dX3_needed_99 : decode cX3_needed 99 = .ok (.ldc2_w 167, 3) := by decide +kernel
theorem dX3_needed_102 : decode cX3_needed 102 = .ok (.lxor, 1) := by decide +kernel
theorem dX3_needed_103 : decode cX3_needed 103 = .ok (.land, 1) := by decide +kernel
theorem dX3_needed_104 : decode cX3_needed 104 = .ok (.lstore 8, 2) := by decide +kernel
theorem dX3_needed_106 : decode cX3_needed 106 = .ok (.iinc 10 1, 3) := by decide +kernel
theorem dX3_needed_109 : decode cX3_needed 109 = .ok (.iinc 11 1, 3) := by decide +kernel
theorem dX3_needed_112 : decode cX3_needed 112 = .ok (.goto (-45), 3) := by decide +kernel
theorem dX3_needed_115 : decode cX3_needed 115 = .ok (.iload 10, 2) := by decide +kernel
theorem dX3_needed_117 : decode cX3_needed 117 = .ok (.iload 6, 2) := by decide +kernel
theorem dX3_needed_119 : decode cX3_needed 119 = .ok (.if_icmp .ge 20, 3) := by decide +kernel
theorem dX3_needed_122 : decode cX3_needed 122 = .ok (.lload_n 3, 1) := by decide +kernel
theorem dX3_needed_123 : decode cX3_needed 123 = .ok (.lload 8, 2) := by decide +kernel
theorem dX3_needed_125 : decode cX3_needed 125 = .ok (.land, 1) := by decide +kernel
theorem dX3_needed_126 : decode cX3_needed 126 = .ok (.lconst 0, 1) := by decide +kernel
theorem dX3_needed_127 : decode cX3_needed 127 = .ok (.lcmp, 1) := by decide +kernel
theorem dX3_needed_128 : decode cX3_needed 128 = .ok (.ifCond .ne 11, 3) := by decide +kernel
theorem dX3_needed_131 : decode cX3_needed 131 = .ok (.iload 10, 2) := by decide +kernel
theorem dX3_needed_133 : decode cX3_needed 133 = .ok (.istore 6, 2) := by decide +kernel
theorem dX3_needed_135 : decode cX3_needed 135 = .ok (.iload 7, 2) := by decide +kernel
theorem dX3_needed_137 : decode cX3_needed 137 = .ok (.istore 5, 2) := by decide +kernel
theorem dX3_needed_139 : decode cX3_needed 139 = .ok (.iinc 7 1, 3) := by decide +kernel
theorem dX3_needed_142 : decode cX3_needed 142 = .ok (.goto (-97), 3) := by decide +kernel
theorem dX3_needed_145 : decode cX3_needed 145 = .ok (.iload 5, 2) := by decide +kernel
theorem dX3_needed_147 : decode cX3_needed 147 = .ok (.bipush (-9), 2) := by decide +kernel
theorem dX3_needed_149 : decode cX3_needed 149 = .ok (.if_icmp .eq 8, 3) := by decide +kernel
theorem dX3_needed_152 : decode cX3_needed 152 = .ok (.iload_n 2, 1) := by decide +kernel
theorem dX3_needed_153 : decode cX3_needed 153 = .ok (.iconst 1, 1) := by decide +kernel
theorem dX3_needed_154 : decode cX3_needed 154 = .ok (.if_icmp .ne 8, 3) := by decide +kernel
theorem dX3_needed_157 : decode cX3_needed 157 = .ok (.iload 5, 2) := by decide +kernel
theorem dX3_needed_159 : decode cX3_needed 159 = .ok (.goto 5, 3) := by decide +kernel
theorem dX3_needed_162 : decode cX3_needed 162 = .ok (.iload 6, 2) := by decide +kernel
theorem dX3_needed_164 : decode cX3_needed 164 = .ok (.ireturn, 1) := by decide +kernel
set_option maxRecDepth 20000 in
theorem ggX3_weight_X3_in : GoodIn wsX3_weight wsX3_in := goodIn_r _ [10] (by decide +kernel) (by decide +kernel)
set_option maxRecDepth 20000 in
theorem gX3_weight_X3_in : GoodIn wsX3_weight (va_wsS RX3 71 yX3_in wsX3_in) := goodIn_app (goodIn_of _ (by decide +kernel)) ggX3_weight_X3_in
set_option maxRecDepth 20000 in
theorem ggX3_weight_X3_isLine : GoodIn wsX3_weight wsX3_isLine := goodIn_r _ [14, 15, 16, 7, 8, 9, 10, 51, 52, 53, 54, 55, 56, 57, 58, 59, 60, 61, 62, 63, 64, 65, 66, 67, 68, 69, 70, 71, 72, 73, 74, 75, 76, 77] (by decide +kernel) (by decide +kernel)
set_option maxRecDepth 20000 in
theorem gX3_weight_X3_isLine : GoodIn wsX3_weight (wsV RX3 149 RX3 yX3_isLine wsX3_isLine) := goodIn_app (goodIn_of _ (by decide +kernel)) ggX3_weight_X3_isLine
set_option maxRecDepth 20000 in
theorem ggX3_weight_X3_many : GoodIn wsX3_weight wsX3_many := goodIn_r _ [19, 20, 21, 9, 22] (by decide +kernel) (by decide +kernel)
set_option maxRecDepth 20000 in
theorem gX3_weight_X3_many : GoodIn wsX3_weight (va_wsS RX3 199 yX3_many wsX3_many) := goodIn_app (goodIn_of _ (by decide +kernel)) ggX3_weight_X3_many
set_option maxRecDepth 20000 in
theorem ggX3_weight_X3_values : GoodIn wsX3_weight wsX3_values := goodIn_r _ [25, 20, 21, 9, 22] (by decide +kernel) (by decide +kernel)
set_option maxRecDepth 20000 in
theorem gX3_weight_X3_values : GoodIn wsX3_weight (va_wsS RX3 153 yX3_values wsX3_values) := goodIn_app (goodIn_of _ (by decide +kernel)) ggX3_weight_X3_values
set_option maxRecDepth 20000 in
theorem ggX3_weight_X3_degreeOf : GoodIn wsX3_weight wsX3_degreeOf := goodIn_r _ [29, 30, 31, 32, 9, 33, 34, 20, 21, 22, 35, 36, 37, 51, 52, 53, 54, 55, 56, 57, 58, 59, 60, 61, 62, 63, 64, 65, 66, 67, 68, 69, 70, 71, 72, 73, 74, 75, 76, 77] (by decide +kernel) (by decide +kernel)
set_option maxRecDepth 20000 in
theorem gX3_weight_X3_degreeOf : GoodIn wsX3_weight (wsV RX3 157 RX3 yX3_degreeOf wsX3_degreeOf) := goodIn_app (goodIn_of _ (by decide +kernel)) ggX3_weight_X3_degreeOf
set_option maxRecDepth 20000 in
theorem ggX3_weight_X3_leftOf : GoodIn wsX3_weight wsX3_leftOf := goodIn_r _ [41, 42, 43, 23, 24, 9, 25, 20, 21, 22, 44, 45, 46, 47, 48, 49, 50, 51, 52, 53, 54, 55, 56, 57, 58, 59, 60, 61, 62, 63, 64, 65, 66, 67, 68, 69, 70, 71, 72, 73, 74, 75, 76, 77] (by decide +kernel) (by decide +kernel)
set_option maxRecDepth 20000 in
theorem gX3_weight_X3_leftOf : GoodIn wsX3_weight (wsV RX3 178 RX3 yX3_leftOf wsX3_leftOf) := goodIn_app (goodIn_of _ (by decide +kernel)) ggX3_weight_X3_leftOf
theorem dX3_weight_0 : decode cX3_weight 0 = .ok (.aload_n 0, 1) := by decide +kernel
theorem dX3_weight_1 : decode cX3_weight 1 = .ok (.iconst 0, 1) := by decide +kernel
theorem dX3_weight_2 : decode cX3_weight 2 = .ok (.putfield 56, 3) := by decide +kernel
theorem dX3_weight_5 : decode cX3_weight 5 = .ok (.iload_n 1, 1) := by decide +kernel
theorem dX3_weight_6 : decode cX3_weight 6 = .ok (.iconst 0, 1) := by decide +kernel
theorem dX3_weight_7 : decode cX3_weight 7 = .ok (.iconst 3, 1) := by decide +kernel
theorem dX3_weight_8 : decode cX3_weight 8 = .ok (.invokestatic 71, 3) := by decide +kernel
theorem dX3_weight_11 : decode cX3_weight 11 = .ok (.ifCond .eq 11, 3) := by decide +kernel
theorem dX3_weight_14 : decode cX3_weight 14 = .ok (.aload_n 0, 1) := by decide +kernel
theorem dX3_weight_15 : decode cX3_weight 15 = .ok (.iload_n 2, 1) := by decide +kernel
theorem dX3_weight_16 : decode cX3_weight 16 = .ok (.invokevirtual 149, 3) := by decide +kernel
theorem dX3_weight_19 : decode cX3_weight 19 = .ok (.ifCond .ne 6, 3) := by decide +kernel
theorem dX3_weight_22 : decode cX3_weight 22 = .ok (.bipush (-100), 2) := by decide +kernel
theorem dX3_weight_24 : decode cX3_weight 24 = .ok (.ireturn, 1) := by decide +kernel
theorem dX3_weight_25 : decode cX3_weight 25 = .ok (.aload_n 0, 1) := by decide +kernel
theorem dX3_weight_26 : decode cX3_weight 26 = .ok (.getfield 20, 3) := by decide +kernel
theorem dX3_weight_29 : decode cX3_weight 29 = .ok (.iload_n 2, 1) := by decide +kernel
theorem dX3_weight_30 : decode cX3_weight 30 = .ok (.laload, 1) := by decide +kernel
theorem dX3_weight_31 : decode cX3_weight 31 = .ok (.invokestatic 199, 3) := by decide +kernel
theorem dX3_weight_34 : decode cX3_weight 34 = .ok (.istore_n 3, 1) := by decide +kernel
theorem dX3_weight_35 : decode cX3_weight 35 = .ok (.iload_n 3, 1) := by decide +kernel
theorem dX3_weight_36 : decode cX3_weight 36 = .ok (.aload_n 0, 1) := by decide +kernel
theorem dX3_weight_37 : decode cX3_weight 37 = .ok (.getfield 20, 3) := by decide +kernel
theorem dX3_weight_40 : decode cX3_weight 40 = .ok (.iload_n 2, 1) := by decide +kernel
theorem dX3_weight_41 : decode cX3_weight 41 = .ok (.laload, 1) := by decide +kernel
theorem dX3_weight_42 : decode cX3_weight 42 = .ok (.invokestatic 153, 3) := by decide +kernel
theorem dX3_weight_45 : decode cX3_weight 45 = .ok (.invokestatic 199, 3) := by decide +kernel
theorem dX3_weight_48 : decode cX3_weight 48 = .ok (.iadd, 1) := by decide +kernel
theorem dX3_weight_49 : decode cX3_weight 49 = .ok (.istore 4, 2) := by decide +kernel
theorem dX3_weight_51 : decode cX3_weight 51 = .ok (.aload_n 0, 1) := by decide +kernel
theorem dX3_weight_52 : decode cX3_weight 52 = .ok (.aload_n 0, 1) := by decide +kernel
theorem dX3_weight_53 : decode cX3_weight 53 = .ok (.getfield 20, 3) := by decide +kernel
theorem dX3_weight_56 : decode cX3_weight 56 = .ok (.iload_n 2, 1) := by decide +kernel
theorem dX3_weight_57 : decode cX3_weight 57 = .ok (.laload, 1) := by decide +kernel
theorem dX3_weight_58 : decode cX3_weight 58 = .ok (.invokevirtual 157, 3) := by decide +kernel
theorem dX3_weight_61 : decode cX3_weight 61 = .ok (.istore 5, 2) := by decide +kernel
theorem dX3_weight_63 : decode cX3_weight 63 = .ok (.aload_n 0, 1) := by decide +kernel
theorem dX3_weight_64 : decode cX3_weight 64 = .ok (.dup, 1) := by decide +kernel
theorem dX3_weight_65 : decode cX3_weight 65 = .ok (.getfield 202, 3) := by decide +kernel
theorem dX3_weight_68 : decode cX3_weight 68 = .ok (.iload_n 1, 1) := by decide +kernel
theorem dX3_weight_69 : decode cX3_weight 69 = .ok (.ifCond .ne 7, 3) := by decide +kernel
theorem dX3_weight_72 : decode cX3_weight 72 = .ok (.lconst 1, 1) := by decide +kernel
theorem dX3_weight_73 : decode cX3_weight 73 = .ok (.goto 28, 3) := by decide +kernel
theorem dX3_weight_76 : decode cX3_weight 76 = .ok (.iload_n 1, 1) := by decide +kernel
theorem dX3_weight_77 : decode cX3_weight 77 = .ok (.iconst 1, 1) := by decide +kernel
theorem dX3_weight_78 : decode cX3_weight 78 = .ok (.if_icmp .ne 9, 3) := by decide +kernel
theorem dX3_weight_81 : decode cX3_weight 81 = .ok (.ldc2_w 205, 3) := by decide +kernel
theorem dX3_weight_84 : decode cX3_weight 84 = .ok (.goto 17, 3) := by decide +kernel
theorem dX3_weight_87 : decode cX3_weight 87 = .ok (.iload_n 1, 1) := by decide +kernel
theorem dX3_weight_88 : decode cX3_weight 88 = .ok (.iconst 2, 1) := by decide +kernel
theorem dX3_weight_89 : decode cX3_weight 89 = .ok (.if_icmp .ne 9, 3) := by decide +kernel
theorem dX3_weight_92 : decode cX3_weight 92 = .ok (.ldc2_w 207, 3) := by decide +kernel
theorem dX3_weight_95 : decode cX3_weight 95 = .ok (.goto 6, 3) := by decide +kernel
theorem dX3_weight_98 : decode cX3_weight 98 = .ok (.ldc2_w 209, 3) := by decide +kernel
theorem dX3_weight_101 : decode cX3_weight 101 = .ok (.ladd, 1) := by decide +kernel
theorem dX3_weight_102 : decode cX3_weight 102 = .ok (.putfield 202, 3) := by decide +kernel
theorem dX3_weight_105 : decode cX3_weight 105 = .ok (.iload_n 1, 1) := by decide +kernel
theorem dX3_weight_106 : decode cX3_weight 106 = .ok (.ifCond .ne 7, 3) := by decide +kernel
theorem dX3_weight_109 : decode cX3_weight 109 = .ok (.iload_n 3, 1) := by decide +kernel
theorem dX3_weight_110 : decode cX3_weight 110 = .ok (.goto 56, 3) := by decide +kernel
theorem dX3_weight_113 : decode cX3_weight 113 = .ok (.iload_n 1, 1) := by decide +kernel
theorem dX3_weight_114 : decode cX3_weight 114 = .ok (.iconst 1, 1) := by decide +kernel
theorem dX3_weight_115 : decode cX3_weight 115 = .ok (.if_icmp .ne 8, 3) := by decide +kernel
theorem dX3_weight_118 : decode cX3_weight 118 = .ok (.iload 4, 2) := by decide +kernel
theorem dX3_weight_120 : decode cX3_weight 120 = .ok (.goto 46, 3) := by decide +kernel
theorem dX3_weight_123 : decode cX3_weight 123 = .ok (.iload_n 1, 1) := by decide +kernel
theorem dX3_weight_124 : decode cX3_weight 124 = .ok (.iconst 2, 1) := by decide +kernel
theorem dX3_weight_125 : decode cX3_weight 125 = .ok (.if_icmp .ne 23, 3) := by decide +kernel
theorem dX3_weight_128 : decode cX3_weight 128 = .ok (.iload_n 3, 1) := by decide +kernel
theorem dX3_weight_129 : decode cX3_weight 129 = .ok (.iload 5, 2) := by decide +kernel
theorem dX3_weight_131 : decode cX3_weight 131 = .ok (.bipush (-9), 2) := by decide +kernel
theorem dX3_weight_133 : decode cX3_weight 133 = .ok (.if_icmp .ne 7, 3) := by decide +kernel
theorem dX3_weight_136 : decode cX3_weight 136 = .ok (.iconst 0, 1) := by decide +kernel
theorem dX3_weight_137 : decode cX3_weight 137 = .ok (.goto 7, 3) := by decide +kernel
theorem dX3_weight_140 : decode cX3_weight 140 = .ok (.iconst 2, 1) := by decide +kernel
theorem dX3_weight_141 : decode cX3_weight 141 = .ok (.iload 5, 2) := by decide +kernel
theorem dX3_weight_143 : decode cX3_weight 143 = .ok (.imul, 1) := by decide +kernel
theorem dX3_weight_144 : decode cX3_weight 144 = .ok (.iadd, 1) := by decide +kernel
theorem dX3_weight_145 : decode cX3_weight 145 = .ok (.goto 21, 3) := by decide +kernel
theorem dX3_weight_148 : decode cX3_weight 148 = .ok (.iconst 2, 1) := by decide +kernel
theorem dX3_weight_149 : decode cX3_weight 149 = .ok (.iload 4, 2) := by decide +kernel
theorem dX3_weight_151 : decode cX3_weight 151 = .ok (.imul, 1) := by decide +kernel
theorem dX3_weight_152 : decode cX3_weight 152 = .ok (.aload_n 0, 1) := by decide +kernel
theorem dX3_weight_153 : decode cX3_weight 153 = .ok (.aload_n 0, 1) := by decide +kernel
theorem dX3_weight_154 : decode cX3_weight 154 = .ok (.getfield 20, 3) := by decide +kernel
theorem dX3_weight_157 : decode cX3_weight 157 = .ok (.iload_n 2, 1) := by decide +kernel
theorem dX3_weight_158 : decode cX3_weight 158 = .ok (.laload, 1) := by decide +kernel
theorem dX3_weight_159 : decode cX3_weight 159 = .ok (.invokevirtual 178, 3) := by decide +kernel
theorem dX3_weight_162 : decode cX3_weight 162 = .ok (.invokestatic 199, 3) := by decide +kernel
theorem dX3_weight_165 : decode cX3_weight 165 = .ok (.isub, 1) := by decide +kernel
theorem dX3_weight_166 : decode cX3_weight 166 = .ok (.ireturn, 1) := by decide +kernel
set_option maxRecDepth 20000 in
theorem ggX3_count_X3_isLeast : GoodIn wsX3_count wsX3_isLeast := goodIn_r _ [12, 5, 13, 14, 11, 15, 19, 20, 21, 22, 23, 24, 25, 26, 27, 28, 29, 30, 31, 32, 33, 34, 35, 36, 37, 38, 39, 40, 41, 42, 43, 44, 45] (by decide +kernel) (by decide +kernel)
set_option maxRecDepth 20000 in
theorem gX3_count_X3_isLeast : GoodIn wsX3_count (wsV RX3 181 RX3 yX3_isLeast wsX3_isLeast) := goodIn_app (goodIn_of _ (by decide +kernel)) ggX3_count_X3_isLeast
set_option maxRecDepth 20000 in
theorem ggX3_count_X3_many : GoodIn wsX3_count wsX3_many := goodIn_r _ [18, 13, 14, 11, 15] (by decide +kernel) (by decide +kernel)
set_option maxRecDepth 20000 in
theorem gX3_count_X3_many : GoodIn wsX3_count (va_wsS RX3 199 yX3_many wsX3_many) := goodIn_app (goodIn_of _ (by decide +kernel)) ggX3_count_X3_many
theorem dX3_count_0 : decode cX3_count 0 = .ok (.aload_n 0, 1) := by decide +kernel
theorem dX3_count_1 : decode cX3_count 1 = .ok (.iconst 0, 1) := by decide +kernel
theorem dX3_count_2 : decode cX3_count 2 = .ok (.putfield 56, 3) := by decide +kernel
theorem dX3_count_5 : decode cX3_count 5 = .ok (.iconst 0, 1) := by decide +kernel
theorem dX3_count_6 : decode cX3_count 6 = .ok (.istore_n 2, 1) := by decide +kernel
theorem dX3_count_7 : decode cX3_count 7 = .ok (.iconst 0, 1) := by decide +kernel
theorem dX3_count_8 : decode cX3_count 8 = .ok (.istore_n 3, 1) := by decide +kernel
theorem dX3_count_9 : decode cX3_count 9 = .ok (.iload_n 3, 1) := by decide +kernel
