theorem dX1_isSmallLetter_7 : decode cX1_isSmallLetter 7 = .ok (.bipush 122, 2) := by decide +kernel
theorem dX1_isSmallLetter_9 : decode cX1_isSmallLetter 9 = .ok (.if_icmp .gt 7, 3) := by decide +kernel
theorem dX1_isSmallLetter_12 : decode cX1_isSmallLetter 12 = .ok (.iconst 1, 1) := by decide +kernel
theorem dX1_isSmallLetter_13 : decode cX1_isSmallLetter 13 = .ok (.goto 4, 3) := by decide +kernel
theorem dX1_isSmallLetter_16 : decode cX1_isSmallLetter 16 = .ok (.iconst 0, 1) := by decide +kernel
theorem dX1_isSmallLetter_17 : decode cX1_isSmallLetter 17 = .ok (.ireturn, 1) := by decide +kernel
theorem dX1_isDigit_0 : decode cX1_isDigit 0 = .ok (.iload_n 0, 1) := by decide +kernel
theorem dX1_isDigit_1 : decode cX1_isDigit 1 = .ok (.bipush 48, 2) := by decide +kernel
theorem dX1_isDigit_3 : decode cX1_isDigit 3 = .ok (.if_icmp .lt 13, 3) := by decide +kernel
theorem dX1_isDigit_6 : decode cX1_isDigit 6 = .ok (.iload_n 0, 1) := by decide +kernel
theorem dX1_isDigit_7 : decode cX1_isDigit 7 = .ok (.bipush 57, 2) := by decide +kernel
theorem dX1_isDigit_9 : decode cX1_isDigit 9 = .ok (.if_icmp .gt 7, 3) := by decide +kernel
theorem dX1_isDigit_12 : decode cX1_isDigit 12 = .ok (.iconst 1, 1) := by decide +kernel
theorem dX1_isDigit_13 : decode cX1_isDigit 13 = .ok (.goto 4, 3) := by decide +kernel
theorem dX1_isDigit_16 : decode cX1_isDigit 16 = .ok (.iconst 0, 1) := by decide +kernel
theorem dX1_isDigit_17 : decode cX1_isDigit 17 = .ok (.ireturn, 1) := by decide +kernel
set_option maxRecDepth 20000 in
theorem ggX2_init_X1_init : GoodIn wsX2_init wsX1_init := goodIn_r _ [26, 27, 2, 3, 28, 29, 30, 31, 32, 33, 34, 35, 8, 36, 37, 38, 39, 48, 49, 50, 51, 52, 53, 54, 55, 56, 57, 58] (by decide +kernel) (by decide +kernel)
set_option maxRecDepth 20000 in
theorem gX2_init_X1_init_n11 : GoodIn wsX2_init (wsX1_init) := ggX2_init_X1_init
set_option maxRecDepth 20000 in
theorem ggX2_init_X0_init : GoodIn wsX2_init wsX0_init := goodIn_r _ [41, 42, 2, 3, 8, 43, 28, 44, 45, 46, 47, 72, 73, 74, 75, 76] (by decide +kernel) (by decide +kernel)
set_option maxRecDepth 20000 in
theorem gX2_init_X0_init_n47 : GoodIn wsX2_init (wsX0_init) := ggX2_init_X0_init
theorem dX2_init_0 : decode cX2_init 0 = .ok (.aload_n 0, 1) := by decide +kernel
theorem dX2_init_1 : decode cX2_init 1 = .ok (.invokespecial 3, 3) := by decide +kernel
theorem dX2_init_4 : decode cX2_init 4 = .ok (.aload_n 0, 1) := by decide +kernel
theorem dX2_init_5 : decode cX2_init 5 = .ok (.new 9, 3) := by decide +kernel
theorem dX2_init_8 : decode cX2_init 8 = .ok (.dup, 1) := by decide +kernel
theorem dX2_init_9 : decode cX2_init 9 = .ok (.invokespecial 11, 3) := by decide +kernel
theorem dX2_init_12 : decode cX2_init 12 = .ok (.putfield 12, 3) := by decide +kernel
theorem dX2_init_15 : decode cX2_init 15 = .ok (.aload_n 0, 1) := by decide +kernel
theorem dX2_init_16 : decode cX2_init 16 = .ok (.bipush 32, 2) := by decide +kernel
theorem dX2_init_18 : decode cX2_init 18 = .ok (.newarray .long, 2) := by decide +kernel
theorem dX2_init_20 : decode cX2_init 20 = .ok (.putfield 16, 3) := by decide +kernel
theorem dX2_init_23 : decode cX2_init 23 = .ok (.aload_n 0, 1) := by decide +kernel
theorem dX2_init_24 : decode cX2_init 24 = .ok (.bipush 32, 2) := by decide +kernel
theorem dX2_init_26 : decode cX2_init 26 = .ok (.newarray .long, 2) := by decide +kernel
theorem dX2_init_28 : decode cX2_init 28 = .ok (.putfield 20, 3) := by decide +kernel
theorem dX2_init_31 : decode cX2_init 31 = .ok (.aload_n 0, 1) := by decide +kernel
theorem dX2_init_32 : decode cX2_init 32 = .ok (.iconst 0, 1) := by decide +kernel
theorem dX2_init_33 : decode cX2_init 33 = .ok (.putfield 23, 3) := by decide +kernel
theorem dX2_init_36 : decode cX2_init 36 = .ok (.aload_n 0, 1) := by decide +kernel
theorem dX2_init_37 : decode cX2_init 37 = .ok (.iconst 0, 1) := by decide +kernel
theorem dX2_init_38 : decode cX2_init 38 = .ok (.putfield 27, 3) := by decide +kernel
theorem dX2_init_41 : decode cX2_init 41 = .ok (.aload_n 0, 1) := by decide +kernel
theorem dX2_init_42 : decode cX2_init 42 = .ok (.iconst 0, 1) := by decide +kernel
theorem dX2_init_43 : decode cX2_init 43 = .ok (.putfield 30, 3) := by decide +kernel
theorem dX2_init_46 : decode cX2_init 46 = .ok (.aload_n 0, 1) := by decide +kernel
theorem dX2_init_47 : decode cX2_init 47 = .ok (.bipush (-9), 2) := by decide +kernel
theorem dX2_init_49 : decode cX2_init 49 = .ok (.putfield 33, 3) := by decide +kernel
theorem dX2_init_52 : decode cX2_init 52 = .ok (.aload_n 0, 1) := by decide +kernel
theorem dX2_init_53 : decode cX2_init 53 = .ok (.ldc2_w 36, 3) := by decide +kernel
theorem dX2_init_56 : decode cX2_init 56 = .ok (.putfield 38, 3) := by decide +kernel
theorem dX2_init_59 : decode cX2_init 59 = .ok (.aload_n 0, 1) := by decide +kernel
theorem dX2_init_60 : decode cX2_init 60 = .ok (.lconst 0, 1) := by decide +kernel
theorem dX2_init_61 : decode cX2_init 61 = .ok (.putfield 42, 3) := by decide +kernel
theorem dX2_init_64 : decode cX2_init 64 = .ok (.aload_n 0, 1) := by decide +kernel
theorem dX2_init_65 : decode cX2_init 65 = .ok (.new 45, 3) := by decide +kernel
theorem dX2_init_68 : decode cX2_init 68 = .ok (.dup, 1) := by decide +kernel
theorem dX2_init_69 : decode cX2_init 69 = .ok (.invokespecial 47, 3) := by decide +kernel
theorem dX2_init_72 : decode cX2_init 72 = .ok (.putfield 48, 3) := by decide +kernel
theorem dX2_init_75 : decode cX2_init 75 = .ok (.aload_n 0, 1) := by decide +kernel
theorem dX2_init_76 : decode cX2_init 76 = .ok (.iconst 0, 1) := by decide +kernel
theorem dX2_init_77 : decode cX2_init 77 = .ok (.putfield 52, 3) := by decide +kernel
theorem dX2_init_80 : decode cX2_init 80 = .ok (.aload_n 0, 1) := by decide +kernel
theorem dX2_init_81 : decode cX2_init 81 = .ok (.new 45, 3) := by decide +kernel
theorem dX2_init_84 : decode cX2_init 84 = .ok (.dup, 1) := by decide +kernel
theorem dX2_init_85 : decode cX2_init 85 = .ok (.invokespecial 47, 3) := by decide +kernel
theorem dX2_init_88 : decode cX2_init 88 = .ok (.putfield 56, 3) := by decide +kernel
theorem dX2_init_91 : decode cX2_init 91 = .ok (.aload_n 0, 1) := by decide +kernel
theorem dX2_init_92 : decode cX2_init 92 = .ok (.iconst 0, 1) := by decide +kernel
theorem dX2_init_93 : decode cX2_init 93 = .ok (.putfield 59, 3) := by decide +kernel
theorem dX2_init_96 : decode cX2_init 96 = .ok (.return_, 1) := by decide +kernel
set_option maxRecDepth 20000 in
theorem ggX2_type_X1_append : GoodIn wsX2_type wsX1_append := goodIn_r _ [7, 8, 9, 23, 24, 25, 26, 27, 28, 29, 30, 31, 32, 33] (by decide +kernel) (by decide +kernel)
set_option maxRecDepth 20000 in
theorem gX2_type_X1_append : GoodIn wsX2_type (wsV RX2 65 RX1 yX1_append wsX1_append) := goodIn_app (goodIn_of _ (by decide +kernel)) ggX2_type_X1_append
theorem dX2_type_0 : decode cX2_type 0 = .ok (.iload_n 3, 1) := by decide +kernel
theorem dX2_type_1 : decode cX2_type 1 = .ok (.iconst 1, 1) := by decide +kernel
theorem dX2_type_2 : decode cX2_type 2 = .ok (.if_icmp .lt 9, 3) := by decide +kernel
theorem dX2_type_5 : decode cX2_type 5 = .ok (.iload_n 3, 1) := by decide +kernel
theorem dX2_type_6 : decode cX2_type 6 = .ok (.bipush 8, 2) := by decide +kernel
theorem dX2_type_8 : decode cX2_type 8 = .ok (.if_icmp .le 5, 3) := by decide +kernel
theorem dX2_type_11 : decode cX2_type 11 = .ok (.iconst (-1), 1) := by decide +kernel
theorem dX2_type_12 : decode cX2_type 12 = .ok (.ireturn, 1) := by decide +kernel
theorem dX2_type_13 : decode cX2_type 13 = .ok (.aload_n 0, 1) := by decide +kernel
theorem dX2_type_14 : decode cX2_type 14 = .ok (.getfield 12, 3) := by decide +kernel
theorem dX2_type_17 : decode cX2_type 17 = .ok (.getfield 62, 3) := by decide +kernel
theorem dX2_type_20 : decode cX2_type 20 = .ok (.iload_n 3, 1) := by decide +kernel
theorem dX2_type_21 : decode cX2_type 21 = .ok (.iadd, 1) := by decide +kernel
theorem dX2_type_22 : decode cX2_type 22 = .ok (.sipush 400, 3) := by decide +kernel
theorem dX2_type_25 : decode cX2_type 25 = .ok (.if_icmp .le 6, 3) := by decide +kernel
theorem dX2_type_28 : decode cX2_type 28 = .ok (.bipush (-3), 2) := by decide +kernel
theorem dX2_type_30 : decode cX2_type 30 = .ok (.ireturn, 1) := by decide +kernel
theorem dX2_type_31 : decode cX2_type 31 = .ok (.iload_n 3, 1) := by decide +kernel
theorem dX2_type_32 : decode cX2_type 32 = .ok (.iconst 1, 1) := by decide +kernel
theorem dX2_type_33 : decode cX2_type 33 = .ok (.isub, 1) := by decide +kernel
theorem dX2_type_34 : decode cX2_type 34 = .ok (.istore 4, 2) := by decide +kernel
theorem dX2_type_36 : decode cX2_type 36 = .ok (.iload 4, 2) := by decide +kernel
theorem dX2_type_38 : decode cX2_type 38 = .ok (.ifCond .lt 28, 3) := by decide +kernel
theorem dX2_type_41 : decode cX2_type 41 = .ok (.aload_n 0, 1) := by decide +kernel
theorem dX2_type_42 : decode cX2_type 42 = .ok (.getfield 12, 3) := by decide +kernel
theorem dX2_type_45 : decode cX2_type 45 = .ok (.lload_n 1, 1) := by decide +kernel
theorem dX2_type_46 : decode cX2_type 46 = .ok (.bipush 8, 2) := by decide +kernel
theorem dX2_type_48 : decode cX2_type 48 = .ok (.iload 4, 2) := by decide +kernel
theorem dX2_type_50 : decode cX2_type 50 = .ok (.imul, 1) := by decide +kernel
theorem dX2_type_51 : decode cX2_type 51 = .ok (.lushr, 1) := by decide +kernel
theorem dX2_type_52 : decode cX2_type 52 = .ok (.l2i, 1) := by decide +kernel
theorem dX2_type_53 : decode cX2_type 53 = .ok (.sipush 255, 3) := by decide +kernel
theorem dX2_type_56 : decode cX2_type 56 = .ok (.iand, 1) := by decide +kernel
theorem dX2_type_57 : decode cX2_type 57 = .ok (.invokevirtual 65, 3) := by decide +kernel
theorem dX2_type_60 : decode cX2_type 60 = .ok (.iinc 4 (-1), 3) := by decide +kernel
theorem dX2_type_63 : decode cX2_type 63 = .ok (.goto (-27), 3) := by decide +kernel
theorem dX2_type_66 : decode cX2_type 66 = .ok (.aload_n 0, 1) := by decide +kernel
theorem dX2_type_67 : decode cX2_type 67 = .ok (.getfield 12, 3) := by decide +kernel
theorem dX2_type_70 : decode cX2_type 70 = .ok (.getfield 62, 3) := by decide +kernel
theorem dX2_type_73 : decode cX2_type 73 = .ok (.ireturn, 1) := by decide +kernel
theorem dX2_clear_0 : decode cX2_clear 0 = .ok (.aload_n 0, 1) := by decide +kernel
theorem dX2_clear_1 : decode cX2_clear 1 = .ok (.getfield 12, 3) := by decide +kernel
theorem dX2_clear_4 : decode cX2_clear 4 = .ok (.getfield 62, 3) := by decide +kernel
theorem dX2_clear_7 : decode cX2_clear 7 = .ok (.istore_n 1, 1) := by decide +kernel
theorem dX2_clear_8 : decode cX2_clear 8 = .ok (.aload_n 0, 1) := by decide +kernel
theorem dX2_clear_9 : decode cX2_clear 9 = .ok (.getfield 12, 3) := by decide +kernel
theorem dX2_clear_12 : decode cX2_clear 12 = .ok (.iconst 0, 1) := by decide +kernel
theorem dX2_clear_13 : decode cX2_clear 13 = .ok (.putfield 62, 3) := by decide +kernel
theorem dX2_clear_16 : decode cX2_clear 16 = .ok (.iload_n 1, 1) := by decide +kernel
theorem dX2_clear_17 : decode cX2_clear 17 = .ok (.ireturn, 1) := by decide +kernel
set_option maxRecDepth 20000 in
theorem ggX2_given_X1_readGiven : GoodIn wsX2_given wsX1_readGiven := goodIn_r _ [15, 16, 17, 18, 19, 20, 21, 14, 22, 23, 24, 25, 26, 27, 28, 29, 30, 31, 32, 33, 34, 35, 36, 37, 38, 39, 40, 41, 42, 43, 44, 45, 46, 47, 48, 49, 50, 51, 52, 53, 54, 55, 56, 57, 58, 59, 60, 61, 62, 63, 64, 65, 66, 67, 68, 69, 70, 71, 72, 73, 74, 75, 76, 77, 78, 79, 80, 81, 82, 83, 84, 85, 86, 87, 88, 89, 90, 91, 92, 93, 94, 95, 96, 97, 98, 99, 100, 101, 102, 103, 104, 105, 106, 107, 108, 109, 110, 111, 112, 113, 114, 115, 116, 117, 118, 119, 120, 121, 122, 153, 154, 155, 156, 157, 158, 159, 160, 161, 162, 163] (by decide +kernel) (by decide +kernel)
set_option maxRecDepth 20000 in
theorem gX2_given_X1_readGiven : GoodIn wsX2_given (wsV RX2 69 RX1 yX1_readGiven wsX1_readGiven) := goodIn_app (goodIn_of _ (by decide +kernel)) ggX2_given_X1_readGiven
set_option maxRecDepth 20000 in
theorem ggX2_given_X2_dropProof : GoodIn wsX2_given wsX2_dropProof := goodIn_r _ [127, 128, 129, 140, 141, 142, 143, 144, 145, 146, 147, 148, 149, 150, 151, 152] (by decide +kernel) (by decide +kernel)
set_option maxRecDepth 20000 in
theorem gX2_given_X2_dropProof : GoodIn wsX2_given (wsV RX2 73 RX2 yX2_dropProof wsX2_dropProof) := goodIn_app (goodIn_of _ (by decide +kernel)) ggX2_given_X2_dropProof
set_option maxRecDepth 20000 in
theorem ggX2_given_X2_appendLine : GoodIn wsX2_given wsX2_appendLine := goodIn_r _ [133, 3, 134, 135, 136, 137, 126, 138, 139, 4, 140, 141, 142, 143, 144, 145, 146, 147, 148, 149, 150, 151, 152] (by decide +kernel) (by decide +kernel)
set_option maxRecDepth 20000 in
theorem gX2_given_X2_appendLine : GoodIn wsX2_given (wsV RX2 82 RX2 yX2_appendLine wsX2_appendLine) := goodIn_app (goodIn_of _ (by decide +kernel)) ggX2_given_X2_appendLine
set_option maxRecDepth 20000 in
theorem ggX2_given_X2_valuesOf : GoodIn wsX2_given wsX2_valuesOf := goodIn_r _ [138, 139, 4] (by decide +kernel) (by decide +kernel)
set_option maxRecDepth 20000 in
theorem gX2_given_X2_valuesOf : GoodIn wsX2_given (va_wsS RX2 86 yX2_valuesOf wsX2_valuesOf) := goodIn_app (goodIn_of _ (by decide +kernel)) ggX2_given_X2_valuesOf
theorem dX2_given_0 : decode cX2_given 0 = .ok (.aload_n 0, 1) := by decide +kernel
theorem dX2_given_1 : decode cX2_given 1 = .ok (.getfield 12, 3) := by decide +kernel
theorem dX2_given_4 : decode cX2_given 4 = .ok (.invokevirtual 69, 3) := by decide +kernel
theorem dX2_given_7 : decode cX2_given 7 = .ok (.istore_n 1, 1) := by decide +kernel
theorem dX2_given_8 : decode cX2_given 8 = .ok (.iload_n 1, 1) := by decide +kernel
theorem dX2_given_9 : decode cX2_given 9 = .ok (.iconst (-1), 1) := by decide +kernel
theorem dX2_given_10 : decode cX2_given 10 = .ok (.if_icmp .eq 8, 3) := by decide +kernel
theorem dX2_given_13 : decode cX2_given 13 = .ok (.bipush (-10), 2) := by decide +kernel
theorem dX2_given_15 : decode cX2_given 15 = .ok (.iload_n 1, 1) := by decide +kernel
theorem dX2_given_16 : decode cX2_given 16 = .ok (.isub, 1) := by decide +kernel
theorem dX2_given_17 : decode cX2_given 17 = .ok (.ireturn, 1) := by decide +kernel
theorem dX2_given_18 : decode cX2_given 18 = .ok (.aload_n 0, 1) := by decide +kernel
theorem dX2_given_19 : decode cX2_given 19 = .ok (.getfield 12, 3) := by decide +kernel
theorem dX2_given_22 : decode cX2_given 22 = .ok (.iconst 0, 1) := by decide +kernel
theorem dX2_given_23 : decode cX2_given 23 = .ok (.putfield 62, 3) := by decide +kernel
theorem dX2_given_26 : decode cX2_given 26 = .ok (.aload_n 0, 1) := by decide +kernel
theorem dX2_given_27 : decode cX2_given 27 = .ok (.iconst 0, 1) := by decide +kernel
theorem dX2_given_28 : decode cX2_given 28 = .ok (.putfield 23, 3) := by decide +kernel
theorem dX2_given_31 : decode cX2_given 31 = .ok (.aload_n 0, 1) := by decide +kernel
theorem dX2_given_32 : decode cX2_given 32 = .ok (.invokevirtual 73, 3) := by decide +kernel
theorem dX2_given_35 : decode cX2_given 35 = .ok (.aload_n 0, 1) := by decide +kernel
theorem dX2_given_36 : decode cX2_given 36 = .ok (.ldc2_w 36, 3) := by decide +kernel
theorem dX2_given_39 : decode cX2_given 39 = .ok (.putfield 38, 3) := by decide +kernel
theorem dX2_given_42 : decode cX2_given 42 = .ok (.iconst 0, 1) := by decide +kernel
theorem dX2_given_43 : decode cX2_given 43 = .ok (.istore_n 2, 1) := by decide +kernel
theorem dX2_given_44 : decode cX2_given 44 = .ok (.iload_n 2, 1) := by decide +kernel
theorem dX2_given_45 : decode cX2_given 45 = .ok (.aload_n 0, 1) := by decide +kernel
theorem dX2_given_46 : decode cX2_given 46 = .ok (.getfield 12, 3) := by decide +kernel
theorem dX2_given_49 : decode cX2_given 49 = .ok (.getfield 76, 3) := by decide +kernel
theorem dX2_given_52 : decode cX2_given 52 = .ok (.if_icmp .ge 53, 3) := by decide +kernel
theorem dX2_given_55 : decode cX2_given 55 = .ok (.iload_n 2, 1) := by decide +kernel
theorem dX2_given_56 : decode cX2_given 56 = .ok (.bipush 8, 2) := by decide +kernel
theorem dX2_given_58 : decode cX2_given 58 = .ok (.if_icmp .ge 47, 3) := by decide +kernel
theorem dX2_given_61 : decode cX2_given 61 = .ok (.aload_n 0, 1) := by decide +kernel
theorem dX2_given_62 : decode cX2_given 62 = .ok (.aload_n 0, 1) := by decide +kernel
theorem dX2_given_63 : decode cX2_given 63 = .ok (.getfield 12, 3) := by decide +kernel
theorem dX2_given_66 : decode cX2_given 66 = .ok (.getfield 79, 3) := by decide +kernel
theorem dX2_given_69 : decode cX2_given 69 = .ok (.iload_n 2, 1) := by decide +kernel
theorem dX2_given_70 : decode cX2_given 70 = .ok (.laload, 1) := by decide +kernel
theorem dX2_given_71 : decode cX2_given 71 = .ok (.invokevirtual 82, 3) := by decide +kernel
theorem dX2_given_74 : decode cX2_given 74 = .ok (.aload_n 0, 1) := by decide +kernel
theorem dX2_given_75 : decode cX2_given 75 = .ok (.dup, 1) := by decide +kernel
theorem dX2_given_76 : decode cX2_given 76 = .ok (.getfield 38, 3) := by decide +kernel
theorem dX2_given_79 : decode cX2_given 79 = .ok (.aload_n 0, 1) := by decide +kernel
theorem dX2_given_80 : decode cX2_given 80 = .ok (.getfield 12, 3) := by decide +kernel
theorem dX2_given_83 : decode cX2_given 83 = .ok (.getfield 79, 3) := by decide +kernel
theorem dX2_given_86 : decode cX2_given 86 = .ok (.iload_n 2, 1) := by decide +kernel
theorem dX2_given_87 : decode cX2_given 87 = .ok (.laload, 1) := by decide +kernel
theorem dX2_given_88 : decode cX2_given 88 = .ok (.invokestatic 86, 3) := by decide +kernel
theorem dX2_given_91 : decode cX2_given 91 = .ok (.ldc2_w 36, 3) := by decide +kernel
theorem dX2_given_94 : decode cX2_given 94 = .ok (.lxor, 1) := by decide +kernel
theorem dX2_given_95 : decode cX2_given 95 = .ok (.land, 1) := by decide +kernel
theorem dX2_given_96 : decode cX2_given 96 = .ok (.putfield 38, 3) := by decide +kernel
theorem dX2_given_99 : decode cX2_given 99 = .ok (.iinc 2 1, 3) := by decide +kernel
theorem dX2_given_102 : decode cX2_given 102 = .ok (.goto (-58), 3) := by decide +kernel
theorem dX2_given_105 : decode cX2_given 105 = .ok (.aload_n 0, 1) := by decide +kernel
theorem dX2_given_106 : decode cX2_given 106 = .ok (.aload_n 0, 1) := by decide +kernel
theorem dX2_given_107 : decode cX2_given 107 = .ok (.getfield 23, 3) := by decide +kernel
theorem dX2_given_110 : decode cX2_given 110 = .ok (.putfield 27, 3) := by decide +kernel
theorem dX2_given_113 : decode cX2_given 113 = .ok (.aload_n 0, 1) := by decide +kernel
theorem dX2_given_114 : decode cX2_given 114 = .ok (.iconst 0, 1) := by decide +kernel
theorem dX2_given_115 : decode cX2_given 115 = .ok (.putfield 52, 3) := by decide +kernel
theorem dX2_given_118 : decode cX2_given 118 = .ok (.aload_n 0, 1) := by decide +kernel
theorem dX2_given_119 : decode cX2_given 119 = .ok (.iconst 0, 1) := by decide +kernel
theorem dX2_given_120 : decode cX2_given 120 = .ok (.putfield 59, 3) := by decide +kernel
theorem dX2_given_123 : decode cX2_given 123 = .ok (.aload_n 0, 1) := by decide +kernel
theorem dX2_given_124 : decode cX2_given 124 = .ok (.getfield 27, 3) := by decide +kernel
theorem dX2_given_127 : decode cX2_given 127 = .ok (.ireturn, 1) := by decide +kernel
set_option maxRecDepth 20000 in
theorem ggX2_proof_X1_readProof : GoodIn wsX2_proof wsX1_readProof := goodIn_r _ [11, 12, 13, 14, 15, 16, 17, 10, 18, 19, 20, 21, 22, 23, 24, 25, 26, 27, 28, 29, 30, 31, 32, 33, 34, 35, 36, 37, 38, 39, 40, 41, 42, 43, 44, 45, 46, 47, 48, 49, 50, 51, 52, 53, 54, 55, 56, 57, 58, 59, 60, 61, 62, 63, 64, 65, 66, 67, 68, 69, 70, 71, 72, 73, 74, 75, 76, 77, 78, 79, 80, 81, 82, 83, 84, 85, 86, 87, 88, 89, 90, 91, 92, 93, 94, 95, 96, 97, 98, 99, 100, 101, 102, 103, 104, 105, 106, 107, 108, 109, 110, 111, 112, 113, 114, 115, 116, 117, 118, 119, 120, 121, 122, 123, 124, 125, 126, 127, 128, 129, 130, 131, 132, 133, 134, 135, 136, 137, 138, 139, 140, 141, 142, 143, 144, 199, 200, 201, 202, 203, 204, 205, 206, 207, 208, 209] (by decide +kernel) (by decide +kernel)
set_option maxRecDepth 20000 in
theorem gX2_proof_X1_readProof : GoodIn wsX2_proof (wsV RX2 90 RX1 yX1_readProof wsX1_readProof) := goodIn_app (goodIn_of _ (by decide +kernel)) ggX2_proof_X1_readProof
set_option maxRecDepth 20000 in
theorem ggX2_proof_X2_dropProof : GoodIn wsX2_proof wsX2_dropProof := goodIn_r _ [149, 6, 150, 186, 187, 188, 189, 190, 191, 192, 193, 194, 195, 196, 197, 198] (by decide +kernel) (by decide +kernel)
set_option maxRecDepth 20000 in
theorem gX2_proof_X2_dropProof : GoodIn wsX2_proof (wsV RX2 73 RX2 yX2_dropProof wsX2_dropProof) := goodIn_app (goodIn_of _ (by decide +kernel)) ggX2_proof_X2_dropProof
set_option maxRecDepth 20000 in
theorem ggX2_proof_X2_carryOutSteps : GoodIn wsX2_proof wsX2_carryOutSteps := goodIn_r _ [154, 6, 1, 155, 156, 150, 157, 158, 159, 148, 160, 161, 162, 163, 164, 165, 166, 167, 168, 169, 170, 171, 172, 4, 173, 174, 175, 176, 177, 178, 179, 180, 181, 182, 183, 184, 185, 186, 187, 188, 189, 190, 191, 192, 193, 194, 195, 196, 197, 198, 199, 200, 201, 202, 203, 204, 205, 206, 207, 208, 209] (by decide +kernel) (by decide +kernel)
set_option maxRecDepth 20000 in
theorem gX2_proof_X2_carryOutSteps : GoodIn wsX2_proof (wsV RX2 94 RX2 yX2_carryOutSteps wsX2_carryOutSteps) := goodIn_app (goodIn_of _ (by decide +kernel)) ggX2_proof_X2_carryOutSteps
theorem dX2_proof_0 : decode cX2_proof 0 = .ok (.aload_n 0, 1) := by decide +kernel
theorem dX2_proof_1 : decode cX2_proof 1 = .ok (.getfield 12, 3) := by decide +kernel
theorem dX2_proof_4 : decode cX2_proof 4 = .ok (.aload_n 0, 1) := by decide +kernel
theorem dX2_proof_5 : decode cX2_proof 5 = .ok (.getfield 27, 3) := by decide +kernel
theorem dX2_proof_8 : decode cX2_proof 8 = .ok (.invokevirtual 90, 3) := by decide +kernel
theorem dX2_proof_11 : decode cX2_proof 11 = .ok (.istore_n 1, 1) := by decide +kernel
theorem dX2_proof_12 : decode cX2_proof 12 = .ok (.iload_n 1, 1) := by decide +kernel
theorem dX2_proof_13 : decode cX2_proof 13 = .ok (.iconst (-1), 1) := by decide +kernel
theorem dX2_proof_14 : decode cX2_proof 14 = .ok (.if_icmp .eq 8, 3) := by decide +kernel
theorem dX2_proof_17 : decode cX2_proof 17 = .ok (.bipush (-10), 2) := by decide +kernel
theorem dX2_proof_19 : decode cX2_proof 19 = .ok (.iload_n 1, 1) := by decide +kernel
theorem dX2_proof_20 : decode cX2_proof 20 = .ok (.isub, 1) := by decide +kernel
theorem dX2_proof_21 : decode cX2_proof 21 = .ok (.ireturn, 1) := by decide +kernel
theorem dX2_proof_22 : decode cX2_proof 22 = .ok (.aload_n 0, 1) := by decide +kernel
theorem dX2_proof_23 : decode cX2_proof 23 = .ok (.getfield 12, 3) := by decide +kernel
theorem dX2_proof_26 : decode cX2_proof 26 = .ok (.iconst 0, 1) := by decide +kernel
theorem dX2_proof_27 : decode cX2_proof 27 = .ok (.putfield 62, 3) := by decide +kernel
theorem dX2_proof_30 : decode cX2_proof 30 = .ok (.aload_n 0, 1) := by decide +kernel
theorem dX2_proof_31 : decode cX2_proof 31 = .ok (.aload_n 0, 1) := by decide +kernel
theorem dX2_proof_32 : decode cX2_proof 32 = .ok (.getfield 27, 3) := by decide +kernel
theorem dX2_proof_35 : decode cX2_proof 35 = .ok (.putfield 23, 3) := by decide +kernel
theorem dX2_proof_38 : decode cX2_proof 38 = .ok (.aload_n 0, 1) := by decide +kernel
theorem dX2_proof_39 : decode cX2_proof 39 = .ok (.invokevirtual 73, 3) := by decide +kernel
theorem dX2_proof_42 : decode cX2_proof 42 = .ok (.aload_n 0, 1) := by decide +kernel
theorem dX2_proof_43 : decode cX2_proof 43 = .ok (.aload_n 0, 1) := by decide +kernel
theorem dX2_proof_44 : decode cX2_proof 44 = .ok (.getfield 12, 3) := by decide +kernel
theorem dX2_proof_47 : decode cX2_proof 47 = .ok (.getfield 76, 3) := by decide +kernel
theorem dX2_proof_50 : decode cX2_proof 50 = .ok (.putfield 30, 3) := by decide +kernel
theorem dX2_proof_53 : decode cX2_proof 53 = .ok (.aload_n 0, 1) := by decide +kernel
theorem dX2_proof_54 : decode cX2_proof 54 = .ok (.invokevirtual 94, 3) := by decide +kernel
theorem dX2_proof_57 : decode cX2_proof 57 = .ok (.aload_n 0, 1) := by decide +kernel
theorem dX2_proof_58 : decode cX2_proof 58 = .ok (.getfield 23, 3) := by decide +kernel
theorem dX2_proof_61 : decode cX2_proof 61 = .ok (.aload_n 0, 1) := by decide +kernel
theorem dX2_proof_62 : decode cX2_proof 62 = .ok (.getfield 27, 3) := by decide +kernel
theorem dX2_proof_65 : decode cX2_proof 65 = .ok (.isub, 1) := by decide +kernel
theorem dX2_proof_66 : decode cX2_proof 66 = .ok (.ireturn, 1) := by decide +kernel
theorem dX2_wrong_0 : decode cX2_wrong 0 = .ok (.aload_n 0, 1) := by decide +kernel
theorem dX2_wrong_1 : decode cX2_wrong 1 = .ok (.getfield 33, 3) := by decide +kernel
theorem dX2_wrong_4 : decode cX2_wrong 4 = .ok (.ireturn, 1) := by decide +kernel
theorem dX2_end_0 : decode cX2_end 0 = .ok (.iconst 0, 1) := by decide +kernel
theorem dX2_end_1 : decode cX2_end 1 = .ok (.istore_n 1, 1) := by decide +kernel
theorem dX2_end_2 : decode cX2_end 2 = .ok (.iload_n 1, 1) := by decide +kernel
theorem dX2_end_3 : decode cX2_end 3 = .ok (.aload_n 0, 1) := by decide +kernel
theorem dX2_end_4 : decode cX2_end 4 = .ok (.getfield 23, 3) := by decide +kernel
theorem dX2_end_7 : decode cX2_end 7 = .ok (.if_icmp .ge 28, 3) := by decide +kernel
theorem dX2_end_10 : decode cX2_end 10 = .ok (.iload_n 1, 1) := by decide +kernel
theorem dX2_end_11 : decode cX2_end 11 = .ok (.bipush 32, 2) := by decide +kernel
theorem dX2_end_13 : decode cX2_end 13 = .ok (.if_icmp .ge 22, 3) := by decide +kernel
theorem dX2_end_16 : decode cX2_end 16 = .ok (.aload_n 0, 1) := by decide +kernel
theorem dX2_end_17 : decode cX2_end 17 = .ok (.getfield 16, 3) := by decide +kernel
theorem dX2_end_20 : decode cX2_end 20 = .ok (.iload_n 1, 1) := by decide +kernel
theorem dX2_end_21 : decode cX2_end 21 = .ok (.laload, 1) := by decide +kernel
theorem dX2_end_22 : decode cX2_end 22 = .ok (.lconst 1, 1) := by decide +kernel
theorem dX2_end_23 : decode cX2_end 23 = .ok (.lcmp, 1) := by decide +kernel
theorem dX2_end_24 : decode cX2_end 24 = .ok (.ifCond .ne 5, 3) := by decide +kernel
theorem dX2_end_27 : decode cX2_end 27 = .ok (.iload_n 1, 1) := by decide +kernel
theorem dX2_end_28 : decode cX2_end 28 = .ok (.ireturn, 1) := by decide +kernel
theorem dX2_end_29 : decode cX2_end 29 = .ok (.iinc 1 1, 3) := by decide +kernel
theorem dX2_end_32 : decode cX2_end 32 = .ok (.goto (-30), 3) := by decide +kernel
theorem dX2_end_35 : decode cX2_end 35 = .ok (.bipush (-9), 2) := by decide +kernel
theorem dX2_end_37 : decode cX2_end 37 = .ok (.ireturn, 1) := by decide +kernel
set_option maxRecDepth 20000 in
theorem ggX2_line_X2_sumOf : GoodIn wsX2_line wsX2_sumOf := goodIn_r _ [5, 6, 7, 8, 9, 4, 10, 11, 12, 13, 14, 15, 16, 17, 18, 19, 20, 21, 22, 23, 24] (by decide +kernel) (by decide +kernel)
set_option maxRecDepth 20000 in
theorem gX2_line_X2_sumOf : GoodIn wsX2_line (wsV RX2 97 RX2 yX2_sumOf wsX2_sumOf) := goodIn_app (goodIn_of _ (by decide +kernel)) ggX2_line_X2_sumOf
theorem dX2_line_0 : decode cX2_line 0 = .ok (.aload_n 0, 1) := by decide +kernel
theorem dX2_line_1 : decode cX2_line 1 = .ok (.iload_n 1, 1) := by decide +kernel
theorem dX2_line_2 : decode cX2_line 2 = .ok (.invokevirtual 97, 3) := by decide +kernel
theorem dX2_line_5 : decode cX2_line 5 = .ok (.lreturn, 1) := by decide +kernel
set_option maxRecDepth 20000 in
theorem ggX2_value_X2_isLine : GoodIn wsX2_value wsX2_isLine := goodIn_r _ [6, 7, 11, 12, 13, 14, 15, 16, 17, 18, 19, 20, 21, 22, 23] (by decide +kernel) (by decide +kernel)
set_option maxRecDepth 20000 in
theorem gX2_value_X2_isLine : GoodIn wsX2_value (wsV RX2 101 RX2 yX2_isLine wsX2_isLine) := goodIn_app (goodIn_of _ (by decide +kernel)) ggX2_value_X2_isLine
set_option maxRecDepth 20000 in
theorem ggX2_value_X2_hasBit : GoodIn wsX2_value wsX2_hasBit := goodIn_r _ [10] (by decide +kernel) (by decide +kernel)
set_option maxRecDepth 20000 in
theorem gX2_value_X2_hasBit : GoodIn wsX2_value (va_wsS RX2 105 yX2_hasBit wsX2_hasBit) := goodIn_app (goodIn_of _ (by decide +kernel)) ggX2_value_X2_hasBit
theorem dX2_value_0 : decode cX2_value 0 = .ok (.aload_n 0, 1) := by decide +kernel
theorem dX2_value_1 : decode cX2_value 1 = .ok (.iload_n 1, 1) := by decide +kernel
theorem dX2_value_2 : decode cX2_value 2 = .ok (.invokevirtual 101, 3) := by decide +kernel
theorem dX2_value_5 : decode cX2_value 5 = .ok (.ifCond .eq 13, 3) := by decide +kernel
theorem dX2_value_8 : decode cX2_value 8 = .ok (.iload_n 2, 1) := by decide +kernel
theorem dX2_value_9 : decode cX2_value 9 = .ok (.ifCond .lt 9, 3) := by decide +kernel
theorem dX2_value_12 : decode cX2_value 12 = .ok (.iload_n 2, 1) := by decide +kernel
theorem dX2_value_13 : decode cX2_value 13 = .ok (.bipush 64, 2) := by decide +kernel
theorem dX2_value_15 : decode cX2_value 15 = .ok (.if_icmp .lt 5, 3) := by decide +kernel
theorem dX2_value_18 : decode cX2_value 18 = .ok (.iconst (-1), 1) := by decide +kernel
theorem dX2_value_19 : decode cX2_value 19 = .ok (.ireturn, 1) := by decide +kernel
theorem dX2_value_20 : decode cX2_value 20 = .ok (.aload_n 0, 1) := by decide +kernel
theorem dX2_value_21 : decode cX2_value 21 = .ok (.getfield 20, 3) := by decide +kernel
theorem dX2_value_24 : decode cX2_value 24 = .ok (.iload_n 1, 1) := by decide +kernel
theorem dX2_value_25 : decode cX2_value 25 = .ok (.laload, 1) := by decide +kernel
theorem dX2_value_26 : decode cX2_value 26 = .ok (.iload_n 2, 1) := by decide +kernel
theorem dX2_value_27 : decode cX2_value 27 = .ok (.invokestatic 105, 3) := by decide +kernel
theorem dX2_value_30 : decode cX2_value 30 = .ok (.ifCond .eq 7, 3) := by decide +kernel
theorem dX2_value_33 : decode cX2_value 33 = .ok (.iconst 1, 1) := by decide +kernel
theorem dX2_value_34 : decode cX2_value 34 = .ok (.goto 4, 3) := by decide +kernel
theorem dX2_value_37 : decode cX2_value 37 = .ok (.iconst 0, 1) := by decide +kernel
theorem dX2_value_38 : decode cX2_value 38 = .ok (.ireturn, 1) := by decide +kernel
set_option maxRecDepth 20000 in
theorem ggX2_lead_X2_isLine : GoodIn wsX2_lead wsX2_isLine := goodIn_r _ [6, 7, 25, 26, 27, 28, 29, 30, 31, 32, 33, 34, 35, 36, 37] (by decide +kernel) (by decide +kernel)
set_option maxRecDepth 20000 in
theorem gX2_lead_X2_isLine : GoodIn wsX2_lead (wsV RX2 101 RX2 yX2_isLine wsX2_isLine) := goodIn_app (goodIn_of _ (by decide +kernel)) ggX2_lead_X2_isLine
set_option maxRecDepth 20000 in
theorem ggX2_lead_X2_degreeOf : GoodIn wsX2_lead wsX2_degreeOf := goodIn_r _ [10, 11, 12, 5, 13, 14, 15, 16, 17, 18, 19, 20, 21, 22, 23, 24] (by decide +kernel) (by decide +kernel)
set_option maxRecDepth 20000 in
theorem gX2_lead_X2_degreeOf : GoodIn wsX2_lead (va_wsS RX2 109 yX2_degreeOf wsX2_degreeOf) := goodIn_app (goodIn_of _ (by decide +kernel)) ggX2_lead_X2_degreeOf
set_option maxRecDepth 20000 in
theorem ggX2_lead_X2_leadOf : GoodIn wsX2_lead wsX2_leadOf := goodIn_r _ [13, 14, 15, 16, 5, 17] (by decide +kernel) (by decide +kernel)
set_option maxRecDepth 20000 in
theorem gX2_lead_X2_leadOf : GoodIn wsX2_lead (va_wsS RX2 113 yX2_leadOf wsX2_leadOf) := goodIn_app (goodIn_of _ (by decide +kernel)) ggX2_lead_X2_leadOf
theorem dX2_lead_0 : decode cX2_lead 0 = .ok (.aload_n 0, 1) := by decide +kernel
theorem dX2_lead_1 : decode cX2_lead 1 = .ok (.iload_n 1, 1) := by decide +kernel
theorem dX2_lead_2 : decode cX2_lead 2 = .ok (.invokevirtual 101, 3) := by decide +kernel
theorem dX2_lead_5 : decode cX2_lead 5 = .ok (.ifCond .eq 12, 3) := by decide +kernel
theorem dX2_lead_8 : decode cX2_lead 8 = .ok (.iload_n 2, 1) := by decide +kernel
theorem dX2_lead_9 : decode cX2_lead 9 = .ok (.ifCond .lt 8, 3) := by decide +kernel
theorem dX2_lead_12 : decode cX2_lead 12 = .ok (.iload_n 2, 1) := by decide +kernel
theorem dX2_lead_13 : decode cX2_lead 13 = .ok (.iconst 1, 1) := by decide +kernel
theorem dX2_lead_14 : decode cX2_lead 14 = .ok (.if_icmp .le 5, 3) := by decide +kernel
theorem dX2_lead_17 : decode cX2_lead 17 = .ok (.iconst (-1), 1) := by decide +kernel
theorem dX2_lead_18 : decode cX2_lead 18 = .ok (.ireturn, 1) := by decide +kernel
theorem dX2_lead_19 : decode cX2_lead 19 = .ok (.iload_n 2, 1) := by decide +kernel
theorem dX2_lead_20 : decode cX2_lead 20 = .ok (.ifCond .ne 15, 3) := by decide +kernel
theorem dX2_lead_23 : decode cX2_lead 23 = .ok (.aload_n 0, 1) := by decide +kernel
theorem dX2_lead_24 : decode cX2_lead 24 = .ok (.getfield 16, 3) := by decide +kernel
theorem dX2_lead_27 : decode cX2_lead 27 = .ok (.iload_n 1, 1) := by decide +kernel
theorem dX2_lead_28 : decode cX2_lead 28 = .ok (.laload, 1) := by decide +kernel
theorem dX2_lead_29 : decode cX2_lead 29 = .ok (.invokestatic 109, 3) := by decide +kernel
theorem dX2_lead_32 : decode cX2_lead 32 = .ok (.goto 12, 3) := by decide +kernel
theorem dX2_lead_35 : decode cX2_lead 35 = .ok (.aload_n 0, 1) := by decide +kernel
theorem dX2_lead_36 : decode cX2_lead 36 = .ok (.getfield 16, 3) := by decide +kernel
theorem dX2_lead_39 : decode cX2_lead 39 = .ok (.iload_n 1, 1) := by decide +kernel
theorem dX2_lead_40 : decode cX2_lead 40 = .ok (.laload, 1) := by decide +kernel
theorem dX2_lead_41 : decode cX2_lead 41 = .ok (.invokestatic 113, 3) := by decide +kernel
theorem dX2_lead_44 : decode cX2_lead 44 = .ok (.ireturn, 1) := by decide +kernel
set_option maxRecDepth 20000 in
theorem ggX2_both_X2_isLine : GoodIn wsX2_both wsX2_isLine := goodIn_r _ [6, 7, 16, 17, 18, 19, 20, 21, 22, 23, 24, 25, 26, 27, 28] (by decide +kernel) (by decide +kernel)
set_option maxRecDepth 20000 in
theorem gX2_both_X2_isLine : GoodIn wsX2_both (wsV RX2 101 RX2 yX2_isLine wsX2_isLine) := goodIn_app (goodIn_of _ (by decide +kernel)) ggX2_both_X2_isLine
set_option maxRecDepth 20000 in
theorem ggX2_both_X2_multiplied : GoodIn wsX2_both wsX2_multiplied := goodIn_r _ [10, 11, 12, 5, 13, 14, 15] (by decide +kernel) (by decide +kernel)
set_option maxRecDepth 20000 in
theorem gX2_both_X2_multiplied : GoodIn wsX2_both (va_wsS RX2 116 yX2_multiplied wsX2_multiplied) := goodIn_app (goodIn_of _ (by decide +kernel)) ggX2_both_X2_multiplied
theorem dX2_both_0 : decode cX2_both 0 = .ok (.aload_n 0, 1) := by decide +kernel
theorem dX2_both_1 : decode cX2_both 1 = .ok (.iload_n 1, 1) := by decide +kernel
theorem dX2_both_2 : decode cX2_both 2 = .ok (.invokevirtual 101, 3) := by decide +kernel
theorem dX2_both_5 : decode cX2_both 5 = .ok (.ifCond .eq 20, 3) := by decide +kernel
theorem dX2_both_8 : decode cX2_both 8 = .ok (.aload_n 0, 1) := by decide +kernel
theorem dX2_both_9 : decode cX2_both 9 = .ok (.iload_n 2, 1) := by decide +kernel
theorem dX2_both_10 : decode cX2_both 10 = .ok (.invokevirtual 101, 3) := by decide +kernel
theorem dX2_both_13 : decode cX2_both 13 = .ok (.ifCond .eq 12, 3) := by decide +kernel
theorem dX2_both_16 : decode cX2_both 16 = .ok (.iload_n 3, 1) := by decide +kernel
theorem dX2_both_17 : decode cX2_both 17 = .ok (.ifCond .lt 8, 3) := by decide +kernel
theorem dX2_both_20 : decode cX2_both 20 = .ok (.iload_n 3, 1) := by decide +kernel
theorem dX2_both_21 : decode cX2_both 21 = .ok (.iconst 1, 1) := by decide +kernel
theorem dX2_both_22 : decode cX2_both 22 = .ok (.if_icmp .le 5, 3) := by decide +kernel
theorem dX2_both_25 : decode cX2_both 25 = .ok (.lconst 0, 1) := by decide +kernel
theorem dX2_both_26 : decode cX2_both 26 = .ok (.lreturn, 1) := by decide +kernel
theorem dX2_both_27 : decode cX2_both 27 = .ok (.iload_n 3, 1) := by decide +kernel
theorem dX2_both_28 : decode cX2_both 28 = .ok (.ifCond .ne 21, 3) := by decide +kernel
theorem dX2_both_31 : decode cX2_both 31 = .ok (.aload_n 0, 1) := by decide +kernel
theorem dX2_both_32 : decode cX2_both 32 = .ok (.getfield 16, 3) := by decide +kernel
theorem dX2_both_35 : decode cX2_both 35 = .ok (.iload_n 1, 1) := by decide +kernel
theorem dX2_both_36 : decode cX2_both 36 = .ok (.laload, 1) := by decide +kernel
theorem dX2_both_37 : decode cX2_both 37 = .ok (.aload_n 0, 1) := by decide +kernel
theorem dX2_both_38 : decode cX2_both 38 = .ok (.getfield 16, 3) := by decide +kernel
theorem dX2_both_41 : decode cX2_both 41 = .ok (.iload_n 2, 1) := by decide +kernel
theorem dX2_both_42 : decode cX2_both 42 = .ok (.laload, 1) := by decide +kernel
theorem dX2_both_43 : decode cX2_both 43 = .ok (.invokestatic 116, 3) := by decide +kernel
theorem dX2_both_46 : decode cX2_both 46 = .ok (.goto 16, 3) := by decide +kernel
theorem dX2_both_49 : decode cX2_both 49 = .ok (.aload_n 0, 1) := by decide +kernel
theorem dX2_both_50 : decode cX2_both 50 = .ok (.getfield 16, 3) := by decide +kernel
theorem dX2_both_53 : decode cX2_both 53 = .ok (.iload_n 1, 1) := by decide +kernel
theorem dX2_both_54 : decode cX2_both 54 = .ok (.laload, 1) := by decide +kernel
theorem dX2_both_55 : decode cX2_both 55 = .ok (.aload_n 0, 1) := by decide +kernel
theorem dX2_both_56 : decode cX2_both 56 = .ok (.getfield 16, 3) := by decide +kernel
theorem dX2_both_59 : decode cX2_both 59 = .ok (.iload_n 2, 1) := by decide +kernel
theorem dX2_both_60 : decode cX2_both 60 = .ok (.laload, 1) := by decide +kernel
theorem dX2_both_61 : decode cX2_both 61 = .ok (.lxor, 1) := by decide +kernel
theorem dX2_both_62 : decode cX2_both 62 = .ok (.lreturn, 1) := by decide +kernel
set_option maxRecDepth 20000 in
theorem ggX2_with_X2_isLine : GoodIn wsX2_with wsX2_isLine := goodIn_r _ [8, 9, 10, 11, 12, 13, 14, 15, 16, 17, 18, 19, 20, 21, 22] (by decide +kernel) (by decide +kernel)
set_option maxRecDepth 20000 in
theorem gX2_with_X2_isLine : GoodIn wsX2_with (wsV RX2 101 RX2 yX2_isLine wsX2_isLine) := goodIn_app (goodIn_of _ (by decide +kernel)) ggX2_with_X2_isLine
theorem dX2_with_0 : decode cX2_with 0 = .ok (.aload_n 0, 1) := by decide +kernel
theorem dX2_with_1 : decode cX2_with 1 = .ok (.iload_n 1, 1) := by decide +kernel
theorem dX2_with_2 : decode cX2_with 2 = .ok (.invokevirtual 101, 3) := by decide +kernel
theorem dX2_with_5 : decode cX2_with 5 = .ok (.ifCond .eq 22, 3) := by decide +kernel
theorem dX2_with_8 : decode cX2_with 8 = .ok (.iload_n 2, 1) := by decide +kernel
theorem dX2_with_9 : decode cX2_with 9 = .ok (.ifCond .lt 18, 3) := by decide +kernel
theorem dX2_with_12 : decode cX2_with 12 = .ok (.iload_n 2, 1) := by decide +kernel
theorem dX2_with_13 : decode cX2_with 13 = .ok (.bipush 6, 2) := by decide +kernel
theorem dX2_with_15 : decode cX2_with 15 = .ok (.if_icmp .ge 12, 3) := by decide +kernel
theorem dX2_with_18 : decode cX2_with 18 = .ok (.iload_n 3, 1) := by decide +kernel
theorem dX2_with_19 : decode cX2_with 19 = .ok (.ifCond .lt 8, 3) := by decide +kernel
theorem dX2_with_22 : decode cX2_with 22 = .ok (.iload_n 3, 1) := by decide +kernel
theorem dX2_with_23 : decode cX2_with 23 = .ok (.iconst 1, 1) := by decide +kernel
theorem dX2_with_24 : decode cX2_with 24 = .ok (.if_icmp .le 5, 3) := by decide +kernel
theorem dX2_with_27 : decode cX2_with 27 = .ok (.lconst 0, 1) := by decide +kernel
theorem dX2_with_28 : decode cX2_with 28 = .ok (.lreturn, 1) := by decide +kernel
theorem dX2_with_29 : decode cX2_with 29 = .ok (.aload_n 0, 1) := by decide +kernel
theorem dX2_with_30 : decode cX2_with 30 = .ok (.getfield 16, 3) := by decide +kernel
theorem dX2_with_33 : decode cX2_with 33 = .ok (.iload_n 1, 1) := by decide +kernel
theorem dX2_with_34 : decode cX2_with 34 = .ok (.laload, 1) := by decide +kernel
theorem dX2_with_35 : decode cX2_with 35 = .ok (.getstatic 120, 3) := by decide +kernel
theorem dX2_with_38 : decode cX2_with 38 = .ok (.iload_n 2, 1) := by decide +kernel
theorem dX2_with_39 : decode cX2_with 39 = .ok (.laload, 1) := by decide +kernel
theorem dX2_with_40 : decode cX2_with 40 = .ok (.land, 1) := by decide +kernel
theorem dX2_with_41 : decode cX2_with 41 = .ok (.lstore 4, 2) := by decide +kernel
theorem dX2_with_43 : decode cX2_with 43 = .ok (.aload_n 0, 1) := by decide +kernel
theorem dX2_with_44 : decode cX2_with 44 = .ok (.getfield 16, 3) := by decide +kernel
theorem dX2_with_47 : decode cX2_with 47 = .ok (.iload_n 1, 1) := by decide +kernel
theorem dX2_with_48 : decode cX2_with 48 = .ok (.laload, 1) := by decide +kernel
theorem dX2_with_49 : decode cX2_with 49 = .ok (.getstatic 120, 3) := by decide +kernel
theorem dX2_with_52 : decode cX2_with 52 = .ok (.iload_n 2, 1) := by decide +kernel
theorem dX2_with_53 : decode cX2_with 53 = .ok (.laload, 1) := by decide +kernel
theorem dX2_with_54 : decode cX2_with 54 = .ok (.ldc2_w 36, 3) := by decide +kernel
theorem dX2_with_57 : decode cX2_with 57 = .ok (.lxor, 1) := by decide +kernel
theorem dX2_with_58 : decode cX2_with 58 = .ok (.land, 1) := by decide +kernel
theorem dX2_with_59 : decode cX2_with 59 = .ok (.lstore 6, 2) := by decide +kernel
theorem dX2_with_61 : decode cX2_with 61 = .ok (.iload_n 3, 1) := by decide +kernel
theorem dX2_with_62 : decode cX2_with 62 = .ok (.ifCond .ne 8, 3) := by decide +kernel
theorem dX2_with_65 : decode cX2_with 65 = .ok (.lload 6, 2) := by decide +kernel
theorem dX2_with_67 : decode cX2_with 67 = .ok (.goto 12, 3) := by decide +kernel
theorem dX2_with_70 : decode cX2_with 70 = .ok (.lload 6, 2) := by decide +kernel
theorem dX2_with_72 : decode cX2_with 72 = .ok (.lload 4, 2) := by decide +kernel
theorem dX2_with_74 : decode cX2_with 74 = .ok (.iconst 1, 1) := by decide +kernel
theorem dX2_with_75 : decode cX2_with 75 = .ok (.iload_n 2, 1) := by decide +kernel
theorem dX2_with_76 : decode cX2_with 76 = .ok (.ishl, 1) := by decide +kernel
theorem dX2_with_77 : decode cX2_with 77 = .ok (.lushr, 1) := by decide +kernel
theorem dX2_with_78 : decode cX2_with 78 = .ok (.lxor, 1) := by decide +kernel
theorem dX2_with_79 : decode cX2_with 79 = .ok (.lreturn, 1) := by decide +kernel
theorem dX2_common_0 : decode cX2_common 0 = .ok (.aload_n 0, 1) := by decide +kernel
theorem dX2_common_1 : decode cX2_common 1 = .ok (.getfield 38, 3) := by decide +kernel
theorem dX2_common_4 : decode cX2_common 4 = .ok (.lreturn, 1) := by decide +kernel
set_option maxRecDepth 20000 in
theorem ggX2_follows_X2_isLine : GoodIn wsX2_follows wsX2_isLine := goodIn_r _ [7, 8, 9, 10, 11, 12, 13, 14, 15, 16, 17, 18, 19, 20, 21] (by decide +kernel) (by decide +kernel)
set_option maxRecDepth 20000 in
theorem gX2_follows_X2_isLine : GoodIn wsX2_follows (wsV RX2 101 RX2 yX2_isLine wsX2_isLine) := goodIn_app (goodIn_of _ (by decide +kernel)) ggX2_follows_X2_isLine
theorem dX2_follows_0 : decode cX2_follows 0 = .ok (.aload_n 0, 1) := by decide +kernel
theorem dX2_follows_1 : decode cX2_follows 1 = .ok (.iload_n 1, 1) := by decide +kernel
theorem dX2_follows_2 : decode cX2_follows 2 = .ok (.invokevirtual 101, 3) := by decide +kernel
theorem dX2_follows_5 : decode cX2_follows 5 = .ok (.ifCond .ne 5, 3) := by decide +kernel
theorem dX2_follows_8 : decode cX2_follows 8 = .ok (.iconst (-1), 1) := by decide +kernel
theorem dX2_follows_9 : decode cX2_follows 9 = .ok (.ireturn, 1) := by decide +kernel
theorem dX2_follows_10 : decode cX2_follows 10 = .ok (.aload_n 0, 1) := by decide +kernel
theorem dX2_follows_11 : decode cX2_follows 11 = .ok (.getfield 20, 3) := by decide +kernel
theorem dX2_follows_14 : decode cX2_follows 14 = .ok (.iload_n 1, 1) := by decide +kernel
theorem dX2_follows_15 : decode cX2_follows 15 = .ok (.laload, 1) := by decide +kernel
theorem dX2_follows_16 : decode cX2_follows 16 = .ok (.aload_n 0, 1) := by decide +kernel
theorem dX2_follows_17 : decode cX2_follows 17 = .ok (.getfield 38, 3) := by decide +kernel
theorem dX2_follows_20 : decode cX2_follows 20 = .ok (.land, 1) := by decide +kernel
theorem dX2_follows_21 : decode cX2_follows 21 = .ok (.lconst 0, 1) := by decide +kernel
theorem dX2_follows_22 : decode cX2_follows 22 = .ok (.lcmp, 1) := by decide +kernel
theorem dX2_follows_23 : decode cX2_follows 23 = .ok (.ifCond .ne 7, 3) := by decide +kernel
theorem dX2_follows_26 : decode cX2_follows 26 = .ok (.iconst 1, 1) := by decide +kernel
theorem dX2_follows_27 : decode cX2_follows 27 = .ok (.goto 4, 3) := by decide +kernel
theorem dX2_follows_30 : decode cX2_follows 30 = .ok (.iconst 0, 1) := by decide +kernel
theorem dX2_follows_31 : decode cX2_follows 31 = .ok (.ireturn, 1) := by decide +kernel
set_option maxRecDepth 20000 in
theorem ggX2_standing_X2_standingProducts : GoodIn wsX2_standing wsX2_standingProducts := goodIn_r _ [5, 6, 7, 8, 9, 10, 11, 4, 12, 13, 14, 15, 16, 17, 18, 19, 20, 21, 22, 23, 24, 25, 26, 27, 28, 29, 30, 31, 32, 33, 34, 35, 36, 37, 38, 39, 40, 41, 42, 43, 44, 45, 46, 47, 48, 49, 50, 51, 52, 53, 54, 55, 56, 57, 58, 59, 60, 61, 62, 63, 64, 65, 66, 67, 68, 69, 70, 71, 72, 73, 74, 75, 76, 77, 78, 79, 80, 81, 82, 83, 84, 85, 86, 87, 88] (by decide +kernel) (by decide +kernel)
set_option maxRecDepth 20000 in
theorem gX2_standing_X2_standingProducts : GoodIn wsX2_standing (wsV RX2 123 RX2 yX2_standingProducts wsX2_standingProducts) := goodIn_app (goodIn_of _ (by decide +kernel)) ggX2_standing_X2_standingProducts
theorem dX2_standing_0 : decode cX2_standing 0 = .ok (.aload_n 0, 1) := by decide +kernel
theorem dX2_standing_1 : decode cX2_standing 1 = .ok (.invokevirtual 123, 3) := by decide +kernel
theorem dX2_standing_4 : decode cX2_standing 4 = .ok (.lreturn, 1) := by decide +kernel
set_option maxRecDepth 20000 in
theorem ggX2_left_X2_sumOf : GoodIn wsX2_left wsX2_sumOf := goodIn_r _ [5, 6, 7, 8, 9, 4, 10, 11, 83, 84, 85, 86, 87, 88, 89, 90, 91, 92, 93, 94, 95] (by decide +kernel) (by decide +kernel)
set_option maxRecDepth 20000 in
theorem gX2_left_X2_sumOf : GoodIn wsX2_left (wsV RX2 97 RX2 yX2_sumOf wsX2_sumOf) := goodIn_app (goodIn_of _ (by decide +kernel)) ggX2_left_X2_sumOf
set_option maxRecDepth 20000 in
theorem ggX2_left_X2_leftOf : GoodIn wsX2_left wsX2_leftOf := goodIn_r _ [15, 16, 17, 18, 19, 4, 20, 21, 22, 23, 24, 6, 25, 26, 27, 28, 29, 30, 31, 32, 33, 34, 35, 36, 37, 38, 39, 40, 41, 42, 43, 44, 45, 46, 47, 48, 49, 50, 51, 52, 53, 54, 55, 56, 57, 58, 59, 60, 61, 62, 63, 64, 65, 66, 67, 68, 69, 70, 71, 72, 73, 74, 75, 76, 77, 78, 79, 80, 81, 82, 83, 84, 85, 86, 87, 88, 89, 90, 91, 92, 93, 94, 95, 96, 97, 98, 99, 100] (by decide +kernel) (by decide +kernel)
set_option maxRecDepth 20000 in
theorem gX2_left_X2_leftOf : GoodIn wsX2_left (wsV RX2 127 RX2 yX2_leftOf wsX2_leftOf) := goodIn_app (goodIn_of _ (by decide +kernel)) ggX2_left_X2_leftOf
theorem dX2_left_0 : decode cX2_left 0 = .ok (.aload_n 0, 1) := by decide +kernel
theorem dX2_left_1 : decode cX2_left 1 = .ok (.aload_n 0, 1) := by decide +kernel
theorem dX2_left_2 : decode cX2_left 2 = .ok (.iload_n 1, 1) := by decide +kernel
theorem dX2_left_3 : decode cX2_left 3 = .ok (.invokevirtual 97, 3) := by decide +kernel
theorem dX2_left_6 : decode cX2_left 6 = .ok (.invokevirtual 127, 3) := by decide +kernel
theorem dX2_left_9 : decode cX2_left 9 = .ok (.lreturn, 1) := by decide +kernel
set_option maxRecDepth 20000 in
theorem ggX2_rest_X2_leftOf : GoodIn wsX2_rest wsX2_leftOf := goodIn_r _ [5, 6, 7, 8, 9, 4, 10, 11, 12, 13, 14, 15, 16, 17, 18, 19, 20, 21, 22, 23, 24, 25, 26, 27, 28, 29, 30, 31, 32, 33, 34, 35, 36, 37, 38, 39, 40, 41, 42, 43, 44, 45, 46, 47, 48, 49, 50, 51, 52, 53, 54, 55, 56, 57, 58, 59, 60, 61, 62, 63, 64, 65, 66, 67, 68, 69, 70, 71, 72, 73, 74, 75, 76, 77, 78, 79, 80, 81, 82, 83, 84, 85, 86, 87, 88, 89, 90, 91] (by decide +kernel) (by decide +kernel)
set_option maxRecDepth 20000 in
theorem gX2_rest_X2_leftOf : GoodIn wsX2_rest (wsV RX2 127 RX2 yX2_leftOf wsX2_leftOf) := goodIn_app (goodIn_of _ (by decide +kernel)) ggX2_rest_X2_leftOf
theorem dX2_rest_0 : decode cX2_rest 0 = .ok (.aload_n 0, 1) := by decide +kernel
theorem dX2_rest_1 : decode cX2_rest 1 = .ok (.lload_n 1, 1) := by decide +kernel
theorem dX2_rest_2 : decode cX2_rest 2 = .ok (.invokevirtual 127, 3) := by decide +kernel
theorem dX2_rest_5 : decode cX2_rest 5 = .ok (.lreturn, 1) := by decide +kernel
set_option maxRecDepth 20000 in
theorem ggX2_base_X2_standingProducts : GoodIn wsX2_base wsX2_standingProducts := goodIn_r _ [6, 7, 8, 9, 10, 11, 12, 5, 13, 14, 15, 16, 17, 18, 19, 20, 21, 22, 23, 24, 25, 26, 27, 28, 29, 30, 31, 32, 33, 34, 35, 36, 37, 38, 1, 39, 40, 41, 42, 43, 44, 45, 46, 47, 48, 49, 50, 51, 52, 53, 54, 55, 56, 57, 58, 59, 60, 61, 62, 63, 64, 65, 66, 67, 68, 69, 70, 82, 83, 84, 85, 86, 87, 88, 89, 90, 91, 92, 93, 94, 95, 96, 97, 98, 99] (by decide +kernel) (by decide +kernel)
set_option maxRecDepth 20000 in
theorem gX2_base_X2_standingProducts : GoodIn wsX2_base (wsV RX2 123 RX2 yX2_standingProducts wsX2_standingProducts) := goodIn_app (goodIn_of _ (by decide +kernel)) ggX2_base_X2_standingProducts
set_option maxRecDepth 20000 in
theorem ggX2_base_X2_beginsBase : GoodIn wsX2_base wsX2_beginsBase := goodIn_r _ [73, 39, 40, 5, 41] (by decide +kernel) (by decide +kernel)
set_option maxRecDepth 20000 in
theorem gX2_base_X2_beginsBase : GoodIn wsX2_base (va_wsS RX2 134 yX2_beginsBase wsX2_beginsBase) := goodIn_app (goodIn_of _ (by decide +kernel)) ggX2_base_X2_beginsBase
set_option maxRecDepth 20000 in
theorem ggX2_base_X2_leftOf : GoodIn wsX2_base wsX2_leftOf := goodIn_r _ [77, 7, 10, 11, 12, 5, 13, 14, 15, 16, 17, 18, 19, 20, 21, 22, 23, 24, 25, 26, 27, 28, 29, 30, 31, 32, 33, 34, 35, 36, 37, 38, 1, 39, 40, 41, 42, 43, 44, 45, 46, 47, 48, 49, 50, 51, 52, 53, 54, 55, 56, 57, 58, 59, 9, 60, 61, 62, 63, 64, 65, 66, 67, 68, 69, 70, 78, 79, 80, 81, 82, 83, 84, 85, 86, 87, 88, 89, 90, 91, 92, 93, 94, 95, 96, 97, 98, 99] (by decide +kernel) (by decide +kernel)
set_option maxRecDepth 20000 in
theorem gX2_base_X2_leftOf : GoodIn wsX2_base (wsV RX2 127 RX2 yX2_leftOf wsX2_leftOf) := goodIn_app (goodIn_of _ (by decide +kernel)) ggX2_base_X2_leftOf
theorem dX2_base_0 : decode cX2_base 0 = .ok (.iload_n 1, 1) := by decide +kernel
theorem dX2_base_1 : decode cX2_base 1 = .ok (.ifCond .ge 5, 3) := by decide +kernel
theorem dX2_base_4 : decode cX2_base 4 = .ok (.lconst 0, 1) := by decide +kernel
theorem dX2_base_5 : decode cX2_base 5 = .ok (.lreturn, 1) := by decide +kernel
theorem dX2_base_6 : decode cX2_base 6 = .ok (.aload_n 0, 1) := by decide +kernel
theorem dX2_base_7 : decode cX2_base 7 = .ok (.invokevirtual 123, 3) := by decide +kernel
theorem dX2_base_10 : decode cX2_base 10 = .ok (.lstore_n 2, 1) := by decide +kernel
theorem dX2_base_11 : decode cX2_base 11 = .ok (.iconst 0, 1) := by decide +kernel
theorem dX2_base_12 : decode cX2_base 12 = .ok (.istore 4, 2) := by decide +kernel
theorem dX2_base_14 : decode cX2_base 14 = .ok (.iconst 0, 1) := by decide +kernel
theorem dX2_base_15 : decode cX2_base 15 = .ok (.istore 5, 2) := by decide +kernel
theorem dX2_base_17 : decode cX2_base 17 = .ok (.iload 5, 2) := by decide +kernel
theorem dX2_base_19 : decode cX2_base 19 = .ok (.bipush 64, 2) := by decide +kernel
theorem dX2_base_21 : decode cX2_base 21 = .ok (.if_icmp .ge 49, 3) := by decide +kernel
theorem dX2_base_24 : decode cX2_base 24 = .ok (.getstatic 130, 3) := by decide +kernel
theorem dX2_base_27 : decode cX2_base 27 = .ok (.iload 5, 2) := by decide +kernel
theorem dX2_base_29 : decode cX2_base 29 = .ok (.iaload, 1) := by decide +kernel
theorem dX2_base_30 : decode cX2_base 30 = .ok (.istore 6, 2) := by decide +kernel
theorem dX2_base_32 : decode cX2_base 32 = .ok (.iload 6, 2) := by decide +kernel
theorem dX2_base_34 : decode cX2_base 34 = .ok (.lload_n 2, 1) := by decide +kernel
theorem dX2_base_35 : decode cX2_base 35 = .ok (.invokestatic 134, 3) := by decide +kernel
theorem dX2_base_38 : decode cX2_base 38 = .ok (.ifCond .eq 26, 3) := by decide +kernel
theorem dX2_base_41 : decode cX2_base 41 = .ok (.iload 4, 2) := by decide +kernel
theorem dX2_base_43 : decode cX2_base 43 = .ok (.iload_n 1, 1) := by decide +kernel
theorem dX2_base_44 : decode cX2_base 44 = .ok (.if_icmp .ne 17, 3) := by decide +kernel
theorem dX2_base_47 : decode cX2_base 47 = .ok (.lconst 1, 1) := by decide +kernel
theorem dX2_base_48 : decode cX2_base 48 = .ok (.iload 6, 2) := by decide +kernel
theorem dX2_base_50 : decode cX2_base 50 = .ok (.lshl, 1) := by decide +kernel
theorem dX2_base_51 : decode cX2_base 51 = .ok (.aload_n 0, 1) := by decide +kernel
theorem dX2_base_52 : decode cX2_base 52 = .ok (.lconst 1, 1) := by decide +kernel
theorem dX2_base_53 : decode cX2_base 53 = .ok (.iload 6, 2) := by decide +kernel
theorem dX2_base_55 : decode cX2_base 55 = .ok (.lshl, 1) := by decide +kernel
theorem dX2_base_56 : decode cX2_base 56 = .ok (.invokevirtual 127, 3) := by decide +kernel
theorem dX2_base_59 : decode cX2_base 59 = .ok (.lxor, 1) := by decide +kernel
theorem dX2_base_60 : decode cX2_base 60 = .ok (.lreturn, 1) := by decide +kernel
theorem dX2_base_61 : decode cX2_base 61 = .ok (.iinc 4 1, 3) := by decide +kernel
theorem dX2_base_64 : decode cX2_base 64 = .ok (.iinc 5 1, 3) := by decide +kernel
theorem dX2_base_67 : decode cX2_base 67 = .ok (.goto (-50), 3) := by decide +kernel
theorem dX2_base_70 : decode cX2_base 70 = .ok (.lconst 0, 1) := by decide +kernel
theorem dX2_base_71 : decode cX2_base 71 = .ok (.lreturn, 1) := by decide +kernel
set_option maxRecDepth 20000 in
theorem ggX2_deep_X2_isLine : GoodIn wsX2_deep wsX2_isLine := goodIn_r _ [8, 9, 98, 99, 100, 101, 102, 103, 104, 105, 106, 107, 108, 109, 110] (by decide +kernel) (by decide +kernel)
set_option maxRecDepth 20000 in
theorem gX2_deep_X2_isLine : GoodIn wsX2_deep (wsV RX2 101 RX2 yX2_isLine wsX2_isLine) := goodIn_app (goodIn_of _ (by decide +kernel)) ggX2_deep_X2_isLine
set_option maxRecDepth 20000 in
theorem ggX2_deep_X2_makeFollowing : GoodIn wsX2_deep wsX2_makeFollowing := goodIn_r _ [13, 14, 1, 15, 16, 17, 2, 18, 19, 20, 21, 22, 23, 24, 25, 26, 27, 28, 29, 30, 31, 32, 33, 7, 34, 35, 36, 37, 38, 39, 40, 41, 42, 43, 44, 45, 46, 47, 48, 49, 50, 51, 52, 53, 54, 55, 56, 57, 58, 59, 60, 61, 62, 63, 64, 65, 66, 67, 68, 69, 70, 71, 98, 99, 100, 101, 102, 103, 104, 105, 106, 107, 108, 109, 110, 111, 112, 113, 114, 115] (by decide +kernel) (by decide +kernel)
set_option maxRecDepth 20000 in
theorem gX2_deep_X2_makeFollowing : GoodIn wsX2_deep (wsV RX2 138 RX2 yX2_makeFollowing wsX2_makeFollowing) := goodIn_app (goodIn_of _ (by decide +kernel)) ggX2_deep_X2_makeFollowing
set_option maxRecDepth 20000 in
theorem ggX2_deep_X0_levelOf : GoodIn wsX2_deep wsX0_levelOf := goodIn_r _ [75, 23, 70, 76, 77, 78, 79, 65, 40, 7, 41, 111, 112, 113, 114, 115] (by decide +kernel) (by decide +kernel)
set_option maxRecDepth 20000 in
theorem gX2_deep_X0_levelOf : GoodIn wsX2_deep (wsV RX2 141 RX0 yX0_levelOf wsX0_levelOf) := goodIn_app (goodIn_of _ (by decide +kernel)) ggX2_deep_X0_levelOf
set_option maxRecDepth 20000 in
theorem ggX2_deep_X2_makeGrown : GoodIn wsX2_deep wsX2_makeGrown := goodIn_r _ [83, 84, 3, 17, 2, 18, 19, 20, 21, 22, 23, 24, 32, 33, 7, 34, 35, 36, 37, 38, 39, 40, 41, 42, 43, 44, 45, 46, 47, 48, 61, 62, 63, 64, 65, 66, 67, 68, 69, 70, 71, 85, 86, 87, 88, 16, 89, 77, 78, 79, 90, 91, 92, 93, 94, 95, 96, 97, 53, 54, 55, 56, 57, 58, 59, 60, 98, 99, 100, 101, 102, 103, 104, 105, 106, 107, 108, 109, 110, 111, 112, 113, 114, 115] (by decide +kernel) (by decide +kernel)
set_option maxRecDepth 20000 in
theorem gX2_deep_X2_makeGrown : GoodIn wsX2_deep (wsV RX2 144 RX2 yX2_makeGrown wsX2_makeGrown) := goodIn_app (goodIn_of _ (by decide +kernel)) ggX2_deep_X2_makeGrown
theorem dX2_deep_0 : decode cX2_deep 0 = .ok (.aload_n 0, 1) := by decide +kernel
theorem dX2_deep_1 : decode cX2_deep 1 = .ok (.iload_n 1, 1) := by decide +kernel
theorem dX2_deep_2 : decode cX2_deep 2 = .ok (.invokevirtual 101, 3) := by decide +kernel
theorem dX2_deep_5 : decode cX2_deep 5 = .ok (.ifCond .eq 12, 3) := by decide +kernel
theorem dX2_deep_8 : decode cX2_deep 8 = .ok (.iload_n 2, 1) := by decide +kernel
theorem dX2_deep_9 : decode cX2_deep 9 = .ok (.ifCond .lt 8, 3) := by decide +kernel
theorem dX2_deep_12 : decode cX2_deep 12 = .ok (.iload_n 2, 1) := by decide +kernel
theorem dX2_deep_13 : decode cX2_deep 13 = .ok (.iconst 1, 1) := by decide +kernel
theorem dX2_deep_14 : decode cX2_deep 14 = .ok (.if_icmp .le 5, 3) := by decide +kernel
theorem dX2_deep_17 : decode cX2_deep 17 = .ok (.iconst (-1), 1) := by decide +kernel
theorem dX2_deep_18 : decode cX2_deep 18 = .ok (.ireturn, 1) := by decide +kernel
theorem dX2_deep_19 : decode cX2_deep 19 = .ok (.iload_n 2, 1) := by decide +kernel
theorem dX2_deep_20 : decode cX2_deep 20 = .ok (.ifCond .ne 21, 3) := by decide +kernel
theorem dX2_deep_23 : decode cX2_deep 23 = .ok (.aload_n 0, 1) := by decide +kernel
theorem dX2_deep_24 : decode cX2_deep 24 = .ok (.invokevirtual 138, 3) := by decide +kernel
theorem dX2_deep_27 : decode cX2_deep 27 = .ok (.aload_n 0, 1) := by decide +kernel
theorem dX2_deep_28 : decode cX2_deep 28 = .ok (.getfield 48, 3) := by decide +kernel
theorem dX2_deep_31 : decode cX2_deep 31 = .ok (.aload_n 0, 1) := by decide +kernel
theorem dX2_deep_32 : decode cX2_deep 32 = .ok (.getfield 16, 3) := by decide +kernel
theorem dX2_deep_35 : decode cX2_deep 35 = .ok (.iload_n 1, 1) := by decide +kernel
theorem dX2_deep_36 : decode cX2_deep 36 = .ok (.laload, 1) := by decide +kernel
theorem dX2_deep_37 : decode cX2_deep 37 = .ok (.invokevirtual 141, 3) := by decide +kernel
theorem dX2_deep_40 : decode cX2_deep 40 = .ok (.ireturn, 1) := by decide +kernel
theorem dX2_deep_41 : decode cX2_deep 41 = .ok (.aload_n 0, 1) := by decide +kernel
theorem dX2_deep_42 : decode cX2_deep 42 = .ok (.invokevirtual 144, 3) := by decide +kernel
theorem dX2_deep_45 : decode cX2_deep 45 = .ok (.aload_n 0, 1) := by decide +kernel
theorem dX2_deep_46 : decode cX2_deep 46 = .ok (.getfield 56, 3) := by decide +kernel
theorem dX2_deep_49 : decode cX2_deep 49 = .ok (.aload_n 0, 1) := by decide +kernel
theorem dX2_deep_50 : decode cX2_deep 50 = .ok (.getfield 16, 3) := by decide +kernel
theorem dX2_deep_53 : decode cX2_deep 53 = .ok (.iload_n 1, 1) := by decide +kernel
theorem dX2_deep_54 : decode cX2_deep 54 = .ok (.laload, 1) := by decide +kernel
theorem dX2_deep_55 : decode cX2_deep 55 = .ok (.invokevirtual 141, 3) := by decide +kernel
theorem dX2_deep_58 : decode cX2_deep 58 = .ok (.ireturn, 1) := by decide +kernel
set_option maxRecDepth 20000 in
theorem ggX2_needed_X2_isLine : GoodIn wsX2_needed wsX2_isLine := goodIn_r _ [6, 7, 25, 26, 27, 28, 29, 30, 31, 32, 33, 34, 35, 36, 37] (by decide +kernel) (by decide +kernel)
set_option maxRecDepth 20000 in
theorem gX2_needed_X2_isLine : GoodIn wsX2_needed (wsV RX2 101 RX2 yX2_isLine wsX2_isLine) := goodIn_app (goodIn_of _ (by decide +kernel)) ggX2_needed_X2_isLine
set_option maxRecDepth 20000 in
theorem ggX2_needed_X2_fewestGiven : GoodIn wsX2_needed wsX2_fewestGiven := goodIn_r _ [11, 12, 13, 14, 15, 16, 17, 18, 19, 20, 21, 22, 5, 23, 24, 1, 25, 26, 27, 28, 29, 30, 31, 32, 33, 34, 35, 36, 37] (by decide +kernel) (by decide +kernel)
set_option maxRecDepth 20000 in
theorem gX2_needed_X2_fewestGiven : GoodIn wsX2_needed (wsV RX2 147 RX2 yX2_fewestGiven wsX2_fewestGiven) := goodIn_app (goodIn_of _ (by decide +kernel)) ggX2_needed_X2_fewestGiven
set_option maxRecDepth 20000 in
theorem ggX2_needed_J6_bitCount_0f7a4 : GoodIn wsX2_needed wsJ6_bitCount_0f7a4 := goodIn_r _ [16, 17, 18, 19] (by decide +kernel) (by decide +kernel)
set_option maxRecDepth 20000 in
theorem gX2_needed_J6_bitCount_0f7a4 : GoodIn wsX2_needed (va_wsS RX2 150 yJ6_bitCount_0f7a4 wsJ6_bitCount_0f7a4) := goodIn_app (goodIn_of _ (by decide +kernel)) ggX2_needed_J6_bitCount_0f7a4
theorem dX2_needed_0 : decode cX2_needed 0 = .ok (.aload_n 0, 1) := by decide +kernel
theorem dX2_needed_1 : decode cX2_needed 1 = .ok (.iload_n 1, 1) := by decide +kernel
theorem dX2_needed_2 : decode cX2_needed 2 = .ok (.invokevirtual 101, 3) := by decide +kernel
theorem dX2_needed_5 : decode cX2_needed 5 = .ok (.ifCond .eq 12, 3) := by decide +kernel
theorem dX2_needed_8 : decode cX2_needed 8 = .ok (.iload_n 2, 1) := by decide +kernel
theorem dX2_needed_9 : decode cX2_needed 9 = .ok (.ifCond .lt 8, 3) := by decide +kernel
theorem dX2_needed_12 : decode cX2_needed 12 = .ok (.iload_n 2, 1) := by decide +kernel
theorem dX2_needed_13 : decode cX2_needed 13 = .ok (.iconst 1, 1) := by decide +kernel
theorem dX2_needed_14 : decode cX2_needed 14 = .ok (.if_icmp .le 5, 3) := by decide +kernel
theorem dX2_needed_17 : decode cX2_needed 17 = .ok (.iconst (-1), 1) := by decide +kernel
theorem dX2_needed_18 : decode cX2_needed 18 = .ok (.ireturn, 1) := by decide +kernel
theorem dX2_needed_19 : decode cX2_needed 19 = .ok (.aload_n 0, 1) := by decide +kernel
theorem dX2_needed_20 : decode cX2_needed 20 = .ok (.aload_n 0, 1) := by decide +kernel
theorem dX2_needed_21 : decode cX2_needed 21 = .ok (.getfield 20, 3) := by decide +kernel
theorem dX2_needed_24 : decode cX2_needed 24 = .ok (.iload_n 1, 1) := by decide +kernel
theorem dX2_needed_25 : decode cX2_needed 25 = .ok (.laload, 1) := by decide +kernel
theorem dX2_needed_26 : decode cX2_needed 26 = .ok (.invokevirtual 147, 3) := by decide +kernel
theorem dX2_needed_29 : decode cX2_needed 29 = .ok (.istore_n 3, 1) := by decide +kernel
theorem dX2_needed_30 : decode cX2_needed 30 = .ok (.iload_n 3, 1) := by decide +kernel
theorem dX2_needed_31 : decode cX2_needed 31 = .ok (.bipush (-9), 2) := by decide +kernel
theorem dX2_needed_33 : decode cX2_needed 33 = .ok (.if_icmp .ne 6, 3) := by decide +kernel
theorem dX2_needed_36 : decode cX2_needed 36 = .ok (.bipush (-9), 2) := by decide +kernel
theorem dX2_needed_38 : decode cX2_needed 38 = .ok (.ireturn, 1) := by decide +kernel
theorem dX2_needed_39 : decode cX2_needed 39 = .ok (.iload_n 2, 1) := by decide +kernel
theorem dX2_needed_40 : decode cX2_needed 40 = .ok (.ifCond .ne 10, 3) := by decide +kernel
theorem dX2_needed_43 : decode cX2_needed 43 = .ok (.iload_n 3, 1) := by decide +kernel
theorem dX2_needed_44 : decode cX2_needed 44 = .ok (.invokestatic 150, 3) := by decide +kernel
theorem dX2_needed_47 : decode cX2_needed 47 = .ok (.goto 4, 3) := by decide +kernel
theorem dX2_needed_50 : decode cX2_needed 50 = .ok (.iload_n 3, 1) := by decide +kernel
theorem dX2_needed_51 : decode cX2_needed 51 = .ok (.ireturn, 1) := by decide +kernel
set_option maxRecDepth 20000 in
theorem ggX2_weight_X2_isLine : GoodIn wsX2_weight wsX2_isLine := goodIn_r _ [5, 6, 107, 108, 109, 110, 111, 112, 113, 114, 115, 116, 117, 118, 119] (by decide +kernel) (by decide +kernel)
set_option maxRecDepth 20000 in
theorem gX2_weight_X2_isLine : GoodIn wsX2_weight (wsV RX2 101 RX2 yX2_isLine wsX2_isLine) := goodIn_app (goodIn_of _ (by decide +kernel)) ggX2_weight_X2_isLine
set_option maxRecDepth 20000 in
theorem ggX2_weight_X2_sumWeight : GoodIn wsX2_weight wsX2_sumWeight := goodIn_r _ [10, 11, 12, 13, 14, 4, 15, 16, 1, 2, 3, 5, 6, 17, 18, 19, 20, 21, 22, 23, 107, 108, 109, 110, 111, 112, 113, 114, 115, 116, 117, 118, 119] (by decide +kernel) (by decide +kernel)
set_option maxRecDepth 20000 in
theorem gX2_weight_X2_sumWeight : GoodIn wsX2_weight (wsV RX2 155 RX2 yX2_sumWeight wsX2_sumWeight) := goodIn_app (goodIn_of _ (by decide +kernel)) ggX2_weight_X2_sumWeight
set_option maxRecDepth 20000 in
theorem ggX2_weight_X2_addedWeight : GoodIn wsX2_weight wsX2_addedWeight := goodIn_r _ [27, 11, 28, 7, 8, 9, 4, 10, 12, 13, 14, 15, 16, 1, 2, 3, 5, 6, 17, 18, 19, 20, 21, 22, 23, 29, 30, 31, 32, 33, 107, 108, 109, 110, 111, 112, 113, 114, 115, 116, 117, 118, 119] (by decide +kernel) (by decide +kernel)
set_option maxRecDepth 20000 in
theorem gX2_weight_X2_addedWeight : GoodIn wsX2_weight (wsV RX2 158 RX2 yX2_addedWeight wsX2_addedWeight) := goodIn_app (goodIn_of _ (by decide +kernel)) ggX2_weight_X2_addedWeight
set_option maxRecDepth 20000 in
theorem ggX2_weight_X2_raisedWeight : GoodIn wsX2_weight wsX2_raisedWeight := goodIn_r _ [37, 11, 38, 39, 40, 41, 42, 7, 8, 9, 4, 10, 12, 13, 14, 15, 16, 1, 2, 3, 5, 6, 17, 18, 19, 20, 21, 22, 23, 43, 44, 45, 46, 47, 48, 49, 50, 51, 52, 53, 54, 55, 56, 57, 58, 59, 107, 108, 109, 110, 111, 112, 113, 114, 115, 116, 117, 118, 119] (by decide +kernel) (by decide +kernel)
set_option maxRecDepth 20000 in
theorem gX2_weight_X2_raisedWeight : GoodIn wsX2_weight (wsV RX2 161 RX2 yX2_raisedWeight wsX2_raisedWeight) := goodIn_app (goodIn_of _ (by decide +kernel)) ggX2_weight_X2_raisedWeight
set_option maxRecDepth 20000 in
theorem ggX2_weight_X2_provedWeight : GoodIn wsX2_weight wsX2_provedWeight := goodIn_r _ [63, 11, 64, 24, 25, 26, 4, 27, 28, 7, 8, 9, 10, 12, 13, 14, 15, 16, 1, 2, 3, 5, 6, 17, 18, 19, 20, 21, 22, 23, 29, 30, 31, 32, 33, 65, 66, 67, 68, 69, 70, 71, 72, 73, 74, 75, 76, 77, 78, 79, 80, 81, 82, 83, 84, 43, 44, 45, 46, 47, 48, 49, 50, 51, 52, 53, 54, 55, 56, 57, 58, 59, 85, 86, 87, 88, 89, 90, 91, 92, 93, 94, 95, 96, 97, 98, 99, 100, 101, 102, 103, 104, 105, 106, 107, 108, 109, 110, 111, 112, 113, 114, 115, 116, 117, 118, 119, 120, 121, 122, 123, 124] (by decide +kernel) (by decide +kernel)
set_option maxRecDepth 20000 in
theorem gX2_weight_X2_provedWeight : GoodIn wsX2_weight (wsV RX2 164 RX2 yX2_provedWeight wsX2_provedWeight) := goodIn_app (goodIn_of _ (by decide +kernel)) ggX2_weight_X2_provedWeight
theorem dX2_weight_0 : decode cX2_weight 0 = .ok (.aload_n 0, 1) := by decide +kernel
theorem dX2_weight_1 : decode cX2_weight 1 = .ok (.iload_n 2, 1) := by decide +kernel
theorem dX2_weight_2 : decode cX2_weight 2 = .ok (.invokevirtual 101, 3) := by decide +kernel
theorem dX2_weight_5 : decode cX2_weight 5 = .ok (.ifCond .ne 6, 3) := by decide +kernel
theorem dX2_weight_8 : decode cX2_weight 8 = .ok (.bipush (-100), 2) := by decide +kernel
theorem dX2_weight_10 : decode cX2_weight 10 = .ok (.ireturn, 1) := by decide +kernel
theorem dX2_weight_11 : decode cX2_weight 11 = .ok (.iload_n 1, 1) := by decide +kernel
theorem dX2_weight_12 : decode cX2_weight 12 = .ok (.tableswitch 56 0 3 #[32, 38, 44, 50], 32) := by decide +kernel
theorem dX2_weight_44 : decode cX2_weight 44 = .ok (.aload_n 0, 1) := by decide +kernel
theorem dX2_weight_45 : decode cX2_weight 45 = .ok (.iload_n 2, 1) := by decide +kernel
theorem dX2_weight_46 : decode cX2_weight 46 = .ok (.invokevirtual 155, 3) := by decide +kernel
theorem dX2_weight_49 : decode cX2_weight 49 = .ok (.ireturn, 1) := by decide +kernel
theorem dX2_weight_50 : decode cX2_weight 50 = .ok (.aload_n 0, 1) := by decide +kernel
theorem dX2_weight_51 : decode cX2_weight 51 = .ok (.iload_n 2, 1) := by decide +kernel
theorem dX2_weight_52 : decode cX2_weight 52 = .ok (.invokevirtual 158, 3) := by decide +kernel
theorem dX2_weight_55 : decode cX2_weight 55 = .ok (.ireturn, 1) := by decide +kernel
theorem dX2_weight_56 : decode cX2_weight 56 = .ok (.aload_n 0, 1) := by decide +kernel
theorem dX2_weight_57 : decode cX2_weight 57 = .ok (.iload_n 2, 1) := by decide +kernel
theorem dX2_weight_58 : decode cX2_weight 58 = .ok (.invokevirtual 161, 3) := by decide +kernel
theorem dX2_weight_61 : decode cX2_weight 61 = .ok (.ireturn, 1) := by decide +kernel
theorem dX2_weight_62 : decode cX2_weight 62 = .ok (.aload_n 0, 1) := by decide +kernel
theorem dX2_weight_63 : decode cX2_weight 63 = .ok (.iload_n 2, 1) := by decide +kernel
theorem dX2_weight_64 : decode cX2_weight 64 = .ok (.invokevirtual 164, 3) := by decide +kernel
theorem dX2_weight_67 : decode cX2_weight 67 = .ok (.ireturn, 1) := by decide +kernel
theorem dX2_weight_68 : decode cX2_weight 68 = .ok (.bipush (-100), 2) := by decide +kernel
theorem dX2_weight_70 : decode cX2_weight 70 = .ok (.ireturn, 1) := by decide +kernel
set_option maxRecDepth 20000 in
theorem ggX2_count_X2_baseSize : GoodIn wsX2_count wsX2_baseSize := goodIn_r _ [11, 12, 13, 14, 10, 15, 16, 17, 18, 19, 20, 21, 22, 23, 4, 24, 1, 25, 26, 27, 28, 29, 30, 31, 32, 33, 34, 35, 36, 37, 38, 39, 40, 41, 42, 43, 44, 45, 46, 47, 48, 49, 50, 51, 52, 53, 54, 55, 56, 57, 58, 59, 60, 61, 62, 63, 64, 65, 66, 67, 68, 69, 70, 71, 72, 73, 74, 75, 76, 77, 78, 79, 80, 81, 82, 83, 84, 85, 86, 87, 88, 89, 90, 91, 92, 93, 94, 106, 107, 108, 109, 110] (by decide +kernel) (by decide +kernel)
set_option maxRecDepth 20000 in
theorem gX2_count_X2_baseSize : GoodIn wsX2_count (wsV RX2 167 RX2 yX2_baseSize wsX2_baseSize) := goodIn_app (goodIn_of _ (by decide +kernel)) ggX2_count_X2_baseSize
set_option maxRecDepth 20000 in
theorem ggX2_count_X2_standingProducts : GoodIn wsX2_count wsX2_standingProducts := goodIn_r _ [15, 16, 17, 18, 19, 20, 21, 10, 22, 23, 4, 24, 1, 25, 26, 27, 28, 29, 30, 31, 32, 33, 34, 35, 36, 37, 38, 39, 40, 41, 42, 43, 44, 45, 46, 47, 48, 49, 50, 51, 52, 53, 54, 55, 56, 57, 58, 59, 60, 61, 62, 63, 64, 65, 66, 67, 68, 69, 70, 71, 72, 73, 74, 75, 76, 77, 78, 82, 83, 84, 85, 86, 87, 88, 89, 90, 91, 92, 93, 94, 106, 107, 108, 109, 110] (by decide +kernel) (by decide +kernel)
set_option maxRecDepth 20000 in
theorem gX2_count_X2_standingProducts : GoodIn wsX2_count (wsV RX2 123 RX2 yX2_standingProducts wsX2_standingProducts) := goodIn_app (goodIn_of _ (by decide +kernel)) ggX2_count_X2_standingProducts
set_option maxRecDepth 20000 in
theorem ggX2_count_J13_bitCount_95d88 : GoodIn wsX2_count wsJ13_bitCount_95d88 := goodIn_r _ [36, 37, 38, 39] (by decide +kernel) (by decide +kernel)
set_option maxRecDepth 20000 in
theorem gX2_count_J13_bitCount_95d88 : GoodIn wsX2_count (va_wsS RX2 170 yJ13_bitCount_95d88 wsJ13_bitCount_95d88) := goodIn_app (goodIn_of _ (by decide +kernel)) ggX2_count_J13_bitCount_95d88
theorem dX2_count_0 : decode cX2_count 0 = .ok (.iload_n 1, 1) := by decide +kernel
theorem dX2_count_1 : decode cX2_count 1 = .ok (.tableswitch 95 0 6 #[43, 48, 58, 63, 68, 79, 87], 43) := by decide +kernel
theorem dX2_count_44 : decode cX2_count 44 = .ok (.aload_n 0, 1) := by decide +kernel
theorem dX2_count_45 : decode cX2_count 45 = .ok (.getfield 27, 3) := by decide +kernel
theorem dX2_count_48 : decode cX2_count 48 = .ok (.ireturn, 1) := by decide +kernel
theorem dX2_count_49 : decode cX2_count 49 = .ok (.aload_n 0, 1) := by decide +kernel
theorem dX2_count_50 : decode cX2_count 50 = .ok (.getfield 23, 3) := by decide +kernel
theorem dX2_count_53 : decode cX2_count 53 = .ok (.aload_n 0, 1) := by decide +kernel
theorem dX2_count_54 : decode cX2_count 54 = .ok (.getfield 27, 3) := by decide +kernel
theorem dX2_count_57 : decode cX2_count 57 = .ok (.isub, 1) := by decide +kernel
theorem dX2_count_58 : decode cX2_count 58 = .ok (.ireturn, 1) := by decide +kernel
theorem dX2_count_59 : decode cX2_count 59 = .ok (.aload_n 0, 1) := by decide +kernel
theorem dX2_count_60 : decode cX2_count 60 = .ok (.getfield 30, 3) := by decide +kernel
theorem dX2_count_63 : decode cX2_count 63 = .ok (.ireturn, 1) := by decide +kernel
theorem dX2_count_64 : decode cX2_count 64 = .ok (.aload_n 0, 1) := by decide +kernel
theorem dX2_count_65 : decode cX2_count 65 = .ok (.invokevirtual 167, 3) := by decide +kernel
theorem dX2_count_68 : decode cX2_count 68 = .ok (.ireturn, 1) := by decide +kernel
theorem dX2_count_69 : decode cX2_count 69 = .ok (.bipush 64, 2) := by decide +kernel
theorem dX2_count_71 : decode cX2_count 71 = .ok (.aload_n 0, 1) := by decide +kernel
theorem dX2_count_72 : decode cX2_count 72 = .ok (.invokevirtual 123, 3) := by decide +kernel
theorem dX2_count_75 : decode cX2_count 75 = .ok (.invokestatic 170, 3) := by decide +kernel
theorem dX2_count_78 : decode cX2_count 78 = .ok (.isub, 1) := by decide +kernel
theorem dX2_count_79 : decode cX2_count 79 = .ok (.ireturn, 1) := by decide +kernel
theorem dX2_count_80 : decode cX2_count 80 = .ok (.aload_n 0, 1) := by decide +kernel
theorem dX2_count_81 : decode cX2_count 81 = .ok (.getfield 38, 3) := by decide +kernel
theorem dX2_count_84 : decode cX2_count 84 = .ok (.invokestatic 170, 3) := by decide +kernel
theorem dX2_count_87 : decode cX2_count 87 = .ok (.ireturn, 1) := by decide +kernel
theorem dX2_count_88 : decode cX2_count 88 = .ok (.aload_n 0, 1) := by decide +kernel
theorem dX2_count_89 : decode cX2_count 89 = .ok (.getfield 12, 3) := by decide +kernel
theorem dX2_count_92 : decode cX2_count 92 = .ok (.getfield 62, 3) := by decide +kernel
theorem dX2_count_95 : decode cX2_count 95 = .ok (.ireturn, 1) := by decide +kernel
theorem dX2_count_96 : decode cX2_count 96 = .ok (.iconst (-1), 1) := by decide +kernel
theorem dX2_count_97 : decode cX2_count 97 = .ok (.ireturn, 1) := by decide +kernel
theorem dX2_trace_0 : decode cX2_trace 0 = .ok (.aload_n 0, 1) := by decide +kernel
theorem dX2_trace_1 : decode cX2_trace 1 = .ok (.getfield 42, 3) := by decide +kernel
theorem dX2_trace_4 : decode cX2_trace 4 = .ok (.lreturn, 1) := by decide +kernel
theorem dX2_isLine_0 : decode cX2_isLine 0 = .ok (.iload_n 1, 1) := by decide +kernel
theorem dX2_isLine_1 : decode cX2_isLine 1 = .ok (.ifCond .lt 21, 3) := by decide +kernel
theorem dX2_isLine_4 : decode cX2_isLine 4 = .ok (.iload_n 1, 1) := by decide +kernel
theorem dX2_isLine_5 : decode cX2_isLine 5 = .ok (.aload_n 0, 1) := by decide +kernel
theorem dX2_isLine_6 : decode cX2_isLine 6 = .ok (.getfield 23, 3) := by decide +kernel
theorem dX2_isLine_9 : decode cX2_isLine 9 = .ok (.if_icmp .ge 13, 3) := by decide +kernel
theorem dX2_isLine_12 : decode cX2_isLine 12 = .ok (.iload_n 1, 1) := by decide +kernel
theorem dX2_isLine_13 : decode cX2_isLine 13 = .ok (.bipush 32, 2) := by decide +kernel
theorem dX2_isLine_15 : decode cX2_isLine 15 = .ok (.if_icmp .ge 7, 3) := by decide +kernel
theorem dX2_isLine_18 : decode cX2_isLine 18 = .ok (.iconst 1, 1) := by decide +kernel
theorem dX2_isLine_19 : decode cX2_isLine 19 = .ok (.goto 4, 3) := by decide +kernel
theorem dX2_isLine_22 : decode cX2_isLine 22 = .ok (.iconst 0, 1) := by decide +kernel
theorem dX2_isLine_23 : decode cX2_isLine 23 = .ok (.ireturn, 1) := by decide +kernel
set_option maxRecDepth 20000 in
theorem ggX2_sumOf_X2_isLine : GoodIn wsX2_sumOf wsX2_isLine := goodIn_r _ [6, 7, 8, 9, 10, 11, 12, 13, 14, 15, 16, 17, 18, 19, 20] (by decide +kernel) (by decide +kernel)
set_option maxRecDepth 20000 in
theorem gX2_sumOf_X2_isLine : GoodIn wsX2_sumOf (wsV RX2 101 RX2 yX2_isLine wsX2_isLine) := goodIn_app (goodIn_of _ (by decide +kernel)) ggX2_sumOf_X2_isLine
theorem dX2_sumOf_0 : decode cX2_sumOf 0 = .ok (.aload_n 0, 1) := by decide +kernel
theorem dX2_sumOf_1 : decode cX2_sumOf 1 = .ok (.iload_n 1, 1) := by decide +kernel
theorem dX2_sumOf_2 : decode cX2_sumOf 2 = .ok (.invokevirtual 101, 3) := by decide +kernel
theorem dX2_sumOf_5 : decode cX2_sumOf 5 = .ok (.ifCond .eq 12, 3) := by decide +kernel
theorem dX2_sumOf_8 : decode cX2_sumOf 8 = .ok (.aload_n 0, 1) := by decide +kernel
theorem dX2_sumOf_9 : decode cX2_sumOf 9 = .ok (.getfield 16, 3) := by decide +kernel
theorem dX2_sumOf_12 : decode cX2_sumOf 12 = .ok (.iload_n 1, 1) := by decide +kernel
theorem dX2_sumOf_13 : decode cX2_sumOf 13 = .ok (.laload, 1) := by decide +kernel
theorem dX2_sumOf_14 : decode cX2_sumOf 14 = .ok (.goto 4, 3) := by decide +kernel
theorem dX2_sumOf_17 : decode cX2_sumOf 17 = .ok (.lconst 0, 1) := by decide +kernel
theorem dX2_sumOf_18 : decode cX2_sumOf 18 = .ok (.lreturn, 1) := by decide +kernel
set_option maxRecDepth 20000 in
theorem ggX2_appendLine_X2_valuesOf : GoodIn wsX2_appendLine wsX2_valuesOf := goodIn_r _ [7, 8, 9] (by decide +kernel) (by decide +kernel)
set_option maxRecDepth 20000 in
theorem gX2_appendLine_X2_valuesOf : GoodIn wsX2_appendLine (va_wsS RX2 86 yX2_valuesOf wsX2_valuesOf) := goodIn_app (goodIn_of _ (by decide +kernel)) ggX2_appendLine_X2_valuesOf
theorem dX2_appendLine_0 : decode cX2_appendLine 0 = .ok (.aload_n 0, 1) := by decide +kernel
theorem dX2_appendLine_1 : decode cX2_appendLine 1 = .ok (.getfield 23, 3) := by decide +kernel
theorem dX2_appendLine_4 : decode cX2_appendLine 4 = .ok (.ifCond .lt 45, 3) := by decide +kernel
theorem dX2_appendLine_7 : decode cX2_appendLine 7 = .ok (.aload_n 0, 1) := by decide +kernel
theorem dX2_appendLine_8 : decode cX2_appendLine 8 = .ok (.getfield 23, 3) := by decide +kernel
theorem dX2_appendLine_11 : decode cX2_appendLine 11 = .ok (.bipush 32, 2) := by decide +kernel
theorem dX2_appendLine_13 : decode cX2_appendLine 13 = .ok (.if_icmp .ge 36, 3) := by decide +kernel
theorem dX2_appendLine_16 : decode cX2_appendLine 16 = .ok (.aload_n 0, 1) := by decide +kernel
theorem dX2_appendLine_17 : decode cX2_appendLine 17 = .ok (.getfield 16, 3) := by decide +kernel
theorem dX2_appendLine_20 : decode cX2_appendLine 20 = .ok (.aload_n 0, 1) := by decide +kernel
theorem dX2_appendLine_21 : decode cX2_appendLine 21 = .ok (.getfield 23, 3) := by decide +kernel
theorem dX2_appendLine_24 : decode cX2_appendLine 24 = .ok (.lload_n 1, 1) := by decide +kernel
theorem dX2_appendLine_25 : decode cX2_appendLine 25 = .ok (.lastore, 1) := by decide +kernel
theorem dX2_appendLine_26 : decode cX2_appendLine 26 = .ok (.aload_n 0, 1) := by decide +kernel
theorem dX2_appendLine_27 : decode cX2_appendLine 27 = .ok (.getfield 20, 3) := by decide +kernel
theorem dX2_appendLine_30 : decode cX2_appendLine 30 = .ok (.aload_n 0, 1) := by decide +kernel
theorem dX2_appendLine_31 : decode cX2_appendLine 31 = .ok (.getfield 23, 3) := by decide +kernel
theorem dX2_appendLine_34 : decode cX2_appendLine 34 = .ok (.lload_n 1, 1) := by decide +kernel
theorem dX2_appendLine_35 : decode cX2_appendLine 35 = .ok (.invokestatic 86, 3) := by decide +kernel
theorem dX2_appendLine_38 : decode cX2_appendLine 38 = .ok (.lastore, 1) := by decide +kernel
theorem dX2_appendLine_39 : decode cX2_appendLine 39 = .ok (.aload_n 0, 1) := by decide +kernel
theorem dX2_appendLine_40 : decode cX2_appendLine 40 = .ok (.dup, 1) := by decide +kernel
theorem dX2_appendLine_41 : decode cX2_appendLine 41 = .ok (.getfield 23, 3) := by decide +kernel
theorem dX2_appendLine_44 : decode cX2_appendLine 44 = .ok (.iconst 1, 1) := by decide +kernel
theorem dX2_appendLine_45 : decode cX2_appendLine 45 = .ok (.iadd, 1) := by decide +kernel
theorem dX2_appendLine_46 : decode cX2_appendLine 46 = .ok (.putfield 23, 3) := by decide +kernel
theorem dX2_appendLine_49 : decode cX2_appendLine 49 = .ok (.return_, 1) := by decide +kernel
theorem dX2_dropProof_0 : decode cX2_dropProof 0 = .ok (.aload_n 0, 1) := by decide +kernel
theorem dX2_dropProof_1 : decode cX2_dropProof 1 = .ok (.iconst 0, 1) := by decide +kernel
theorem dX2_dropProof_2 : decode cX2_dropProof 2 = .ok (.putfield 30, 3) := by decide +kernel
theorem dX2_dropProof_5 : decode cX2_dropProof 5 = .ok (.aload_n 0, 1) := by decide +kernel
theorem dX2_dropProof_6 : decode cX2_dropProof 6 = .ok (.bipush (-9), 2) := by decide +kernel
theorem dX2_dropProof_8 : decode cX2_dropProof 8 = .ok (.putfield 33, 3) := by decide +kernel
theorem dX2_dropProof_11 : decode cX2_dropProof 11 = .ok (.return_, 1) := by decide +kernel
set_option maxRecDepth 20000 in
theorem ggX2_carryOutSteps_X2_sumOfStep : GoodIn wsX2_carryOutSteps wsX2_sumOfStep := goodIn_r _ [10, 2, 3, 11, 12, 13, 14, 15, 16, 9, 17, 18, 19, 20, 21, 22, 23, 24, 25, 26, 27, 28, 29, 30, 31, 37, 38, 39, 40, 41, 42, 43, 44, 45, 46, 47, 48, 49, 50, 51, 52, 53, 54, 55, 56, 57, 58, 59, 60] (by decide +kernel) (by decide +kernel)
set_option maxRecDepth 20000 in
theorem gX2_carryOutSteps_X2_sumOfStep : GoodIn wsX2_carryOutSteps (wsV RX2 174 RX2 yX2_sumOfStep wsX2_sumOfStep) := goodIn_app (goodIn_of _ (by decide +kernel)) ggX2_carryOutSteps_X2_sumOfStep
set_option maxRecDepth 20000 in
theorem ggX2_carryOutSteps_X2_valuesOf : GoodIn wsX2_carryOutSteps wsX2_valuesOf := goodIn_r _ [29, 30, 31] (by decide +kernel) (by decide +kernel)
set_option maxRecDepth 20000 in
theorem gX2_carryOutSteps_X2_valuesOf : GoodIn wsX2_carryOutSteps (va_wsS RX2 86 yX2_valuesOf wsX2_valuesOf) := goodIn_app (goodIn_of _ (by decide +kernel)) ggX2_carryOutSteps_X2_valuesOf
set_option maxRecDepth 20000 in
theorem ggX2_carryOutSteps_X2_appendLine : GoodIn wsX2_carryOutSteps wsX2_appendLine := goodIn_r _ [35, 23, 18, 36, 27, 28, 9, 29, 30, 31, 37, 38, 39, 40, 41, 42, 43, 44, 45, 46, 47, 48, 49] (by decide +kernel) (by decide +kernel)
set_option maxRecDepth 20000 in
theorem gX2_carryOutSteps_X2_appendLine : GoodIn wsX2_carryOutSteps (wsV RX2 82 RX2 yX2_appendLine wsX2_appendLine) := goodIn_app (goodIn_of _ (by decide +kernel)) ggX2_carryOutSteps_X2_appendLine
theorem dX2_carryOutSteps_0 : decode cX2_carryOutSteps 0 = .ok (.iconst 0, 1) := by decide +kernel
theorem dX2_carryOutSteps_1 : decode cX2_carryOutSteps 1 = .ok (.istore_n 1, 1) := by decide +kernel
theorem dX2_carryOutSteps_2 : decode cX2_carryOutSteps 2 = .ok (.iload_n 1, 1) := by decide +kernel
theorem dX2_carryOutSteps_3 : decode cX2_carryOutSteps 3 = .ok (.aload_n 0, 1) := by decide +kernel
theorem dX2_carryOutSteps_4 : decode cX2_carryOutSteps 4 = .ok (.getfield 30, 3) := by decide +kernel
theorem dX2_carryOutSteps_7 : decode cX2_carryOutSteps 7 = .ok (.if_icmp .ge 71, 3) := by decide +kernel
theorem dX2_carryOutSteps_10 : decode cX2_carryOutSteps 10 = .ok (.iload_n 1, 1) := by decide +kernel
theorem dX2_carryOutSteps_11 : decode cX2_carryOutSteps 11 = .ok (.bipush 24, 2) := by decide +kernel
theorem dX2_carryOutSteps_13 : decode cX2_carryOutSteps 13 = .ok (.if_icmp .ge 65, 3) := by decide +kernel
theorem dX2_carryOutSteps_16 : decode cX2_carryOutSteps 16 = .ok (.aload_n 0, 1) := by decide +kernel
theorem dX2_carryOutSteps_17 : decode cX2_carryOutSteps 17 = .ok (.iload_n 1, 1) := by decide +kernel
theorem dX2_carryOutSteps_18 : decode cX2_carryOutSteps 18 = .ok (.invokevirtual 174, 3) := by decide +kernel
theorem dX2_carryOutSteps_21 : decode cX2_carryOutSteps 21 = .ok (.lstore_n 2, 1) := by decide +kernel
theorem dX2_carryOutSteps_22 : decode cX2_carryOutSteps 22 = .ok (.aload_n 0, 1) := by decide +kernel
theorem dX2_carryOutSteps_23 : decode cX2_carryOutSteps 23 = .ok (.getfield 12, 3) := by decide +kernel
theorem dX2_carryOutSteps_26 : decode cX2_carryOutSteps 26 = .ok (.getfield 177, 3) := by decide +kernel
theorem dX2_carryOutSteps_29 : decode cX2_carryOutSteps 29 = .ok (.iload_n 1, 1) := by decide +kernel
theorem dX2_carryOutSteps_30 : decode cX2_carryOutSteps 30 = .ok (.iaload, 1) := by decide +kernel
theorem dX2_carryOutSteps_31 : decode cX2_carryOutSteps 31 = .ok (.iconst 4, 1) := by decide +kernel
theorem dX2_carryOutSteps_32 : decode cX2_carryOutSteps 32 = .ok (.if_icmp .ne 7, 3) := by decide +kernel
theorem dX2_carryOutSteps_35 : decode cX2_carryOutSteps 35 = .ok (.iconst 1, 1) := by decide +kernel
theorem dX2_carryOutSteps_36 : decode cX2_carryOutSteps 36 = .ok (.goto 4, 3) := by decide +kernel
theorem dX2_carryOutSteps_39 : decode cX2_carryOutSteps 39 = .ok (.iconst 0, 1) := by decide +kernel
theorem dX2_carryOutSteps_40 : decode cX2_carryOutSteps 40 = .ok (.istore 4, 2) := by decide +kernel
theorem dX2_carryOutSteps_42 : decode cX2_carryOutSteps 42 = .ok (.iload 4, 2) := by decide +kernel
theorem dX2_carryOutSteps_44 : decode cX2_carryOutSteps 44 = .ok (.ifCond .eq 23, 3) := by decide +kernel
theorem dX2_carryOutSteps_47 : decode cX2_carryOutSteps 47 = .ok (.lload_n 2, 1) := by decide +kernel
theorem dX2_carryOutSteps_48 : decode cX2_carryOutSteps 48 = .ok (.invokestatic 86, 3) := by decide +kernel
theorem dX2_carryOutSteps_51 : decode cX2_carryOutSteps 51 = .ok (.aload_n 0, 1) := by decide +kernel
theorem dX2_carryOutSteps_52 : decode cX2_carryOutSteps 52 = .ok (.getfield 38, 3) := by decide +kernel
theorem dX2_carryOutSteps_55 : decode cX2_carryOutSteps 55 = .ok (.land, 1) := by decide +kernel
theorem dX2_carryOutSteps_56 : decode cX2_carryOutSteps 56 = .ok (.lconst 0, 1) := by decide +kernel
theorem dX2_carryOutSteps_57 : decode cX2_carryOutSteps 57 = .ok (.lcmp, 1) := by decide +kernel
theorem dX2_carryOutSteps_58 : decode cX2_carryOutSteps 58 = .ok (.ifCond .eq 9, 3) := by decide +kernel
theorem dX2_carryOutSteps_61 : decode cX2_carryOutSteps 61 = .ok (.aload_n 0, 1) := by decide +kernel
theorem dX2_carryOutSteps_62 : decode cX2_carryOutSteps 62 = .ok (.iload_n 1, 1) := by decide +kernel
theorem dX2_carryOutSteps_63 : decode cX2_carryOutSteps 63 = .ok (.putfield 33, 3) := by decide +kernel
theorem dX2_carryOutSteps_66 : decode cX2_carryOutSteps 66 = .ok (.return_, 1) := by decide +kernel
theorem dX2_carryOutSteps_67 : decode cX2_carryOutSteps 67 = .ok (.aload_n 0, 1) := by decide +kernel
theorem dX2_carryOutSteps_68 : decode cX2_carryOutSteps 68 = .ok (.lload_n 2, 1) := by decide +kernel
theorem dX2_carryOutSteps_69 : decode cX2_carryOutSteps 69 = .ok (.invokevirtual 82, 3) := by decide +kernel
theorem dX2_carryOutSteps_72 : decode cX2_carryOutSteps 72 = .ok (.iinc 1 1, 3) := by decide +kernel
theorem dX2_carryOutSteps_75 : decode cX2_carryOutSteps 75 = .ok (.goto (-73), 3) := by decide +kernel
theorem dX2_carryOutSteps_78 : decode cX2_carryOutSteps 78 = .ok (.return_, 1) := by decide +kernel
set_option maxRecDepth 20000 in
theorem ggX2_sumOfStep_X2_sumOf : GoodIn wsX2_sumOfStep wsX2_sumOf := goodIn_r _ [10, 11, 12, 13, 14, 9, 15, 16, 25, 26, 27, 28, 29, 30, 31, 32, 33, 34, 35, 36, 37] (by decide +kernel) (by decide +kernel)
set_option maxRecDepth 20000 in
theorem gX2_sumOfStep_X2_sumOf : GoodIn wsX2_sumOfStep (wsV RX2 97 RX2 yX2_sumOf wsX2_sumOf) := goodIn_app (goodIn_of _ (by decide +kernel)) ggX2_sumOfStep_X2_sumOf
set_option maxRecDepth 20000 in
theorem ggX2_sumOfStep_X2_multiplied : GoodIn wsX2_sumOfStep wsX2_multiplied := goodIn_r _ [19, 20, 21, 9, 22, 23, 24] (by decide +kernel) (by decide +kernel)
set_option maxRecDepth 20000 in
theorem gX2_sumOfStep_X2_multiplied : GoodIn wsX2_sumOfStep (va_wsS RX2 116 yX2_multiplied wsX2_multiplied) := goodIn_app (goodIn_of _ (by decide +kernel)) ggX2_sumOfStep_X2_multiplied
theorem dX2_sumOfStep_0 : decode cX2_sumOfStep 0 = .ok (.aload_n 0, 1) := by decide +kernel
theorem dX2_sumOfStep_1 : decode cX2_sumOfStep 1 = .ok (.getfield 12, 3) := by decide +kernel
theorem dX2_sumOfStep_4 : decode cX2_sumOfStep 4 = .ok (.getfield 177, 3) := by decide +kernel
theorem dX2_sumOfStep_7 : decode cX2_sumOfStep 7 = .ok (.iload_n 1, 1) := by decide +kernel
theorem dX2_sumOfStep_8 : decode cX2_sumOfStep 8 = .ok (.iaload, 1) := by decide +kernel
theorem dX2_sumOfStep_9 : decode cX2_sumOfStep 9 = .ok (.tableswitch 113 1 3 #[27, 55, 83], 27) := by decide +kernel
theorem dX2_sumOfStep_36 : decode cX2_sumOfStep 36 = .ok (.aload_n 0, 1) := by decide +kernel
theorem dX2_sumOfStep_37 : decode cX2_sumOfStep 37 = .ok (.aload_n 0, 1) := by decide +kernel
theorem dX2_sumOfStep_38 : decode cX2_sumOfStep 38 = .ok (.getfield 12, 3) := by decide +kernel
theorem dX2_sumOfStep_41 : decode cX2_sumOfStep 41 = .ok (.getfield 180, 3) := by decide +kernel
theorem dX2_sumOfStep_44 : decode cX2_sumOfStep 44 = .ok (.iload_n 1, 1) := by decide +kernel
theorem dX2_sumOfStep_45 : decode cX2_sumOfStep 45 = .ok (.iaload, 1) := by decide +kernel
theorem dX2_sumOfStep_46 : decode cX2_sumOfStep 46 = .ok (.invokevirtual 97, 3) := by decide +kernel
theorem dX2_sumOfStep_49 : decode cX2_sumOfStep 49 = .ok (.aload_n 0, 1) := by decide +kernel
theorem dX2_sumOfStep_50 : decode cX2_sumOfStep 50 = .ok (.aload_n 0, 1) := by decide +kernel
theorem dX2_sumOfStep_51 : decode cX2_sumOfStep 51 = .ok (.getfield 12, 3) := by decide +kernel
theorem dX2_sumOfStep_54 : decode cX2_sumOfStep 54 = .ok (.getfield 183, 3) := by decide +kernel
theorem dX2_sumOfStep_57 : decode cX2_sumOfStep 57 = .ok (.iload_n 1, 1) := by decide +kernel
theorem dX2_sumOfStep_58 : decode cX2_sumOfStep 58 = .ok (.iaload, 1) := by decide +kernel
theorem dX2_sumOfStep_59 : decode cX2_sumOfStep 59 = .ok (.invokevirtual 97, 3) := by decide +kernel
theorem dX2_sumOfStep_62 : decode cX2_sumOfStep 62 = .ok (.lxor, 1) := by decide +kernel
theorem dX2_sumOfStep_63 : decode cX2_sumOfStep 63 = .ok (.lreturn, 1) := by decide +kernel
theorem dX2_sumOfStep_64 : decode cX2_sumOfStep 64 = .ok (.aload_n 0, 1) := by decide +kernel
theorem dX2_sumOfStep_65 : decode cX2_sumOfStep 65 = .ok (.aload_n 0, 1) := by decide +kernel
theorem dX2_sumOfStep_66 : decode cX2_sumOfStep 66 = .ok (.getfield 12, 3) := by decide +kernel
theorem dX2_sumOfStep_69 : decode cX2_sumOfStep 69 = .ok (.getfield 180, 3) := by decide +kernel
theorem dX2_sumOfStep_72 : decode cX2_sumOfStep 72 = .ok (.iload_n 1, 1) := by decide +kernel
theorem dX2_sumOfStep_73 : decode cX2_sumOfStep 73 = .ok (.iaload, 1) := by decide +kernel
theorem dX2_sumOfStep_74 : decode cX2_sumOfStep 74 = .ok (.invokevirtual 97, 3) := by decide +kernel
theorem dX2_sumOfStep_77 : decode cX2_sumOfStep 77 = .ok (.lconst 1, 1) := by decide +kernel
theorem dX2_sumOfStep_78 : decode cX2_sumOfStep 78 = .ok (.aload_n 0, 1) := by decide +kernel
theorem dX2_sumOfStep_79 : decode cX2_sumOfStep 79 = .ok (.getfield 12, 3) := by decide +kernel
theorem dX2_sumOfStep_82 : decode cX2_sumOfStep 82 = .ok (.getfield 183, 3) := by decide +kernel
theorem dX2_sumOfStep_85 : decode cX2_sumOfStep 85 = .ok (.iload_n 1, 1) := by decide +kernel
theorem dX2_sumOfStep_86 : decode cX2_sumOfStep 86 = .ok (.iaload, 1) := by decide +kernel
theorem dX2_sumOfStep_87 : decode cX2_sumOfStep 87 = .ok (.lshl, 1) := by decide +kernel
theorem dX2_sumOfStep_88 : decode cX2_sumOfStep 88 = .ok (.invokestatic 116, 3) := by decide +kernel
theorem dX2_sumOfStep_91 : decode cX2_sumOfStep 91 = .ok (.lreturn, 1) := by decide +kernel
theorem dX2_sumOfStep_92 : decode cX2_sumOfStep 92 = .ok (.aload_n 0, 1) := by decide +kernel
theorem dX2_sumOfStep_93 : decode cX2_sumOfStep 93 = .ok (.aload_n 0, 1) := by decide +kernel
theorem dX2_sumOfStep_94 : decode cX2_sumOfStep 94 = .ok (.getfield 12, 3) := by decide +kernel
theorem dX2_sumOfStep_97 : decode cX2_sumOfStep 97 = .ok (.getfield 180, 3) := by decide +kernel
theorem dX2_sumOfStep_100 : decode cX2_sumOfStep 100 = .ok (.iload_n 1, 1) := by decide +kernel
theorem dX2_sumOfStep_101 : decode cX2_sumOfStep 101 = .ok (.iaload, 1) := by decide +kernel
theorem dX2_sumOfStep_102 : decode cX2_sumOfStep 102 = .ok (.invokevirtual 97, 3) := by decide +kernel
theorem dX2_sumOfStep_105 : decode cX2_sumOfStep 105 = .ok (.aload_n 0, 1) := by decide +kernel
theorem dX2_sumOfStep_106 : decode cX2_sumOfStep 106 = .ok (.aload_n 0, 1) := by decide +kernel
theorem dX2_sumOfStep_107 : decode cX2_sumOfStep 107 = .ok (.getfield 12, 3) := by decide +kernel
theorem dX2_sumOfStep_110 : decode cX2_sumOfStep 110 = .ok (.getfield 183, 3) := by decide +kernel
theorem dX2_sumOfStep_113 : decode cX2_sumOfStep 113 = .ok (.iload_n 1, 1) := by decide +kernel
theorem dX2_sumOfStep_114 : decode cX2_sumOfStep 114 = .ok (.iaload, 1) := by decide +kernel
theorem dX2_sumOfStep_115 : decode cX2_sumOfStep 115 = .ok (.invokevirtual 97, 3) := by decide +kernel
theorem dX2_sumOfStep_118 : decode cX2_sumOfStep 118 = .ok (.invokestatic 116, 3) := by decide +kernel
theorem dX2_sumOfStep_121 : decode cX2_sumOfStep 121 = .ok (.lreturn, 1) := by decide +kernel
theorem dX2_sumOfStep_122 : decode cX2_sumOfStep 122 = .ok (.aload_n 0, 1) := by decide +kernel
theorem dX2_sumOfStep_123 : decode cX2_sumOfStep 123 = .ok (.getfield 12, 3) := by decide +kernel
theorem dX2_sumOfStep_126 : decode cX2_sumOfStep 126 = .ok (.getfield 79, 3) := by decide +kernel
theorem dX2_sumOfStep_129 : decode cX2_sumOfStep 129 = .ok (.iload_n 1, 1) := by decide +kernel
theorem dX2_sumOfStep_130 : decode cX2_sumOfStep 130 = .ok (.laload, 1) := by decide +kernel
theorem dX2_sumOfStep_131 : decode cX2_sumOfStep 131 = .ok (.lreturn, 1) := by decide +kernel
set_option maxRecDepth 20000 in
theorem ggX2_makeFollowing_X0_empty : GoodIn wsX2_makeFollowing wsX0_empty := goodIn_r _ [11, 12, 13, 75, 76, 77, 78, 79] (by decide +kernel) (by decide +kernel)
set_option maxRecDepth 20000 in
theorem gX2_makeFollowing_X0_empty : GoodIn wsX2_makeFollowing (wsV RX2 186 RX0 yX0_empty wsX0_empty) := goodIn_app (goodIn_of _ (by decide +kernel)) ggX2_makeFollowing_X0_empty
set_option maxRecDepth 20000 in
theorem ggX2_makeFollowing_J13_bitCount_95d88 : GoodIn wsX2_makeFollowing wsJ13_bitCount_95d88 := goodIn_r _ [17, 18, 19, 20] (by decide +kernel) (by decide +kernel)
set_option maxRecDepth 20000 in
theorem gX2_makeFollowing_J13_bitCount_95d88 : GoodIn wsX2_makeFollowing (va_wsS RX2 170 yJ13_bitCount_95d88 wsJ13_bitCount_95d88) := goodIn_app (goodIn_of _ (by decide +kernel)) ggX2_makeFollowing_J13_bitCount_95d88
set_option maxRecDepth 20000 in
theorem ggX2_makeFollowing_X2_degreeOf : GoodIn wsX2_makeFollowing wsX2_degreeOf := goodIn_r _ [24, 25, 26, 23, 27, 28, 29, 30, 31, 32, 33, 34, 35, 36, 37, 38] (by decide +kernel) (by decide +kernel)
set_option maxRecDepth 20000 in
theorem gX2_makeFollowing_X2_degreeOf : GoodIn wsX2_makeFollowing (va_wsS RX2 109 yX2_degreeOf wsX2_degreeOf) := goodIn_app (goodIn_of _ (by decide +kernel)) ggX2_makeFollowing_X2_degreeOf
set_option maxRecDepth 20000 in
theorem ggX2_makeFollowing_X2_addMultiples : GoodIn wsX2_makeFollowing wsX2_addMultiples := goodIn_r _ [42, 2, 32, 33, 34, 35, 36, 37, 38, 43, 44, 23, 45, 46, 47, 48, 49, 50, 51, 52, 53, 10, 54, 12, 55, 30, 31, 56, 57, 58, 59, 13, 60, 61, 62, 63, 64, 65, 66, 67, 68, 69, 70, 71, 72, 73, 74, 75, 76, 77, 78, 79] (by decide +kernel) (by decide +kernel)
set_option maxRecDepth 20000 in
theorem gX2_makeFollowing_X2_addMultiples : GoodIn wsX2_makeFollowing (wsV RX2 192 RX2 yX2_addMultiples wsX2_addMultiples) := goodIn_app (goodIn_of _ (by decide +kernel)) ggX2_makeFollowing_X2_addMultiples
theorem dX2_makeFollowing_0 : decode cX2_makeFollowing 0 = .ok (.aload_n 0, 1) := by decide +kernel
theorem dX2_makeFollowing_1 : decode cX2_makeFollowing 1 = .ok (.getfield 52, 3) := by decide +kernel
theorem dX2_makeFollowing_4 : decode cX2_makeFollowing 4 = .ok (.ifCond .eq 4, 3) := by decide +kernel
theorem dX2_makeFollowing_7 : decode cX2_makeFollowing 7 = .ok (.return_, 1) := by decide +kernel
theorem dX2_makeFollowing_8 : decode cX2_makeFollowing 8 = .ok (.aload_n 0, 1) := by decide +kernel
theorem dX2_makeFollowing_9 : decode cX2_makeFollowing 9 = .ok (.getfield 48, 3) := by decide +kernel
theorem dX2_makeFollowing_12 : decode cX2_makeFollowing 12 = .ok (.invokevirtual 186, 3) := by decide +kernel
theorem dX2_makeFollowing_15 : decode cX2_makeFollowing 15 = .ok (.bipush 64, 2) := by decide +kernel
theorem dX2_makeFollowing_17 : decode cX2_makeFollowing 17 = .ok (.aload_n 0, 1) := by decide +kernel
theorem dX2_makeFollowing_18 : decode cX2_makeFollowing 18 = .ok (.getfield 38, 3) := by decide +kernel
theorem dX2_makeFollowing_21 : decode cX2_makeFollowing 21 = .ok (.invokestatic 170, 3) := by decide +kernel
theorem dX2_makeFollowing_24 : decode cX2_makeFollowing 24 = .ok (.isub, 1) := by decide +kernel
theorem dX2_makeFollowing_25 : decode cX2_makeFollowing 25 = .ok (.istore_n 1, 1) := by decide +kernel
theorem dX2_makeFollowing_26 : decode cX2_makeFollowing 26 = .ok (.iconst 0, 1) := by decide +kernel
theorem dX2_makeFollowing_27 : decode cX2_makeFollowing 27 = .ok (.istore_n 2, 1) := by decide +kernel
theorem dX2_makeFollowing_28 : decode cX2_makeFollowing 28 = .ok (.iload_n 2, 1) := by decide +kernel
theorem dX2_makeFollowing_29 : decode cX2_makeFollowing 29 = .ok (.bipush 12, 2) := by decide +kernel
theorem dX2_makeFollowing_31 : decode cX2_makeFollowing 31 = .ok (.if_icmp .gt 75, 3) := by decide +kernel
theorem dX2_makeFollowing_34 : decode cX2_makeFollowing 34 = .ok (.aload_n 0, 1) := by decide +kernel
theorem dX2_makeFollowing_35 : decode cX2_makeFollowing 35 = .ok (.getfield 48, 3) := by decide +kernel
theorem dX2_makeFollowing_38 : decode cX2_makeFollowing 38 = .ok (.getfield 189, 3) := by decide +kernel
theorem dX2_makeFollowing_41 : decode cX2_makeFollowing 41 = .ok (.iload_n 1, 1) := by decide +kernel
theorem dX2_makeFollowing_42 : decode cX2_makeFollowing 42 = .ok (.if_icmp .ge 64, 3) := by decide +kernel
theorem dX2_makeFollowing_45 : decode cX2_makeFollowing 45 = .ok (.iconst 0, 1) := by decide +kernel
theorem dX2_makeFollowing_46 : decode cX2_makeFollowing 46 = .ok (.istore_n 3, 1) := by decide +kernel
theorem dX2_makeFollowing_47 : decode cX2_makeFollowing 47 = .ok (.iload_n 3, 1) := by decide +kernel
theorem dX2_makeFollowing_48 : decode cX2_makeFollowing 48 = .ok (.aload_n 0, 1) := by decide +kernel
theorem dX2_makeFollowing_49 : decode cX2_makeFollowing 49 = .ok (.getfield 27, 3) := by decide +kernel
theorem dX2_makeFollowing_52 : decode cX2_makeFollowing 52 = .ok (.if_icmp .ge 48, 3) := by decide +kernel
theorem dX2_makeFollowing_55 : decode cX2_makeFollowing 55 = .ok (.iload_n 3, 1) := by decide +kernel
theorem dX2_makeFollowing_56 : decode cX2_makeFollowing 56 = .ok (.bipush 8, 2) := by decide +kernel
theorem dX2_makeFollowing_58 : decode cX2_makeFollowing 58 = .ok (.if_icmp .ge 42, 3) := by decide +kernel
theorem dX2_makeFollowing_61 : decode cX2_makeFollowing 61 = .ok (.aload_n 0, 1) := by decide +kernel
theorem dX2_makeFollowing_62 : decode cX2_makeFollowing 62 = .ok (.getfield 16, 3) := by decide +kernel
theorem dX2_makeFollowing_65 : decode cX2_makeFollowing 65 = .ok (.iload_n 3, 1) := by decide +kernel
theorem dX2_makeFollowing_66 : decode cX2_makeFollowing 66 = .ok (.laload, 1) := by decide +kernel
theorem dX2_makeFollowing_67 : decode cX2_makeFollowing 67 = .ok (.lconst 0, 1) := by decide +kernel
theorem dX2_makeFollowing_68 : decode cX2_makeFollowing 68 = .ok (.lcmp, 1) := by decide +kernel
theorem dX2_makeFollowing_69 : decode cX2_makeFollowing 69 = .ok (.ifCond .eq 25, 3) := by decide +kernel
theorem dX2_makeFollowing_72 : decode cX2_makeFollowing 72 = .ok (.aload_n 0, 1) := by decide +kernel
theorem dX2_makeFollowing_73 : decode cX2_makeFollowing 73 = .ok (.aload_n 0, 1) := by decide +kernel
theorem dX2_makeFollowing_74 : decode cX2_makeFollowing 74 = .ok (.getfield 16, 3) := by decide +kernel
theorem dX2_makeFollowing_77 : decode cX2_makeFollowing 77 = .ok (.iload_n 3, 1) := by decide +kernel
theorem dX2_makeFollowing_78 : decode cX2_makeFollowing 78 = .ok (.laload, 1) := by decide +kernel
