theorem dX2_makeFollowing_79 : decode cX2_makeFollowing 79 = .ok (.iload_n 2, 1) := by decide +kernel
theorem dX2_makeFollowing_80 : decode cX2_makeFollowing 80 = .ok (.aload_n 0, 1) := by decide +kernel
theorem dX2_makeFollowing_81 : decode cX2_makeFollowing 81 = .ok (.getfield 16, 3) := by decide +kernel
theorem dX2_makeFollowing_84 : decode cX2_makeFollowing 84 = .ok (.iload_n 3, 1) := by decide +kernel
theorem dX2_makeFollowing_85 : decode cX2_makeFollowing 85 = .ok (.laload, 1) := by decide +kernel
theorem dX2_makeFollowing_86 : decode cX2_makeFollowing 86 = .ok (.invokestatic 109, 3) := by decide +kernel
theorem dX2_makeFollowing_89 : decode cX2_makeFollowing 89 = .ok (.isub, 1) := by decide +kernel
theorem dX2_makeFollowing_90 : decode cX2_makeFollowing 90 = .ok (.iload_n 2, 1) := by decide +kernel
theorem dX2_makeFollowing_91 : decode cX2_makeFollowing 91 = .ok (.invokevirtual 192, 3) := by decide +kernel
theorem dX2_makeFollowing_94 : decode cX2_makeFollowing 94 = .ok (.iinc 3 1, 3) := by decide +kernel
theorem dX2_makeFollowing_97 : decode cX2_makeFollowing 97 = .ok (.goto (-50), 3) := by decide +kernel
theorem dX2_makeFollowing_100 : decode cX2_makeFollowing 100 = .ok (.iinc 2 1, 3) := by decide +kernel
theorem dX2_makeFollowing_103 : decode cX2_makeFollowing 103 = .ok (.goto (-75), 3) := by decide +kernel
theorem dX2_makeFollowing_106 : decode cX2_makeFollowing 106 = .ok (.aload_n 0, 1) := by decide +kernel
theorem dX2_makeFollowing_107 : decode cX2_makeFollowing 107 = .ok (.iconst 1, 1) := by decide +kernel
theorem dX2_makeFollowing_108 : decode cX2_makeFollowing 108 = .ok (.putfield 52, 3) := by decide +kernel
theorem dX2_makeFollowing_111 : decode cX2_makeFollowing 111 = .ok (.return_, 1) := by decide +kernel
set_option maxRecDepth 20000 in
theorem ggX2_addMultiples_J6_bitCount_0f7a4 : GoodIn wsX2_addMultiples wsJ6_bitCount_0f7a4 := goodIn_r _ [5, 6, 7, 8] (by decide +kernel) (by decide +kernel)
set_option maxRecDepth 20000 in
theorem gX2_addMultiples_J6_bitCount_0f7a4 : GoodIn wsX2_addMultiples (va_wsS RX2 150 yJ6_bitCount_0f7a4 wsJ6_bitCount_0f7a4) := goodIn_app (goodIn_of _ (by decide +kernel)) ggX2_addMultiples_J6_bitCount_0f7a4
set_option maxRecDepth 20000 in
theorem ggX2_addMultiples_X2_multiplied : GoodIn wsX2_addMultiples wsX2_multiplied := goodIn_r _ [12, 13, 14, 11, 15, 16, 17] (by decide +kernel) (by decide +kernel)
set_option maxRecDepth 20000 in
theorem gX2_addMultiples_X2_multiplied : GoodIn wsX2_addMultiples (va_wsS RX2 116 yX2_multiplied wsX2_multiplied) := goodIn_app (goodIn_of _ (by decide +kernel)) ggX2_addMultiples_X2_multiplied
set_option maxRecDepth 20000 in
theorem ggX2_addMultiples_X0_add : GoodIn wsX2_addMultiples wsX0_add := goodIn_r _ [22, 23, 24, 25, 11, 26, 27, 28, 29, 21, 30, 31, 32, 33, 47, 48, 49, 50, 51] (by decide +kernel) (by decide +kernel)
set_option maxRecDepth 20000 in
theorem gX2_addMultiples_X0_add : GoodIn wsX2_addMultiples (wsV RX2 196 RX0 yX0_add wsX0_add) := goodIn_app (goodIn_of _ (by decide +kernel)) ggX2_addMultiples_X0_add
theorem dX2_addMultiples_0 : decode cX2_addMultiples 0 = .ok (.iconst 0, 1) := by decide +kernel
theorem dX2_addMultiples_1 : decode cX2_addMultiples 1 = .ok (.istore 5, 2) := by decide +kernel
theorem dX2_addMultiples_3 : decode cX2_addMultiples 3 = .ok (.iload 5, 2) := by decide +kernel
theorem dX2_addMultiples_5 : decode cX2_addMultiples 5 = .ok (.bipush 64, 2) := by decide +kernel
theorem dX2_addMultiples_7 : decode cX2_addMultiples 7 = .ok (.if_icmp .ge 35, 3) := by decide +kernel
theorem dX2_addMultiples_10 : decode cX2_addMultiples 10 = .ok (.iload 5, 2) := by decide +kernel
theorem dX2_addMultiples_12 : decode cX2_addMultiples 12 = .ok (.invokestatic 150, 3) := by decide +kernel
theorem dX2_addMultiples_15 : decode cX2_addMultiples 15 = .ok (.iload_n 3, 1) := by decide +kernel
theorem dX2_addMultiples_16 : decode cX2_addMultiples 16 = .ok (.if_icmp .ne 20, 3) := by decide +kernel
theorem dX2_addMultiples_19 : decode cX2_addMultiples 19 = .ok (.aload_n 0, 1) := by decide +kernel
theorem dX2_addMultiples_20 : decode cX2_addMultiples 20 = .ok (.getfield 48, 3) := by decide +kernel
theorem dX2_addMultiples_23 : decode cX2_addMultiples 23 = .ok (.lload_n 1, 1) := by decide +kernel
theorem dX2_addMultiples_24 : decode cX2_addMultiples 24 = .ok (.lconst 1, 1) := by decide +kernel
theorem dX2_addMultiples_25 : decode cX2_addMultiples 25 = .ok (.iload 5, 2) := by decide +kernel
theorem dX2_addMultiples_27 : decode cX2_addMultiples 27 = .ok (.lshl, 1) := by decide +kernel
theorem dX2_addMultiples_28 : decode cX2_addMultiples 28 = .ok (.invokestatic 116, 3) := by decide +kernel
theorem dX2_addMultiples_31 : decode cX2_addMultiples 31 = .ok (.iload 4, 2) := by decide +kernel
theorem dX2_addMultiples_33 : decode cX2_addMultiples 33 = .ok (.invokevirtual 196, 3) := by decide +kernel
theorem dX2_addMultiples_36 : decode cX2_addMultiples 36 = .ok (.iinc 5 1, 3) := by decide +kernel
theorem dX2_addMultiples_39 : decode cX2_addMultiples 39 = .ok (.goto (-36), 3) := by decide +kernel
theorem dX2_addMultiples_42 : decode cX2_addMultiples 42 = .ok (.return_, 1) := by decide +kernel
set_option maxRecDepth 20000 in
theorem ggX2_standingProducts_X2_makeFollowing : GoodIn wsX2_standingProducts wsX2_makeFollowing := goodIn_r _ [8, 9, 1, 10, 11, 12, 13, 14, 15, 16, 17, 18, 19, 20, 21, 22, 23, 24, 25, 26, 27, 28, 29, 7, 30, 31, 32, 33, 34, 35, 36, 37, 38, 39, 40, 41, 42, 43, 44, 45, 46, 47, 48, 49, 50, 51, 52, 53, 54, 55, 3, 56, 57, 58, 59, 60, 61, 62, 63, 64, 65, 66, 67, 68, 69, 70, 71, 72, 73, 74, 75, 76, 77, 78, 79, 80, 81, 82, 83, 84] (by decide +kernel) (by decide +kernel)
set_option maxRecDepth 20000 in
theorem gX2_standingProducts_X2_makeFollowing : GoodIn wsX2_standingProducts (wsV RX2 138 RX2 yX2_makeFollowing wsX2_makeFollowing) := goodIn_app (goodIn_of _ (by decide +kernel)) ggX2_standingProducts_X2_makeFollowing
theorem dX2_standingProducts_0 : decode cX2_standingProducts 0 = .ok (.aload_n 0, 1) := by decide +kernel
theorem dX2_standingProducts_1 : decode cX2_standingProducts 1 = .ok (.invokevirtual 138, 3) := by decide +kernel
theorem dX2_standingProducts_4 : decode cX2_standingProducts 4 = .ok (.aload_n 0, 1) := by decide +kernel
theorem dX2_standingProducts_5 : decode cX2_standingProducts 5 = .ok (.getfield 48, 3) := by decide +kernel
theorem dX2_standingProducts_8 : decode cX2_standingProducts 8 = .ok (.getfield 200, 3) := by decide +kernel
theorem dX2_standingProducts_11 : decode cX2_standingProducts 11 = .ok (.ldc2_w 36, 3) := by decide +kernel
theorem dX2_standingProducts_14 : decode cX2_standingProducts 14 = .ok (.lxor, 1) := by decide +kernel
theorem dX2_standingProducts_15 : decode cX2_standingProducts 15 = .ok (.lreturn, 1) := by decide +kernel
set_option maxRecDepth 20000 in
theorem ggX2_leftOf_X2_makeFollowing : GoodIn wsX2_leftOf wsX2_makeFollowing := goodIn_r _ [6, 7, 1, 8, 9, 10, 11, 12, 13, 14, 15, 16, 17, 18, 19, 20, 21, 22, 23, 24, 25, 26, 27, 5, 28, 29, 30, 31, 32, 33, 34, 35, 36, 37, 38, 39, 40, 41, 42, 43, 44, 45, 46, 47, 48, 49, 50, 51, 52, 53, 54, 55, 56, 57, 58, 59, 60, 61, 62, 63, 64, 65, 70, 71, 72, 73, 74, 75, 76, 77, 78, 79, 80, 81, 82, 83, 84, 85, 86, 87] (by decide +kernel) (by decide +kernel)
set_option maxRecDepth 20000 in
theorem gX2_leftOf_X2_makeFollowing : GoodIn wsX2_leftOf (wsV RX2 138 RX2 yX2_makeFollowing wsX2_makeFollowing) := goodIn_app (goodIn_of _ (by decide +kernel)) ggX2_leftOf_X2_makeFollowing
set_option maxRecDepth 20000 in
theorem ggX2_leftOf_X0_reduced : GoodIn wsX2_leftOf wsX0_reduced := goodIn_r _ [69, 17, 59, 34, 5, 35, 83, 84, 85, 86, 87] (by decide +kernel) (by decide +kernel)
set_option maxRecDepth 20000 in
theorem gX2_leftOf_X0_reduced : GoodIn wsX2_leftOf (wsV RX2 203 RX0 yX0_reduced wsX0_reduced) := goodIn_app (goodIn_of _ (by decide +kernel)) ggX2_leftOf_X0_reduced
theorem dX2_leftOf_0 : decode cX2_leftOf 0 = .ok (.aload_n 0, 1) := by decide +kernel
theorem dX2_leftOf_1 : decode cX2_leftOf 1 = .ok (.invokevirtual 138, 3) := by decide +kernel
theorem dX2_leftOf_4 : decode cX2_leftOf 4 = .ok (.aload_n 0, 1) := by decide +kernel
theorem dX2_leftOf_5 : decode cX2_leftOf 5 = .ok (.getfield 48, 3) := by decide +kernel
theorem dX2_leftOf_8 : decode cX2_leftOf 8 = .ok (.lload_n 1, 1) := by decide +kernel
theorem dX2_leftOf_9 : decode cX2_leftOf 9 = .ok (.invokevirtual 203, 3) := by decide +kernel
theorem dX2_leftOf_12 : decode cX2_leftOf 12 = .ok (.lreturn, 1) := by decide +kernel
set_option maxRecDepth 20000 in
theorem ggX2_beginsBase_X2_hasBit : GoodIn wsX2_beginsBase wsX2_hasBit := goodIn_r _ [4] (by decide +kernel) (by decide +kernel)
set_option maxRecDepth 20000 in
theorem gX2_beginsBase_X2_hasBit : GoodIn wsX2_beginsBase (va_wsS RX2 105 yX2_hasBit wsX2_hasBit) := goodIn_app (goodIn_of _ (by decide +kernel)) ggX2_beginsBase_X2_hasBit
theorem dX2_beginsBase_0 : decode cX2_beginsBase 0 = .ok (.lload_n 1, 1) := by decide +kernel
theorem dX2_beginsBase_1 : decode cX2_beginsBase 1 = .ok (.iload_n 0, 1) := by decide +kernel
theorem dX2_beginsBase_2 : decode cX2_beginsBase 2 = .ok (.invokestatic 105, 3) := by decide +kernel
theorem dX2_beginsBase_5 : decode cX2_beginsBase 5 = .ok (.ifCond .eq 5, 3) := by decide +kernel
theorem dX2_beginsBase_8 : decode cX2_beginsBase 8 = .ok (.iconst 0, 1) := by decide +kernel
theorem dX2_beginsBase_9 : decode cX2_beginsBase 9 = .ok (.ireturn, 1) := by decide +kernel
theorem dX2_beginsBase_10 : decode cX2_beginsBase 10 = .ok (.iconst 0, 1) := by decide +kernel
theorem dX2_beginsBase_11 : decode cX2_beginsBase 11 = .ok (.istore_n 3, 1) := by decide +kernel
theorem dX2_beginsBase_12 : decode cX2_beginsBase 12 = .ok (.iload_n 3, 1) := by decide +kernel
theorem dX2_beginsBase_13 : decode cX2_beginsBase 13 = .ok (.bipush 6, 2) := by decide +kernel
theorem dX2_beginsBase_15 : decode cX2_beginsBase 15 = .ok (.if_icmp .ge 35, 3) := by decide +kernel
theorem dX2_beginsBase_18 : decode cX2_beginsBase 18 = .ok (.iload_n 0, 1) := by decide +kernel
theorem dX2_beginsBase_19 : decode cX2_beginsBase 19 = .ok (.iconst 1, 1) := by decide +kernel
theorem dX2_beginsBase_20 : decode cX2_beginsBase 20 = .ok (.iload_n 3, 1) := by decide +kernel
theorem dX2_beginsBase_21 : decode cX2_beginsBase 21 = .ok (.ishl, 1) := by decide +kernel
theorem dX2_beginsBase_22 : decode cX2_beginsBase 22 = .ok (.iconst (-1), 1) := by decide +kernel
theorem dX2_beginsBase_23 : decode cX2_beginsBase 23 = .ok (.ixor, 1) := by decide +kernel
theorem dX2_beginsBase_24 : decode cX2_beginsBase 24 = .ok (.iand, 1) := by decide +kernel
theorem dX2_beginsBase_25 : decode cX2_beginsBase 25 = .ok (.istore 4, 2) := by decide +kernel
theorem dX2_beginsBase_27 : decode cX2_beginsBase 27 = .ok (.iload 4, 2) := by decide +kernel
theorem dX2_beginsBase_29 : decode cX2_beginsBase 29 = .ok (.iload_n 0, 1) := by decide +kernel
theorem dX2_beginsBase_30 : decode cX2_beginsBase 30 = .ok (.if_icmp .eq 14, 3) := by decide +kernel
theorem dX2_beginsBase_33 : decode cX2_beginsBase 33 = .ok (.lload_n 1, 1) := by decide +kernel
theorem dX2_beginsBase_34 : decode cX2_beginsBase 34 = .ok (.iload 4, 2) := by decide +kernel
theorem dX2_beginsBase_36 : decode cX2_beginsBase 36 = .ok (.invokestatic 105, 3) := by decide +kernel
theorem dX2_beginsBase_39 : decode cX2_beginsBase 39 = .ok (.ifCond .ne 5, 3) := by decide +kernel
theorem dX2_beginsBase_42 : decode cX2_beginsBase 42 = .ok (.iconst 0, 1) := by decide +kernel
theorem dX2_beginsBase_43 : decode cX2_beginsBase 43 = .ok (.ireturn, 1) := by decide +kernel
theorem dX2_beginsBase_44 : decode cX2_beginsBase 44 = .ok (.iinc 3 1, 3) := by decide +kernel
theorem dX2_beginsBase_47 : decode cX2_beginsBase 47 = .ok (.goto (-35), 3) := by decide +kernel
theorem dX2_beginsBase_50 : decode cX2_beginsBase 50 = .ok (.iconst 1, 1) := by decide +kernel
theorem dX2_beginsBase_51 : decode cX2_beginsBase 51 = .ok (.ireturn, 1) := by decide +kernel
set_option maxRecDepth 20000 in
theorem ggX2_baseSize_X2_standingProducts : GoodIn wsX2_baseSize wsX2_standingProducts := goodIn_r _ [5, 6, 7, 8, 9, 10, 11, 4, 12, 13, 14, 15, 16, 17, 18, 19, 20, 21, 22, 23, 24, 25, 26, 27, 28, 29, 30, 31, 32, 33, 34, 35, 36, 37, 38, 39, 40, 41, 42, 43, 44, 45, 46, 47, 48, 49, 50, 51, 52, 53, 54, 55, 56, 57, 58, 59, 60, 61, 62, 63, 64, 65, 66, 67, 68, 69, 70, 74, 75, 76, 77, 78, 79, 80, 81, 82, 83, 84, 85, 86, 87, 88, 89, 90, 91] (by decide +kernel) (by decide +kernel)
set_option maxRecDepth 20000 in
theorem gX2_baseSize_X2_standingProducts : GoodIn wsX2_baseSize (wsV RX2 123 RX2 yX2_standingProducts wsX2_standingProducts) := goodIn_app (goodIn_of _ (by decide +kernel)) ggX2_baseSize_X2_standingProducts
set_option maxRecDepth 20000 in
theorem ggX2_baseSize_X2_beginsBase : GoodIn wsX2_baseSize wsX2_beginsBase := goodIn_r _ [73, 39, 40, 4, 41] (by decide +kernel) (by decide +kernel)
set_option maxRecDepth 20000 in
theorem gX2_baseSize_X2_beginsBase : GoodIn wsX2_baseSize (va_wsS RX2 134 yX2_beginsBase wsX2_beginsBase) := goodIn_app (goodIn_of _ (by decide +kernel)) ggX2_baseSize_X2_beginsBase
theorem dX2_baseSize_0 : decode cX2_baseSize 0 = .ok (.aload_n 0, 1) := by decide +kernel
theorem dX2_baseSize_1 : decode cX2_baseSize 1 = .ok (.invokevirtual 123, 3) := by decide +kernel
theorem dX2_baseSize_4 : decode cX2_baseSize 4 = .ok (.lstore_n 1, 1) := by decide +kernel
theorem dX2_baseSize_5 : decode cX2_baseSize 5 = .ok (.iconst 0, 1) := by decide +kernel
theorem dX2_baseSize_6 : decode cX2_baseSize 6 = .ok (.istore_n 3, 1) := by decide +kernel
theorem dX2_baseSize_7 : decode cX2_baseSize 7 = .ok (.iconst 0, 1) := by decide +kernel
theorem dX2_baseSize_8 : decode cX2_baseSize 8 = .ok (.istore 4, 2) := by decide +kernel
theorem dX2_baseSize_10 : decode cX2_baseSize 10 = .ok (.iload 4, 2) := by decide +kernel
theorem dX2_baseSize_12 : decode cX2_baseSize 12 = .ok (.bipush 64, 2) := by decide +kernel
theorem dX2_baseSize_14 : decode cX2_baseSize 14 = .ok (.if_icmp .ge 21, 3) := by decide +kernel
theorem dX2_baseSize_17 : decode cX2_baseSize 17 = .ok (.iload 4, 2) := by decide +kernel
theorem dX2_baseSize_19 : decode cX2_baseSize 19 = .ok (.lload_n 1, 1) := by decide +kernel
theorem dX2_baseSize_20 : decode cX2_baseSize 20 = .ok (.invokestatic 134, 3) := by decide +kernel
theorem dX2_baseSize_23 : decode cX2_baseSize 23 = .ok (.ifCond .eq 6, 3) := by decide +kernel
theorem dX2_baseSize_26 : decode cX2_baseSize 26 = .ok (.iinc 3 1, 3) := by decide +kernel
theorem dX2_baseSize_29 : decode cX2_baseSize 29 = .ok (.iinc 4 1, 3) := by decide +kernel
theorem dX2_baseSize_32 : decode cX2_baseSize 32 = .ok (.goto (-22), 3) := by decide +kernel
theorem dX2_baseSize_35 : decode cX2_baseSize 35 = .ok (.iload_n 3, 1) := by decide +kernel
theorem dX2_baseSize_36 : decode cX2_baseSize 36 = .ok (.ireturn, 1) := by decide +kernel
set_option maxRecDepth 20000 in
theorem ggX2_makeGrown_X0_empty : GoodIn wsX2_makeGrown wsX0_empty := goodIn_r _ [9, 10, 11, 79, 80, 81, 82, 83] (by decide +kernel) (by decide +kernel)
set_option maxRecDepth 20000 in
theorem gX2_makeGrown_X0_empty : GoodIn wsX2_makeGrown (wsV RX2 186 RX0 yX0_empty wsX0_empty) := goodIn_app (goodIn_of _ (by decide +kernel)) ggX2_makeGrown_X0_empty
set_option maxRecDepth 20000 in
theorem ggX2_makeGrown_X2_degreeOf : GoodIn wsX2_makeGrown wsX2_degreeOf := goodIn_r _ [15, 16, 17, 14, 18, 19, 20, 21, 22, 23, 24, 25, 26, 27, 28, 29] (by decide +kernel) (by decide +kernel)
set_option maxRecDepth 20000 in
theorem gX2_makeGrown_X2_degreeOf : GoodIn wsX2_makeGrown (va_wsS RX2 109 yX2_degreeOf wsX2_degreeOf) := goodIn_app (goodIn_of _ (by decide +kernel)) ggX2_makeGrown_X2_degreeOf
set_option maxRecDepth 20000 in
theorem ggX2_makeGrown_X0_add : GoodIn wsX2_makeGrown wsX0_add := goodIn_r _ [33, 10, 34, 21, 14, 22, 35, 36, 37, 8, 38, 11, 39, 40, 79, 80, 81, 82, 83] (by decide +kernel) (by decide +kernel)
set_option maxRecDepth 20000 in
theorem gX2_makeGrown_X0_add : GoodIn wsX2_makeGrown (wsV RX2 196 RX0 yX0_add wsX0_add) := goodIn_app (goodIn_of _ (by decide +kernel)) ggX2_makeGrown_X0_add
set_option maxRecDepth 20000 in
theorem ggX2_makeGrown_X2_multiplyRows : GoodIn wsX2_makeGrown wsX2_multiplyRows := goodIn_r _ [44, 2, 45, 46, 47, 48, 49, 50, 51, 52, 8, 53, 11, 39, 40, 54, 55, 56, 57, 34, 12, 13, 14, 15, 16, 17, 18, 19, 20, 21, 22, 23, 24, 25, 26, 27, 28, 29, 58, 59, 60, 61, 62, 63, 64, 65, 30, 31, 32, 33, 10, 35, 36, 37, 38, 66, 67, 68, 69, 70, 71, 72, 73, 74, 75, 76, 77, 78, 79, 80, 81, 82, 83] (by decide +kernel) (by decide +kernel)
set_option maxRecDepth 20000 in
theorem gX2_makeGrown_X2_multiplyRows : GoodIn wsX2_makeGrown (wsV RX2 206 RX2 yX2_multiplyRows wsX2_multiplyRows) := goodIn_app (goodIn_of _ (by decide +kernel)) ggX2_makeGrown_X2_multiplyRows
theorem dX2_makeGrown_0 : decode cX2_makeGrown 0 = .ok (.aload_n 0, 1) := by decide +kernel
theorem dX2_makeGrown_1 : decode cX2_makeGrown 1 = .ok (.getfield 59, 3) := by decide +kernel
theorem dX2_makeGrown_4 : decode cX2_makeGrown 4 = .ok (.ifCond .eq 4, 3) := by decide +kernel
theorem dX2_makeGrown_7 : decode cX2_makeGrown 7 = .ok (.return_, 1) := by decide +kernel
theorem dX2_makeGrown_8 : decode cX2_makeGrown 8 = .ok (.aload_n 0, 1) := by decide +kernel
theorem dX2_makeGrown_9 : decode cX2_makeGrown 9 = .ok (.getfield 56, 3) := by decide +kernel
theorem dX2_makeGrown_12 : decode cX2_makeGrown 12 = .ok (.invokevirtual 186, 3) := by decide +kernel
theorem dX2_makeGrown_15 : decode cX2_makeGrown 15 = .ok (.iconst 0, 1) := by decide +kernel
theorem dX2_makeGrown_16 : decode cX2_makeGrown 16 = .ok (.istore_n 1, 1) := by decide +kernel
theorem dX2_makeGrown_17 : decode cX2_makeGrown 17 = .ok (.iload_n 1, 1) := by decide +kernel
theorem dX2_makeGrown_18 : decode cX2_makeGrown 18 = .ok (.bipush 6, 2) := by decide +kernel
theorem dX2_makeGrown_20 : decode cX2_makeGrown 20 = .ok (.if_icmp .gt 63, 3) := by decide +kernel
theorem dX2_makeGrown_23 : decode cX2_makeGrown 23 = .ok (.iconst 0, 1) := by decide +kernel
theorem dX2_makeGrown_24 : decode cX2_makeGrown 24 = .ok (.istore_n 2, 1) := by decide +kernel
theorem dX2_makeGrown_25 : decode cX2_makeGrown 25 = .ok (.iload_n 2, 1) := by decide +kernel
theorem dX2_makeGrown_26 : decode cX2_makeGrown 26 = .ok (.aload_n 0, 1) := by decide +kernel
theorem dX2_makeGrown_27 : decode cX2_makeGrown 27 = .ok (.getfield 27, 3) := by decide +kernel
theorem dX2_makeGrown_30 : decode cX2_makeGrown 30 = .ok (.if_icmp .ge 42, 3) := by decide +kernel
theorem dX2_makeGrown_33 : decode cX2_makeGrown 33 = .ok (.iload_n 2, 1) := by decide +kernel
theorem dX2_makeGrown_34 : decode cX2_makeGrown 34 = .ok (.bipush 8, 2) := by decide +kernel
theorem dX2_makeGrown_36 : decode cX2_makeGrown 36 = .ok (.if_icmp .ge 36, 3) := by decide +kernel
theorem dX2_makeGrown_39 : decode cX2_makeGrown 39 = .ok (.aload_n 0, 1) := by decide +kernel
theorem dX2_makeGrown_40 : decode cX2_makeGrown 40 = .ok (.getfield 16, 3) := by decide +kernel
theorem dX2_makeGrown_43 : decode cX2_makeGrown 43 = .ok (.iload_n 2, 1) := by decide +kernel
theorem dX2_makeGrown_44 : decode cX2_makeGrown 44 = .ok (.laload, 1) := by decide +kernel
theorem dX2_makeGrown_45 : decode cX2_makeGrown 45 = .ok (.invokestatic 109, 3) := by decide +kernel
theorem dX2_makeGrown_48 : decode cX2_makeGrown 48 = .ok (.iload_n 1, 1) := by decide +kernel
theorem dX2_makeGrown_49 : decode cX2_makeGrown 49 = .ok (.if_icmp .ne 17, 3) := by decide +kernel
theorem dX2_makeGrown_52 : decode cX2_makeGrown 52 = .ok (.aload_n 0, 1) := by decide +kernel
theorem dX2_makeGrown_53 : decode cX2_makeGrown 53 = .ok (.getfield 56, 3) := by decide +kernel
theorem dX2_makeGrown_56 : decode cX2_makeGrown 56 = .ok (.aload_n 0, 1) := by decide +kernel
theorem dX2_makeGrown_57 : decode cX2_makeGrown 57 = .ok (.getfield 16, 3) := by decide +kernel
theorem dX2_makeGrown_60 : decode cX2_makeGrown 60 = .ok (.iload_n 2, 1) := by decide +kernel
theorem dX2_makeGrown_61 : decode cX2_makeGrown 61 = .ok (.laload, 1) := by decide +kernel
theorem dX2_makeGrown_62 : decode cX2_makeGrown 62 = .ok (.iload_n 1, 1) := by decide +kernel
theorem dX2_makeGrown_63 : decode cX2_makeGrown 63 = .ok (.invokevirtual 196, 3) := by decide +kernel
theorem dX2_makeGrown_66 : decode cX2_makeGrown 66 = .ok (.iinc 2 1, 3) := by decide +kernel
theorem dX2_makeGrown_69 : decode cX2_makeGrown 69 = .ok (.goto (-44), 3) := by decide +kernel
theorem dX2_makeGrown_72 : decode cX2_makeGrown 72 = .ok (.aload_n 0, 1) := by decide +kernel
theorem dX2_makeGrown_73 : decode cX2_makeGrown 73 = .ok (.iload_n 1, 1) := by decide +kernel
theorem dX2_makeGrown_74 : decode cX2_makeGrown 74 = .ok (.invokevirtual 206, 3) := by decide +kernel
theorem dX2_makeGrown_77 : decode cX2_makeGrown 77 = .ok (.iinc 1 1, 3) := by decide +kernel
theorem dX2_makeGrown_80 : decode cX2_makeGrown 80 = .ok (.goto (-63), 3) := by decide +kernel
theorem dX2_makeGrown_83 : decode cX2_makeGrown 83 = .ok (.aload_n 0, 1) := by decide +kernel
theorem dX2_makeGrown_84 : decode cX2_makeGrown 84 = .ok (.iconst 1, 1) := by decide +kernel
theorem dX2_makeGrown_85 : decode cX2_makeGrown 85 = .ok (.putfield 59, 3) := by decide +kernel
theorem dX2_makeGrown_88 : decode cX2_makeGrown 88 = .ok (.return_, 1) := by decide +kernel
set_option maxRecDepth 20000 in
theorem ggX2_multiplyRows_X0_levelOfRow : GoodIn wsX2_multiplyRows wsX0_levelOfRow := goodIn_r _ [11, 12, 13, 14, 68, 69, 70, 71, 72] (by decide +kernel) (by decide +kernel)
set_option maxRecDepth 20000 in
theorem gX2_multiplyRows_X0_levelOfRow : GoodIn wsX2_multiplyRows (wsV RX2 209 RX0 yX0_levelOfRow wsX0_levelOfRow) := goodIn_app (goodIn_of _ (by decide +kernel)) ggX2_multiplyRows_X0_levelOfRow
set_option maxRecDepth 20000 in
theorem ggX2_multiplyRows_X0_sumOfRow : GoodIn wsX2_multiplyRows wsX0_sumOfRow := goodIn_r _ [18, 12, 19, 14, 68, 69, 70, 71, 72] (by decide +kernel) (by decide +kernel)
set_option maxRecDepth 20000 in
theorem gX2_multiplyRows_X0_sumOfRow : GoodIn wsX2_multiplyRows (wsV RX2 212 RX0 yX0_sumOfRow wsX0_sumOfRow) := goodIn_app (goodIn_of _ (by decide +kernel)) ggX2_multiplyRows_X0_sumOfRow
set_option maxRecDepth 20000 in
theorem ggX2_multiplyRows_X2_degreeOf : GoodIn wsX2_multiplyRows wsX2_degreeOf := goodIn_r _ [23, 24, 25, 22, 26, 27, 28, 29, 30, 31, 32, 33, 34, 35, 36, 37] (by decide +kernel) (by decide +kernel)
set_option maxRecDepth 20000 in
theorem gX2_multiplyRows_X2_degreeOf : GoodIn wsX2_multiplyRows (va_wsS RX2 109 yX2_degreeOf wsX2_degreeOf) := goodIn_app (goodIn_of _ (by decide +kernel)) ggX2_multiplyRows_X2_degreeOf
set_option maxRecDepth 20000 in
theorem ggX2_multiplyRows_X2_multiplied : GoodIn wsX2_multiplyRows wsX2_multiplied := goodIn_r _ [40, 41, 42, 22, 43, 44, 45] (by decide +kernel) (by decide +kernel)
set_option maxRecDepth 20000 in
theorem gX2_multiplyRows_X2_multiplied : GoodIn wsX2_multiplyRows (va_wsS RX2 116 yX2_multiplied wsX2_multiplied) := goodIn_app (goodIn_of _ (by decide +kernel)) ggX2_multiplyRows_X2_multiplied
set_option maxRecDepth 20000 in
theorem ggX2_multiplyRows_X0_add : GoodIn wsX2_multiplyRows wsX0_add := goodIn_r _ [49, 50, 19, 29, 22, 30, 51, 52, 53, 10, 54, 12, 13, 14, 68, 69, 70, 71, 72] (by decide +kernel) (by decide +kernel)
set_option maxRecDepth 20000 in
theorem gX2_multiplyRows_X0_add : GoodIn wsX2_multiplyRows (wsV RX2 196 RX0 yX0_add wsX0_add) := goodIn_app (goodIn_of _ (by decide +kernel)) ggX2_multiplyRows_X0_add
theorem dX2_multiplyRows_0 : decode cX2_multiplyRows 0 = .ok (.iconst 0, 1) := by decide +kernel
theorem dX2_multiplyRows_1 : decode cX2_multiplyRows 1 = .ok (.istore_n 2, 1) := by decide +kernel
theorem dX2_multiplyRows_2 : decode cX2_multiplyRows 2 = .ok (.iload_n 2, 1) := by decide +kernel
theorem dX2_multiplyRows_3 : decode cX2_multiplyRows 3 = .ok (.bipush 64, 2) := by decide +kernel
theorem dX2_multiplyRows_5 : decode cX2_multiplyRows 5 = .ok (.if_icmp .ge 91, 3) := by decide +kernel
theorem dX2_multiplyRows_8 : decode cX2_multiplyRows 8 = .ok (.iload_n 2, 1) := by decide +kernel
theorem dX2_multiplyRows_9 : decode cX2_multiplyRows 9 = .ok (.aload_n 0, 1) := by decide +kernel
theorem dX2_multiplyRows_10 : decode cX2_multiplyRows 10 = .ok (.getfield 56, 3) := by decide +kernel
theorem dX2_multiplyRows_13 : decode cX2_multiplyRows 13 = .ok (.getfield 189, 3) := by decide +kernel
theorem dX2_multiplyRows_16 : decode cX2_multiplyRows 16 = .ok (.if_icmp .ge 80, 3) := by decide +kernel
theorem dX2_multiplyRows_19 : decode cX2_multiplyRows 19 = .ok (.aload_n 0, 1) := by decide +kernel
theorem dX2_multiplyRows_20 : decode cX2_multiplyRows 20 = .ok (.getfield 56, 3) := by decide +kernel
theorem dX2_multiplyRows_23 : decode cX2_multiplyRows 23 = .ok (.iload_n 2, 1) := by decide +kernel
theorem dX2_multiplyRows_24 : decode cX2_multiplyRows 24 = .ok (.invokevirtual 209, 3) := by decide +kernel
theorem dX2_multiplyRows_27 : decode cX2_multiplyRows 27 = .ok (.aload_n 0, 1) := by decide +kernel
theorem dX2_multiplyRows_28 : decode cX2_multiplyRows 28 = .ok (.getfield 56, 3) := by decide +kernel
theorem dX2_multiplyRows_31 : decode cX2_multiplyRows 31 = .ok (.iload_n 2, 1) := by decide +kernel
theorem dX2_multiplyRows_32 : decode cX2_multiplyRows 32 = .ok (.invokevirtual 212, 3) := by decide +kernel
theorem dX2_multiplyRows_35 : decode cX2_multiplyRows 35 = .ok (.invokestatic 109, 3) := by decide +kernel
theorem dX2_multiplyRows_38 : decode cX2_multiplyRows 38 = .ok (.iconst 1, 1) := by decide +kernel
theorem dX2_multiplyRows_39 : decode cX2_multiplyRows 39 = .ok (.iadd, 1) := by decide +kernel
theorem dX2_multiplyRows_40 : decode cX2_multiplyRows 40 = .ok (.invokestatic 215, 3) := by decide +kernel
theorem dX2_multiplyRows_43 : decode cX2_multiplyRows 43 = .ok (.istore_n 3, 1) := by decide +kernel
theorem dX2_multiplyRows_44 : decode cX2_multiplyRows 44 = .ok (.iload_n 3, 1) := by decide +kernel
theorem dX2_multiplyRows_45 : decode cX2_multiplyRows 45 = .ok (.iload_n 1, 1) := by decide +kernel
theorem dX2_multiplyRows_46 : decode cX2_multiplyRows 46 = .ok (.if_icmp .ne 44, 3) := by decide +kernel
theorem dX2_multiplyRows_49 : decode cX2_multiplyRows 49 = .ok (.iconst 0, 1) := by decide +kernel
theorem dX2_multiplyRows_50 : decode cX2_multiplyRows 50 = .ok (.istore 4, 2) := by decide +kernel
theorem dX2_multiplyRows_52 : decode cX2_multiplyRows 52 = .ok (.iload 4, 2) := by decide +kernel
theorem dX2_multiplyRows_54 : decode cX2_multiplyRows 54 = .ok (.bipush 6, 2) := by decide +kernel
theorem dX2_multiplyRows_56 : decode cX2_multiplyRows 56 = .ok (.if_icmp .ge 34, 3) := by decide +kernel
theorem dX2_multiplyRows_59 : decode cX2_multiplyRows 59 = .ok (.aload_n 0, 1) := by decide +kernel
theorem dX2_multiplyRows_60 : decode cX2_multiplyRows 60 = .ok (.getfield 56, 3) := by decide +kernel
theorem dX2_multiplyRows_63 : decode cX2_multiplyRows 63 = .ok (.aload_n 0, 1) := by decide +kernel
theorem dX2_multiplyRows_64 : decode cX2_multiplyRows 64 = .ok (.getfield 56, 3) := by decide +kernel
theorem dX2_multiplyRows_67 : decode cX2_multiplyRows 67 = .ok (.iload_n 2, 1) := by decide +kernel
theorem dX2_multiplyRows_68 : decode cX2_multiplyRows 68 = .ok (.invokevirtual 212, 3) := by decide +kernel
theorem dX2_multiplyRows_71 : decode cX2_multiplyRows 71 = .ok (.lconst 1, 1) := by decide +kernel
theorem dX2_multiplyRows_72 : decode cX2_multiplyRows 72 = .ok (.iconst 1, 1) := by decide +kernel
theorem dX2_multiplyRows_73 : decode cX2_multiplyRows 73 = .ok (.iload 4, 2) := by decide +kernel
theorem dX2_multiplyRows_75 : decode cX2_multiplyRows 75 = .ok (.ishl, 1) := by decide +kernel
theorem dX2_multiplyRows_76 : decode cX2_multiplyRows 76 = .ok (.lshl, 1) := by decide +kernel
theorem dX2_multiplyRows_77 : decode cX2_multiplyRows 77 = .ok (.invokestatic 116, 3) := by decide +kernel
theorem dX2_multiplyRows_80 : decode cX2_multiplyRows 80 = .ok (.iload_n 1, 1) := by decide +kernel
theorem dX2_multiplyRows_81 : decode cX2_multiplyRows 81 = .ok (.invokevirtual 196, 3) := by decide +kernel
theorem dX2_multiplyRows_84 : decode cX2_multiplyRows 84 = .ok (.iinc 4 1, 3) := by decide +kernel
theorem dX2_multiplyRows_87 : decode cX2_multiplyRows 87 = .ok (.goto (-35), 3) := by decide +kernel
theorem dX2_multiplyRows_90 : decode cX2_multiplyRows 90 = .ok (.iinc 2 1, 3) := by decide +kernel
theorem dX2_multiplyRows_93 : decode cX2_multiplyRows 93 = .ok (.goto (-91), 3) := by decide +kernel
theorem dX2_multiplyRows_96 : decode cX2_multiplyRows 96 = .ok (.return_, 1) := by decide +kernel
set_option maxRecDepth 20000 in
theorem ggX2_fewestGiven_J6_bitCount_0f7a4 : GoodIn wsX2_fewestGiven wsJ6_bitCount_0f7a4 := goodIn_r _ [5, 6, 7, 8] (by decide +kernel) (by decide +kernel)
set_option maxRecDepth 20000 in
theorem gX2_fewestGiven_J6_bitCount_0f7a4 : GoodIn wsX2_fewestGiven (va_wsS RX2 150 yJ6_bitCount_0f7a4 wsJ6_bitCount_0f7a4) := goodIn_app (goodIn_of _ (by decide +kernel)) ggX2_fewestGiven_J6_bitCount_0f7a4
set_option maxRecDepth 20000 in
theorem ggX2_fewestGiven_X2_worldsOf : GoodIn wsX2_fewestGiven wsX2_worldsOf := goodIn_r _ [13, 14, 1, 15, 16, 17, 18, 19, 20, 21, 22, 23, 24, 25, 26, 27, 28] (by decide +kernel) (by decide +kernel)
set_option maxRecDepth 20000 in
theorem gX2_fewestGiven_X2_worldsOf : GoodIn wsX2_fewestGiven (wsV RX2 221 RX2 yX2_worldsOf wsX2_worldsOf) := goodIn_app (goodIn_of _ (by decide +kernel)) ggX2_fewestGiven_X2_worldsOf
theorem dX2_fewestGiven_0 : decode cX2_fewestGiven 0 = .ok (.bipush (-9), 2) := by decide +kernel
theorem dX2_fewestGiven_2 : decode cX2_fewestGiven 2 = .ok (.istore_n 3, 1) := by decide +kernel
theorem dX2_fewestGiven_3 : decode cX2_fewestGiven 3 = .ok (.iconst 0, 1) := by decide +kernel
theorem dX2_fewestGiven_4 : decode cX2_fewestGiven 4 = .ok (.istore 4, 2) := by decide +kernel
theorem dX2_fewestGiven_6 : decode cX2_fewestGiven 6 = .ok (.iload 4, 2) := by decide +kernel
theorem dX2_fewestGiven_8 : decode cX2_fewestGiven 8 = .ok (.iconst 1, 1) := by decide +kernel
theorem dX2_fewestGiven_9 : decode cX2_fewestGiven 9 = .ok (.aload_n 0, 1) := by decide +kernel
theorem dX2_fewestGiven_10 : decode cX2_fewestGiven 10 = .ok (.getfield 27, 3) := by decide +kernel
theorem dX2_fewestGiven_13 : decode cX2_fewestGiven 13 = .ok (.ishl, 1) := by decide +kernel
theorem dX2_fewestGiven_14 : decode cX2_fewestGiven 14 = .ok (.if_icmp .ge 55, 3) := by decide +kernel
theorem dX2_fewestGiven_17 : decode cX2_fewestGiven 17 = .ok (.iload_n 3, 1) := by decide +kernel
theorem dX2_fewestGiven_18 : decode cX2_fewestGiven 18 = .ok (.bipush (-9), 2) := by decide +kernel
theorem dX2_fewestGiven_20 : decode cX2_fewestGiven 20 = .ok (.if_icmp .eq 15, 3) := by decide +kernel
theorem dX2_fewestGiven_23 : decode cX2_fewestGiven 23 = .ok (.iload 4, 2) := by decide +kernel
theorem dX2_fewestGiven_25 : decode cX2_fewestGiven 25 = .ok (.invokestatic 150, 3) := by decide +kernel
theorem dX2_fewestGiven_28 : decode cX2_fewestGiven 28 = .ok (.iload_n 3, 1) := by decide +kernel
theorem dX2_fewestGiven_29 : decode cX2_fewestGiven 29 = .ok (.invokestatic 150, 3) := by decide +kernel
theorem dX2_fewestGiven_32 : decode cX2_fewestGiven 32 = .ok (.if_icmp .ge 7, 3) := by decide +kernel
theorem dX2_fewestGiven_35 : decode cX2_fewestGiven 35 = .ok (.iconst 1, 1) := by decide +kernel
theorem dX2_fewestGiven_36 : decode cX2_fewestGiven 36 = .ok (.goto 4, 3) := by decide +kernel
theorem dX2_fewestGiven_39 : decode cX2_fewestGiven 39 = .ok (.iconst 0, 1) := by decide +kernel
theorem dX2_fewestGiven_40 : decode cX2_fewestGiven 40 = .ok (.istore 5, 2) := by decide +kernel
theorem dX2_fewestGiven_42 : decode cX2_fewestGiven 42 = .ok (.iload 5, 2) := by decide +kernel
theorem dX2_fewestGiven_44 : decode cX2_fewestGiven 44 = .ok (.ifCond .eq 19, 3) := by decide +kernel
theorem dX2_fewestGiven_47 : decode cX2_fewestGiven 47 = .ok (.lload_n 1, 1) := by decide +kernel
theorem dX2_fewestGiven_48 : decode cX2_fewestGiven 48 = .ok (.aload_n 0, 1) := by decide +kernel
theorem dX2_fewestGiven_49 : decode cX2_fewestGiven 49 = .ok (.iload 4, 2) := by decide +kernel
theorem dX2_fewestGiven_51 : decode cX2_fewestGiven 51 = .ok (.invokevirtual 221, 3) := by decide +kernel
theorem dX2_fewestGiven_54 : decode cX2_fewestGiven 54 = .ok (.land, 1) := by decide +kernel
theorem dX2_fewestGiven_55 : decode cX2_fewestGiven 55 = .ok (.lconst 0, 1) := by decide +kernel
theorem dX2_fewestGiven_56 : decode cX2_fewestGiven 56 = .ok (.lcmp, 1) := by decide +kernel
theorem dX2_fewestGiven_57 : decode cX2_fewestGiven 57 = .ok (.ifCond .ne 6, 3) := by decide +kernel
theorem dX2_fewestGiven_60 : decode cX2_fewestGiven 60 = .ok (.iload 4, 2) := by decide +kernel
theorem dX2_fewestGiven_62 : decode cX2_fewestGiven 62 = .ok (.istore_n 3, 1) := by decide +kernel
theorem dX2_fewestGiven_63 : decode cX2_fewestGiven 63 = .ok (.iinc 4 1, 3) := by decide +kernel
theorem dX2_fewestGiven_66 : decode cX2_fewestGiven 66 = .ok (.goto (-60), 3) := by decide +kernel
theorem dX2_fewestGiven_69 : decode cX2_fewestGiven 69 = .ok (.iload_n 3, 1) := by decide +kernel
theorem dX2_fewestGiven_70 : decode cX2_fewestGiven 70 = .ok (.ireturn, 1) := by decide +kernel
theorem dX2_worldsOf_0 : decode cX2_worldsOf 0 = .ok (.ldc2_w 36, 3) := by decide +kernel
theorem dX2_worldsOf_3 : decode cX2_worldsOf 3 = .ok (.lstore_n 2, 1) := by decide +kernel
theorem dX2_worldsOf_4 : decode cX2_worldsOf 4 = .ok (.iconst 0, 1) := by decide +kernel
theorem dX2_worldsOf_5 : decode cX2_worldsOf 5 = .ok (.istore 4, 2) := by decide +kernel
theorem dX2_worldsOf_7 : decode cX2_worldsOf 7 = .ok (.iload 4, 2) := by decide +kernel
theorem dX2_worldsOf_9 : decode cX2_worldsOf 9 = .ok (.aload_n 0, 1) := by decide +kernel
theorem dX2_worldsOf_10 : decode cX2_worldsOf 10 = .ok (.getfield 27, 3) := by decide +kernel
theorem dX2_worldsOf_13 : decode cX2_worldsOf 13 = .ok (.if_icmp .ge 39, 3) := by decide +kernel
theorem dX2_worldsOf_16 : decode cX2_worldsOf 16 = .ok (.iload 4, 2) := by decide +kernel
theorem dX2_worldsOf_18 : decode cX2_worldsOf 18 = .ok (.bipush 8, 2) := by decide +kernel
theorem dX2_worldsOf_20 : decode cX2_worldsOf 20 = .ok (.if_icmp .ge 32, 3) := by decide +kernel
theorem dX2_worldsOf_23 : decode cX2_worldsOf 23 = .ok (.iload_n 1, 1) := by decide +kernel
theorem dX2_worldsOf_24 : decode cX2_worldsOf 24 = .ok (.iload 4, 2) := by decide +kernel
theorem dX2_worldsOf_26 : decode cX2_worldsOf 26 = .ok (.iushr, 1) := by decide +kernel
theorem dX2_worldsOf_27 : decode cX2_worldsOf 27 = .ok (.iconst 1, 1) := by decide +kernel
theorem dX2_worldsOf_28 : decode cX2_worldsOf 28 = .ok (.iand, 1) := by decide +kernel
theorem dX2_worldsOf_29 : decode cX2_worldsOf 29 = .ok (.ifCond .eq 17, 3) := by decide +kernel
theorem dX2_worldsOf_32 : decode cX2_worldsOf 32 = .ok (.lload_n 2, 1) := by decide +kernel
theorem dX2_worldsOf_33 : decode cX2_worldsOf 33 = .ok (.aload_n 0, 1) := by decide +kernel
theorem dX2_worldsOf_34 : decode cX2_worldsOf 34 = .ok (.getfield 20, 3) := by decide +kernel
theorem dX2_worldsOf_37 : decode cX2_worldsOf 37 = .ok (.iload 4, 2) := by decide +kernel
theorem dX2_worldsOf_39 : decode cX2_worldsOf 39 = .ok (.laload, 1) := by decide +kernel
theorem dX2_worldsOf_40 : decode cX2_worldsOf 40 = .ok (.ldc2_w 36, 3) := by decide +kernel
theorem dX2_worldsOf_43 : decode cX2_worldsOf 43 = .ok (.lxor, 1) := by decide +kernel
theorem dX2_worldsOf_44 : decode cX2_worldsOf 44 = .ok (.land, 1) := by decide +kernel
theorem dX2_worldsOf_45 : decode cX2_worldsOf 45 = .ok (.lstore_n 2, 1) := by decide +kernel
theorem dX2_worldsOf_46 : decode cX2_worldsOf 46 = .ok (.iinc 4 1, 3) := by decide +kernel
theorem dX2_worldsOf_49 : decode cX2_worldsOf 49 = .ok (.goto (-42), 3) := by decide +kernel
theorem dX2_worldsOf_52 : decode cX2_worldsOf 52 = .ok (.lload_n 2, 1) := by decide +kernel
theorem dX2_worldsOf_53 : decode cX2_worldsOf 53 = .ok (.lreturn, 1) := by decide +kernel
set_option maxRecDepth 20000 in
theorem ggX2_sumWeight_X2_sumOf : GoodIn wsX2_sumWeight wsX2_sumOf := goodIn_r _ [6, 7, 8, 9, 10, 5, 11, 12, 20, 21, 22, 23, 24, 25, 26, 27, 28, 29, 30, 31, 32] (by decide +kernel) (by decide +kernel)
set_option maxRecDepth 20000 in
theorem gX2_sumWeight_X2_sumOf : GoodIn wsX2_sumWeight (wsV RX2 97 RX2 yX2_sumOf wsX2_sumOf) := goodIn_app (goodIn_of _ (by decide +kernel)) ggX2_sumWeight_X2_sumOf
set_option maxRecDepth 20000 in
theorem ggX2_sumWeight_J13_bitCount_95d88 : GoodIn wsX2_sumWeight wsJ13_bitCount_95d88 := goodIn_r _ [16, 17, 18, 19] (by decide +kernel) (by decide +kernel)
set_option maxRecDepth 20000 in
theorem gX2_sumWeight_J13_bitCount_95d88 : GoodIn wsX2_sumWeight (va_wsS RX2 170 yJ13_bitCount_95d88 wsJ13_bitCount_95d88) := goodIn_app (goodIn_of _ (by decide +kernel)) ggX2_sumWeight_J13_bitCount_95d88
theorem dX2_sumWeight_0 : decode cX2_sumWeight 0 = .ok (.aload_n 0, 1) := by decide +kernel
theorem dX2_sumWeight_1 : decode cX2_sumWeight 1 = .ok (.dup, 1) := by decide +kernel
theorem dX2_sumWeight_2 : decode cX2_sumWeight 2 = .ok (.getfield 42, 3) := by decide +kernel
theorem dX2_sumWeight_5 : decode cX2_sumWeight 5 = .ok (.lconst 1, 1) := by decide +kernel
theorem dX2_sumWeight_6 : decode cX2_sumWeight 6 = .ok (.ladd, 1) := by decide +kernel
theorem dX2_sumWeight_7 : decode cX2_sumWeight 7 = .ok (.putfield 42, 3) := by decide +kernel
theorem dX2_sumWeight_10 : decode cX2_sumWeight 10 = .ok (.aload_n 0, 1) := by decide +kernel
theorem dX2_sumWeight_11 : decode cX2_sumWeight 11 = .ok (.iload_n 1, 1) := by decide +kernel
theorem dX2_sumWeight_12 : decode cX2_sumWeight 12 = .ok (.invokevirtual 97, 3) := by decide +kernel
theorem dX2_sumWeight_15 : decode cX2_sumWeight 15 = .ok (.invokestatic 170, 3) := by decide +kernel
theorem dX2_sumWeight_18 : decode cX2_sumWeight 18 = .ok (.ireturn, 1) := by decide +kernel
set_option maxRecDepth 20000 in
theorem ggX2_addedWeight_X2_sumWeight : GoodIn wsX2_addedWeight wsX2_sumWeight := goodIn_r _ [7, 1, 8, 9, 10, 6, 11, 12, 13, 14, 15, 16, 17, 18, 19, 20, 21, 22, 23, 24, 30, 31, 32, 33, 34, 35, 36, 37, 38, 39, 40, 41, 42] (by decide +kernel) (by decide +kernel)
set_option maxRecDepth 20000 in
theorem gX2_addedWeight_X2_sumWeight : GoodIn wsX2_addedWeight (wsV RX2 155 RX2 yX2_sumWeight wsX2_sumWeight) := goodIn_app (goodIn_of _ (by decide +kernel)) ggX2_addedWeight_X2_sumWeight
set_option maxRecDepth 20000 in
theorem ggX2_addedWeight_X2_sumOf : GoodIn wsX2_addedWeight wsX2_sumOf := goodIn_r _ [11, 12, 13, 14, 15, 6, 16, 17, 30, 31, 32, 33, 34, 35, 36, 37, 38, 39, 40, 41, 42] (by decide +kernel) (by decide +kernel)
set_option maxRecDepth 20000 in
theorem gX2_addedWeight_X2_sumOf : GoodIn wsX2_addedWeight (wsV RX2 97 RX2 yX2_sumOf wsX2_sumOf) := goodIn_app (goodIn_of _ (by decide +kernel)) ggX2_addedWeight_X2_sumOf
set_option maxRecDepth 20000 in
theorem ggX2_addedWeight_X2_valuesOf : GoodIn wsX2_addedWeight wsX2_valuesOf := goodIn_r _ [27, 28, 29] (by decide +kernel) (by decide +kernel)
set_option maxRecDepth 20000 in
theorem gX2_addedWeight_X2_valuesOf : GoodIn wsX2_addedWeight (va_wsS RX2 86 yX2_valuesOf wsX2_valuesOf) := goodIn_app (goodIn_of _ (by decide +kernel)) ggX2_addedWeight_X2_valuesOf
set_option maxRecDepth 20000 in
theorem ggX2_addedWeight_J13_bitCount_95d88 : GoodIn wsX2_addedWeight wsJ13_bitCount_95d88 := goodIn_r _ [21, 22, 23, 24] (by decide +kernel) (by decide +kernel)
set_option maxRecDepth 20000 in
theorem gX2_addedWeight_J13_bitCount_95d88 : GoodIn wsX2_addedWeight (va_wsS RX2 170 yJ13_bitCount_95d88 wsJ13_bitCount_95d88) := goodIn_app (goodIn_of _ (by decide +kernel)) ggX2_addedWeight_J13_bitCount_95d88
theorem dX2_addedWeight_0 : decode cX2_addedWeight 0 = .ok (.aload_n 0, 1) := by decide +kernel
theorem dX2_addedWeight_1 : decode cX2_addedWeight 1 = .ok (.dup, 1) := by decide +kernel
theorem dX2_addedWeight_2 : decode cX2_addedWeight 2 = .ok (.getfield 42, 3) := by decide +kernel
theorem dX2_addedWeight_5 : decode cX2_addedWeight 5 = .ok (.ldc2_w 224, 3) := by decide +kernel
theorem dX2_addedWeight_8 : decode cX2_addedWeight 8 = .ok (.ladd, 1) := by decide +kernel
theorem dX2_addedWeight_9 : decode cX2_addedWeight 9 = .ok (.putfield 42, 3) := by decide +kernel
theorem dX2_addedWeight_12 : decode cX2_addedWeight 12 = .ok (.aload_n 0, 1) := by decide +kernel
theorem dX2_addedWeight_13 : decode cX2_addedWeight 13 = .ok (.iload_n 1, 1) := by decide +kernel
theorem dX2_addedWeight_14 : decode cX2_addedWeight 14 = .ok (.invokevirtual 155, 3) := by decide +kernel
theorem dX2_addedWeight_17 : decode cX2_addedWeight 17 = .ok (.aload_n 0, 1) := by decide +kernel
theorem dX2_addedWeight_18 : decode cX2_addedWeight 18 = .ok (.iload_n 1, 1) := by decide +kernel
theorem dX2_addedWeight_19 : decode cX2_addedWeight 19 = .ok (.invokevirtual 97, 3) := by decide +kernel
theorem dX2_addedWeight_22 : decode cX2_addedWeight 22 = .ok (.invokestatic 86, 3) := by decide +kernel
theorem dX2_addedWeight_25 : decode cX2_addedWeight 25 = .ok (.invokestatic 170, 3) := by decide +kernel
theorem dX2_addedWeight_28 : decode cX2_addedWeight 28 = .ok (.iadd, 1) := by decide +kernel
theorem dX2_addedWeight_29 : decode cX2_addedWeight 29 = .ok (.ireturn, 1) := by decide +kernel
set_option maxRecDepth 20000 in
theorem ggX2_raisedWeight_X2_sumWeight : GoodIn wsX2_raisedWeight wsX2_sumWeight := goodIn_r _ [11, 1, 12, 13, 14, 10, 15, 16, 17, 18, 19, 20, 21, 22, 23, 24, 25, 26, 27, 28, 46, 47, 48, 49, 50, 51, 52, 53, 54, 55, 56, 57, 58] (by decide +kernel) (by decide +kernel)
set_option maxRecDepth 20000 in
theorem gX2_raisedWeight_X2_sumWeight : GoodIn wsX2_raisedWeight (wsV RX2 155 RX2 yX2_sumWeight wsX2_sumWeight) := goodIn_app (goodIn_of _ (by decide +kernel)) ggX2_raisedWeight_X2_sumWeight
set_option maxRecDepth 20000 in
theorem ggX2_raisedWeight_X2_sumOf : GoodIn wsX2_raisedWeight wsX2_sumOf := goodIn_r _ [15, 16, 17, 18, 19, 10, 20, 21, 46, 47, 48, 49, 50, 51, 52, 53, 54, 55, 56, 57, 58] (by decide +kernel) (by decide +kernel)
set_option maxRecDepth 20000 in
theorem gX2_raisedWeight_X2_sumOf : GoodIn wsX2_raisedWeight (wsV RX2 97 RX2 yX2_sumOf wsX2_sumOf) := goodIn_app (goodIn_of _ (by decide +kernel)) ggX2_raisedWeight_X2_sumOf
set_option maxRecDepth 20000 in
theorem ggX2_raisedWeight_X2_degreeOf : GoodIn wsX2_raisedWeight wsX2_degreeOf := goodIn_r _ [31, 32, 33, 10, 34, 35, 36, 37, 38, 39, 40, 41, 42, 43, 44, 45] (by decide +kernel) (by decide +kernel)
set_option maxRecDepth 20000 in
theorem gX2_raisedWeight_X2_degreeOf : GoodIn wsX2_raisedWeight (va_wsS RX2 109 yX2_degreeOf wsX2_degreeOf) := goodIn_app (goodIn_of _ (by decide +kernel)) ggX2_raisedWeight_X2_degreeOf
theorem dX2_raisedWeight_0 : decode cX2_raisedWeight 0 = .ok (.aload_n 0, 1) := by decide +kernel
theorem dX2_raisedWeight_1 : decode cX2_raisedWeight 1 = .ok (.dup, 1) := by decide +kernel
theorem dX2_raisedWeight_2 : decode cX2_raisedWeight 2 = .ok (.getfield 42, 3) := by decide +kernel
theorem dX2_raisedWeight_5 : decode cX2_raisedWeight 5 = .ok (.ldc2_w 226, 3) := by decide +kernel
theorem dX2_raisedWeight_8 : decode cX2_raisedWeight 8 = .ok (.ladd, 1) := by decide +kernel
theorem dX2_raisedWeight_9 : decode cX2_raisedWeight 9 = .ok (.putfield 42, 3) := by decide +kernel
theorem dX2_raisedWeight_12 : decode cX2_raisedWeight 12 = .ok (.aload_n 0, 1) := by decide +kernel
theorem dX2_raisedWeight_13 : decode cX2_raisedWeight 13 = .ok (.iload_n 1, 1) := by decide +kernel
theorem dX2_raisedWeight_14 : decode cX2_raisedWeight 14 = .ok (.invokevirtual 155, 3) := by decide +kernel
theorem dX2_raisedWeight_17 : decode cX2_raisedWeight 17 = .ok (.iconst 2, 1) := by decide +kernel
theorem dX2_raisedWeight_18 : decode cX2_raisedWeight 18 = .ok (.iconst 0, 1) := by decide +kernel
theorem dX2_raisedWeight_19 : decode cX2_raisedWeight 19 = .ok (.aload_n 0, 1) := by decide +kernel
theorem dX2_raisedWeight_20 : decode cX2_raisedWeight 20 = .ok (.iload_n 1, 1) := by decide +kernel
theorem dX2_raisedWeight_21 : decode cX2_raisedWeight 21 = .ok (.invokevirtual 97, 3) := by decide +kernel
theorem dX2_raisedWeight_24 : decode cX2_raisedWeight 24 = .ok (.invokestatic 109, 3) := by decide +kernel
theorem dX2_raisedWeight_27 : decode cX2_raisedWeight 27 = .ok (.invokestatic 215, 3) := by decide +kernel
theorem dX2_raisedWeight_30 : decode cX2_raisedWeight 30 = .ok (.imul, 1) := by decide +kernel
theorem dX2_raisedWeight_31 : decode cX2_raisedWeight 31 = .ok (.iadd, 1) := by decide +kernel
theorem dX2_raisedWeight_32 : decode cX2_raisedWeight 32 = .ok (.ireturn, 1) := by decide +kernel
set_option maxRecDepth 20000 in
theorem ggX2_provedWeight_X2_addedWeight : GoodIn wsX2_provedWeight wsX2_addedWeight := goodIn_r _ [7, 1, 8, 9, 10, 11, 6, 12, 13, 14, 15, 16, 17, 18, 19, 20, 21, 22, 23, 24, 25, 26, 27, 28, 29, 30, 31, 32, 33, 34, 94, 95, 96, 97, 98, 99, 100, 101, 102, 103, 104, 105, 106] (by decide +kernel) (by decide +kernel)
set_option maxRecDepth 20000 in
theorem gX2_provedWeight_X2_addedWeight : GoodIn wsX2_provedWeight (wsV RX2 158 RX2 yX2_addedWeight wsX2_addedWeight) := goodIn_app (goodIn_of _ (by decide +kernel)) ggX2_provedWeight_X2_addedWeight
set_option maxRecDepth 20000 in
theorem ggX2_provedWeight_X2_sumOf : GoodIn wsX2_provedWeight wsX2_sumOf := goodIn_r _ [16, 17, 18, 19, 20, 6, 21, 22, 94, 95, 96, 97, 98, 99, 100, 101, 102, 103, 104, 105, 106] (by decide +kernel) (by decide +kernel)
set_option maxRecDepth 20000 in
theorem gX2_provedWeight_X2_sumOf : GoodIn wsX2_provedWeight (wsV RX2 97 RX2 yX2_sumOf wsX2_sumOf) := goodIn_app (goodIn_of _ (by decide +kernel)) ggX2_provedWeight_X2_sumOf
set_option maxRecDepth 20000 in
theorem ggX2_provedWeight_X2_leftOf : GoodIn wsX2_provedWeight wsX2_leftOf := goodIn_r _ [38, 39, 40, 41, 42, 6, 43, 44, 45, 46, 47, 17, 48, 49, 50, 51, 52, 53, 54, 23, 24, 25, 26, 27, 28, 29, 55, 56, 57, 58, 59, 60, 61, 62, 63, 64, 65, 66, 67, 68, 69, 70, 71, 72, 73, 74, 75, 76, 77, 78, 30, 31, 32, 33, 34, 79, 80, 81, 82, 83, 84, 85, 86, 87, 88, 89, 90, 91, 92, 93, 94, 95, 96, 97, 98, 99, 100, 101, 102, 103, 104, 105, 106, 107, 108, 109, 110, 111] (by decide +kernel) (by decide +kernel)
set_option maxRecDepth 20000 in
theorem gX2_provedWeight_X2_leftOf : GoodIn wsX2_provedWeight (wsV RX2 127 RX2 yX2_leftOf wsX2_leftOf) := goodIn_app (goodIn_of _ (by decide +kernel)) ggX2_provedWeight_X2_leftOf
set_option maxRecDepth 20000 in
theorem ggX2_provedWeight_J13_bitCount_95d88 : GoodIn wsX2_provedWeight wsJ13_bitCount_95d88 := goodIn_r _ [26, 27, 28, 29] (by decide +kernel) (by decide +kernel)
set_option maxRecDepth 20000 in
theorem gX2_provedWeight_J13_bitCount_95d88 : GoodIn wsX2_provedWeight (va_wsS RX2 170 yJ13_bitCount_95d88 wsJ13_bitCount_95d88) := goodIn_app (goodIn_of _ (by decide +kernel)) ggX2_provedWeight_J13_bitCount_95d88
theorem dX2_provedWeight_0 : decode cX2_provedWeight 0 = .ok (.aload_n 0, 1) := by decide +kernel
theorem dX2_provedWeight_1 : decode cX2_provedWeight 1 = .ok (.dup, 1) := by decide +kernel
theorem dX2_provedWeight_2 : decode cX2_provedWeight 2 = .ok (.getfield 42, 3) := by decide +kernel
theorem dX2_provedWeight_5 : decode cX2_provedWeight 5 = .ok (.ldc2_w 228, 3) := by decide +kernel
theorem dX2_provedWeight_8 : decode cX2_provedWeight 8 = .ok (.ladd, 1) := by decide +kernel
theorem dX2_provedWeight_9 : decode cX2_provedWeight 9 = .ok (.putfield 42, 3) := by decide +kernel
theorem dX2_provedWeight_12 : decode cX2_provedWeight 12 = .ok (.iconst 2, 1) := by decide +kernel
theorem dX2_provedWeight_13 : decode cX2_provedWeight 13 = .ok (.aload_n 0, 1) := by decide +kernel
theorem dX2_provedWeight_14 : decode cX2_provedWeight 14 = .ok (.iload_n 1, 1) := by decide +kernel
theorem dX2_provedWeight_15 : decode cX2_provedWeight 15 = .ok (.invokevirtual 158, 3) := by decide +kernel
theorem dX2_provedWeight_18 : decode cX2_provedWeight 18 = .ok (.imul, 1) := by decide +kernel
theorem dX2_provedWeight_19 : decode cX2_provedWeight 19 = .ok (.aload_n 0, 1) := by decide +kernel
theorem dX2_provedWeight_20 : decode cX2_provedWeight 20 = .ok (.aload_n 0, 1) := by decide +kernel
theorem dX2_provedWeight_21 : decode cX2_provedWeight 21 = .ok (.iload_n 1, 1) := by decide +kernel
theorem dX2_provedWeight_22 : decode cX2_provedWeight 22 = .ok (.invokevirtual 97, 3) := by decide +kernel
theorem dX2_provedWeight_25 : decode cX2_provedWeight 25 = .ok (.invokevirtual 127, 3) := by decide +kernel
theorem dX2_provedWeight_28 : decode cX2_provedWeight 28 = .ok (.invokestatic 170, 3) := by decide +kernel
theorem dX2_provedWeight_31 : decode cX2_provedWeight 31 = .ok (.isub, 1) := by decide +kernel
theorem dX2_provedWeight_32 : decode cX2_provedWeight 32 = .ok (.ireturn, 1) := by decide +kernel
theorem dX2_hasBit_0 : decode cX2_hasBit 0 = .ok (.lload_n 0, 1) := by decide +kernel
theorem dX2_hasBit_1 : decode cX2_hasBit 1 = .ok (.iload_n 2, 1) := by decide +kernel
theorem dX2_hasBit_2 : decode cX2_hasBit 2 = .ok (.lushr, 1) := by decide +kernel
theorem dX2_hasBit_3 : decode cX2_hasBit 3 = .ok (.lconst 1, 1) := by decide +kernel
theorem dX2_hasBit_4 : decode cX2_hasBit 4 = .ok (.land, 1) := by decide +kernel
theorem dX2_hasBit_5 : decode cX2_hasBit 5 = .ok (.lconst 0, 1) := by decide +kernel
theorem dX2_hasBit_6 : decode cX2_hasBit 6 = .ok (.lcmp, 1) := by decide +kernel
theorem dX2_hasBit_7 : decode cX2_hasBit 7 = .ok (.ifCond .eq 7, 3) := by decide +kernel
theorem dX2_hasBit_10 : decode cX2_hasBit 10 = .ok (.iconst 1, 1) := by decide +kernel
theorem dX2_hasBit_11 : decode cX2_hasBit 11 = .ok (.goto 4, 3) := by decide +kernel
theorem dX2_hasBit_14 : decode cX2_hasBit 14 = .ok (.iconst 0, 1) := by decide +kernel
theorem dX2_hasBit_15 : decode cX2_hasBit 15 = .ok (.ireturn, 1) := by decide +kernel
theorem dX2_valuesOf_0 : decode cX2_valuesOf 0 = .ok (.lload_n 0, 1) := by decide +kernel
theorem dX2_valuesOf_1 : decode cX2_valuesOf 1 = .ok (.lstore_n 2, 1) := by decide +kernel
theorem dX2_valuesOf_2 : decode cX2_valuesOf 2 = .ok (.iconst 0, 1) := by decide +kernel
theorem dX2_valuesOf_3 : decode cX2_valuesOf 3 = .ok (.istore 4, 2) := by decide +kernel
theorem dX2_valuesOf_5 : decode cX2_valuesOf 5 = .ok (.iload 4, 2) := by decide +kernel
theorem dX2_valuesOf_7 : decode cX2_valuesOf 7 = .ok (.bipush 6, 2) := by decide +kernel
theorem dX2_valuesOf_9 : decode cX2_valuesOf 9 = .ok (.if_icmp .ge 29, 3) := by decide +kernel
theorem dX2_valuesOf_12 : decode cX2_valuesOf 12 = .ok (.lload_n 2, 1) := by decide +kernel
theorem dX2_valuesOf_13 : decode cX2_valuesOf 13 = .ok (.lload_n 2, 1) := by decide +kernel
theorem dX2_valuesOf_14 : decode cX2_valuesOf 14 = .ok (.getstatic 120, 3) := by decide +kernel
theorem dX2_valuesOf_17 : decode cX2_valuesOf 17 = .ok (.iload 4, 2) := by decide +kernel
theorem dX2_valuesOf_19 : decode cX2_valuesOf 19 = .ok (.laload, 1) := by decide +kernel
theorem dX2_valuesOf_20 : decode cX2_valuesOf 20 = .ok (.ldc2_w 36, 3) := by decide +kernel
theorem dX2_valuesOf_23 : decode cX2_valuesOf 23 = .ok (.lxor, 1) := by decide +kernel
theorem dX2_valuesOf_24 : decode cX2_valuesOf 24 = .ok (.land, 1) := by decide +kernel
theorem dX2_valuesOf_25 : decode cX2_valuesOf 25 = .ok (.iconst 1, 1) := by decide +kernel
theorem dX2_valuesOf_26 : decode cX2_valuesOf 26 = .ok (.iload 4, 2) := by decide +kernel
theorem dX2_valuesOf_28 : decode cX2_valuesOf 28 = .ok (.ishl, 1) := by decide +kernel
theorem dX2_valuesOf_29 : decode cX2_valuesOf 29 = .ok (.lshl, 1) := by decide +kernel
theorem dX2_valuesOf_30 : decode cX2_valuesOf 30 = .ok (.lxor, 1) := by decide +kernel
theorem dX2_valuesOf_31 : decode cX2_valuesOf 31 = .ok (.lstore_n 2, 1) := by decide +kernel
theorem dX2_valuesOf_32 : decode cX2_valuesOf 32 = .ok (.iinc 4 1, 3) := by decide +kernel
theorem dX2_valuesOf_35 : decode cX2_valuesOf 35 = .ok (.goto (-30), 3) := by decide +kernel
theorem dX2_valuesOf_38 : decode cX2_valuesOf 38 = .ok (.lload_n 2, 1) := by decide +kernel
theorem dX2_valuesOf_39 : decode cX2_valuesOf 39 = .ok (.lreturn, 1) := by decide +kernel
set_option maxRecDepth 20000 in
theorem ggX2_multiplied_X2_valuesOf : GoodIn wsX2_multiplied wsX2_valuesOf := goodIn_r _ [4, 5, 6] (by decide +kernel) (by decide +kernel)
set_option maxRecDepth 20000 in
theorem gX2_multiplied_X2_valuesOf : GoodIn wsX2_multiplied (va_wsS RX2 86 yX2_valuesOf wsX2_valuesOf) := goodIn_app (goodIn_of _ (by decide +kernel)) ggX2_multiplied_X2_valuesOf
theorem dX2_multiplied_0 : decode cX2_multiplied 0 = .ok (.lload_n 0, 1) := by decide +kernel
theorem dX2_multiplied_1 : decode cX2_multiplied 1 = .ok (.invokestatic 86, 3) := by decide +kernel
theorem dX2_multiplied_4 : decode cX2_multiplied 4 = .ok (.lload_n 2, 1) := by decide +kernel
theorem dX2_multiplied_5 : decode cX2_multiplied 5 = .ok (.invokestatic 86, 3) := by decide +kernel
theorem dX2_multiplied_8 : decode cX2_multiplied 8 = .ok (.land, 1) := by decide +kernel
theorem dX2_multiplied_9 : decode cX2_multiplied 9 = .ok (.invokestatic 86, 3) := by decide +kernel
theorem dX2_multiplied_12 : decode cX2_multiplied 12 = .ok (.lreturn, 1) := by decide +kernel
set_option maxRecDepth 20000 in
theorem ggX2_leadOf_X2_hasBit : GoodIn wsX2_leadOf wsX2_hasBit := goodIn_r _ [5] (by decide +kernel) (by decide +kernel)
set_option maxRecDepth 20000 in
theorem gX2_leadOf_X2_hasBit : GoodIn wsX2_leadOf (va_wsS RX2 105 yX2_hasBit wsX2_hasBit) := goodIn_app (goodIn_of _ (by decide +kernel)) ggX2_leadOf_X2_hasBit
theorem dX2_leadOf_0 : decode cX2_leadOf 0 = .ok (.bipush 63, 2) := by decide +kernel
theorem dX2_leadOf_2 : decode cX2_leadOf 2 = .ok (.istore_n 2, 1) := by decide +kernel
theorem dX2_leadOf_3 : decode cX2_leadOf 3 = .ok (.iload_n 2, 1) := by decide +kernel
theorem dX2_leadOf_4 : decode cX2_leadOf 4 = .ok (.ifCond .lt 27, 3) := by decide +kernel
theorem dX2_leadOf_7 : decode cX2_leadOf 7 = .ok (.lload_n 0, 1) := by decide +kernel
theorem dX2_leadOf_8 : decode cX2_leadOf 8 = .ok (.getstatic 130, 3) := by decide +kernel
theorem dX2_leadOf_11 : decode cX2_leadOf 11 = .ok (.iload_n 2, 1) := by decide +kernel
theorem dX2_leadOf_12 : decode cX2_leadOf 12 = .ok (.iaload, 1) := by decide +kernel
theorem dX2_leadOf_13 : decode cX2_leadOf 13 = .ok (.invokestatic 105, 3) := by decide +kernel
theorem dX2_leadOf_16 : decode cX2_leadOf 16 = .ok (.ifCond .eq 9, 3) := by decide +kernel
theorem dX2_leadOf_19 : decode cX2_leadOf 19 = .ok (.getstatic 130, 3) := by decide +kernel
theorem dX2_leadOf_22 : decode cX2_leadOf 22 = .ok (.iload_n 2, 1) := by decide +kernel
theorem dX2_leadOf_23 : decode cX2_leadOf 23 = .ok (.iaload, 1) := by decide +kernel
theorem dX2_leadOf_24 : decode cX2_leadOf 24 = .ok (.ireturn, 1) := by decide +kernel
theorem dX2_leadOf_25 : decode cX2_leadOf 25 = .ok (.iinc 2 (-1), 3) := by decide +kernel
theorem dX2_leadOf_28 : decode cX2_leadOf 28 = .ok (.goto (-25), 3) := by decide +kernel
theorem dX2_leadOf_31 : decode cX2_leadOf 31 = .ok (.bipush (-9), 2) := by decide +kernel
theorem dX2_leadOf_33 : decode cX2_leadOf 33 = .ok (.ireturn, 1) := by decide +kernel
set_option maxRecDepth 20000 in
theorem ggX2_degreeOf_X2_leadOf : GoodIn wsX2_degreeOf wsX2_leadOf := goodIn_r _ [4, 5, 6, 7, 3, 8] (by decide +kernel) (by decide +kernel)
set_option maxRecDepth 20000 in
theorem gX2_degreeOf_X2_leadOf : GoodIn wsX2_degreeOf (va_wsS RX2 113 yX2_leadOf wsX2_leadOf) := goodIn_app (goodIn_of _ (by decide +kernel)) ggX2_degreeOf_X2_leadOf
set_option maxRecDepth 20000 in
theorem ggX2_degreeOf_J6_bitCount_0f7a4 : GoodIn wsX2_degreeOf wsJ6_bitCount_0f7a4 := goodIn_r _ [12, 13, 14, 15] (by decide +kernel) (by decide +kernel)
set_option maxRecDepth 20000 in
theorem gX2_degreeOf_J6_bitCount_0f7a4 : GoodIn wsX2_degreeOf (va_wsS RX2 150 yJ6_bitCount_0f7a4 wsJ6_bitCount_0f7a4) := goodIn_app (goodIn_of _ (by decide +kernel)) ggX2_degreeOf_J6_bitCount_0f7a4
theorem dX2_degreeOf_0 : decode cX2_degreeOf 0 = .ok (.lload_n 0, 1) := by decide +kernel
theorem dX2_degreeOf_1 : decode cX2_degreeOf 1 = .ok (.invokestatic 113, 3) := by decide +kernel
theorem dX2_degreeOf_4 : decode cX2_degreeOf 4 = .ok (.istore_n 2, 1) := by decide +kernel
theorem dX2_degreeOf_5 : decode cX2_degreeOf 5 = .ok (.iload_n 2, 1) := by decide +kernel
theorem dX2_degreeOf_6 : decode cX2_degreeOf 6 = .ok (.bipush (-9), 2) := by decide +kernel
theorem dX2_degreeOf_8 : decode cX2_degreeOf 8 = .ok (.if_icmp .ne 8, 3) := by decide +kernel
theorem dX2_degreeOf_11 : decode cX2_degreeOf 11 = .ok (.bipush (-9), 2) := by decide +kernel
theorem dX2_degreeOf_13 : decode cX2_degreeOf 13 = .ok (.goto 7, 3) := by decide +kernel
theorem dX2_degreeOf_16 : decode cX2_degreeOf 16 = .ok (.iload_n 2, 1) := by decide +kernel
theorem dX2_degreeOf_17 : decode cX2_degreeOf 17 = .ok (.invokestatic 150, 3) := by decide +kernel
theorem dX2_degreeOf_20 : decode cX2_degreeOf 20 = .ok (.ireturn, 1) := by decide +kernel
set_option maxRecDepth 20000 in
theorem ggX3_init_X3_letters : GoodIn wsX3_init wsX3_letters := goodIn_r _ [22] (by decide +kernel) (by decide +kernel)
set_option maxRecDepth 20000 in
theorem gX3_init_X3_letters : GoodIn wsX3_init (va_wsS RX3 49 yX3_letters wsX3_letters) := goodIn_app (goodIn_of _ (by decide +kernel)) ggX3_init_X3_letters
set_option maxRecDepth 20000 in
theorem ggX3_init_X3_stands : GoodIn wsX3_init wsX3_stands := goodIn_r _ [26, 27, 28, 29, 9, 30, 31, 5, 13, 14, 32, 33, 34, 21, 35, 36, 37, 38, 39, 40, 41, 42, 43, 44, 45, 46, 47, 48, 49, 50, 51, 52, 53, 54, 55, 56, 57, 58, 59, 60, 61, 62, 63, 64, 65, 66, 67, 68, 69] (by decide +kernel) (by decide +kernel)
set_option maxRecDepth 20000 in
theorem gX3_init_X3_stands : GoodIn wsX3_init (wsV RX3 53 RX3 yX3_stands wsX3_stands) := goodIn_app (goodIn_of _ (by decide +kernel)) ggX3_init_X3_stands
theorem dX3_init_0 : decode cX3_init 0 = .ok (.aload_n 0, 1) := by decide +kernel
theorem dX3_init_1 : decode cX3_init 1 = .ok (.invokespecial 1, 3) := by decide +kernel
theorem dX3_init_4 : decode cX3_init 4 = .ok (.aload_n 0, 1) := by decide +kernel
theorem dX3_init_5 : decode cX3_init 5 = .ok (.bipush 64, 2) := by decide +kernel
theorem dX3_init_7 : decode cX3_init 7 = .ok (.newarray .int, 2) := by decide +kernel
theorem dX3_init_9 : decode cX3_init 9 = .ok (.putfield 7, 3) := by decide +kernel
theorem dX3_init_12 : decode cX3_init 12 = .ok (.aload_n 0, 1) := by decide +kernel
theorem dX3_init_13 : decode cX3_init 13 = .ok (.sipush 400, 3) := by decide +kernel
theorem dX3_init_16 : decode cX3_init 16 = .ok (.newarray .int, 2) := by decide +kernel
theorem dX3_init_18 : decode cX3_init 18 = .ok (.putfield 13, 3) := by decide +kernel
theorem dX3_init_21 : decode cX3_init 21 = .ok (.aload_n 0, 1) := by decide +kernel
theorem dX3_init_22 : decode cX3_init 22 = .ok (.bipush (-9), 2) := by decide +kernel
theorem dX3_init_24 : decode cX3_init 24 = .ok (.putfield 16, 3) := by decide +kernel
theorem dX3_init_27 : decode cX3_init 27 = .ok (.aload_n 0, 1) := by decide +kernel
theorem dX3_init_28 : decode cX3_init 28 = .ok (.bipush 32, 2) := by decide +kernel
theorem dX3_init_30 : decode cX3_init 30 = .ok (.newarray .long, 2) := by decide +kernel
theorem dX3_init_32 : decode cX3_init 32 = .ok (.putfield 20, 3) := by decide +kernel
theorem dX3_init_35 : decode cX3_init 35 = .ok (.aload_n 0, 1) := by decide +kernel
theorem dX3_init_36 : decode cX3_init 36 = .ok (.bipush 8, 2) := by decide +kernel
theorem dX3_init_38 : decode cX3_init 38 = .ok (.newarray .long, 2) := by decide +kernel
theorem dX3_init_40 : decode cX3_init 40 = .ok (.putfield 24, 3) := by decide +kernel
theorem dX3_init_43 : decode cX3_init 43 = .ok (.aload_n 0, 1) := by decide +kernel
theorem dX3_init_44 : decode cX3_init 44 = .ok (.bipush 72, 2) := by decide +kernel
theorem dX3_init_46 : decode cX3_init 46 = .ok (.newarray .int, 2) := by decide +kernel
theorem dX3_init_48 : decode cX3_init 48 = .ok (.putfield 27, 3) := by decide +kernel
theorem dX3_init_51 : decode cX3_init 51 = .ok (.aload_n 0, 1) := by decide +kernel
theorem dX3_init_52 : decode cX3_init 52 = .ok (.bipush 24, 2) := by decide +kernel
theorem dX3_init_54 : decode cX3_init 54 = .ok (.newarray .long, 2) := by decide +kernel
theorem dX3_init_56 : decode cX3_init 56 = .ok (.putfield 30, 3) := by decide +kernel
theorem dX3_init_59 : decode cX3_init 59 = .ok (.aload_n 0, 1) := by decide +kernel
theorem dX3_init_60 : decode cX3_init 60 = .ok (.bipush 64, 2) := by decide +kernel
theorem dX3_init_62 : decode cX3_init 62 = .ok (.newarray .long, 2) := by decide +kernel
theorem dX3_init_64 : decode cX3_init 64 = .ok (.putfield 33, 3) := by decide +kernel
theorem dX3_init_67 : decode cX3_init 67 = .ok (.aload_n 0, 1) := by decide +kernel
theorem dX3_init_68 : decode cX3_init 68 = .ok (.bipush 64, 2) := by decide +kernel
theorem dX3_init_70 : decode cX3_init 70 = .ok (.newarray .long, 2) := by decide +kernel
theorem dX3_init_72 : decode cX3_init 72 = .ok (.putfield 36, 3) := by decide +kernel
theorem dX3_init_75 : decode cX3_init 75 = .ok (.aload_n 0, 1) := by decide +kernel
theorem dX3_init_76 : decode cX3_init 76 = .ok (.bipush 64, 2) := by decide +kernel
theorem dX3_init_78 : decode cX3_init 78 = .ok (.newarray .long, 2) := by decide +kernel
theorem dX3_init_80 : decode cX3_init 80 = .ok (.putfield 39, 3) := by decide +kernel
theorem dX3_init_83 : decode cX3_init 83 = .ok (.aload_n 0, 1) := by decide +kernel
theorem dX3_init_84 : decode cX3_init 84 = .ok (.bipush 64, 2) := by decide +kernel
theorem dX3_init_86 : decode cX3_init 86 = .ok (.newarray .boolean, 2) := by decide +kernel
theorem dX3_init_88 : decode cX3_init 88 = .ok (.putfield 42, 3) := by decide +kernel
theorem dX3_init_91 : decode cX3_init 91 = .ok (.aload_n 0, 1) := by decide +kernel
theorem dX3_init_92 : decode cX3_init 92 = .ok (.bipush 64, 2) := by decide +kernel
theorem dX3_init_94 : decode cX3_init 94 = .ok (.newarray .boolean, 2) := by decide +kernel
theorem dX3_init_96 : decode cX3_init 96 = .ok (.putfield 46, 3) := by decide +kernel
theorem dX3_init_99 : decode cX3_init 99 = .ok (.iconst 0, 1) := by decide +kernel
theorem dX3_init_100 : decode cX3_init 100 = .ok (.istore_n 1, 1) := by decide +kernel
theorem dX3_init_101 : decode cX3_init 101 = .ok (.iconst 0, 1) := by decide +kernel
theorem dX3_init_102 : decode cX3_init 102 = .ok (.istore_n 2, 1) := by decide +kernel
theorem dX3_init_103 : decode cX3_init 103 = .ok (.iload_n 2, 1) := by decide +kernel
theorem dX3_init_104 : decode cX3_init 104 = .ok (.bipush 7, 2) := by decide +kernel
theorem dX3_init_106 : decode cX3_init 106 = .ok (.if_icmp .ge 41, 3) := by decide +kernel
theorem dX3_init_109 : decode cX3_init 109 = .ok (.iconst 0, 1) := by decide +kernel
theorem dX3_init_110 : decode cX3_init 110 = .ok (.istore_n 3, 1) := by decide +kernel
theorem dX3_init_111 : decode cX3_init 111 = .ok (.iload_n 3, 1) := by decide +kernel
theorem dX3_init_112 : decode cX3_init 112 = .ok (.bipush 64, 2) := by decide +kernel
theorem dX3_init_114 : decode cX3_init 114 = .ok (.if_icmp .ge 27, 3) := by decide +kernel
theorem dX3_init_117 : decode cX3_init 117 = .ok (.iload_n 3, 1) := by decide +kernel
theorem dX3_init_118 : decode cX3_init 118 = .ok (.invokestatic 49, 3) := by decide +kernel
theorem dX3_init_121 : decode cX3_init 121 = .ok (.iload_n 2, 1) := by decide +kernel
theorem dX3_init_122 : decode cX3_init 122 = .ok (.if_icmp .ne 13, 3) := by decide +kernel
theorem dX3_init_125 : decode cX3_init 125 = .ok (.aload_n 0, 1) := by decide +kernel
theorem dX3_init_126 : decode cX3_init 126 = .ok (.getfield 7, 3) := by decide +kernel
theorem dX3_init_129 : decode cX3_init 129 = .ok (.iload_n 1, 1) := by decide +kernel
theorem dX3_init_130 : decode cX3_init 130 = .ok (.iload_n 3, 1) := by decide +kernel
theorem dX3_init_131 : decode cX3_init 131 = .ok (.iastore, 1) := by decide +kernel
theorem dX3_init_132 : decode cX3_init 132 = .ok (.iinc 1 1, 3) := by decide +kernel
theorem dX3_init_135 : decode cX3_init 135 = .ok (.iinc 3 1, 3) := by decide +kernel
theorem dX3_init_138 : decode cX3_init 138 = .ok (.goto (-27), 3) := by decide +kernel
theorem dX3_init_141 : decode cX3_init 141 = .ok (.iinc 2 1, 3) := by decide +kernel
theorem dX3_init_144 : decode cX3_init 144 = .ok (.goto (-41), 3) := by decide +kernel
theorem dX3_init_147 : decode cX3_init 147 = .ok (.aload_n 0, 1) := by decide +kernel
theorem dX3_init_148 : decode cX3_init 148 = .ok (.invokevirtual 53, 3) := by decide +kernel
theorem dX3_init_151 : decode cX3_init 151 = .ok (.return_, 1) := by decide +kernel
theorem dX3_in_0 : decode cX3_in 0 = .ok (.iload_n 0, 1) := by decide +kernel
theorem dX3_in_1 : decode cX3_in 1 = .ok (.iload_n 1, 1) := by decide +kernel
theorem dX3_in_2 : decode cX3_in 2 = .ok (.if_icmp .lt 12, 3) := by decide +kernel
theorem dX3_in_5 : decode cX3_in 5 = .ok (.iload_n 0, 1) := by decide +kernel
theorem dX3_in_6 : decode cX3_in 6 = .ok (.iload_n 2, 1) := by decide +kernel
theorem dX3_in_7 : decode cX3_in 7 = .ok (.if_icmp .gt 7, 3) := by decide +kernel
theorem dX3_in_10 : decode cX3_in 10 = .ok (.iconst 1, 1) := by decide +kernel
theorem dX3_in_11 : decode cX3_in 11 = .ok (.goto 4, 3) := by decide +kernel
theorem dX3_in_14 : decode cX3_in 14 = .ok (.iconst 0, 1) := by decide +kernel
theorem dX3_in_15 : decode cX3_in 15 = .ok (.ireturn, 1) := by decide +kernel
theorem dX3_letters_0 : decode cX3_letters 0 = .ok (.iconst 0, 1) := by decide +kernel
theorem dX3_letters_1 : decode cX3_letters 1 = .ok (.istore_n 1, 1) := by decide +kernel
theorem dX3_letters_2 : decode cX3_letters 2 = .ok (.iconst 0, 1) := by decide +kernel
theorem dX3_letters_3 : decode cX3_letters 3 = .ok (.istore_n 2, 1) := by decide +kernel
theorem dX3_letters_4 : decode cX3_letters 4 = .ok (.iload_n 2, 1) := by decide +kernel
theorem dX3_letters_5 : decode cX3_letters 5 = .ok (.bipush 6, 2) := by decide +kernel
theorem dX3_letters_7 : decode cX3_letters 7 = .ok (.if_icmp .ge 17, 3) := by decide +kernel
theorem dX3_letters_10 : decode cX3_letters 10 = .ok (.iload_n 1, 1) := by decide +kernel
theorem dX3_letters_11 : decode cX3_letters 11 = .ok (.iload_n 0, 1) := by decide +kernel
theorem dX3_letters_12 : decode cX3_letters 12 = .ok (.iload_n 2, 1) := by decide +kernel
theorem dX3_letters_13 : decode cX3_letters 13 = .ok (.ishr, 1) := by decide +kernel
theorem dX3_letters_14 : decode cX3_letters 14 = .ok (.iconst 1, 1) := by decide +kernel
theorem dX3_letters_15 : decode cX3_letters 15 = .ok (.iand, 1) := by decide +kernel
theorem dX3_letters_16 : decode cX3_letters 16 = .ok (.iadd, 1) := by decide +kernel
theorem dX3_letters_17 : decode cX3_letters 17 = .ok (.istore_n 1, 1) := by decide +kernel
theorem dX3_letters_18 : decode cX3_letters 18 = .ok (.iinc 2 1, 3) := by decide +kernel
theorem dX3_letters_21 : decode cX3_letters 21 = .ok (.goto (-17), 3) := by decide +kernel
theorem dX3_letters_24 : decode cX3_letters 24 = .ok (.iload_n 1, 1) := by decide +kernel
theorem dX3_letters_25 : decode cX3_letters 25 = .ok (.ireturn, 1) := by decide +kernel
theorem dX3_has_0 : decode cX3_has 0 = .ok (.lload_n 0, 1) := by decide +kernel
theorem dX3_has_1 : decode cX3_has 1 = .ok (.iload_n 2, 1) := by decide +kernel
theorem dX3_has_2 : decode cX3_has 2 = .ok (.lshr, 1) := by decide +kernel
theorem dX3_has_3 : decode cX3_has 3 = .ok (.lconst 1, 1) := by decide +kernel
theorem dX3_has_4 : decode cX3_has 4 = .ok (.land, 1) := by decide +kernel
theorem dX3_has_5 : decode cX3_has 5 = .ok (.lconst 1, 1) := by decide +kernel
theorem dX3_has_6 : decode cX3_has 6 = .ok (.lcmp, 1) := by decide +kernel
theorem dX3_has_7 : decode cX3_has 7 = .ok (.ifCond .ne 7, 3) := by decide +kernel
theorem dX3_has_10 : decode cX3_has 10 = .ok (.iconst 1, 1) := by decide +kernel
theorem dX3_has_11 : decode cX3_has 11 = .ok (.goto 4, 3) := by decide +kernel
theorem dX3_has_14 : decode cX3_has 14 = .ok (.iconst 0, 1) := by decide +kernel
theorem dX3_has_15 : decode cX3_has 15 = .ok (.ireturn, 1) := by decide +kernel
set_option maxRecDepth 20000 in
theorem ggX3_many_X3_has : GoodIn wsX3_many wsX3_has := goodIn_r _ [4] (by decide +kernel) (by decide +kernel)
set_option maxRecDepth 20000 in
theorem gX3_many_X3_has : GoodIn wsX3_many (va_wsS RX3 59 yX3_has wsX3_has) := goodIn_app (goodIn_of _ (by decide +kernel)) ggX3_many_X3_has
theorem dX3_many_0 : decode cX3_many 0 = .ok (.iconst 0, 1) := by decide +kernel
theorem dX3_many_1 : decode cX3_many 1 = .ok (.istore_n 2, 1) := by decide +kernel
theorem dX3_many_2 : decode cX3_many 2 = .ok (.iconst 0, 1) := by decide +kernel
theorem dX3_many_3 : decode cX3_many 3 = .ok (.istore_n 3, 1) := by decide +kernel
theorem dX3_many_4 : decode cX3_many 4 = .ok (.iload_n 3, 1) := by decide +kernel
theorem dX3_many_5 : decode cX3_many 5 = .ok (.bipush 64, 2) := by decide +kernel
theorem dX3_many_7 : decode cX3_many 7 = .ok (.if_icmp .ge 25, 3) := by decide +kernel
theorem dX3_many_10 : decode cX3_many 10 = .ok (.iload_n 2, 1) := by decide +kernel
theorem dX3_many_11 : decode cX3_many 11 = .ok (.lload_n 0, 1) := by decide +kernel
theorem dX3_many_12 : decode cX3_many 12 = .ok (.iload_n 3, 1) := by decide +kernel
theorem dX3_many_13 : decode cX3_many 13 = .ok (.invokestatic 59, 3) := by decide +kernel
theorem dX3_many_16 : decode cX3_many 16 = .ok (.ifCond .eq 7, 3) := by decide +kernel
theorem dX3_many_19 : decode cX3_many 19 = .ok (.iconst 1, 1) := by decide +kernel
theorem dX3_many_20 : decode cX3_many 20 = .ok (.goto 4, 3) := by decide +kernel
theorem dX3_many_23 : decode cX3_many 23 = .ok (.iconst 0, 1) := by decide +kernel
theorem dX3_many_24 : decode cX3_many 24 = .ok (.iadd, 1) := by decide +kernel
theorem dX3_many_25 : decode cX3_many 25 = .ok (.istore_n 2, 1) := by decide +kernel
theorem dX3_many_26 : decode cX3_many 26 = .ok (.iinc 3 1, 3) := by decide +kernel
theorem dX3_many_29 : decode cX3_many 29 = .ok (.goto (-25), 3) := by decide +kernel
theorem dX3_many_32 : decode cX3_many 32 = .ok (.iload_n 2, 1) := by decide +kernel
theorem dX3_many_33 : decode cX3_many 33 = .ok (.ireturn, 1) := by decide +kernel
set_option maxRecDepth 20000 in
theorem ggX3_values_X3_has : GoodIn wsX3_values wsX3_has := goodIn_r _ [4] (by decide +kernel) (by decide +kernel)
set_option maxRecDepth 20000 in
theorem gX3_values_X3_has : GoodIn wsX3_values (va_wsS RX3 59 yX3_has wsX3_has) := goodIn_app (goodIn_of _ (by decide +kernel)) ggX3_values_X3_has
theorem dX3_values_0 : decode cX3_values 0 = .ok (.lconst 0, 1) := by decide +kernel
theorem dX3_values_1 : decode cX3_values 1 = .ok (.lstore_n 2, 1) := by decide +kernel
theorem dX3_values_2 : decode cX3_values 2 = .ok (.iconst 0, 1) := by decide +kernel
theorem dX3_values_3 : decode cX3_values 3 = .ok (.istore 4, 2) := by decide +kernel
theorem dX3_values_5 : decode cX3_values 5 = .ok (.iload 4, 2) := by decide +kernel
theorem dX3_values_7 : decode cX3_values 7 = .ok (.bipush 64, 2) := by decide +kernel
theorem dX3_values_9 : decode cX3_values 9 = .ok (.if_icmp .ge 67, 3) := by decide +kernel
theorem dX3_values_12 : decode cX3_values 12 = .ok (.lconst 0, 1) := by decide +kernel
theorem dX3_values_13 : decode cX3_values 13 = .ok (.lstore 5, 2) := by decide +kernel
theorem dX3_values_15 : decode cX3_values 15 = .ok (.iconst 0, 1) := by decide +kernel
theorem dX3_values_16 : decode cX3_values 16 = .ok (.istore 7, 2) := by decide +kernel
theorem dX3_values_18 : decode cX3_values 18 = .ok (.iload 7, 2) := by decide +kernel
theorem dX3_values_20 : decode cX3_values 20 = .ok (.bipush 64, 2) := by decide +kernel
theorem dX3_values_22 : decode cX3_values 22 = .ok (.if_icmp .ge 38, 3) := by decide +kernel
theorem dX3_values_25 : decode cX3_values 25 = .ok (.lload 5, 2) := by decide +kernel
theorem dX3_values_27 : decode cX3_values 27 = .ok (.iload 7, 2) := by decide +kernel
theorem dX3_values_29 : decode cX3_values 29 = .ok (.iload 4, 2) := by decide +kernel
theorem dX3_values_31 : decode cX3_values 31 = .ok (.iconst (-1), 1) := by decide +kernel
theorem dX3_values_32 : decode cX3_values 32 = .ok (.ixor, 1) := by decide +kernel
theorem dX3_values_33 : decode cX3_values 33 = .ok (.iand, 1) := by decide +kernel
theorem dX3_values_34 : decode cX3_values 34 = .ok (.ifCond .ne 16, 3) := by decide +kernel
theorem dX3_values_37 : decode cX3_values 37 = .ok (.lload_n 0, 1) := by decide +kernel
theorem dX3_values_38 : decode cX3_values 38 = .ok (.iload 7, 2) := by decide +kernel
theorem dX3_values_40 : decode cX3_values 40 = .ok (.invokestatic 59, 3) := by decide +kernel
theorem dX3_values_43 : decode cX3_values 43 = .ok (.ifCond .eq 7, 3) := by decide +kernel
theorem dX3_values_46 : decode cX3_values 46 = .ok (.lconst 1, 1) := by decide +kernel
theorem dX3_values_47 : decode cX3_values 47 = .ok (.goto 4, 3) := by decide +kernel
theorem dX3_values_50 : decode cX3_values 50 = .ok (.lconst 0, 1) := by decide +kernel
theorem dX3_values_51 : decode cX3_values 51 = .ok (.ladd, 1) := by decide +kernel
theorem dX3_values_52 : decode cX3_values 52 = .ok (.lstore 5, 2) := by decide +kernel
theorem dX3_values_54 : decode cX3_values 54 = .ok (.iinc 7 1, 3) := by decide +kernel
theorem dX3_values_57 : decode cX3_values 57 = .ok (.goto (-39), 3) := by decide +kernel
theorem dX3_values_60 : decode cX3_values 60 = .ok (.lload_n 2, 1) := by decide +kernel
theorem dX3_values_61 : decode cX3_values 61 = .ok (.lload 5, 2) := by decide +kernel
theorem dX3_values_63 : decode cX3_values 63 = .ok (.lconst 1, 1) := by decide +kernel
theorem dX3_values_64 : decode cX3_values 64 = .ok (.land, 1) := by decide +kernel
theorem dX3_values_65 : decode cX3_values 65 = .ok (.iload 4, 2) := by decide +kernel
theorem dX3_values_67 : decode cX3_values 67 = .ok (.lshl, 1) := by decide +kernel
theorem dX3_values_68 : decode cX3_values 68 = .ok (.lor, 1) := by decide +kernel
theorem dX3_values_69 : decode cX3_values 69 = .ok (.lstore_n 2, 1) := by decide +kernel
theorem dX3_values_70 : decode cX3_values 70 = .ok (.iinc 4 1, 3) := by decide +kernel
theorem dX3_values_73 : decode cX3_values 73 = .ok (.goto (-68), 3) := by decide +kernel
theorem dX3_values_76 : decode cX3_values 76 = .ok (.lload_n 2, 1) := by decide +kernel
theorem dX3_values_77 : decode cX3_values 77 = .ok (.lreturn, 1) := by decide +kernel
set_option maxRecDepth 20000 in
theorem ggX3_raised_X3_has : GoodIn wsX3_raised wsX3_has := goodIn_r _ [4] (by decide +kernel) (by decide +kernel)
set_option maxRecDepth 20000 in
theorem gX3_raised_X3_has : GoodIn wsX3_raised (va_wsS RX3 59 yX3_has wsX3_has) := goodIn_app (goodIn_of _ (by decide +kernel)) ggX3_raised_X3_has
theorem dX3_raised_0 : decode cX3_raised 0 = .ok (.lconst 0, 1) := by decide +kernel
theorem dX3_raised_1 : decode cX3_raised 1 = .ok (.lstore_n 3, 1) := by decide +kernel
theorem dX3_raised_2 : decode cX3_raised 2 = .ok (.iconst 0, 1) := by decide +kernel
theorem dX3_raised_3 : decode cX3_raised 3 = .ok (.istore 5, 2) := by decide +kernel
theorem dX3_raised_5 : decode cX3_raised 5 = .ok (.iload 5, 2) := by decide +kernel
theorem dX3_raised_7 : decode cX3_raised 7 = .ok (.bipush 64, 2) := by decide +kernel
theorem dX3_raised_9 : decode cX3_raised 9 = .ok (.if_icmp .ge 31, 3) := by decide +kernel
theorem dX3_raised_12 : decode cX3_raised 12 = .ok (.lload_n 3, 1) := by decide +kernel
theorem dX3_raised_13 : decode cX3_raised 13 = .ok (.lload_n 0, 1) := by decide +kernel
theorem dX3_raised_14 : decode cX3_raised 14 = .ok (.iload 5, 2) := by decide +kernel
theorem dX3_raised_16 : decode cX3_raised 16 = .ok (.invokestatic 59, 3) := by decide +kernel
theorem dX3_raised_19 : decode cX3_raised 19 = .ok (.ifCond .eq 12, 3) := by decide +kernel
theorem dX3_raised_22 : decode cX3_raised 22 = .ok (.lconst 1, 1) := by decide +kernel
theorem dX3_raised_23 : decode cX3_raised 23 = .ok (.iload 5, 2) := by decide +kernel
theorem dX3_raised_25 : decode cX3_raised 25 = .ok (.iload_n 2, 1) := by decide +kernel
theorem dX3_raised_26 : decode cX3_raised 26 = .ok (.ior, 1) := by decide +kernel
theorem dX3_raised_27 : decode cX3_raised 27 = .ok (.lshl, 1) := by decide +kernel
theorem dX3_raised_28 : decode cX3_raised 28 = .ok (.goto 4, 3) := by decide +kernel
theorem dX3_raised_31 : decode cX3_raised 31 = .ok (.lconst 0, 1) := by decide +kernel
theorem dX3_raised_32 : decode cX3_raised 32 = .ok (.lxor, 1) := by decide +kernel
theorem dX3_raised_33 : decode cX3_raised 33 = .ok (.lstore_n 3, 1) := by decide +kernel
theorem dX3_raised_34 : decode cX3_raised 34 = .ok (.iinc 5 1, 3) := by decide +kernel
theorem dX3_raised_37 : decode cX3_raised 37 = .ok (.goto (-32), 3) := by decide +kernel
theorem dX3_raised_40 : decode cX3_raised 40 = .ok (.lload_n 3, 1) := by decide +kernel
theorem dX3_raised_41 : decode cX3_raised 41 = .ok (.lreturn, 1) := by decide +kernel
set_option maxRecDepth 20000 in
theorem ggX3_multiplied_X3_has : GoodIn wsX3_multiplied wsX3_has := goodIn_r _ [4] (by decide +kernel) (by decide +kernel)
set_option maxRecDepth 20000 in
theorem gX3_multiplied_X3_has : GoodIn wsX3_multiplied (va_wsS RX3 59 yX3_has wsX3_has) := goodIn_app (goodIn_of _ (by decide +kernel)) ggX3_multiplied_X3_has
set_option maxRecDepth 20000 in
theorem ggX3_multiplied_X3_raised : GoodIn wsX3_multiplied wsX3_raised := goodIn_r _ [7, 1, 2, 3, 4] (by decide +kernel) (by decide +kernel)
set_option maxRecDepth 20000 in
theorem gX3_multiplied_X3_raised : GoodIn wsX3_multiplied (va_wsS RX3 63 yX3_raised wsX3_raised) := goodIn_app (goodIn_of _ (by decide +kernel)) ggX3_multiplied_X3_raised
theorem dX3_multiplied_0 : decode cX3_multiplied 0 = .ok (.lconst 0, 1) := by decide +kernel
theorem dX3_multiplied_1 : decode cX3_multiplied 1 = .ok (.lstore 4, 2) := by decide +kernel
theorem dX3_multiplied_3 : decode cX3_multiplied 3 = .ok (.iconst 0, 1) := by decide +kernel
theorem dX3_multiplied_4 : decode cX3_multiplied 4 = .ok (.istore 6, 2) := by decide +kernel
theorem dX3_multiplied_6 : decode cX3_multiplied 6 = .ok (.iload 6, 2) := by decide +kernel
theorem dX3_multiplied_8 : decode cX3_multiplied 8 = .ok (.bipush 64, 2) := by decide +kernel
theorem dX3_multiplied_10 : decode cX3_multiplied 10 = .ok (.if_icmp .ge 33, 3) := by decide +kernel
theorem dX3_multiplied_13 : decode cX3_multiplied 13 = .ok (.lload 4, 2) := by decide +kernel
theorem dX3_multiplied_15 : decode cX3_multiplied 15 = .ok (.lload_n 2, 1) := by decide +kernel
theorem dX3_multiplied_16 : decode cX3_multiplied 16 = .ok (.iload 6, 2) := by decide +kernel
theorem dX3_multiplied_18 : decode cX3_multiplied 18 = .ok (.invokestatic 59, 3) := by decide +kernel
theorem dX3_multiplied_21 : decode cX3_multiplied 21 = .ok (.ifCond .eq 12, 3) := by decide +kernel
theorem dX3_multiplied_24 : decode cX3_multiplied 24 = .ok (.lload_n 0, 1) := by decide +kernel
theorem dX3_multiplied_25 : decode cX3_multiplied 25 = .ok (.iload 6, 2) := by decide +kernel
theorem dX3_multiplied_27 : decode cX3_multiplied 27 = .ok (.invokestatic 63, 3) := by decide +kernel
theorem dX3_multiplied_30 : decode cX3_multiplied 30 = .ok (.goto 4, 3) := by decide +kernel
theorem dX3_multiplied_33 : decode cX3_multiplied 33 = .ok (.lconst 0, 1) := by decide +kernel
theorem dX3_multiplied_34 : decode cX3_multiplied 34 = .ok (.lxor, 1) := by decide +kernel
theorem dX3_multiplied_35 : decode cX3_multiplied 35 = .ok (.lstore 4, 2) := by decide +kernel
theorem dX3_multiplied_37 : decode cX3_multiplied 37 = .ok (.iinc 6 1, 3) := by decide +kernel
theorem dX3_multiplied_40 : decode cX3_multiplied 40 = .ok (.goto (-34), 3) := by decide +kernel
theorem dX3_multiplied_43 : decode cX3_multiplied 43 = .ok (.lload 4, 2) := by decide +kernel
theorem dX3_multiplied_45 : decode cX3_multiplied 45 = .ok (.lreturn, 1) := by decide +kernel
set_option maxRecDepth 20000 in
theorem ggX3_leadOf_X3_has : GoodIn wsX3_leadOf wsX3_has := goodIn_r _ [5] (by decide +kernel) (by decide +kernel)
set_option maxRecDepth 20000 in
theorem gX3_leadOf_X3_has : GoodIn wsX3_leadOf (va_wsS RX3 59 yX3_has wsX3_has) := goodIn_app (goodIn_of _ (by decide +kernel)) ggX3_leadOf_X3_has
theorem dX3_leadOf_0 : decode cX3_leadOf 0 = .ok (.bipush (-9), 2) := by decide +kernel
theorem dX3_leadOf_2 : decode cX3_leadOf 2 = .ok (.istore_n 3, 1) := by decide +kernel
theorem dX3_leadOf_3 : decode cX3_leadOf 3 = .ok (.iconst 0, 1) := by decide +kernel
theorem dX3_leadOf_4 : decode cX3_leadOf 4 = .ok (.istore 4, 2) := by decide +kernel
theorem dX3_leadOf_6 : decode cX3_leadOf 6 = .ok (.iload 4, 2) := by decide +kernel
theorem dX3_leadOf_8 : decode cX3_leadOf 8 = .ok (.bipush 64, 2) := by decide +kernel
theorem dX3_leadOf_10 : decode cX3_leadOf 10 = .ok (.if_icmp .ge 35, 3) := by decide +kernel
theorem dX3_leadOf_13 : decode cX3_leadOf 13 = .ok (.lload_n 1, 1) := by decide +kernel
theorem dX3_leadOf_14 : decode cX3_leadOf 14 = .ok (.aload_n 0, 1) := by decide +kernel
theorem dX3_leadOf_15 : decode cX3_leadOf 15 = .ok (.getfield 7, 3) := by decide +kernel
theorem dX3_leadOf_18 : decode cX3_leadOf 18 = .ok (.iload 4, 2) := by decide +kernel
theorem dX3_leadOf_20 : decode cX3_leadOf 20 = .ok (.iaload, 1) := by decide +kernel
theorem dX3_leadOf_21 : decode cX3_leadOf 21 = .ok (.invokestatic 59, 3) := by decide +kernel
theorem dX3_leadOf_24 : decode cX3_leadOf 24 = .ok (.ifCond .eq 13, 3) := by decide +kernel
theorem dX3_leadOf_27 : decode cX3_leadOf 27 = .ok (.aload_n 0, 1) := by decide +kernel
theorem dX3_leadOf_28 : decode cX3_leadOf 28 = .ok (.getfield 7, 3) := by decide +kernel
theorem dX3_leadOf_31 : decode cX3_leadOf 31 = .ok (.iload 4, 2) := by decide +kernel
theorem dX3_leadOf_33 : decode cX3_leadOf 33 = .ok (.iaload, 1) := by decide +kernel
theorem dX3_leadOf_34 : decode cX3_leadOf 34 = .ok (.goto 4, 3) := by decide +kernel
theorem dX3_leadOf_37 : decode cX3_leadOf 37 = .ok (.iload_n 3, 1) := by decide +kernel
theorem dX3_leadOf_38 : decode cX3_leadOf 38 = .ok (.istore_n 3, 1) := by decide +kernel
theorem dX3_leadOf_39 : decode cX3_leadOf 39 = .ok (.iinc 4 1, 3) := by decide +kernel
theorem dX3_leadOf_42 : decode cX3_leadOf 42 = .ok (.goto (-36), 3) := by decide +kernel
theorem dX3_leadOf_45 : decode cX3_leadOf 45 = .ok (.iload_n 3, 1) := by decide +kernel
theorem dX3_leadOf_46 : decode cX3_leadOf 46 = .ok (.ireturn, 1) := by decide +kernel
set_option maxRecDepth 20000 in
theorem ggX3_degreeOf_X3_leadOf : GoodIn wsX3_degreeOf wsX3_leadOf := goodIn_r _ [5, 6, 7, 8, 4, 9, 13, 14, 15, 16, 17, 18, 19, 20, 21, 22, 23, 24, 25, 26, 27, 28, 29, 30, 31, 32, 33, 34, 35, 36, 37, 38, 39] (by decide +kernel) (by decide +kernel)
set_option maxRecDepth 20000 in
theorem gX3_degreeOf_X3_leadOf : GoodIn wsX3_degreeOf (wsV RX3 67 RX3 yX3_leadOf wsX3_leadOf) := goodIn_app (goodIn_of _ (by decide +kernel)) ggX3_degreeOf_X3_leadOf
set_option maxRecDepth 20000 in
theorem ggX3_degreeOf_X3_letters : GoodIn wsX3_degreeOf wsX3_letters := goodIn_r _ [12] (by decide +kernel) (by decide +kernel)
set_option maxRecDepth 20000 in
theorem gX3_degreeOf_X3_letters : GoodIn wsX3_degreeOf (va_wsS RX3 49 yX3_letters wsX3_letters) := goodIn_app (goodIn_of _ (by decide +kernel)) ggX3_degreeOf_X3_letters
theorem dX3_degreeOf_0 : decode cX3_degreeOf 0 = .ok (.lload_n 1, 1) := by decide +kernel
theorem dX3_degreeOf_1 : decode cX3_degreeOf 1 = .ok (.lconst 0, 1) := by decide +kernel
theorem dX3_degreeOf_2 : decode cX3_degreeOf 2 = .ok (.lcmp, 1) := by decide +kernel
theorem dX3_degreeOf_3 : decode cX3_degreeOf 3 = .ok (.ifCond .ne 8, 3) := by decide +kernel
theorem dX3_degreeOf_6 : decode cX3_degreeOf 6 = .ok (.bipush (-9), 2) := by decide +kernel
theorem dX3_degreeOf_8 : decode cX3_degreeOf 8 = .ok (.goto 11, 3) := by decide +kernel
theorem dX3_degreeOf_11 : decode cX3_degreeOf 11 = .ok (.aload_n 0, 1) := by decide +kernel
theorem dX3_degreeOf_12 : decode cX3_degreeOf 12 = .ok (.lload_n 1, 1) := by decide +kernel
theorem dX3_degreeOf_13 : decode cX3_degreeOf 13 = .ok (.invokevirtual 67, 3) := by decide +kernel
theorem dX3_degreeOf_16 : decode cX3_degreeOf 16 = .ok (.invokestatic 49, 3) := by decide +kernel
theorem dX3_degreeOf_19 : decode cX3_degreeOf 19 = .ok (.ireturn, 1) := by decide +kernel
set_option maxRecDepth 20000 in
theorem ggX3_type_X3_in : GoodIn wsX3_type wsX3_in := goodIn_r _ [8] (by decide +kernel) (by decide +kernel)
set_option maxRecDepth 20000 in
theorem gX3_type_X3_in : GoodIn wsX3_type (va_wsS RX3 71 yX3_in wsX3_in) := goodIn_app (goodIn_of _ (by decide +kernel)) ggX3_type_X3_in
theorem dX3_type_0 : decode cX3_type 0 = .ok (.aload_n 0, 1) := by decide +kernel
theorem dX3_type_1 : decode cX3_type 1 = .ok (.iconst 0, 1) := by decide +kernel
theorem dX3_type_2 : decode cX3_type 2 = .ok (.putfield 56, 3) := by decide +kernel
theorem dX3_type_5 : decode cX3_type 5 = .ok (.iload_n 3, 1) := by decide +kernel
theorem dX3_type_6 : decode cX3_type 6 = .ok (.iconst 1, 1) := by decide +kernel
theorem dX3_type_7 : decode cX3_type 7 = .ok (.bipush 8, 2) := by decide +kernel
theorem dX3_type_9 : decode cX3_type 9 = .ok (.invokestatic 71, 3) := by decide +kernel
theorem dX3_type_12 : decode cX3_type 12 = .ok (.ifCond .ne 5, 3) := by decide +kernel
theorem dX3_type_15 : decode cX3_type 15 = .ok (.iconst (-1), 1) := by decide +kernel
theorem dX3_type_16 : decode cX3_type 16 = .ok (.ireturn, 1) := by decide +kernel
theorem dX3_type_17 : decode cX3_type 17 = .ok (.aload_n 0, 1) := by decide +kernel
theorem dX3_type_18 : decode cX3_type 18 = .ok (.getfield 75, 3) := by decide +kernel
theorem dX3_type_21 : decode cX3_type 21 = .ok (.iload_n 3, 1) := by decide +kernel
theorem dX3_type_22 : decode cX3_type 22 = .ok (.iadd, 1) := by decide +kernel
theorem dX3_type_23 : decode cX3_type 23 = .ok (.sipush 400, 3) := by decide +kernel
theorem dX3_type_26 : decode cX3_type 26 = .ok (.if_icmp .le 6, 3) := by decide +kernel
theorem dX3_type_29 : decode cX3_type 29 = .ok (.bipush (-3), 2) := by decide +kernel
theorem dX3_type_31 : decode cX3_type 31 = .ok (.ireturn, 1) := by decide +kernel
theorem dX3_type_32 : decode cX3_type 32 = .ok (.iload_n 3, 1) := by decide +kernel
theorem dX3_type_33 : decode cX3_type 33 = .ok (.iconst 1, 1) := by decide +kernel
theorem dX3_type_34 : decode cX3_type 34 = .ok (.isub, 1) := by decide +kernel
theorem dX3_type_35 : decode cX3_type 35 = .ok (.istore 4, 2) := by decide +kernel
theorem dX3_type_37 : decode cX3_type 37 = .ok (.iload 4, 2) := by decide +kernel
theorem dX3_type_39 : decode cX3_type 39 = .ok (.ifCond .lt 40, 3) := by decide +kernel
theorem dX3_type_42 : decode cX3_type 42 = .ok (.aload_n 0, 1) := by decide +kernel
theorem dX3_type_43 : decode cX3_type 43 = .ok (.getfield 13, 3) := by decide +kernel
theorem dX3_type_46 : decode cX3_type 46 = .ok (.aload_n 0, 1) := by decide +kernel
theorem dX3_type_47 : decode cX3_type 47 = .ok (.getfield 75, 3) := by decide +kernel
theorem dX3_type_50 : decode cX3_type 50 = .ok (.lload_n 1, 1) := by decide +kernel
theorem dX3_type_51 : decode cX3_type 51 = .ok (.bipush 8, 2) := by decide +kernel
theorem dX3_type_53 : decode cX3_type 53 = .ok (.iload 4, 2) := by decide +kernel
theorem dX3_type_55 : decode cX3_type 55 = .ok (.imul, 1) := by decide +kernel
theorem dX3_type_56 : decode cX3_type 56 = .ok (.lshr, 1) := by decide +kernel
theorem dX3_type_57 : decode cX3_type 57 = .ok (.ldc2_w 78, 3) := by decide +kernel
theorem dX3_type_60 : decode cX3_type 60 = .ok (.land, 1) := by decide +kernel
theorem dX3_type_61 : decode cX3_type 61 = .ok (.l2i, 1) := by decide +kernel
theorem dX3_type_62 : decode cX3_type 62 = .ok (.iastore, 1) := by decide +kernel
theorem dX3_type_63 : decode cX3_type 63 = .ok (.aload_n 0, 1) := by decide +kernel
theorem dX3_type_64 : decode cX3_type 64 = .ok (.dup, 1) := by decide +kernel
theorem dX3_type_65 : decode cX3_type 65 = .ok (.getfield 75, 3) := by decide +kernel
theorem dX3_type_68 : decode cX3_type 68 = .ok (.iconst 1, 1) := by decide +kernel
theorem dX3_type_69 : decode cX3_type 69 = .ok (.iadd, 1) := by decide +kernel
theorem dX3_type_70 : decode cX3_type 70 = .ok (.putfield 75, 3) := by decide +kernel
theorem dX3_type_73 : decode cX3_type 73 = .ok (.iinc 4 (-1), 3) := by decide +kernel
theorem dX3_type_76 : decode cX3_type 76 = .ok (.goto (-39), 3) := by decide +kernel
theorem dX3_type_79 : decode cX3_type 79 = .ok (.aload_n 0, 1) := by decide +kernel
theorem dX3_type_80 : decode cX3_type 80 = .ok (.getfield 75, 3) := by decide +kernel
theorem dX3_type_83 : decode cX3_type 83 = .ok (.ireturn, 1) := by decide +kernel
theorem dX3_clear_0 : decode cX3_clear 0 = .ok (.aload_n 0, 1) := by decide +kernel
theorem dX3_clear_1 : decode cX3_clear 1 = .ok (.iconst 0, 1) := by decide +kernel
theorem dX3_clear_2 : decode cX3_clear 2 = .ok (.putfield 56, 3) := by decide +kernel
theorem dX3_clear_5 : decode cX3_clear 5 = .ok (.aload_n 0, 1) := by decide +kernel
theorem dX3_clear_6 : decode cX3_clear 6 = .ok (.getfield 75, 3) := by decide +kernel
theorem dX3_clear_9 : decode cX3_clear 9 = .ok (.istore_n 1, 1) := by decide +kernel
theorem dX3_clear_10 : decode cX3_clear 10 = .ok (.aload_n 0, 1) := by decide +kernel
theorem dX3_clear_11 : decode cX3_clear 11 = .ok (.iconst 0, 1) := by decide +kernel
theorem dX3_clear_12 : decode cX3_clear 12 = .ok (.putfield 75, 3) := by decide +kernel
theorem dX3_clear_15 : decode cX3_clear 15 = .ok (.iload_n 1, 1) := by decide +kernel
theorem dX3_clear_16 : decode cX3_clear 16 = .ok (.ireturn, 1) := by decide +kernel
theorem dX3_byteAt_0 : decode cX3_byteAt 0 = .ok (.iload_n 1, 1) := by decide +kernel
theorem dX3_byteAt_1 : decode cX3_byteAt 1 = .ok (.aload_n 0, 1) := by decide +kernel
theorem dX3_byteAt_2 : decode cX3_byteAt 2 = .ok (.getfield 75, 3) := by decide +kernel
theorem dX3_byteAt_5 : decode cX3_byteAt 5 = .ok (.if_icmp .ge 12, 3) := by decide +kernel
theorem dX3_byteAt_8 : decode cX3_byteAt 8 = .ok (.aload_n 0, 1) := by decide +kernel
theorem dX3_byteAt_9 : decode cX3_byteAt 9 = .ok (.getfield 13, 3) := by decide +kernel
theorem dX3_byteAt_12 : decode cX3_byteAt 12 = .ok (.iload_n 1, 1) := by decide +kernel
theorem dX3_byteAt_13 : decode cX3_byteAt 13 = .ok (.iaload, 1) := by decide +kernel
theorem dX3_byteAt_14 : decode cX3_byteAt 14 = .ok (.goto 4, 3) := by decide +kernel
theorem dX3_byteAt_17 : decode cX3_byteAt 17 = .ok (.iconst (-1), 1) := by decide +kernel
theorem dX3_byteAt_18 : decode cX3_byteAt 18 = .ok (.ireturn, 1) := by decide +kernel
theorem dX3_add_0 : decode cX3_add 0 = .ok (.iload_n 2, 1) := by decide +kernel
theorem dX3_add_1 : decode cX3_add 1 = .ok (.ifCond .ne 7, 3) := by decide +kernel
theorem dX3_add_4 : decode cX3_add 4 = .ok (.lload_n 0, 1) := by decide +kernel
theorem dX3_add_5 : decode cX3_add 5 = .ok (.goto 11, 3) := by decide +kernel
theorem dX3_add_8 : decode cX3_add 8 = .ok (.ldc2_w 80, 3) := by decide +kernel
theorem dX3_add_11 : decode cX3_add 11 = .ok (.lload_n 0, 1) := by decide +kernel
theorem dX3_add_12 : decode cX3_add 12 = .ok (.lmul, 1) := by decide +kernel
theorem dX3_add_13 : decode cX3_add 13 = .ok (.iload_n 2, 1) := by decide +kernel
theorem dX3_add_14 : decode cX3_add 14 = .ok (.i2l, 1) := by decide +kernel
theorem dX3_add_15 : decode cX3_add 15 = .ok (.ladd, 1) := by decide +kernel
theorem dX3_add_16 : decode cX3_add 16 = .ok (.lreturn, 1) := by decide +kernel
set_option maxRecDepth 20000 in
theorem ggX3_word_X3_add : GoodIn wsX3_word wsX3_add := goodIn_r _ [4, 5] (by decide +kernel) (by decide +kernel)
set_option maxRecDepth 20000 in
theorem gX3_word_X3_add : GoodIn wsX3_word (va_wsS RX3 82 yX3_add wsX3_add) := goodIn_app (goodIn_of _ (by decide +kernel)) ggX3_word_X3_add
theorem dX3_word_0 : decode cX3_word 0 = .ok (.lconst 0, 1) := by decide +kernel
theorem dX3_word_1 : decode cX3_word 1 = .ok (.iload_n 0, 1) := by decide +kernel
theorem dX3_word_2 : decode cX3_word 2 = .ok (.invokestatic 82, 3) := by decide +kernel
theorem dX3_word_5 : decode cX3_word 5 = .ok (.iload_n 1, 1) := by decide +kernel
theorem dX3_word_6 : decode cX3_word 6 = .ok (.invokestatic 82, 3) := by decide +kernel
theorem dX3_word_9 : decode cX3_word 9 = .ok (.iload_n 2, 1) := by decide +kernel
theorem dX3_word_10 : decode cX3_word 10 = .ok (.invokestatic 82, 3) := by decide +kernel
theorem dX3_word_13 : decode cX3_word 13 = .ok (.iload_n 3, 1) := by decide +kernel
theorem dX3_word_14 : decode cX3_word 14 = .ok (.invokestatic 82, 3) := by decide +kernel
theorem dX3_word_17 : decode cX3_word 17 = .ok (.iload 4, 2) := by decide +kernel
theorem dX3_word_19 : decode cX3_word 19 = .ok (.invokestatic 82, 3) := by decide +kernel
theorem dX3_word_22 : decode cX3_word 22 = .ok (.lreturn, 1) := by decide +kernel
set_option maxRecDepth 20000 in
theorem ggX3_words_X3_add : GoodIn wsX3_words wsX3_add := goodIn_r _ [8, 9] (by decide +kernel) (by decide +kernel)
set_option maxRecDepth 20000 in
theorem gX3_words_X3_add : GoodIn wsX3_words (va_wsS RX3 82 yX3_add wsX3_add) := goodIn_app (goodIn_of _ (by decide +kernel)) ggX3_words_X3_add
set_option maxRecDepth 20000 in
theorem ggX3_words_X3_word : GoodIn wsX3_words wsX3_word := goodIn_r _ [12, 5, 6, 7, 8, 9] (by decide +kernel) (by decide +kernel)
set_option maxRecDepth 20000 in
theorem gX3_words_X3_word : GoodIn wsX3_words (va_wsS RX3 94 yX3_word wsX3_word) := goodIn_app (goodIn_of _ (by decide +kernel)) ggX3_words_X3_word
theorem dX3_words_0 : decode cX3_words 0 = .ok (.lconst 0, 1) := by decide +kernel
theorem dX3_words_1 : decode cX3_words 1 = .ok (.lstore_n 2, 1) := by decide +kernel
theorem dX3_words_2 : decode cX3_words 2 = .ok (.iconst 0, 1) := by decide +kernel
theorem dX3_words_3 : decode cX3_words 3 = .ok (.istore 4, 2) := by decide +kernel
theorem dX3_words_5 : decode cX3_words 5 = .ok (.iconst 1, 1) := by decide +kernel
theorem dX3_words_6 : decode cX3_words 6 = .ok (.istore 5, 2) := by decide +kernel
theorem dX3_words_8 : decode cX3_words 8 = .ok (.iconst 0, 1) := by decide +kernel
theorem dX3_words_9 : decode cX3_words 9 = .ok (.istore 6, 2) := by decide +kernel
theorem dX3_words_11 : decode cX3_words 11 = .ok (.iload 6, 2) := by decide +kernel
theorem dX3_words_13 : decode cX3_words 13 = .ok (.iload_n 1, 1) := by decide +kernel
theorem dX3_words_14 : decode cX3_words 14 = .ok (.if_icmp .ge 94, 3) := by decide +kernel
theorem dX3_words_17 : decode cX3_words 17 = .ok (.aload_n 0, 1) := by decide +kernel
theorem dX3_words_18 : decode cX3_words 18 = .ok (.getfield 13, 3) := by decide +kernel
theorem dX3_words_21 : decode cX3_words 21 = .ok (.aload_n 0, 1) := by decide +kernel
theorem dX3_words_22 : decode cX3_words 22 = .ok (.getfield 85, 3) := by decide +kernel
theorem dX3_words_25 : decode cX3_words 25 = .ok (.iload 6, 2) := by decide +kernel
theorem dX3_words_27 : decode cX3_words 27 = .ok (.iadd, 1) := by decide +kernel
theorem dX3_words_28 : decode cX3_words 28 = .ok (.iaload, 1) := by decide +kernel
theorem dX3_words_29 : decode cX3_words 29 = .ok (.istore 7, 2) := by decide +kernel
theorem dX3_words_31 : decode cX3_words 31 = .ok (.iload 6, 2) := by decide +kernel
theorem dX3_words_33 : decode cX3_words 33 = .ok (.bipush 6, 2) := by decide +kernel
theorem dX3_words_35 : decode cX3_words 35 = .ok (.if_icmp .ge 12, 3) := by decide +kernel
theorem dX3_words_38 : decode cX3_words 38 = .ok (.lload_n 2, 1) := by decide +kernel
theorem dX3_words_39 : decode cX3_words 39 = .ok (.iload 7, 2) := by decide +kernel
theorem dX3_words_41 : decode cX3_words 41 = .ok (.invokestatic 82, 3) := by decide +kernel
theorem dX3_words_44 : decode cX3_words 44 = .ok (.goto 4, 3) := by decide +kernel
theorem dX3_words_47 : decode cX3_words 47 = .ok (.lload_n 2, 1) := by decide +kernel
theorem dX3_words_48 : decode cX3_words 48 = .ok (.lstore_n 2, 1) := by decide +kernel
