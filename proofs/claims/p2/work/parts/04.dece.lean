set_option maxRecDepth 20000 in
theorem gX8_store_X8_lays : GoodIn wsX8_store (wsV RX8 211 RX8 yX8_lays wsX8_lays) := goodIn_app (goodIn_of _ (by decide +kernel)) ggX8_store_X8_lays
set_option maxRecDepth 20000 in
theorem ggX8_store_X8_findFields : GoodIn wsX8_store wsX8_findFields := goodIn_r _ [69, 70, 71, 1, 72, 52, 53, 20, 73, 74, 75, 8, 76, 58, 59, 60, 61, 11, 15, 43, 44, 45, 77, 78, 79, 80, 62, 63, 64, 65, 25, 33, 34, 81, 82, 83, 84, 85, 86, 87, 88, 89, 90, 91, 92, 93, 94, 95, 96, 97, 98, 99, 100, 101, 102, 103, 104, 105, 106, 107, 108, 109, 110, 111, 112, 113, 114, 115, 116, 117, 118, 119, 120, 121, 122, 123, 124, 125, 126, 127, 128, 129, 130, 131, 132, 133, 134, 135] rfl (by decide +kernel)
set_option maxRecDepth 20000 in
theorem gX8_store_X8_findFields : GoodIn wsX8_store (wsV RX8 214 RX8 yX8_findFields wsX8_findFields) := goodIn_app (goodIn_of _ (by decide +kernel)) ggX8_store_X8_findFields
theorem dX8_store_0 : decode cX8_store 0 = .ok (.aload_n 0, 1) := by decide +kernel
theorem dX8_store_1 : decode cX8_store 1 = .ok (.iconst 0, 1) := by decide +kernel
theorem dX8_store_2 : decode cX8_store 2 = .ok (.putfield 205, 3) := by decide +kernel
theorem dX8_store_5 : decode cX8_store 5 = .ok (.iconst 0, 1) := by decide +kernel
theorem dX8_store_6 : decode cX8_store 6 = .ok (.istore_n 1, 1) := by decide +kernel
theorem dX8_store_7 : decode cX8_store 7 = .ok (.iload_n 1, 1) := by decide +kernel
theorem dX8_store_8 : decode cX8_store 8 = .ok (.bipush 12, 2) := by decide +kernel
theorem dX8_store_10 : decode cX8_store 10 = .ok (.if_icmp .ge 55, 3) := by decide +kernel
theorem dX8_store_13 : decode cX8_store 13 = .ok (.aload_n 0, 1) := by decide +kernel
theorem dX8_store_14 : decode cX8_store 14 = .ok (.iload_n 1, 1) := by decide +kernel
theorem dX8_store_15 : decode cX8_store 15 = .ok (.invokevirtual 194, 3) := by decide +kernel
theorem dX8_store_18 : decode cX8_store 18 = .ok (.iconst (-1), 1) := by decide +kernel
theorem dX8_store_19 : decode cX8_store 19 = .ok (.istore_n 2, 1) := by decide +kernel
theorem dX8_store_20 : decode cX8_store 20 = .ok (.aload_n 0, 1) := by decide +kernel
theorem dX8_store_21 : decode cX8_store 21 = .ok (.getfield 57, 3) := by decide +kernel
theorem dX8_store_24 : decode cX8_store 24 = .ok (.iload_n 1, 1) := by decide +kernel
theorem dX8_store_25 : decode cX8_store 25 = .ok (.iaload, 1) := by decide +kernel
theorem dX8_store_26 : decode cX8_store 26 = .ok (.iconst 1, 1) := by decide +kernel
theorem dX8_store_27 : decode cX8_store 27 = .ok (.isub, 1) := by decide +kernel
theorem dX8_store_28 : decode cX8_store 28 = .ok (.istore_n 3, 1) := by decide +kernel
theorem dX8_store_29 : decode cX8_store 29 = .ok (.iload_n 3, 1) := by decide +kernel
theorem dX8_store_30 : decode cX8_store 30 = .ok (.ifCond .lt 29, 3) := by decide +kernel
theorem dX8_store_33 : decode cX8_store 33 = .ok (.aload_n 0, 1) := by decide +kernel
theorem dX8_store_34 : decode cX8_store 34 = .ok (.iload_n 1, 1) := by decide +kernel
theorem dX8_store_35 : decode cX8_store 35 = .ok (.iload_n 3, 1) := by decide +kernel
theorem dX8_store_36 : decode cX8_store 36 = .ok (.iload_n 2, 1) := by decide +kernel
theorem dX8_store_37 : decode cX8_store 37 = .ok (.invokevirtual 211, 3) := by decide +kernel
theorem dX8_store_40 : decode cX8_store 40 = .ok (.istore_n 2, 1) := by decide +kernel
theorem dX8_store_41 : decode cX8_store 41 = .ok (.aload_n 0, 1) := by decide +kernel
theorem dX8_store_42 : decode cX8_store 42 = .ok (.getfield 82, 3) := by decide +kernel
theorem dX8_store_45 : decode cX8_store 45 = .ok (.bipush 10, 2) := by decide +kernel
theorem dX8_store_47 : decode cX8_store 47 = .ok (.iload_n 1, 1) := by decide +kernel
theorem dX8_store_48 : decode cX8_store 48 = .ok (.imul, 1) := by decide +kernel
theorem dX8_store_49 : decode cX8_store 49 = .ok (.iload_n 3, 1) := by decide +kernel
theorem dX8_store_50 : decode cX8_store 50 = .ok (.iadd, 1) := by decide +kernel
theorem dX8_store_51 : decode cX8_store 51 = .ok (.iload_n 2, 1) := by decide +kernel
theorem dX8_store_52 : decode cX8_store 52 = .ok (.iastore, 1) := by decide +kernel
theorem dX8_store_53 : decode cX8_store 53 = .ok (.iinc 3 (-1), 3) := by decide +kernel
theorem dX8_store_56 : decode cX8_store 56 = .ok (.goto (-27), 3) := by decide +kernel
theorem dX8_store_59 : decode cX8_store 59 = .ok (.iinc 1 1, 3) := by decide +kernel
theorem dX8_store_62 : decode cX8_store 62 = .ok (.goto (-55), 3) := by decide +kernel
theorem dX8_store_65 : decode cX8_store 65 = .ok (.aload_n 0, 1) := by decide +kernel
theorem dX8_store_66 : decode cX8_store 66 = .ok (.iconst 1, 1) := by decide +kernel
theorem dX8_store_67 : decode cX8_store 67 = .ok (.putfield 164, 3) := by decide +kernel
theorem dX8_store_70 : decode cX8_store 70 = .ok (.aload_n 0, 1) := by decide +kernel
theorem dX8_store_71 : decode cX8_store 71 = .ok (.invokevirtual 214, 3) := by decide +kernel
theorem dX8_store_74 : decode cX8_store 74 = .ok (.aload_n 0, 1) := by decide +kernel
theorem dX8_store_75 : decode cX8_store 75 = .ok (.getfield 205, 3) := by decide +kernel
theorem dX8_store_78 : decode cX8_store 78 = .ok (.ireturn, 1) := by decide +kernel
set_option maxRecDepth 20000 in
theorem ggX8_place_X8_isInstruction : GoodIn wsX8_place wsX8_isInstruction := goodIn_r _ [7] rfl (by decide +kernel)
set_option maxRecDepth 20000 in
theorem gX8_place_X8_isInstruction : GoodIn wsX8_place (va_wsS RX8 157 yX8_isInstruction wsX8_isInstruction) := goodIn_app (goodIn_of _ (by decide +kernel)) ggX8_place_X8_isInstruction
set_option maxRecDepth 20000 in
theorem ggX8_place_X8_no : GoodIn wsX8_place wsX8_no := goodIn_r _ [11, 12, 16, 17, 18, 19, 20, 21, 22, 23, 24, 25, 26, 27, 28, 29, 30, 31, 32, 33, 34, 35, 36, 37, 38, 39, 40, 41, 42, 43, 44, 45, 46, 47, 48, 49, 50, 51, 52, 53, 54, 55, 56, 57, 58, 59] rfl (by decide +kernel)
set_option maxRecDepth 20000 in
theorem gX8_place_X8_no : GoodIn wsX8_place (wsV RX8 122 RX8 yX8_no wsX8_no) := goodIn_app (goodIn_of _ (by decide +kernel)) ggX8_place_X8_no
set_option maxRecDepth 20000 in
theorem ggX8_place_X8_isIn : GoodIn wsX8_place wsX8_isIn := goodIn_r _ [15] rfl (by decide +kernel)
set_option maxRecDepth 20000 in
theorem gX8_place_X8_isIn : GoodIn wsX8_place (va_wsS RX8 128 yX8_isIn wsX8_isIn) := goodIn_app (goodIn_of _ (by decide +kernel)) ggX8_place_X8_isIn
theorem dX8_place_0 : decode cX8_place 0 = .ok (.iload_n 1, 1) := by decide +kernel
theorem dX8_place_1 : decode cX8_place 1 = .ok (.invokestatic 157, 3) := by decide +kernel
theorem dX8_place_4 : decode cX8_place 4 = .ok (.ifCond .ne 10, 3) := by decide +kernel
theorem dX8_place_7 : decode cX8_place 7 = .ok (.aload_n 0, 1) := by decide +kernel
theorem dX8_place_8 : decode cX8_place 8 = .ok (.bipush (-3), 2) := by decide +kernel
theorem dX8_place_10 : decode cX8_place 10 = .ok (.invokevirtual 122, 3) := by decide +kernel
theorem dX8_place_13 : decode cX8_place 13 = .ok (.ireturn, 1) := by decide +kernel
theorem dX8_place_14 : decode cX8_place 14 = .ok (.aload_n 0, 1) := by decide +kernel
theorem dX8_place_15 : decode cX8_place 15 = .ok (.getfield 164, 3) := by decide +kernel
theorem dX8_place_18 : decode cX8_place 18 = .ok (.ifCond .ne 10, 3) := by decide +kernel
theorem dX8_place_21 : decode cX8_place 21 = .ok (.aload_n 0, 1) := by decide +kernel
theorem dX8_place_22 : decode cX8_place 22 = .ok (.bipush (-2), 2) := by decide +kernel
theorem dX8_place_24 : decode cX8_place 24 = .ok (.invokevirtual 122, 3) := by decide +kernel
theorem dX8_place_27 : decode cX8_place 27 = .ok (.ireturn, 1) := by decide +kernel
theorem dX8_place_28 : decode cX8_place 28 = .ok (.iload_n 2, 1) := by decide +kernel
theorem dX8_place_29 : decode cX8_place 29 = .ok (.i2l, 1) := by decide +kernel
theorem dX8_place_30 : decode cX8_place 30 = .ok (.lconst 0, 1) := by decide +kernel
theorem dX8_place_31 : decode cX8_place 31 = .ok (.aload_n 0, 1) := by decide +kernel
theorem dX8_place_32 : decode cX8_place 32 = .ok (.getfield 57, 3) := by decide +kernel
theorem dX8_place_35 : decode cX8_place 35 = .ok (.iload_n 1, 1) := by decide +kernel
theorem dX8_place_36 : decode cX8_place 36 = .ok (.iaload, 1) := by decide +kernel
theorem dX8_place_37 : decode cX8_place 37 = .ok (.iconst 1, 1) := by decide +kernel
theorem dX8_place_38 : decode cX8_place 38 = .ok (.isub, 1) := by decide +kernel
theorem dX8_place_39 : decode cX8_place 39 = .ok (.i2l, 1) := by decide +kernel
theorem dX8_place_40 : decode cX8_place 40 = .ok (.invokestatic 128, 3) := by decide +kernel
theorem dX8_place_43 : decode cX8_place 43 = .ok (.ifCond .eq 17, 3) := by decide +kernel
theorem dX8_place_46 : decode cX8_place 46 = .ok (.aload_n 0, 1) := by decide +kernel
theorem dX8_place_47 : decode cX8_place 47 = .ok (.getfield 82, 3) := by decide +kernel
theorem dX8_place_50 : decode cX8_place 50 = .ok (.bipush 10, 2) := by decide +kernel
theorem dX8_place_52 : decode cX8_place 52 = .ok (.iload_n 1, 1) := by decide +kernel
theorem dX8_place_53 : decode cX8_place 53 = .ok (.imul, 1) := by decide +kernel
theorem dX8_place_54 : decode cX8_place 54 = .ok (.iload_n 2, 1) := by decide +kernel
theorem dX8_place_55 : decode cX8_place 55 = .ok (.iadd, 1) := by decide +kernel
theorem dX8_place_56 : decode cX8_place 56 = .ok (.iaload, 1) := by decide +kernel
theorem dX8_place_57 : decode cX8_place 57 = .ok (.goto 9, 3) := by decide +kernel
theorem dX8_place_60 : decode cX8_place 60 = .ok (.aload_n 0, 1) := by decide +kernel
theorem dX8_place_61 : decode cX8_place 61 = .ok (.bipush (-3), 2) := by decide +kernel
theorem dX8_place_63 : decode cX8_place 63 = .ok (.invokevirtual 122, 3) := by decide +kernel
theorem dX8_place_66 : decode cX8_place 66 = .ok (.ireturn, 1) := by decide +kernel
set_option maxRecDepth 20000 in
theorem ggX8_actsAt_X8_actOf : GoodIn wsX8_actsAt wsX8_actOf := goodIn_r _ [7, 8, 9, 10, 11, 12, 13, 14, 15, 16, 17, 18, 19, 20, 21, 22, 23, 24, 25, 26, 27, 28, 29, 30, 31, 32, 33, 34, 35, 36, 37, 38, 39, 40, 41, 42, 43, 44, 45, 46, 47, 48, 49, 50, 51, 52, 53] rfl (by decide +kernel)
set_option maxRecDepth 20000 in
theorem gX8_actsAt_X8_actOf : GoodIn wsX8_actsAt (wsV RX8 198 RX8 yX8_actOf wsX8_actOf) := goodIn_app (goodIn_of _ (by decide +kernel)) ggX8_actsAt_X8_actOf
theorem dX8_actsAt_0 : decode cX8_actsAt 0 = .ok (.iconst 0, 1) := by decide +kernel
theorem dX8_actsAt_1 : decode cX8_actsAt 1 = .ok (.istore_n 2, 1) := by decide +kernel
theorem dX8_actsAt_2 : decode cX8_actsAt 2 = .ok (.aload_n 0, 1) := by decide +kernel
theorem dX8_actsAt_3 : decode cX8_actsAt 3 = .ok (.aload_n 0, 1) := by decide +kernel
theorem dX8_actsAt_4 : decode cX8_actsAt 4 = .ok (.getfield 70, 3) := by decide +kernel
theorem dX8_actsAt_7 : decode cX8_actsAt 7 = .ok (.iload_n 1, 1) := by decide +kernel
theorem dX8_actsAt_8 : decode cX8_actsAt 8 = .ok (.iaload, 1) := by decide +kernel
theorem dX8_actsAt_9 : decode cX8_actsAt 9 = .ok (.aload_n 0, 1) := by decide +kernel
theorem dX8_actsAt_10 : decode cX8_actsAt 10 = .ok (.getfield 73, 3) := by decide +kernel
theorem dX8_actsAt_13 : decode cX8_actsAt 13 = .ok (.iload_n 1, 1) := by decide +kernel
theorem dX8_actsAt_14 : decode cX8_actsAt 14 = .ok (.iaload, 1) := by decide +kernel
theorem dX8_actsAt_15 : decode cX8_actsAt 15 = .ok (.iload_n 2, 1) := by decide +kernel
theorem dX8_actsAt_16 : decode cX8_actsAt 16 = .ok (.invokevirtual 198, 3) := by decide +kernel
theorem dX8_actsAt_19 : decode cX8_actsAt 19 = .ok (.ifCond .lt 9, 3) := by decide +kernel
theorem dX8_actsAt_22 : decode cX8_actsAt 22 = .ok (.iinc 2 1, 3) := by decide +kernel
theorem dX8_actsAt_25 : decode cX8_actsAt 25 = .ok (.goto (-23), 3) := by decide +kernel
theorem dX8_actsAt_28 : decode cX8_actsAt 28 = .ok (.iload_n 2, 1) := by decide +kernel
theorem dX8_actsAt_29 : decode cX8_actsAt 29 = .ok (.ireturn, 1) := by decide +kernel
set_option maxRecDepth 20000 in
theorem ggX8_at_X8_no : GoodIn wsX8_at wsX8_no := goodIn_r _ [9, 10, 26, 27, 28, 29, 30, 31, 32, 33, 34, 35, 36, 37, 38, 39, 40, 41, 42, 43, 44, 45, 46, 47, 48, 49, 50, 51, 52, 53, 54, 55, 56, 57, 58, 59, 60, 61, 62, 63, 64, 65, 66, 67, 68, 69] rfl (by decide +kernel)
set_option maxRecDepth 20000 in
theorem gX8_at_X8_no : GoodIn wsX8_at (wsV RX8 122 RX8 yX8_no wsX8_no) := goodIn_app (goodIn_of _ (by decide +kernel)) ggX8_at_X8_no
set_option maxRecDepth 20000 in
theorem ggX8_at_X8_isIn : GoodIn wsX8_at wsX8_isIn := goodIn_r _ [13] rfl (by decide +kernel)
set_option maxRecDepth 20000 in
theorem gX8_at_X8_isIn : GoodIn wsX8_at (va_wsS RX8 128 yX8_isIn wsX8_isIn) := goodIn_app (goodIn_of _ (by decide +kernel)) ggX8_at_X8_isIn
set_option maxRecDepth 20000 in
theorem ggX8_at_X8_actsAt : GoodIn wsX8_at wsX8_actsAt := goodIn_r _ [17, 18, 19, 20, 21, 22, 8, 23, 24, 25, 26, 27, 28, 29, 30, 31, 32, 33, 34, 35, 36, 37, 38, 39, 40, 41, 42, 43, 44, 45, 46, 47, 48, 49, 50, 51, 52, 53, 54, 55, 56, 57, 58, 59, 60, 61, 62, 63, 64, 65, 66, 67, 68, 69] rfl (by decide +kernel)
set_option maxRecDepth 20000 in
theorem gX8_at_X8_actsAt : GoodIn wsX8_at (wsV RX8 217 RX8 yX8_actsAt wsX8_actsAt) := goodIn_app (goodIn_of _ (by decide +kernel)) ggX8_at_X8_actsAt
theorem dX8_at_0 : decode cX8_at 0 = .ok (.aload_n 0, 1) := by decide +kernel
theorem dX8_at_1 : decode cX8_at 1 = .ok (.getfield 164, 3) := by decide +kernel
theorem dX8_at_4 : decode cX8_at 4 = .ok (.ifCond .ne 10, 3) := by decide +kernel
theorem dX8_at_7 : decode cX8_at 7 = .ok (.aload_n 0, 1) := by decide +kernel
theorem dX8_at_8 : decode cX8_at 8 = .ok (.bipush (-2), 2) := by decide +kernel
theorem dX8_at_10 : decode cX8_at 10 = .ok (.invokevirtual 122, 3) := by decide +kernel
theorem dX8_at_13 : decode cX8_at 13 = .ok (.ireturn, 1) := by decide +kernel
theorem dX8_at_14 : decode cX8_at 14 = .ok (.iload_n 1, 1) := by decide +kernel
theorem dX8_at_15 : decode cX8_at 15 = .ok (.i2l, 1) := by decide +kernel
theorem dX8_at_16 : decode cX8_at 16 = .ok (.lconst 0, 1) := by decide +kernel
theorem dX8_at_17 : decode cX8_at 17 = .ok (.aload_n 0, 1) := by decide +kernel
theorem dX8_at_18 : decode cX8_at 18 = .ok (.getfield 205, 3) := by decide +kernel
theorem dX8_at_21 : decode cX8_at 21 = .ok (.iconst 1, 1) := by decide +kernel
theorem dX8_at_22 : decode cX8_at 22 = .ok (.isub, 1) := by decide +kernel
theorem dX8_at_23 : decode cX8_at 23 = .ok (.i2l, 1) := by decide +kernel
theorem dX8_at_24 : decode cX8_at 24 = .ok (.invokestatic 128, 3) := by decide +kernel
theorem dX8_at_27 : decode cX8_at 27 = .ok (.ifCond .ne 10, 3) := by decide +kernel
theorem dX8_at_30 : decode cX8_at 30 = .ok (.aload_n 0, 1) := by decide +kernel
theorem dX8_at_31 : decode cX8_at 31 = .ok (.bipush (-3), 2) := by decide +kernel
theorem dX8_at_33 : decode cX8_at 33 = .ok (.invokevirtual 122, 3) := by decide +kernel
theorem dX8_at_36 : decode cX8_at 36 = .ok (.ireturn, 1) := by decide +kernel
theorem dX8_at_37 : decode cX8_at 37 = .ok (.iload_n 2, 1) := by decide +kernel
theorem dX8_at_38 : decode cX8_at 38 = .ok (.tableswitch 46 0 2 #[26, 32, 39], 26) := by decide +kernel
theorem dX8_at_64 : decode cX8_at 64 = .ok (.aload_n 0, 1) := by decide +kernel
theorem dX8_at_65 : decode cX8_at 65 = .ok (.iload_n 1, 1) := by decide +kernel
theorem dX8_at_66 : decode cX8_at 66 = .ok (.invokevirtual 217, 3) := by decide +kernel
theorem dX8_at_69 : decode cX8_at 69 = .ok (.ireturn, 1) := by decide +kernel
theorem dX8_at_70 : decode cX8_at 70 = .ok (.aload_n 0, 1) := by decide +kernel
theorem dX8_at_71 : decode cX8_at 71 = .ok (.getfield 76, 3) := by decide +kernel
theorem dX8_at_74 : decode cX8_at 74 = .ok (.iload_n 1, 1) := by decide +kernel
theorem dX8_at_75 : decode cX8_at 75 = .ok (.iaload, 1) := by decide +kernel
theorem dX8_at_76 : decode cX8_at 76 = .ok (.ireturn, 1) := by decide +kernel
theorem dX8_at_77 : decode cX8_at 77 = .ok (.aload_n 0, 1) := by decide +kernel
theorem dX8_at_78 : decode cX8_at 78 = .ok (.getfield 79, 3) := by decide +kernel
theorem dX8_at_81 : decode cX8_at 81 = .ok (.iload_n 1, 1) := by decide +kernel
theorem dX8_at_82 : decode cX8_at 82 = .ok (.iaload, 1) := by decide +kernel
theorem dX8_at_83 : decode cX8_at 83 = .ok (.ireturn, 1) := by decide +kernel
theorem dX8_at_84 : decode cX8_at 84 = .ok (.aload_n 0, 1) := by decide +kernel
theorem dX8_at_85 : decode cX8_at 85 = .ok (.bipush (-6), 2) := by decide +kernel
theorem dX8_at_87 : decode cX8_at 87 = .ok (.invokevirtual 122, 3) := by decide +kernel
theorem dX8_at_90 : decode cX8_at 90 = .ok (.ireturn, 1) := by decide +kernel
set_option maxRecDepth 20000 in
theorem ggX8_findFields_X8_actsAt : GoodIn wsX8_findFields wsX8_actsAt := goodIn_r _ [12, 5, 6, 13, 14, 15, 11, 16, 17, 18, 44, 45, 46, 47, 48, 49, 50, 51, 52, 53, 54, 55, 56, 57, 58, 59, 60, 61, 62, 63, 64, 65, 66, 67, 68, 69, 70, 71, 72, 73, 74, 75, 76, 77, 78, 79, 80, 81, 82, 83, 84, 85, 86, 87] rfl (by decide +kernel)
set_option maxRecDepth 20000 in
theorem gX8_findFields_X8_actsAt : GoodIn wsX8_findFields (wsV RX8 217 RX8 yX8_actsAt wsX8_actsAt) := goodIn_app (goodIn_of _ (by decide +kernel)) ggX8_findFields_X8_actsAt
set_option maxRecDepth 20000 in
theorem ggX8_findFields_X8_actOf : GoodIn wsX8_findFields wsX8_actOf := goodIn_r _ [16, 17, 18, 44, 45, 46, 47, 48, 49, 50, 51, 52, 53, 54, 55, 56, 57, 58, 59, 60, 61, 62, 63, 64, 65, 66, 67, 68, 69, 70, 71, 72, 73, 74, 75, 76, 77, 78, 79, 80, 81, 82, 83, 84, 85, 86, 87] rfl (by decide +kernel)
set_option maxRecDepth 20000 in
theorem gX8_findFields_X8_actOf : GoodIn wsX8_findFields (wsV RX8 198 RX8 yX8_actOf wsX8_actOf) := goodIn_app (goodIn_of _ (by decide +kernel)) ggX8_findFields_X8_actOf
set_option maxRecDepth 20000 in
theorem ggX8_findFields_X8_partOf : GoodIn wsX8_findFields wsX8_partOf := goodIn_r _ [21] rfl (by decide +kernel)
set_option maxRecDepth 20000 in
theorem gX8_findFields_X8_partOf : GoodIn wsX8_findFields (va_wsS RX8 172 yX8_partOf wsX8_partOf) := goodIn_app (goodIn_of _ (by decide +kernel)) ggX8_findFields_X8_partOf
set_option maxRecDepth 20000 in
theorem ggX8_findFields_X8_isNew : GoodIn wsX8_findFields wsX8_isNew := goodIn_r _ [25, 4, 26, 27, 28, 11, 29, 7, 30, 31, 32, 44, 45, 46, 47, 48, 49, 50, 51, 52, 53, 54, 55, 56, 57, 58, 59, 60, 61, 62, 63, 64, 65, 66, 67, 68, 69, 70, 71, 72, 73, 74, 75, 76, 77, 78, 79, 80, 81, 82, 83, 84, 85, 86, 87] rfl (by decide +kernel)
set_option maxRecDepth 20000 in
theorem gX8_findFields_X8_isNew : GoodIn wsX8_findFields (wsV RX8 220 RX8 yX8_isNew wsX8_isNew) := goodIn_app (goodIn_of _ (by decide +kernel)) ggX8_findFields_X8_isNew
set_option maxRecDepth 20000 in
theorem ggX8_findFields_X8_findGroups : GoodIn wsX8_findFields wsX8_findGroups := goodIn_r _ [36, 37, 38, 1, 39, 40, 41, 42, 11, 43, 2, 44, 45, 46, 47, 48, 49, 50, 51, 52, 53, 54, 55, 56, 57, 58, 59, 60, 61, 62, 63, 64, 65, 66, 67, 68, 69, 70, 71, 72, 73, 74, 75, 76, 77, 78, 79, 80, 81, 82, 83, 84, 85, 86, 87] rfl (by decide +kernel)
set_option maxRecDepth 20000 in
theorem gX8_findFields_X8_findGroups : GoodIn wsX8_findFields (wsV RX8 223 RX8 yX8_findGroups wsX8_findGroups) := goodIn_app (goodIn_of _ (by decide +kernel)) ggX8_findFields_X8_findGroups
theorem dX8_findFields_0 : decode cX8_findFields 0 = .ok (.iconst 0, 1) := by decide +kernel
theorem dX8_findFields_1 : decode cX8_findFields 1 = .ok (.istore_n 1, 1) := by decide +kernel
theorem dX8_findFields_2 : decode cX8_findFields 2 = .ok (.iload_n 1, 1) := by decide +kernel
theorem dX8_findFields_3 : decode cX8_findFields 3 = .ok (.bipush 7, 2) := by decide +kernel
theorem dX8_findFields_5 : decode cX8_findFields 5 = .ok (.if_icmp .ge 23, 3) := by decide +kernel
theorem dX8_findFields_8 : decode cX8_findFields 8 = .ok (.aload_n 0, 1) := by decide +kernel
theorem dX8_findFields_9 : decode cX8_findFields 9 = .ok (.getfield 88, 3) := by decide +kernel
theorem dX8_findFields_12 : decode cX8_findFields 12 = .ok (.iload_n 1, 1) := by decide +kernel
theorem dX8_findFields_13 : decode cX8_findFields 13 = .ok (.iconst 0, 1) := by decide +kernel
theorem dX8_findFields_14 : decode cX8_findFields 14 = .ok (.iastore, 1) := by decide +kernel
theorem dX8_findFields_15 : decode cX8_findFields 15 = .ok (.aload_n 0, 1) := by decide +kernel
theorem dX8_findFields_16 : decode cX8_findFields 16 = .ok (.getfield 91, 3) := by decide +kernel
theorem dX8_findFields_19 : decode cX8_findFields 19 = .ok (.iload_n 1, 1) := by decide +kernel
theorem dX8_findFields_20 : decode cX8_findFields 20 = .ok (.iconst 0, 1) := by decide +kernel
theorem dX8_findFields_21 : decode cX8_findFields 21 = .ok (.iastore, 1) := by decide +kernel
theorem dX8_findFields_22 : decode cX8_findFields 22 = .ok (.iinc 1 1, 3) := by decide +kernel
theorem dX8_findFields_25 : decode cX8_findFields 25 = .ok (.goto (-23), 3) := by decide +kernel
theorem dX8_findFields_28 : decode cX8_findFields 28 = .ok (.iconst 0, 1) := by decide +kernel
theorem dX8_findFields_29 : decode cX8_findFields 29 = .ok (.istore_n 1, 1) := by decide +kernel
theorem dX8_findFields_30 : decode cX8_findFields 30 = .ok (.iload_n 1, 1) := by decide +kernel
theorem dX8_findFields_31 : decode cX8_findFields 31 = .ok (.aload_n 0, 1) := by decide +kernel
theorem dX8_findFields_32 : decode cX8_findFields 32 = .ok (.getfield 205, 3) := by decide +kernel
theorem dX8_findFields_35 : decode cX8_findFields 35 = .ok (.if_icmp .ge 226, 3) := by decide +kernel
theorem dX8_findFields_38 : decode cX8_findFields 38 = .ok (.iconst 0, 1) := by decide +kernel
theorem dX8_findFields_39 : decode cX8_findFields 39 = .ok (.istore_n 2, 1) := by decide +kernel
theorem dX8_findFields_40 : decode cX8_findFields 40 = .ok (.iconst 0, 1) := by decide +kernel
theorem dX8_findFields_41 : decode cX8_findFields 41 = .ok (.istore_n 3, 1) := by decide +kernel
theorem dX8_findFields_42 : decode cX8_findFields 42 = .ok (.iload_n 3, 1) := by decide +kernel
theorem dX8_findFields_43 : decode cX8_findFields 43 = .ok (.bipush 7, 2) := by decide +kernel
theorem dX8_findFields_45 : decode cX8_findFields 45 = .ok (.if_icmp .ge 21, 3) := by decide +kernel
theorem dX8_findFields_48 : decode cX8_findFields 48 = .ok (.aload_n 0, 1) := by decide +kernel
theorem dX8_findFields_49 : decode cX8_findFields 49 = .ok (.getfield 85, 3) := by decide +kernel
theorem dX8_findFields_52 : decode cX8_findFields 52 = .ok (.bipush 7, 2) := by decide +kernel
theorem dX8_findFields_54 : decode cX8_findFields 54 = .ok (.iload_n 1, 1) := by decide +kernel
theorem dX8_findFields_55 : decode cX8_findFields 55 = .ok (.imul, 1) := by decide +kernel
theorem dX8_findFields_56 : decode cX8_findFields 56 = .ok (.iload_n 3, 1) := by decide +kernel
theorem dX8_findFields_57 : decode cX8_findFields 57 = .ok (.iadd, 1) := by decide +kernel
theorem dX8_findFields_58 : decode cX8_findFields 58 = .ok (.iconst (-1), 1) := by decide +kernel
theorem dX8_findFields_59 : decode cX8_findFields 59 = .ok (.iastore, 1) := by decide +kernel
theorem dX8_findFields_60 : decode cX8_findFields 60 = .ok (.iinc 3 1, 3) := by decide +kernel
theorem dX8_findFields_63 : decode cX8_findFields 63 = .ok (.goto (-21), 3) := by decide +kernel
theorem dX8_findFields_66 : decode cX8_findFields 66 = .ok (.iconst 0, 1) := by decide +kernel
theorem dX8_findFields_67 : decode cX8_findFields 67 = .ok (.istore_n 3, 1) := by decide +kernel
theorem dX8_findFields_68 : decode cX8_findFields 68 = .ok (.iload_n 3, 1) := by decide +kernel
theorem dX8_findFields_69 : decode cX8_findFields 69 = .ok (.aload_n 0, 1) := by decide +kernel
theorem dX8_findFields_70 : decode cX8_findFields 70 = .ok (.iload_n 1, 1) := by decide +kernel
theorem dX8_findFields_71 : decode cX8_findFields 71 = .ok (.invokevirtual 217, 3) := by decide +kernel
theorem dX8_findFields_74 : decode cX8_findFields 74 = .ok (.if_icmp .ge 73, 3) := by decide +kernel
theorem dX8_findFields_77 : decode cX8_findFields 77 = .ok (.aload_n 0, 1) := by decide +kernel
theorem dX8_findFields_78 : decode cX8_findFields 78 = .ok (.aload_n 0, 1) := by decide +kernel
theorem dX8_findFields_79 : decode cX8_findFields 79 = .ok (.getfield 70, 3) := by decide +kernel
theorem dX8_findFields_82 : decode cX8_findFields 82 = .ok (.iload_n 1, 1) := by decide +kernel
theorem dX8_findFields_83 : decode cX8_findFields 83 = .ok (.iaload, 1) := by decide +kernel
theorem dX8_findFields_84 : decode cX8_findFields 84 = .ok (.aload_n 0, 1) := by decide +kernel
theorem dX8_findFields_85 : decode cX8_findFields 85 = .ok (.getfield 73, 3) := by decide +kernel
theorem dX8_findFields_88 : decode cX8_findFields 88 = .ok (.iload_n 1, 1) := by decide +kernel
theorem dX8_findFields_89 : decode cX8_findFields 89 = .ok (.iaload, 1) := by decide +kernel
theorem dX8_findFields_90 : decode cX8_findFields 90 = .ok (.iload_n 3, 1) := by decide +kernel
theorem dX8_findFields_91 : decode cX8_findFields 91 = .ok (.invokevirtual 198, 3) := by decide +kernel
theorem dX8_findFields_94 : decode cX8_findFields 94 = .ok (.istore 4, 2) := by decide +kernel
theorem dX8_findFields_96 : decode cX8_findFields 96 = .ok (.aload_n 0, 1) := by decide +kernel
theorem dX8_findFields_97 : decode cX8_findFields 97 = .ok (.getfield 29, 3) := by decide +kernel
theorem dX8_findFields_100 : decode cX8_findFields 100 = .ok (.iload 4, 2) := by decide +kernel
theorem dX8_findFields_102 : decode cX8_findFields 102 = .ok (.iaload, 1) := by decide +kernel
theorem dX8_findFields_103 : decode cX8_findFields 103 = .ok (.invokestatic 172, 3) := by decide +kernel
theorem dX8_findFields_106 : decode cX8_findFields 106 = .ok (.istore 5, 2) := by decide +kernel
theorem dX8_findFields_108 : decode cX8_findFields 108 = .ok (.aload_n 0, 1) := by decide +kernel
theorem dX8_findFields_109 : decode cX8_findFields 109 = .ok (.getfield 85, 3) := by decide +kernel
theorem dX8_findFields_112 : decode cX8_findFields 112 = .ok (.bipush 7, 2) := by decide +kernel
theorem dX8_findFields_114 : decode cX8_findFields 114 = .ok (.iload_n 1, 1) := by decide +kernel
theorem dX8_findFields_115 : decode cX8_findFields 115 = .ok (.imul, 1) := by decide +kernel
theorem dX8_findFields_116 : decode cX8_findFields 116 = .ok (.iload 5, 2) := by decide +kernel
theorem dX8_findFields_118 : decode cX8_findFields 118 = .ok (.ifCond .ne 7, 3) := by decide +kernel
theorem dX8_findFields_121 : decode cX8_findFields 121 = .ok (.iload_n 2, 1) := by decide +kernel
theorem dX8_findFields_122 : decode cX8_findFields 122 = .ok (.goto 7, 3) := by decide +kernel
theorem dX8_findFields_125 : decode cX8_findFields 125 = .ok (.iload 5, 2) := by decide +kernel
theorem dX8_findFields_127 : decode cX8_findFields 127 = .ok (.iconst 2, 1) := by decide +kernel
theorem dX8_findFields_128 : decode cX8_findFields 128 = .ok (.iadd, 1) := by decide +kernel
theorem dX8_findFields_129 : decode cX8_findFields 129 = .ok (.iadd, 1) := by decide +kernel
theorem dX8_findFields_130 : decode cX8_findFields 130 = .ok (.iload 4, 2) := by decide +kernel
theorem dX8_findFields_132 : decode cX8_findFields 132 = .ok (.iastore, 1) := by decide +kernel
theorem dX8_findFields_133 : decode cX8_findFields 133 = .ok (.iload 5, 2) := by decide +kernel
theorem dX8_findFields_135 : decode cX8_findFields 135 = .ok (.ifCond .ne 6, 3) := by decide +kernel
theorem dX8_findFields_138 : decode cX8_findFields 138 = .ok (.iinc 2 1, 3) := by decide +kernel
theorem dX8_findFields_141 : decode cX8_findFields 141 = .ok (.iinc 3 1, 3) := by decide +kernel
theorem dX8_findFields_144 : decode cX8_findFields 144 = .ok (.goto (-76), 3) := by decide +kernel
theorem dX8_findFields_147 : decode cX8_findFields 147 = .ok (.iconst 0, 1) := by decide +kernel
theorem dX8_findFields_148 : decode cX8_findFields 148 = .ok (.istore_n 3, 1) := by decide +kernel
theorem dX8_findFields_149 : decode cX8_findFields 149 = .ok (.iload_n 3, 1) := by decide +kernel
theorem dX8_findFields_150 : decode cX8_findFields 150 = .ok (.bipush 7, 2) := by decide +kernel
theorem dX8_findFields_152 : decode cX8_findFields 152 = .ok (.if_icmp .ge 103, 3) := by decide +kernel
theorem dX8_findFields_155 : decode cX8_findFields 155 = .ok (.aload_n 0, 1) := by decide +kernel
theorem dX8_findFields_156 : decode cX8_findFields 156 = .ok (.getfield 85, 3) := by decide +kernel
theorem dX8_findFields_159 : decode cX8_findFields 159 = .ok (.bipush 7, 2) := by decide +kernel
theorem dX8_findFields_161 : decode cX8_findFields 161 = .ok (.iload_n 1, 1) := by decide +kernel
theorem dX8_findFields_162 : decode cX8_findFields 162 = .ok (.imul, 1) := by decide +kernel
theorem dX8_findFields_163 : decode cX8_findFields 163 = .ok (.iload_n 3, 1) := by decide +kernel
theorem dX8_findFields_164 : decode cX8_findFields 164 = .ok (.iadd, 1) := by decide +kernel
theorem dX8_findFields_165 : decode cX8_findFields 165 = .ok (.iaload, 1) := by decide +kernel
theorem dX8_findFields_166 : decode cX8_findFields 166 = .ok (.ifCond .ge 6, 3) := by decide +kernel
theorem dX8_findFields_169 : decode cX8_findFields 169 = .ok (.goto 80, 3) := by decide +kernel
theorem dX8_findFields_172 : decode cX8_findFields 172 = .ok (.aload_n 0, 1) := by decide +kernel
theorem dX8_findFields_173 : decode cX8_findFields 173 = .ok (.getfield 88, 3) := by decide +kernel
theorem dX8_findFields_176 : decode cX8_findFields 176 = .ok (.iload_n 3, 1) := by decide +kernel
theorem dX8_findFields_177 : decode cX8_findFields 177 = .ok (.dup2, 1) := by decide +kernel
theorem dX8_findFields_178 : decode cX8_findFields 178 = .ok (.iaload, 1) := by decide +kernel
theorem dX8_findFields_179 : decode cX8_findFields 179 = .ok (.aload_n 0, 1) := by decide +kernel
theorem dX8_findFields_180 : decode cX8_findFields 180 = .ok (.iload_n 1, 1) := by decide +kernel
theorem dX8_findFields_181 : decode cX8_findFields 181 = .ok (.iload_n 3, 1) := by decide +kernel
theorem dX8_findFields_182 : decode cX8_findFields 182 = .ok (.invokevirtual 220, 3) := by decide +kernel
theorem dX8_findFields_185 : decode cX8_findFields 185 = .ok (.ifCond .eq 7, 3) := by decide +kernel
theorem dX8_findFields_188 : decode cX8_findFields 188 = .ok (.iconst 1, 1) := by decide +kernel
theorem dX8_findFields_189 : decode cX8_findFields 189 = .ok (.goto 4, 3) := by decide +kernel
theorem dX8_findFields_192 : decode cX8_findFields 192 = .ok (.iconst 0, 1) := by decide +kernel
theorem dX8_findFields_193 : decode cX8_findFields 193 = .ok (.iadd, 1) := by decide +kernel
theorem dX8_findFields_194 : decode cX8_findFields 194 = .ok (.iastore, 1) := by decide +kernel
theorem dX8_findFields_195 : decode cX8_findFields 195 = .ok (.iconst 0, 1) := by decide +kernel
theorem dX8_findFields_196 : decode cX8_findFields 196 = .ok (.istore 4, 2) := by decide +kernel
theorem dX8_findFields_198 : decode cX8_findFields 198 = .ok (.iload 4, 2) := by decide +kernel
theorem dX8_findFields_200 : decode cX8_findFields 200 = .ok (.bipush 7, 2) := by decide +kernel
theorem dX8_findFields_202 : decode cX8_findFields 202 = .ok (.if_icmp .ge 47, 3) := by decide +kernel
theorem dX8_findFields_205 : decode cX8_findFields 205 = .ok (.aload_n 0, 1) := by decide +kernel
theorem dX8_findFields_206 : decode cX8_findFields 206 = .ok (.getfield 91, 3) := by decide +kernel
theorem dX8_findFields_209 : decode cX8_findFields 209 = .ok (.iload_n 3, 1) := by decide +kernel
theorem dX8_findFields_210 : decode cX8_findFields 210 = .ok (.dup2, 1) := by decide +kernel
theorem dX8_findFields_211 : decode cX8_findFields 211 = .ok (.iaload, 1) := by decide +kernel
theorem dX8_findFields_212 : decode cX8_findFields 212 = .ok (.iload 4, 2) := by decide +kernel
theorem dX8_findFields_214 : decode cX8_findFields 214 = .ok (.iload_n 3, 1) := by decide +kernel
theorem dX8_findFields_215 : decode cX8_findFields 215 = .ok (.if_icmp .eq 25, 3) := by decide +kernel
theorem dX8_findFields_218 : decode cX8_findFields 218 = .ok (.aload_n 0, 1) := by decide +kernel
theorem dX8_findFields_219 : decode cX8_findFields 219 = .ok (.getfield 85, 3) := by decide +kernel
theorem dX8_findFields_222 : decode cX8_findFields 222 = .ok (.bipush 7, 2) := by decide +kernel
theorem dX8_findFields_224 : decode cX8_findFields 224 = .ok (.iload_n 1, 1) := by decide +kernel
theorem dX8_findFields_225 : decode cX8_findFields 225 = .ok (.imul, 1) := by decide +kernel
theorem dX8_findFields_226 : decode cX8_findFields 226 = .ok (.iload 4, 2) := by decide +kernel
theorem dX8_findFields_228 : decode cX8_findFields 228 = .ok (.iadd, 1) := by decide +kernel
theorem dX8_findFields_229 : decode cX8_findFields 229 = .ok (.iaload, 1) := by decide +kernel
theorem dX8_findFields_230 : decode cX8_findFields 230 = .ok (.ifCond .lt 10, 3) := by decide +kernel
theorem dX8_findFields_233 : decode cX8_findFields 233 = .ok (.iconst 1, 1) := by decide +kernel
theorem dX8_findFields_234 : decode cX8_findFields 234 = .ok (.iload 4, 2) := by decide +kernel
theorem dX8_findFields_236 : decode cX8_findFields 236 = .ok (.ishl, 1) := by decide +kernel
theorem dX8_findFields_237 : decode cX8_findFields 237 = .ok (.goto 4, 3) := by decide +kernel
theorem dX8_findFields_240 : decode cX8_findFields 240 = .ok (.iconst 0, 1) := by decide +kernel
theorem dX8_findFields_241 : decode cX8_findFields 241 = .ok (.ior, 1) := by decide +kernel
theorem dX8_findFields_242 : decode cX8_findFields 242 = .ok (.iastore, 1) := by decide +kernel
theorem dX8_findFields_243 : decode cX8_findFields 243 = .ok (.iinc 4 1, 3) := by decide +kernel
theorem dX8_findFields_246 : decode cX8_findFields 246 = .ok (.goto (-48), 3) := by decide +kernel
theorem dX8_findFields_249 : decode cX8_findFields 249 = .ok (.iinc 3 1, 3) := by decide +kernel
theorem dX8_findFields_252 : decode cX8_findFields 252 = .ok (.goto (-103), 3) := by decide +kernel
theorem dX8_findFields_255 : decode cX8_findFields 255 = .ok (.iinc 1 1, 3) := by decide +kernel
theorem dX8_findFields_258 : decode cX8_findFields 258 = .ok (.goto (-228), 3) := by decide +kernel
theorem dX8_findFields_261 : decode cX8_findFields 261 = .ok (.aload_n 0, 1) := by decide +kernel
theorem dX8_findFields_262 : decode cX8_findFields 262 = .ok (.invokevirtual 223, 3) := by decide +kernel
theorem dX8_findFields_265 : decode cX8_findFields 265 = .ok (.return_, 1) := by decide +kernel
set_option maxRecDepth 20000 in
theorem ggX8_isNew_X8_areSame : GoodIn wsX8_isNew wsX8_areSame := goodIn_r _ [6, 7, 8, 9, 10, 11, 12, 13, 14, 15, 16, 17, 18, 19, 20, 21, 22, 23, 24, 25, 26, 27, 28, 29, 30, 31, 32, 33, 34, 35, 36, 37, 38, 39, 40, 41, 42, 43, 44, 45, 46, 47, 48, 49, 50, 51, 52, 53, 54] rfl (by decide +kernel)
set_option maxRecDepth 20000 in
theorem gX8_isNew_X8_areSame : GoodIn wsX8_isNew (wsV RX8 202 RX8 yX8_areSame wsX8_areSame) := goodIn_app (goodIn_of _ (by decide +kernel)) ggX8_isNew_X8_areSame
theorem dX8_isNew_0 : decode cX8_isNew 0 = .ok (.aload_n 0, 1) := by decide +kernel
theorem dX8_isNew_1 : decode cX8_isNew 1 = .ok (.getfield 85, 3) := by decide +kernel
theorem dX8_isNew_4 : decode cX8_isNew 4 = .ok (.bipush 7, 2) := by decide +kernel
theorem dX8_isNew_6 : decode cX8_isNew 6 = .ok (.iload_n 1, 1) := by decide +kernel
theorem dX8_isNew_7 : decode cX8_isNew 7 = .ok (.imul, 1) := by decide +kernel
theorem dX8_isNew_8 : decode cX8_isNew 8 = .ok (.iload_n 2, 1) := by decide +kernel
theorem dX8_isNew_9 : decode cX8_isNew 9 = .ok (.iadd, 1) := by decide +kernel
theorem dX8_isNew_10 : decode cX8_isNew 10 = .ok (.iaload, 1) := by decide +kernel
theorem dX8_isNew_11 : decode cX8_isNew 11 = .ok (.istore_n 3, 1) := by decide +kernel
theorem dX8_isNew_12 : decode cX8_isNew 12 = .ok (.iconst 1, 1) := by decide +kernel
theorem dX8_isNew_13 : decode cX8_isNew 13 = .ok (.istore 4, 2) := by decide +kernel
theorem dX8_isNew_15 : decode cX8_isNew 15 = .ok (.iconst 0, 1) := by decide +kernel
theorem dX8_isNew_16 : decode cX8_isNew 16 = .ok (.istore 5, 2) := by decide +kernel
theorem dX8_isNew_18 : decode cX8_isNew 18 = .ok (.iload 5, 2) := by decide +kernel
theorem dX8_isNew_20 : decode cX8_isNew 20 = .ok (.iload_n 1, 1) := by decide +kernel
theorem dX8_isNew_21 : decode cX8_isNew 21 = .ok (.if_icmp .ge 50, 3) := by decide +kernel
theorem dX8_isNew_24 : decode cX8_isNew 24 = .ok (.aload_n 0, 1) := by decide +kernel
theorem dX8_isNew_25 : decode cX8_isNew 25 = .ok (.getfield 85, 3) := by decide +kernel
theorem dX8_isNew_28 : decode cX8_isNew 28 = .ok (.bipush 7, 2) := by decide +kernel
theorem dX8_isNew_30 : decode cX8_isNew 30 = .ok (.iload 5, 2) := by decide +kernel
theorem dX8_isNew_32 : decode cX8_isNew 32 = .ok (.imul, 1) := by decide +kernel
theorem dX8_isNew_33 : decode cX8_isNew 33 = .ok (.iload_n 2, 1) := by decide +kernel
theorem dX8_isNew_34 : decode cX8_isNew 34 = .ok (.iadd, 1) := by decide +kernel
theorem dX8_isNew_35 : decode cX8_isNew 35 = .ok (.iaload, 1) := by decide +kernel
theorem dX8_isNew_36 : decode cX8_isNew 36 = .ok (.istore 6, 2) := by decide +kernel
theorem dX8_isNew_38 : decode cX8_isNew 38 = .ok (.iload 4, 2) := by decide +kernel
theorem dX8_isNew_40 : decode cX8_isNew 40 = .ok (.ifCond .eq 22, 3) := by decide +kernel
theorem dX8_isNew_43 : decode cX8_isNew 43 = .ok (.iload 6, 2) := by decide +kernel
theorem dX8_isNew_45 : decode cX8_isNew 45 = .ok (.ifCond .lt 13, 3) := by decide +kernel
theorem dX8_isNew_48 : decode cX8_isNew 48 = .ok (.aload_n 0, 1) := by decide +kernel
theorem dX8_isNew_49 : decode cX8_isNew 49 = .ok (.iload_n 3, 1) := by decide +kernel
theorem dX8_isNew_50 : decode cX8_isNew 50 = .ok (.iload 6, 2) := by decide +kernel
theorem dX8_isNew_52 : decode cX8_isNew 52 = .ok (.invokevirtual 202, 3) := by decide +kernel
theorem dX8_isNew_55 : decode cX8_isNew 55 = .ok (.ifCond .ne 7, 3) := by decide +kernel
theorem dX8_isNew_58 : decode cX8_isNew 58 = .ok (.iconst 1, 1) := by decide +kernel
theorem dX8_isNew_59 : decode cX8_isNew 59 = .ok (.goto 4, 3) := by decide +kernel
theorem dX8_isNew_62 : decode cX8_isNew 62 = .ok (.iconst 0, 1) := by decide +kernel
theorem dX8_isNew_63 : decode cX8_isNew 63 = .ok (.istore 4, 2) := by decide +kernel
theorem dX8_isNew_65 : decode cX8_isNew 65 = .ok (.iinc 5 1, 3) := by decide +kernel
theorem dX8_isNew_68 : decode cX8_isNew 68 = .ok (.goto (-50), 3) := by decide +kernel
theorem dX8_isNew_71 : decode cX8_isNew 71 = .ok (.iload 4, 2) := by decide +kernel
theorem dX8_isNew_73 : decode cX8_isNew 73 = .ok (.ireturn, 1) := by decide +kernel
set_option maxRecDepth 20000 in
theorem ggX8_findGroups_X8_isMet : GoodIn wsX8_findGroups wsX8_isMet := goodIn_r _ [9, 2, 10, 11, 12, 13, 14, 15, 16, 17, 18, 19, 20, 21, 22, 23, 24, 25, 26, 27, 28, 29, 30, 31, 32, 33, 34, 35, 36, 37, 38, 39, 40, 41, 42, 43, 44, 45, 46, 47, 48, 49, 50, 51, 52, 53, 54] rfl (by decide +kernel)
set_option maxRecDepth 20000 in
theorem gX8_findGroups_X8_isMet : GoodIn wsX8_findGroups (wsV RX8 229 RX8 yX8_isMet wsX8_isMet) := goodIn_app (goodIn_of _ (by decide +kernel)) ggX8_findGroups_X8_isMet
theorem dX8_findGroups_0 : decode cX8_findGroups 0 = .ok (.aload_n 0, 1) := by decide +kernel
theorem dX8_findGroups_1 : decode cX8_findGroups 1 = .ok (.iconst 0, 1) := by decide +kernel
theorem dX8_findGroups_2 : decode cX8_findGroups 2 = .ok (.putfield 226, 3) := by decide +kernel
theorem dX8_findGroups_5 : decode cX8_findGroups 5 = .ok (.iconst 0, 1) := by decide +kernel
theorem dX8_findGroups_6 : decode cX8_findGroups 6 = .ok (.istore_n 1, 1) := by decide +kernel
theorem dX8_findGroups_7 : decode cX8_findGroups 7 = .ok (.iload_n 1, 1) := by decide +kernel
theorem dX8_findGroups_8 : decode cX8_findGroups 8 = .ok (.bipush 7, 2) := by decide +kernel
theorem dX8_findGroups_10 : decode cX8_findGroups 10 = .ok (.if_icmp .ge 100, 3) := by decide +kernel
theorem dX8_findGroups_13 : decode cX8_findGroups 13 = .ok (.aload_n 0, 1) := by decide +kernel
theorem dX8_findGroups_14 : decode cX8_findGroups 14 = .ok (.getfield 94, 3) := by decide +kernel
theorem dX8_findGroups_17 : decode cX8_findGroups 17 = .ok (.iload_n 1, 1) := by decide +kernel
theorem dX8_findGroups_18 : decode cX8_findGroups 18 = .ok (.iconst (-1), 1) := by decide +kernel
theorem dX8_findGroups_19 : decode cX8_findGroups 19 = .ok (.iastore, 1) := by decide +kernel
theorem dX8_findGroups_20 : decode cX8_findGroups 20 = .ok (.aload_n 0, 1) := by decide +kernel
theorem dX8_findGroups_21 : decode cX8_findGroups 21 = .ok (.getfield 88, 3) := by decide +kernel
theorem dX8_findGroups_24 : decode cX8_findGroups 24 = .ok (.iload_n 1, 1) := by decide +kernel
theorem dX8_findGroups_25 : decode cX8_findGroups 25 = .ok (.iaload, 1) := by decide +kernel
theorem dX8_findGroups_26 : decode cX8_findGroups 26 = .ok (.ifCond .ne 6, 3) := by decide +kernel
theorem dX8_findGroups_29 : decode cX8_findGroups 29 = .ok (.goto 75, 3) := by decide +kernel
theorem dX8_findGroups_32 : decode cX8_findGroups 32 = .ok (.iconst 0, 1) := by decide +kernel
theorem dX8_findGroups_33 : decode cX8_findGroups 33 = .ok (.istore_n 2, 1) := by decide +kernel
theorem dX8_findGroups_34 : decode cX8_findGroups 34 = .ok (.iload_n 2, 1) := by decide +kernel
theorem dX8_findGroups_35 : decode cX8_findGroups 35 = .ok (.aload_n 0, 1) := by decide +kernel
theorem dX8_findGroups_36 : decode cX8_findGroups 36 = .ok (.getfield 226, 3) := by decide +kernel
theorem dX8_findGroups_39 : decode cX8_findGroups 39 = .ok (.if_icmp .ge 18, 3) := by decide +kernel
theorem dX8_findGroups_42 : decode cX8_findGroups 42 = .ok (.aload_n 0, 1) := by decide +kernel
theorem dX8_findGroups_43 : decode cX8_findGroups 43 = .ok (.iload_n 1, 1) := by decide +kernel
theorem dX8_findGroups_44 : decode cX8_findGroups 44 = .ok (.iload_n 2, 1) := by decide +kernel
theorem dX8_findGroups_45 : decode cX8_findGroups 45 = .ok (.invokevirtual 229, 3) := by decide +kernel
theorem dX8_findGroups_48 : decode cX8_findGroups 48 = .ok (.ifCond .eq 9, 3) := by decide +kernel
theorem dX8_findGroups_51 : decode cX8_findGroups 51 = .ok (.iinc 2 1, 3) := by decide +kernel
theorem dX8_findGroups_54 : decode cX8_findGroups 54 = .ok (.goto (-20), 3) := by decide +kernel
theorem dX8_findGroups_57 : decode cX8_findGroups 57 = .ok (.iload_n 2, 1) := by decide +kernel
theorem dX8_findGroups_58 : decode cX8_findGroups 58 = .ok (.aload_n 0, 1) := by decide +kernel
theorem dX8_findGroups_59 : decode cX8_findGroups 59 = .ok (.getfield 226, 3) := by decide +kernel
theorem dX8_findGroups_62 : decode cX8_findGroups 62 = .ok (.if_icmp .ne 20, 3) := by decide +kernel
theorem dX8_findGroups_65 : decode cX8_findGroups 65 = .ok (.aload_n 0, 1) := by decide +kernel
theorem dX8_findGroups_66 : decode cX8_findGroups 66 = .ok (.getfield 97, 3) := by decide +kernel
theorem dX8_findGroups_69 : decode cX8_findGroups 69 = .ok (.iload_n 2, 1) := by decide +kernel
theorem dX8_findGroups_70 : decode cX8_findGroups 70 = .ok (.iconst 0, 1) := by decide +kernel
theorem dX8_findGroups_71 : decode cX8_findGroups 71 = .ok (.iastore, 1) := by decide +kernel
theorem dX8_findGroups_72 : decode cX8_findGroups 72 = .ok (.aload_n 0, 1) := by decide +kernel
theorem dX8_findGroups_73 : decode cX8_findGroups 73 = .ok (.dup, 1) := by decide +kernel
theorem dX8_findGroups_74 : decode cX8_findGroups 74 = .ok (.getfield 226, 3) := by decide +kernel
theorem dX8_findGroups_77 : decode cX8_findGroups 77 = .ok (.iconst 1, 1) := by decide +kernel
theorem dX8_findGroups_78 : decode cX8_findGroups 78 = .ok (.iadd, 1) := by decide +kernel
theorem dX8_findGroups_79 : decode cX8_findGroups 79 = .ok (.putfield 226, 3) := by decide +kernel
theorem dX8_findGroups_82 : decode cX8_findGroups 82 = .ok (.aload_n 0, 1) := by decide +kernel
theorem dX8_findGroups_83 : decode cX8_findGroups 83 = .ok (.getfield 94, 3) := by decide +kernel
theorem dX8_findGroups_86 : decode cX8_findGroups 86 = .ok (.iload_n 1, 1) := by decide +kernel
theorem dX8_findGroups_87 : decode cX8_findGroups 87 = .ok (.iload_n 2, 1) := by decide +kernel
theorem dX8_findGroups_88 : decode cX8_findGroups 88 = .ok (.iastore, 1) := by decide +kernel
theorem dX8_findGroups_89 : decode cX8_findGroups 89 = .ok (.aload_n 0, 1) := by decide +kernel
theorem dX8_findGroups_90 : decode cX8_findGroups 90 = .ok (.getfield 97, 3) := by decide +kernel
theorem dX8_findGroups_93 : decode cX8_findGroups 93 = .ok (.iload_n 2, 1) := by decide +kernel
theorem dX8_findGroups_94 : decode cX8_findGroups 94 = .ok (.dup2, 1) := by decide +kernel
theorem dX8_findGroups_95 : decode cX8_findGroups 95 = .ok (.iaload, 1) := by decide +kernel
theorem dX8_findGroups_96 : decode cX8_findGroups 96 = .ok (.aload_n 0, 1) := by decide +kernel
theorem dX8_findGroups_97 : decode cX8_findGroups 97 = .ok (.getfield 88, 3) := by decide +kernel
theorem dX8_findGroups_100 : decode cX8_findGroups 100 = .ok (.iload_n 1, 1) := by decide +kernel
theorem dX8_findGroups_101 : decode cX8_findGroups 101 = .ok (.iaload, 1) := by decide +kernel
theorem dX8_findGroups_102 : decode cX8_findGroups 102 = .ok (.iadd, 1) := by decide +kernel
theorem dX8_findGroups_103 : decode cX8_findGroups 103 = .ok (.iastore, 1) := by decide +kernel
theorem dX8_findGroups_104 : decode cX8_findGroups 104 = .ok (.iinc 1 1, 3) := by decide +kernel
theorem dX8_findGroups_107 : decode cX8_findGroups 107 = .ok (.goto (-100), 3) := by decide +kernel
theorem dX8_findGroups_110 : decode cX8_findGroups 110 = .ok (.return_, 1) := by decide +kernel
theorem dX8_isMet_0 : decode cX8_isMet 0 = .ok (.iconst 0, 1) := by decide +kernel
theorem dX8_isMet_1 : decode cX8_isMet 1 = .ok (.istore_n 3, 1) := by decide +kernel
theorem dX8_isMet_2 : decode cX8_isMet 2 = .ok (.iconst 0, 1) := by decide +kernel
theorem dX8_isMet_3 : decode cX8_isMet 3 = .ok (.istore 4, 2) := by decide +kernel
theorem dX8_isMet_5 : decode cX8_isMet 5 = .ok (.iload 4, 2) := by decide +kernel
theorem dX8_isMet_7 : decode cX8_isMet 7 = .ok (.iload_n 1, 1) := by decide +kernel
theorem dX8_isMet_8 : decode cX8_isMet 8 = .ok (.if_icmp .ge 45, 3) := by decide +kernel
theorem dX8_isMet_11 : decode cX8_isMet 11 = .ok (.iload_n 3, 1) := by decide +kernel
theorem dX8_isMet_12 : decode cX8_isMet 12 = .ok (.ifCond .ne 29, 3) := by decide +kernel
theorem dX8_isMet_15 : decode cX8_isMet 15 = .ok (.aload_n 0, 1) := by decide +kernel
theorem dX8_isMet_16 : decode cX8_isMet 16 = .ok (.getfield 94, 3) := by decide +kernel
theorem dX8_isMet_19 : decode cX8_isMet 19 = .ok (.iload 4, 2) := by decide +kernel
theorem dX8_isMet_21 : decode cX8_isMet 21 = .ok (.iaload, 1) := by decide +kernel
theorem dX8_isMet_22 : decode cX8_isMet 22 = .ok (.iload_n 2, 1) := by decide +kernel
theorem dX8_isMet_23 : decode cX8_isMet 23 = .ok (.if_icmp .ne 22, 3) := by decide +kernel
theorem dX8_isMet_26 : decode cX8_isMet 26 = .ok (.aload_n 0, 1) := by decide +kernel
theorem dX8_isMet_27 : decode cX8_isMet 27 = .ok (.getfield 91, 3) := by decide +kernel
theorem dX8_isMet_30 : decode cX8_isMet 30 = .ok (.iload_n 1, 1) := by decide +kernel
theorem dX8_isMet_31 : decode cX8_isMet 31 = .ok (.iaload, 1) := by decide +kernel
theorem dX8_isMet_32 : decode cX8_isMet 32 = .ok (.iload 4, 2) := by decide +kernel
theorem dX8_isMet_34 : decode cX8_isMet 34 = .ok (.ishr, 1) := by decide +kernel
theorem dX8_isMet_35 : decode cX8_isMet 35 = .ok (.iconst 1, 1) := by decide +kernel
theorem dX8_isMet_36 : decode cX8_isMet 36 = .ok (.iand, 1) := by decide +kernel
theorem dX8_isMet_37 : decode cX8_isMet 37 = .ok (.iconst 1, 1) := by decide +kernel
theorem dX8_isMet_38 : decode cX8_isMet 38 = .ok (.if_icmp .ne 7, 3) := by decide +kernel
theorem dX8_isMet_41 : decode cX8_isMet 41 = .ok (.iconst 1, 1) := by decide +kernel
theorem dX8_isMet_42 : decode cX8_isMet 42 = .ok (.goto 4, 3) := by decide +kernel
theorem dX8_isMet_45 : decode cX8_isMet 45 = .ok (.iconst 0, 1) := by decide +kernel
theorem dX8_isMet_46 : decode cX8_isMet 46 = .ok (.istore_n 3, 1) := by decide +kernel
theorem dX8_isMet_47 : decode cX8_isMet 47 = .ok (.iinc 4 1, 3) := by decide +kernel
theorem dX8_isMet_50 : decode cX8_isMet 50 = .ok (.goto (-45), 3) := by decide +kernel
theorem dX8_isMet_53 : decode cX8_isMet 53 = .ok (.iload_n 3, 1) := by decide +kernel
theorem dX8_isMet_54 : decode cX8_isMet 54 = .ok (.ireturn, 1) := by decide +kernel
theorem dX8_bits_0 : decode cX8_bits 0 = .ok (.iconst 0, 1) := by decide +kernel
theorem dX8_bits_1 : decode cX8_bits 1 = .ok (.istore_n 1, 1) := by decide +kernel
theorem dX8_bits_2 : decode cX8_bits 2 = .ok (.iconst 1, 1) := by decide +kernel
theorem dX8_bits_3 : decode cX8_bits 3 = .ok (.iload_n 1, 1) := by decide +kernel
theorem dX8_bits_4 : decode cX8_bits 4 = .ok (.ishl, 1) := by decide +kernel
theorem dX8_bits_5 : decode cX8_bits 5 = .ok (.iload_n 0, 1) := by decide +kernel
theorem dX8_bits_6 : decode cX8_bits 6 = .ok (.if_icmp .gt 9, 3) := by decide +kernel
theorem dX8_bits_9 : decode cX8_bits 9 = .ok (.iinc 1 1, 3) := by decide +kernel
theorem dX8_bits_12 : decode cX8_bits 12 = .ok (.goto (-10), 3) := by decide +kernel
theorem dX8_bits_15 : decode cX8_bits 15 = .ok (.iload_n 1, 1) := by decide +kernel
theorem dX8_bits_16 : decode cX8_bits 16 = .ok (.ireturn, 1) := by decide +kernel
set_option maxRecDepth 20000 in
theorem ggX8_group_X8_isIn : GoodIn wsX8_group wsX8_isIn := goodIn_r _ [7] rfl (by decide +kernel)
set_option maxRecDepth 20000 in
theorem gX8_group_X8_isIn : GoodIn wsX8_group (va_wsS RX8 128 yX8_isIn wsX8_isIn) := goodIn_app (goodIn_of _ (by decide +kernel)) ggX8_group_X8_isIn
set_option maxRecDepth 20000 in
theorem ggX8_group_X8_no : GoodIn wsX8_group wsX8_no := goodIn_r _ [11, 12, 13, 14, 15, 16, 17, 18, 19, 20, 21, 22, 23, 24, 25, 26, 27, 28, 29, 30, 31, 32, 33, 34, 35, 36, 37, 38, 39, 40, 41, 42, 43, 44, 45, 46, 47, 48, 49, 50, 51, 52, 53, 54, 55, 56] rfl (by decide +kernel)
set_option maxRecDepth 20000 in
theorem gX8_group_X8_no : GoodIn wsX8_group (wsV RX8 122 RX8 yX8_no wsX8_no) := goodIn_app (goodIn_of _ (by decide +kernel)) ggX8_group_X8_no
theorem dX8_group_0 : decode cX8_group 0 = .ok (.iload_n 1, 1) := by decide +kernel
theorem dX8_group_1 : decode cX8_group 1 = .ok (.i2l, 1) := by decide +kernel
theorem dX8_group_2 : decode cX8_group 2 = .ok (.lconst 0, 1) := by decide +kernel
theorem dX8_group_3 : decode cX8_group 3 = .ok (.ldc2_w 232, 3) := by decide +kernel
theorem dX8_group_6 : decode cX8_group 6 = .ok (.invokestatic 128, 3) := by decide +kernel
theorem dX8_group_9 : decode cX8_group 9 = .ok (.ifCond .ne 10, 3) := by decide +kernel
theorem dX8_group_12 : decode cX8_group 12 = .ok (.aload_n 0, 1) := by decide +kernel
theorem dX8_group_13 : decode cX8_group 13 = .ok (.bipush (-3), 2) := by decide +kernel
theorem dX8_group_15 : decode cX8_group 15 = .ok (.invokevirtual 122, 3) := by decide +kernel
theorem dX8_group_18 : decode cX8_group 18 = .ok (.ireturn, 1) := by decide +kernel
theorem dX8_group_19 : decode cX8_group 19 = .ok (.aload_n 0, 1) := by decide +kernel
theorem dX8_group_20 : decode cX8_group 20 = .ok (.getfield 164, 3) := by decide +kernel
theorem dX8_group_23 : decode cX8_group 23 = .ok (.ifCond .eq 12, 3) := by decide +kernel
theorem dX8_group_26 : decode cX8_group 26 = .ok (.aload_n 0, 1) := by decide +kernel
theorem dX8_group_27 : decode cX8_group 27 = .ok (.getfield 94, 3) := by decide +kernel
theorem dX8_group_30 : decode cX8_group 30 = .ok (.iload_n 1, 1) := by decide +kernel
theorem dX8_group_31 : decode cX8_group 31 = .ok (.iaload, 1) := by decide +kernel
theorem dX8_group_32 : decode cX8_group 32 = .ok (.goto 9, 3) := by decide +kernel
theorem dX8_group_35 : decode cX8_group 35 = .ok (.aload_n 0, 1) := by decide +kernel
theorem dX8_group_36 : decode cX8_group 36 = .ok (.bipush (-2), 2) := by decide +kernel
theorem dX8_group_38 : decode cX8_group 38 = .ok (.invokevirtual 122, 3) := by decide +kernel
theorem dX8_group_41 : decode cX8_group 41 = .ok (.ireturn, 1) := by decide +kernel
set_option maxRecDepth 20000 in
theorem ggX8_narrow_X8_no : GoodIn wsX8_narrow wsX8_no := goodIn_r _ [11, 12, 19, 20, 21, 22, 23, 24, 25, 26, 27, 28, 29, 30, 31, 32, 33, 34, 35, 36, 37, 38, 39, 40, 41, 42, 43, 44, 45, 46, 47, 48, 49, 50, 51, 52, 53, 54, 55, 56, 57, 58, 59, 60, 61, 62] rfl (by decide +kernel)
set_option maxRecDepth 20000 in
theorem gX8_narrow_X8_no : GoodIn wsX8_narrow (wsV RX8 122 RX8 yX8_no wsX8_no) := goodIn_app (goodIn_of _ (by decide +kernel)) ggX8_narrow_X8_no
set_option maxRecDepth 20000 in
theorem ggX8_narrow_X8_isIn : GoodIn wsX8_narrow wsX8_isIn := goodIn_r _ [15] rfl (by decide +kernel)
set_option maxRecDepth 20000 in
theorem gX8_narrow_X8_isIn : GoodIn wsX8_narrow (va_wsS RX8 128 yX8_isIn wsX8_isIn) := goodIn_app (goodIn_of _ (by decide +kernel)) ggX8_narrow_X8_isIn
set_option maxRecDepth 20000 in
theorem ggX8_narrow_X8_bits : GoodIn wsX8_narrow wsX8_bits := goodIn_r _ [18] rfl (by decide +kernel)
set_option maxRecDepth 20000 in
theorem gX8_narrow_X8_bits : GoodIn wsX8_narrow (va_wsS RX8 234 yX8_bits wsX8_bits) := goodIn_app (goodIn_of _ (by decide +kernel)) ggX8_narrow_X8_bits
theorem dX8_narrow_0 : decode cX8_narrow 0 = .ok (.aload_n 0, 1) := by decide +kernel
theorem dX8_narrow_1 : decode cX8_narrow 1 = .ok (.getfield 164, 3) := by decide +kernel
theorem dX8_narrow_4 : decode cX8_narrow 4 = .ok (.ifCond .ne 10, 3) := by decide +kernel
theorem dX8_narrow_7 : decode cX8_narrow 7 = .ok (.aload_n 0, 1) := by decide +kernel
theorem dX8_narrow_8 : decode cX8_narrow 8 = .ok (.bipush (-2), 2) := by decide +kernel
theorem dX8_narrow_10 : decode cX8_narrow 10 = .ok (.invokevirtual 122, 3) := by decide +kernel
theorem dX8_narrow_13 : decode cX8_narrow 13 = .ok (.ireturn, 1) := by decide +kernel
theorem dX8_narrow_14 : decode cX8_narrow 14 = .ok (.iload_n 1, 1) := by decide +kernel
theorem dX8_narrow_15 : decode cX8_narrow 15 = .ok (.i2l, 1) := by decide +kernel
theorem dX8_narrow_16 : decode cX8_narrow 16 = .ok (.lconst 0, 1) := by decide +kernel
theorem dX8_narrow_17 : decode cX8_narrow 17 = .ok (.ldc2_w 178, 3) := by decide +kernel
theorem dX8_narrow_20 : decode cX8_narrow 20 = .ok (.invokestatic 128, 3) := by decide +kernel
theorem dX8_narrow_23 : decode cX8_narrow 23 = .ok (.ifCond .ne 10, 3) := by decide +kernel
theorem dX8_narrow_26 : decode cX8_narrow 26 = .ok (.aload_n 0, 1) := by decide +kernel
theorem dX8_narrow_27 : decode cX8_narrow 27 = .ok (.bipush (-6), 2) := by decide +kernel
theorem dX8_narrow_29 : decode cX8_narrow 29 = .ok (.invokevirtual 122, 3) := by decide +kernel
theorem dX8_narrow_32 : decode cX8_narrow 32 = .ok (.ireturn, 1) := by decide +kernel
theorem dX8_narrow_33 : decode cX8_narrow 33 = .ok (.iload_n 1, 1) := by decide +kernel
theorem dX8_narrow_34 : decode cX8_narrow 34 = .ok (.iconst 2, 1) := by decide +kernel
theorem dX8_narrow_35 : decode cX8_narrow 35 = .ok (.if_icmp .ne 8, 3) := by decide +kernel
theorem dX8_narrow_38 : decode cX8_narrow 38 = .ok (.aload_n 0, 1) := by decide +kernel
theorem dX8_narrow_39 : decode cX8_narrow 39 = .ok (.getfield 226, 3) := by decide +kernel
theorem dX8_narrow_42 : decode cX8_narrow 42 = .ok (.ireturn, 1) := by decide +kernel
theorem dX8_narrow_43 : decode cX8_narrow 43 = .ok (.iconst 0, 1) := by decide +kernel
theorem dX8_narrow_44 : decode cX8_narrow 44 = .ok (.istore_n 2, 1) := by decide +kernel
theorem dX8_narrow_45 : decode cX8_narrow 45 = .ok (.iload_n 1, 1) := by decide +kernel
theorem dX8_narrow_46 : decode cX8_narrow 46 = .ok (.iconst 3, 1) := by decide +kernel
theorem dX8_narrow_47 : decode cX8_narrow 47 = .ok (.if_icmp .ne 28, 3) := by decide +kernel
theorem dX8_narrow_50 : decode cX8_narrow 50 = .ok (.iconst 0, 1) := by decide +kernel
theorem dX8_narrow_51 : decode cX8_narrow 51 = .ok (.istore_n 3, 1) := by decide +kernel
theorem dX8_narrow_52 : decode cX8_narrow 52 = .ok (.iload_n 3, 1) := by decide +kernel
theorem dX8_narrow_53 : decode cX8_narrow 53 = .ok (.bipush 7, 2) := by decide +kernel
theorem dX8_narrow_55 : decode cX8_narrow 55 = .ok (.if_icmp .ge 18, 3) := by decide +kernel
theorem dX8_narrow_58 : decode cX8_narrow 58 = .ok (.iload_n 2, 1) := by decide +kernel
theorem dX8_narrow_59 : decode cX8_narrow 59 = .ok (.aload_n 0, 1) := by decide +kernel
theorem dX8_narrow_60 : decode cX8_narrow 60 = .ok (.getfield 88, 3) := by decide +kernel
theorem dX8_narrow_63 : decode cX8_narrow 63 = .ok (.iload_n 3, 1) := by decide +kernel
theorem dX8_narrow_64 : decode cX8_narrow 64 = .ok (.iaload, 1) := by decide +kernel
theorem dX8_narrow_65 : decode cX8_narrow 65 = .ok (.iadd, 1) := by decide +kernel
theorem dX8_narrow_66 : decode cX8_narrow 66 = .ok (.istore_n 2, 1) := by decide +kernel
theorem dX8_narrow_67 : decode cX8_narrow 67 = .ok (.iinc 3 1, 3) := by decide +kernel
theorem dX8_narrow_70 : decode cX8_narrow 70 = .ok (.goto (-18), 3) := by decide +kernel
theorem dX8_narrow_73 : decode cX8_narrow 73 = .ok (.iload_n 2, 1) := by decide +kernel
theorem dX8_narrow_74 : decode cX8_narrow 74 = .ok (.ireturn, 1) := by decide +kernel
theorem dX8_narrow_75 : decode cX8_narrow 75 = .ok (.iconst 0, 1) := by decide +kernel
theorem dX8_narrow_76 : decode cX8_narrow 76 = .ok (.istore_n 3, 1) := by decide +kernel
theorem dX8_narrow_77 : decode cX8_narrow 77 = .ok (.iload_n 3, 1) := by decide +kernel
theorem dX8_narrow_78 : decode cX8_narrow 78 = .ok (.aload_n 0, 1) := by decide +kernel
theorem dX8_narrow_79 : decode cX8_narrow 79 = .ok (.getfield 226, 3) := by decide +kernel
theorem dX8_narrow_82 : decode cX8_narrow 82 = .ok (.if_icmp .ge 21, 3) := by decide +kernel
theorem dX8_narrow_85 : decode cX8_narrow 85 = .ok (.iload_n 2, 1) := by decide +kernel
theorem dX8_narrow_86 : decode cX8_narrow 86 = .ok (.aload_n 0, 1) := by decide +kernel
theorem dX8_narrow_87 : decode cX8_narrow 87 = .ok (.getfield 97, 3) := by decide +kernel
theorem dX8_narrow_90 : decode cX8_narrow 90 = .ok (.iload_n 3, 1) := by decide +kernel
theorem dX8_narrow_91 : decode cX8_narrow 91 = .ok (.iaload, 1) := by decide +kernel
theorem dX8_narrow_92 : decode cX8_narrow 92 = .ok (.invokestatic 234, 3) := by decide +kernel
theorem dX8_narrow_95 : decode cX8_narrow 95 = .ok (.iadd, 1) := by decide +kernel
theorem dX8_narrow_96 : decode cX8_narrow 96 = .ok (.istore_n 2, 1) := by decide +kernel
theorem dX8_narrow_97 : decode cX8_narrow 97 = .ok (.iinc 3 1, 3) := by decide +kernel
theorem dX8_narrow_100 : decode cX8_narrow 100 = .ok (.goto (-23), 3) := by decide +kernel
theorem dX8_narrow_103 : decode cX8_narrow 103 = .ok (.iload_n 2, 1) := by decide +kernel
theorem dX8_narrow_104 : decode cX8_narrow 104 = .ok (.aload_n 0, 1) := by decide +kernel
theorem dX8_narrow_105 : decode cX8_narrow 105 = .ok (.getfield 205, 3) := by decide +kernel
theorem dX8_narrow_108 : decode cX8_narrow 108 = .ok (.invokestatic 234, 3) := by decide +kernel
theorem dX8_narrow_111 : decode cX8_narrow 111 = .ok (.iadd, 1) := by decide +kernel
theorem dX8_narrow_112 : decode cX8_narrow 112 = .ok (.istore_n 2, 1) := by decide +kernel
theorem dX8_narrow_113 : decode cX8_narrow 113 = .ok (.iload_n 1, 1) := by decide +kernel
theorem dX8_narrow_114 : decode cX8_narrow 114 = .ok (.ifCond .ne 7, 3) := by decide +kernel
theorem dX8_narrow_117 : decode cX8_narrow 117 = .ok (.iload_n 2, 1) := by decide +kernel
theorem dX8_narrow_118 : decode cX8_narrow 118 = .ok (.goto 9, 3) := by decide +kernel
theorem dX8_narrow_121 : decode cX8_narrow 121 = .ok (.iload_n 2, 1) := by decide +kernel
theorem dX8_narrow_122 : decode cX8_narrow 122 = .ok (.aload_n 0, 1) := by decide +kernel
theorem dX8_narrow_123 : decode cX8_narrow 123 = .ok (.getfield 205, 3) := by decide +kernel
theorem dX8_narrow_126 : decode cX8_narrow 126 = .ok (.imul, 1) := by decide +kernel
theorem dX8_narrow_127 : decode cX8_narrow 127 = .ok (.ireturn, 1) := by decide +kernel
theorem dX8_copies_0 : decode cX8_copies 0 = .ok (.iconst 0, 1) := by decide +kernel
theorem dX8_copies_1 : decode cX8_copies 1 = .ok (.istore_n 2, 1) := by decide +kernel
theorem dX8_copies_2 : decode cX8_copies 2 = .ok (.iload_n 2, 1) := by decide +kernel
theorem dX8_copies_3 : decode cX8_copies 3 = .ok (.bipush 74, 2) := by decide +kernel
theorem dX8_copies_5 : decode cX8_copies 5 = .ok (.if_icmp .ge 15, 3) := by decide +kernel
theorem dX8_copies_8 : decode cX8_copies 8 = .ok (.aload_n 1, 1) := by decide +kernel
theorem dX8_copies_9 : decode cX8_copies 9 = .ok (.iload_n 2, 1) := by decide +kernel
theorem dX8_copies_10 : decode cX8_copies 10 = .ok (.aload_n 0, 1) := by decide +kernel
theorem dX8_copies_11 : decode cX8_copies 11 = .ok (.iload_n 2, 1) := by decide +kernel
theorem dX8_copies_12 : decode cX8_copies 12 = .ok (.laload, 1) := by decide +kernel
theorem dX8_copies_13 : decode cX8_copies 13 = .ok (.lastore, 1) := by decide +kernel
theorem dX8_copies_14 : decode cX8_copies 14 = .ok (.iinc 2 1, 3) := by decide +kernel
theorem dX8_copies_17 : decode cX8_copies 17 = .ok (.goto (-15), 3) := by decide +kernel
theorem dX8_copies_20 : decode cX8_copies 20 = .ok (.return_, 1) := by decide +kernel
theorem dX8_holds_0 : decode cX8_holds 0 = .ok (.aload_n 0, 1) := by decide +kernel
theorem dX8_holds_1 : decode cX8_holds 1 = .ok (.getfield 29, 3) := by decide +kernel
theorem dX8_holds_4 : decode cX8_holds 4 = .ok (.iload_n 1, 1) := by decide +kernel
theorem dX8_holds_5 : decode cX8_holds 5 = .ok (.iaload, 1) := by decide +kernel
theorem dX8_holds_6 : decode cX8_holds 6 = .ok (.bipush 9, 2) := by decide +kernel
theorem dX8_holds_8 : decode cX8_holds 8 = .ok (.if_icmp .lt 34, 3) := by decide +kernel
theorem dX8_holds_11 : decode cX8_holds 11 = .ok (.aload_n 0, 1) := by decide +kernel
theorem dX8_holds_12 : decode cX8_holds 12 = .ok (.getfield 16, 3) := by decide +kernel
theorem dX8_holds_15 : decode cX8_holds 15 = .ok (.bipush 8, 2) := by decide +kernel
theorem dX8_holds_17 : decode cX8_holds 17 = .ok (.aload_n 0, 1) := by decide +kernel
theorem dX8_holds_18 : decode cX8_holds 18 = .ok (.getfield 35, 3) := by decide +kernel
theorem dX8_holds_21 : decode cX8_holds 21 = .ok (.iload_n 1, 1) := by decide +kernel
theorem dX8_holds_22 : decode cX8_holds 22 = .ok (.iaload, 1) := by decide +kernel
theorem dX8_holds_23 : decode cX8_holds 23 = .ok (.iadd, 1) := by decide +kernel
theorem dX8_holds_24 : decode cX8_holds 24 = .ok (.laload, 1) := by decide +kernel
theorem dX8_holds_25 : decode cX8_holds 25 = .ok (.aload_n 0, 1) := by decide +kernel
theorem dX8_holds_26 : decode cX8_holds 26 = .ok (.getfield 38, 3) := by decide +kernel
theorem dX8_holds_29 : decode cX8_holds 29 = .ok (.iload_n 1, 1) := by decide +kernel
theorem dX8_holds_30 : decode cX8_holds 30 = .ok (.iaload, 1) := by decide +kernel
theorem dX8_holds_31 : decode cX8_holds 31 = .ok (.i2l, 1) := by decide +kernel
theorem dX8_holds_32 : decode cX8_holds 32 = .ok (.lcmp, 1) := by decide +kernel
theorem dX8_holds_33 : decode cX8_holds 33 = .ok (.ifCond .ne 7, 3) := by decide +kernel
theorem dX8_holds_36 : decode cX8_holds 36 = .ok (.iconst 1, 1) := by decide +kernel
theorem dX8_holds_37 : decode cX8_holds 37 = .ok (.goto 4, 3) := by decide +kernel
theorem dX8_holds_40 : decode cX8_holds 40 = .ok (.iconst 0, 1) := by decide +kernel
theorem dX8_holds_41 : decode cX8_holds 41 = .ok (.ireturn, 1) := by decide +kernel
theorem dX8_holds_42 : decode cX8_holds 42 = .ok (.aload_n 0, 1) := by decide +kernel
theorem dX8_holds_43 : decode cX8_holds 43 = .ok (.getfield 29, 3) := by decide +kernel
theorem dX8_holds_46 : decode cX8_holds 46 = .ok (.iload_n 1, 1) := by decide +kernel
theorem dX8_holds_47 : decode cX8_holds 47 = .ok (.iaload, 1) := by decide +kernel
theorem dX8_holds_48 : decode cX8_holds 48 = .ok (.bipush 7, 2) := by decide +kernel
theorem dX8_holds_50 : decode cX8_holds 50 = .ok (.if_icmp .eq 14, 3) := by decide +kernel
theorem dX8_holds_53 : decode cX8_holds 53 = .ok (.aload_n 0, 1) := by decide +kernel
theorem dX8_holds_54 : decode cX8_holds 54 = .ok (.getfield 29, 3) := by decide +kernel
theorem dX8_holds_57 : decode cX8_holds 57 = .ok (.iload_n 1, 1) := by decide +kernel
theorem dX8_holds_58 : decode cX8_holds 58 = .ok (.iaload, 1) := by decide +kernel
theorem dX8_holds_59 : decode cX8_holds 59 = .ok (.bipush 8, 2) := by decide +kernel
theorem dX8_holds_61 : decode cX8_holds 61 = .ok (.if_icmp .ne 25, 3) := by decide +kernel
theorem dX8_holds_64 : decode cX8_holds 64 = .ok (.aload_n 0, 1) := by decide +kernel
theorem dX8_holds_65 : decode cX8_holds 65 = .ok (.getfield 16, 3) := by decide +kernel
theorem dX8_holds_68 : decode cX8_holds 68 = .ok (.aload_n 0, 1) := by decide +kernel
theorem dX8_holds_69 : decode cX8_holds 69 = .ok (.getfield 35, 3) := by decide +kernel
theorem dX8_holds_72 : decode cX8_holds 72 = .ok (.iload_n 1, 1) := by decide +kernel
theorem dX8_holds_73 : decode cX8_holds 73 = .ok (.iaload, 1) := by decide +kernel
theorem dX8_holds_74 : decode cX8_holds 74 = .ok (.laload, 1) := by decide +kernel
theorem dX8_holds_75 : decode cX8_holds 75 = .ok (.ldc2_w 237, 3) := by decide +kernel
theorem dX8_holds_78 : decode cX8_holds 78 = .ok (.lcmp, 1) := by decide +kernel
theorem dX8_holds_79 : decode cX8_holds 79 = .ok (.ifCond .le 7, 3) := by decide +kernel
theorem dX8_holds_82 : decode cX8_holds 82 = .ok (.iconst 1, 1) := by decide +kernel
theorem dX8_holds_83 : decode cX8_holds 83 = .ok (.goto 4, 3) := by decide +kernel
theorem dX8_holds_86 : decode cX8_holds 86 = .ok (.iconst 0, 1) := by decide +kernel
theorem dX8_holds_87 : decode cX8_holds 87 = .ok (.ireturn, 1) := by decide +kernel
set_option maxRecDepth 20000 in
theorem ggX8_puts_X8_cut : GoodIn wsX8_puts wsX8_cut := goodIn_r _ [7, 8, 9, 10, 11, 12, 13, 14, 15, 16, 17, 18, 19, 20, 21, 22, 23, 24, 25, 26, 27, 28, 29, 30, 31, 32, 33, 34, 35, 36, 37, 38, 39, 40, 41, 42, 43, 44, 45, 46, 47, 48, 49, 50, 51, 52] rfl (by decide +kernel)
set_option maxRecDepth 20000 in
theorem gX8_puts_X8_cut : GoodIn wsX8_puts (wsV RX8 132 RX8 yX8_cut wsX8_cut) := goodIn_app (goodIn_of _ (by decide +kernel)) ggX8_puts_X8_cut
theorem dX8_puts_0 : decode cX8_puts 0 = .ok (.aload_n 0, 1) := by decide +kernel
theorem dX8_puts_1 : decode cX8_puts 1 = .ok (.getfield 7, 3) := by decide +kernel
theorem dX8_puts_4 : decode cX8_puts 4 = .ok (.aload_n 0, 1) := by decide +kernel
theorem dX8_puts_5 : decode cX8_puts 5 = .ok (.getfield 32, 3) := by decide +kernel
theorem dX8_puts_8 : decode cX8_puts 8 = .ok (.iload_n 1, 1) := by decide +kernel
theorem dX8_puts_9 : decode cX8_puts 9 = .ok (.iaload, 1) := by decide +kernel
theorem dX8_puts_10 : decode cX8_puts 10 = .ok (.aload_n 0, 1) := by decide +kernel
theorem dX8_puts_11 : decode cX8_puts 11 = .ok (.aload_n 0, 1) := by decide +kernel
theorem dX8_puts_12 : decode cX8_puts 12 = .ok (.getfield 32, 3) := by decide +kernel
theorem dX8_puts_15 : decode cX8_puts 15 = .ok (.iload_n 1, 1) := by decide +kernel
theorem dX8_puts_16 : decode cX8_puts 16 = .ok (.iaload, 1) := by decide +kernel
theorem dX8_puts_17 : decode cX8_puts 17 = .ok (.lload_n 2, 1) := by decide +kernel
theorem dX8_puts_18 : decode cX8_puts 18 = .ok (.invokevirtual 132, 3) := by decide +kernel
theorem dX8_puts_21 : decode cX8_puts 21 = .ok (.lastore, 1) := by decide +kernel
theorem dX8_puts_22 : decode cX8_puts 22 = .ok (.return_, 1) := by decide +kernel
set_option maxRecDepth 20000 in
theorem ggX8_worker_X8_puts : GoodIn wsX8_worker wsX8_puts := goodIn_r _ [12, 7, 6, 13, 14, 15, 11, 16, 5, 17, 18, 19, 20, 21, 22, 23, 24, 25, 26, 27, 28, 29, 30, 31, 32, 33, 34, 35, 36, 37, 38, 39, 40, 41, 42, 43, 44, 45, 46, 47, 48, 49, 50, 51, 52, 53, 54, 55, 56, 57, 58, 59, 60] rfl (by decide +kernel)
set_option maxRecDepth 20000 in
theorem gX8_worker_X8_puts : GoodIn wsX8_worker (wsV RX8 239 RX8 yX8_puts wsX8_puts) := goodIn_app (goodIn_of _ (by decide +kernel)) ggX8_worker_X8_puts
theorem dX8_worker_0 : decode cX8_worker 0 = .ok (.aload_n 0, 1) := by decide +kernel
theorem dX8_worker_1 : decode cX8_worker 1 = .ok (.getfield 16, 3) := by decide +kernel
theorem dX8_worker_4 : decode cX8_worker 4 = .ok (.aload_n 0, 1) := by decide +kernel
theorem dX8_worker_5 : decode cX8_worker 5 = .ok (.getfield 35, 3) := by decide +kernel
theorem dX8_worker_8 : decode cX8_worker 8 = .ok (.iload_n 1, 1) := by decide +kernel
theorem dX8_worker_9 : decode cX8_worker 9 = .ok (.iaload, 1) := by decide +kernel
theorem dX8_worker_10 : decode cX8_worker 10 = .ok (.laload, 1) := by decide +kernel
theorem dX8_worker_11 : decode cX8_worker 11 = .ok (.lstore_n 2, 1) := by decide +kernel
theorem dX8_worker_12 : decode cX8_worker 12 = .ok (.aload_n 0, 1) := by decide +kernel
theorem dX8_worker_13 : decode cX8_worker 13 = .ok (.getfield 16, 3) := by decide +kernel
theorem dX8_worker_16 : decode cX8_worker 16 = .ok (.aload_n 0, 1) := by decide +kernel
theorem dX8_worker_17 : decode cX8_worker 17 = .ok (.getfield 38, 3) := by decide +kernel
theorem dX8_worker_20 : decode cX8_worker 20 = .ok (.iload_n 1, 1) := by decide +kernel
theorem dX8_worker_21 : decode cX8_worker 21 = .ok (.iaload, 1) := by decide +kernel
theorem dX8_worker_22 : decode cX8_worker 22 = .ok (.laload, 1) := by decide +kernel
theorem dX8_worker_23 : decode cX8_worker 23 = .ok (.lstore 4, 2) := by decide +kernel
theorem dX8_worker_25 : decode cX8_worker 25 = .ok (.aload_n 0, 1) := by decide +kernel
theorem dX8_worker_26 : decode cX8_worker 26 = .ok (.getfield 29, 3) := by decide +kernel
theorem dX8_worker_29 : decode cX8_worker 29 = .ok (.iload_n 1, 1) := by decide +kernel
theorem dX8_worker_30 : decode cX8_worker 30 = .ok (.iaload, 1) := by decide +kernel
theorem dX8_worker_31 : decode cX8_worker 31 = .ok (.iconst 2, 1) := by decide +kernel
theorem dX8_worker_32 : decode cX8_worker 32 = .ok (.if_icmp .ne 10, 3) := by decide +kernel
theorem dX8_worker_35 : decode cX8_worker 35 = .ok (.lload_n 2, 1) := by decide +kernel
theorem dX8_worker_36 : decode cX8_worker 36 = .ok (.lload 4, 2) := by decide +kernel
theorem dX8_worker_38 : decode cX8_worker 38 = .ok (.ladd, 1) := by decide +kernel
theorem dX8_worker_39 : decode cX8_worker 39 = .ok (.goto 41, 3) := by decide +kernel
theorem dX8_worker_42 : decode cX8_worker 42 = .ok (.aload_n 0, 1) := by decide +kernel
theorem dX8_worker_43 : decode cX8_worker 43 = .ok (.getfield 29, 3) := by decide +kernel
theorem dX8_worker_46 : decode cX8_worker 46 = .ok (.iload_n 1, 1) := by decide +kernel
theorem dX8_worker_47 : decode cX8_worker 47 = .ok (.iaload, 1) := by decide +kernel
theorem dX8_worker_48 : decode cX8_worker 48 = .ok (.iconst 3, 1) := by decide +kernel
theorem dX8_worker_49 : decode cX8_worker 49 = .ok (.if_icmp .ne 10, 3) := by decide +kernel
theorem dX8_worker_52 : decode cX8_worker 52 = .ok (.lload_n 2, 1) := by decide +kernel
theorem dX8_worker_53 : decode cX8_worker 53 = .ok (.lload 4, 2) := by decide +kernel
theorem dX8_worker_55 : decode cX8_worker 55 = .ok (.lsub, 1) := by decide +kernel
theorem dX8_worker_56 : decode cX8_worker 56 = .ok (.goto 24, 3) := by decide +kernel
theorem dX8_worker_59 : decode cX8_worker 59 = .ok (.aload_n 0, 1) := by decide +kernel
theorem dX8_worker_60 : decode cX8_worker 60 = .ok (.getfield 29, 3) := by decide +kernel
theorem dX8_worker_63 : decode cX8_worker 63 = .ok (.iload_n 1, 1) := by decide +kernel
theorem dX8_worker_64 : decode cX8_worker 64 = .ok (.iaload, 1) := by decide +kernel
theorem dX8_worker_65 : decode cX8_worker 65 = .ok (.iconst 4, 1) := by decide +kernel
theorem dX8_worker_66 : decode cX8_worker 66 = .ok (.if_icmp .ne 10, 3) := by decide +kernel
theorem dX8_worker_69 : decode cX8_worker 69 = .ok (.lload_n 2, 1) := by decide +kernel
theorem dX8_worker_70 : decode cX8_worker 70 = .ok (.lload 4, 2) := by decide +kernel
theorem dX8_worker_72 : decode cX8_worker 72 = .ok (.land, 1) := by decide +kernel
theorem dX8_worker_73 : decode cX8_worker 73 = .ok (.goto 7, 3) := by decide +kernel
theorem dX8_worker_76 : decode cX8_worker 76 = .ok (.lload_n 2, 1) := by decide +kernel
theorem dX8_worker_77 : decode cX8_worker 77 = .ok (.lload 4, 2) := by decide +kernel
theorem dX8_worker_79 : decode cX8_worker 79 = .ok (.lxor, 1) := by decide +kernel
theorem dX8_worker_80 : decode cX8_worker 80 = .ok (.lstore 6, 2) := by decide +kernel
theorem dX8_worker_82 : decode cX8_worker 82 = .ok (.aload_n 0, 1) := by decide +kernel
theorem dX8_worker_83 : decode cX8_worker 83 = .ok (.getfield 29, 3) := by decide +kernel
theorem dX8_worker_86 : decode cX8_worker 86 = .ok (.iload_n 1, 1) := by decide +kernel
theorem dX8_worker_87 : decode cX8_worker 87 = .ok (.iaload, 1) := by decide +kernel
theorem dX8_worker_88 : decode cX8_worker 88 = .ok (.iconst 2, 1) := by decide +kernel
theorem dX8_worker_89 : decode cX8_worker 89 = .ok (.if_icmp .ne 30, 3) := by decide +kernel
theorem dX8_worker_92 : decode cX8_worker 92 = .ok (.lload 6, 2) := by decide +kernel
theorem dX8_worker_94 : decode cX8_worker 94 = .ok (.lconst 1, 1) := by decide +kernel
theorem dX8_worker_95 : decode cX8_worker 95 = .ok (.aload_n 0, 1) := by decide +kernel
theorem dX8_worker_96 : decode cX8_worker 96 = .ok (.getfield 25, 3) := by decide +kernel
theorem dX8_worker_99 : decode cX8_worker 99 = .ok (.aload_n 0, 1) := by decide +kernel
theorem dX8_worker_100 : decode cX8_worker 100 = .ok (.getfield 32, 3) := by decide +kernel
theorem dX8_worker_103 : decode cX8_worker 103 = .ok (.iload_n 1, 1) := by decide +kernel
theorem dX8_worker_104 : decode cX8_worker 104 = .ok (.iaload, 1) := by decide +kernel
theorem dX8_worker_105 : decode cX8_worker 105 = .ok (.iaload, 1) := by decide +kernel
theorem dX8_worker_106 : decode cX8_worker 106 = .ok (.lshl, 1) := by decide +kernel
theorem dX8_worker_107 : decode cX8_worker 107 = .ok (.lcmp, 1) := by decide +kernel
theorem dX8_worker_108 : decode cX8_worker 108 = .ok (.ifCond .lt 7, 3) := by decide +kernel
theorem dX8_worker_111 : decode cX8_worker 111 = .ok (.iconst 1, 1) := by decide +kernel
theorem dX8_worker_112 : decode cX8_worker 112 = .ok (.goto 29, 3) := by decide +kernel
theorem dX8_worker_115 : decode cX8_worker 115 = .ok (.iconst 0, 1) := by decide +kernel
theorem dX8_worker_116 : decode cX8_worker 116 = .ok (.goto 25, 3) := by decide +kernel
theorem dX8_worker_119 : decode cX8_worker 119 = .ok (.aload_n 0, 1) := by decide +kernel
theorem dX8_worker_120 : decode cX8_worker 120 = .ok (.getfield 29, 3) := by decide +kernel
theorem dX8_worker_123 : decode cX8_worker 123 = .ok (.iload_n 1, 1) := by decide +kernel
theorem dX8_worker_124 : decode cX8_worker 124 = .ok (.iaload, 1) := by decide +kernel
theorem dX8_worker_125 : decode cX8_worker 125 = .ok (.iconst 3, 1) := by decide +kernel
theorem dX8_worker_126 : decode cX8_worker 126 = .ok (.if_icmp .ne 14, 3) := by decide +kernel
theorem dX8_worker_129 : decode cX8_worker 129 = .ok (.lload 4, 2) := by decide +kernel
theorem dX8_worker_131 : decode cX8_worker 131 = .ok (.lload_n 2, 1) := by decide +kernel
theorem dX8_worker_132 : decode cX8_worker 132 = .ok (.lcmp, 1) := by decide +kernel
theorem dX8_worker_133 : decode cX8_worker 133 = .ok (.ifCond .le 7, 3) := by decide +kernel
theorem dX8_worker_136 : decode cX8_worker 136 = .ok (.iconst 1, 1) := by decide +kernel
theorem dX8_worker_137 : decode cX8_worker 137 = .ok (.goto 4, 3) := by decide +kernel
theorem dX8_worker_140 : decode cX8_worker 140 = .ok (.iconst 0, 1) := by decide +kernel
theorem dX8_worker_141 : decode cX8_worker 141 = .ok (.istore 8, 2) := by decide +kernel
theorem dX8_worker_143 : decode cX8_worker 143 = .ok (.aload_n 0, 1) := by decide +kernel
theorem dX8_worker_144 : decode cX8_worker 144 = .ok (.iload_n 1, 1) := by decide +kernel
theorem dX8_worker_145 : decode cX8_worker 145 = .ok (.lload 6, 2) := by decide +kernel
theorem dX8_worker_147 : decode cX8_worker 147 = .ok (.invokevirtual 239, 3) := by decide +kernel
theorem dX8_worker_150 : decode cX8_worker 150 = .ok (.aload_n 0, 1) := by decide +kernel
theorem dX8_worker_151 : decode cX8_worker 151 = .ok (.getfield 7, 3) := by decide +kernel
theorem dX8_worker_154 : decode cX8_worker 154 = .ok (.bipush 8, 2) := by decide +kernel
theorem dX8_worker_156 : decode cX8_worker 156 = .ok (.aload_n 0, 1) := by decide +kernel
theorem dX8_worker_157 : decode cX8_worker 157 = .ok (.getfield 7, 3) := by decide +kernel
theorem dX8_worker_160 : decode cX8_worker 160 = .ok (.aload_n 0, 1) := by decide +kernel
theorem dX8_worker_161 : decode cX8_worker 161 = .ok (.getfield 32, 3) := by decide +kernel
theorem dX8_worker_164 : decode cX8_worker 164 = .ok (.iload_n 1, 1) := by decide +kernel
theorem dX8_worker_165 : decode cX8_worker 165 = .ok (.iaload, 1) := by decide +kernel
theorem dX8_worker_166 : decode cX8_worker 166 = .ok (.laload, 1) := by decide +kernel
theorem dX8_worker_167 : decode cX8_worker 167 = .ok (.lconst 0, 1) := by decide +kernel
theorem dX8_worker_168 : decode cX8_worker 168 = .ok (.lcmp, 1) := by decide +kernel
theorem dX8_worker_169 : decode cX8_worker 169 = .ok (.ifCond .ne 7, 3) := by decide +kernel
theorem dX8_worker_172 : decode cX8_worker 172 = .ok (.lconst 1, 1) := by decide +kernel
theorem dX8_worker_173 : decode cX8_worker 173 = .ok (.goto 4, 3) := by decide +kernel
theorem dX8_worker_176 : decode cX8_worker 176 = .ok (.lconst 0, 1) := by decide +kernel
theorem dX8_worker_177 : decode cX8_worker 177 = .ok (.lastore, 1) := by decide +kernel
theorem dX8_worker_178 : decode cX8_worker 178 = .ok (.aload_n 0, 1) := by decide +kernel
theorem dX8_worker_179 : decode cX8_worker 179 = .ok (.getfield 7, 3) := by decide +kernel
theorem dX8_worker_182 : decode cX8_worker 182 = .ok (.bipush 9, 2) := by decide +kernel
theorem dX8_worker_184 : decode cX8_worker 184 = .ok (.iload 8, 2) := by decide +kernel
theorem dX8_worker_186 : decode cX8_worker 186 = .ok (.ifCond .eq 7, 3) := by decide +kernel
theorem dX8_worker_189 : decode cX8_worker 189 = .ok (.lconst 1, 1) := by decide +kernel
theorem dX8_worker_190 : decode cX8_worker 190 = .ok (.goto 4, 3) := by decide +kernel
theorem dX8_worker_193 : decode cX8_worker 193 = .ok (.lconst 0, 1) := by decide +kernel
theorem dX8_worker_194 : decode cX8_worker 194 = .ok (.lastore, 1) := by decide +kernel
theorem dX8_worker_195 : decode cX8_worker 195 = .ok (.return_, 1) := by decide +kernel
set_option maxRecDepth 20000 in
theorem ggX8_does_X8_puts : GoodIn wsX8_does wsX8_puts := goodIn_r _ [10, 5, 11, 12, 13, 14, 9, 15, 16, 21, 22, 23, 24, 25, 26, 27, 28, 29, 30, 31, 32, 33, 34, 35, 36, 37, 38, 39, 40, 41, 42, 43, 44, 45, 46, 47, 48, 49, 50, 51, 52, 53, 54, 55, 56, 57, 58, 59, 60, 61, 62, 63, 64] rfl (by decide +kernel)
set_option maxRecDepth 20000 in
theorem gX8_does_X8_puts : GoodIn wsX8_does (wsV RX8 239 RX8 yX8_puts wsX8_puts) := goodIn_app (goodIn_of _ (by decide +kernel)) ggX8_does_X8_puts
set_option maxRecDepth 20000 in
theorem ggX8_does_X8_worker : GoodIn wsX8_does wsX8_worker := goodIn_r _ [20, 3, 2, 4, 1, 16, 11, 5, 6, 7, 8, 9, 10, 12, 13, 14, 15, 21, 22, 23, 24, 25, 26, 27, 28, 29, 30, 31, 32, 33, 34, 35, 36, 37, 38, 39, 40, 41, 42, 43, 44, 45, 46, 47, 48, 49, 50, 51, 52, 53, 54, 55, 56, 57, 58, 59, 60, 61, 62, 63, 64] rfl (by decide +kernel)
set_option maxRecDepth 20000 in
theorem gX8_does_X8_worker : GoodIn wsX8_does (wsV RX8 243 RX8 yX8_worker wsX8_worker) := goodIn_app (goodIn_of _ (by decide +kernel)) ggX8_does_X8_worker
theorem dX8_does_0 : decode cX8_does 0 = .ok (.aload_n 0, 1) := by decide +kernel
theorem dX8_does_1 : decode cX8_does 1 = .ok (.getfield 29, 3) := by decide +kernel
theorem dX8_does_4 : decode cX8_does 4 = .ok (.iload_n 1, 1) := by decide +kernel
theorem dX8_does_5 : decode cX8_does 5 = .ok (.iaload, 1) := by decide +kernel
theorem dX8_does_6 : decode cX8_does 6 = .ok (.tableswitch 211 0 8 #[50, 65, 84, 84, 84, 84, 92, 149, 177], 50) := by decide +kernel
theorem dX8_does_56 : decode cX8_does 56 = .ok (.aload_n 0, 1) := by decide +kernel
theorem dX8_does_57 : decode cX8_does 57 = .ok (.iload_n 1, 1) := by decide +kernel
theorem dX8_does_58 : decode cX8_does 58 = .ok (.aload_n 0, 1) := by decide +kernel
theorem dX8_does_59 : decode cX8_does 59 = .ok (.getfield 35, 3) := by decide +kernel
theorem dX8_does_62 : decode cX8_does 62 = .ok (.iload_n 1, 1) := by decide +kernel
theorem dX8_does_63 : decode cX8_does 63 = .ok (.iaload, 1) := by decide +kernel
theorem dX8_does_64 : decode cX8_does 64 = .ok (.i2l, 1) := by decide +kernel
theorem dX8_does_65 : decode cX8_does 65 = .ok (.invokevirtual 239, 3) := by decide +kernel
theorem dX8_does_68 : decode cX8_does 68 = .ok (.goto 149, 3) := by decide +kernel
theorem dX8_does_71 : decode cX8_does 71 = .ok (.aload_n 0, 1) := by decide +kernel
theorem dX8_does_72 : decode cX8_does 72 = .ok (.iload_n 1, 1) := by decide +kernel
theorem dX8_does_73 : decode cX8_does 73 = .ok (.aload_n 0, 1) := by decide +kernel
theorem dX8_does_74 : decode cX8_does 74 = .ok (.getfield 16, 3) := by decide +kernel
theorem dX8_does_77 : decode cX8_does 77 = .ok (.aload_n 0, 1) := by decide +kernel
theorem dX8_does_78 : decode cX8_does 78 = .ok (.getfield 35, 3) := by decide +kernel
theorem dX8_does_81 : decode cX8_does 81 = .ok (.iload_n 1, 1) := by decide +kernel
theorem dX8_does_82 : decode cX8_does 82 = .ok (.iaload, 1) := by decide +kernel
theorem dX8_does_83 : decode cX8_does 83 = .ok (.laload, 1) := by decide +kernel
theorem dX8_does_84 : decode cX8_does 84 = .ok (.invokevirtual 239, 3) := by decide +kernel
theorem dX8_does_87 : decode cX8_does 87 = .ok (.goto 130, 3) := by decide +kernel
theorem dX8_does_90 : decode cX8_does 90 = .ok (.aload_n 0, 1) := by decide +kernel
theorem dX8_does_91 : decode cX8_does 91 = .ok (.iload_n 1, 1) := by decide +kernel
theorem dX8_does_92 : decode cX8_does 92 = .ok (.invokevirtual 243, 3) := by decide +kernel
theorem dX8_does_95 : decode cX8_does 95 = .ok (.goto 122, 3) := by decide +kernel
theorem dX8_does_98 : decode cX8_does 98 = .ok (.aload_n 0, 1) := by decide +kernel
theorem dX8_does_99 : decode cX8_does 99 = .ok (.iload_n 1, 1) := by decide +kernel
theorem dX8_does_100 : decode cX8_does 100 = .ok (.aload_n 0, 1) := by decide +kernel
theorem dX8_does_101 : decode cX8_does 101 = .ok (.getfield 38, 3) := by decide +kernel
theorem dX8_does_104 : decode cX8_does 104 = .ok (.iload_n 1, 1) := by decide +kernel
theorem dX8_does_105 : decode cX8_does 105 = .ok (.iaload, 1) := by decide +kernel
theorem dX8_does_106 : decode cX8_does 106 = .ok (.ifCond .lt 24, 3) := by decide +kernel
theorem dX8_does_109 : decode cX8_does 109 = .ok (.aload_n 0, 1) := by decide +kernel
theorem dX8_does_110 : decode cX8_does 110 = .ok (.getfield 16, 3) := by decide +kernel
theorem dX8_does_113 : decode cX8_does 113 = .ok (.aload_n 0, 1) := by decide +kernel
theorem dX8_does_114 : decode cX8_does 114 = .ok (.getfield 35, 3) := by decide +kernel
theorem dX8_does_117 : decode cX8_does 117 = .ok (.iload_n 1, 1) := by decide +kernel
theorem dX8_does_118 : decode cX8_does 118 = .ok (.iaload, 1) := by decide +kernel
theorem dX8_does_119 : decode cX8_does 119 = .ok (.laload, 1) := by decide +kernel
theorem dX8_does_120 : decode cX8_does 120 = .ok (.aload_n 0, 1) := by decide +kernel
theorem dX8_does_121 : decode cX8_does 121 = .ok (.getfield 38, 3) := by decide +kernel
theorem dX8_does_124 : decode cX8_does 124 = .ok (.iload_n 1, 1) := by decide +kernel
theorem dX8_does_125 : decode cX8_does 125 = .ok (.iaload, 1) := by decide +kernel
theorem dX8_does_126 : decode cX8_does 126 = .ok (.lshl, 1) := by decide +kernel
theorem dX8_does_127 : decode cX8_does 127 = .ok (.goto 22, 3) := by decide +kernel
theorem dX8_does_130 : decode cX8_does 130 = .ok (.aload_n 0, 1) := by decide +kernel
theorem dX8_does_131 : decode cX8_does 131 = .ok (.getfield 16, 3) := by decide +kernel
theorem dX8_does_134 : decode cX8_does 134 = .ok (.aload_n 0, 1) := by decide +kernel
theorem dX8_does_135 : decode cX8_does 135 = .ok (.getfield 35, 3) := by decide +kernel
theorem dX8_does_138 : decode cX8_does 138 = .ok (.iload_n 1, 1) := by decide +kernel
theorem dX8_does_139 : decode cX8_does 139 = .ok (.iaload, 1) := by decide +kernel
theorem dX8_does_140 : decode cX8_does 140 = .ok (.laload, 1) := by decide +kernel
theorem dX8_does_141 : decode cX8_does 141 = .ok (.aload_n 0, 1) := by decide +kernel
theorem dX8_does_142 : decode cX8_does 142 = .ok (.getfield 38, 3) := by decide +kernel
theorem dX8_does_145 : decode cX8_does 145 = .ok (.iload_n 1, 1) := by decide +kernel
theorem dX8_does_146 : decode cX8_does 146 = .ok (.iaload, 1) := by decide +kernel
theorem dX8_does_147 : decode cX8_does 147 = .ok (.ineg, 1) := by decide +kernel
theorem dX8_does_148 : decode cX8_does 148 = .ok (.lshr, 1) := by decide +kernel
theorem dX8_does_149 : decode cX8_does 149 = .ok (.invokevirtual 239, 3) := by decide +kernel
theorem dX8_does_152 : decode cX8_does 152 = .ok (.goto 65, 3) := by decide +kernel
theorem dX8_does_155 : decode cX8_does 155 = .ok (.aload_n 0, 1) := by decide +kernel
theorem dX8_does_156 : decode cX8_does 156 = .ok (.iload_n 1, 1) := by decide +kernel
theorem dX8_does_157 : decode cX8_does 157 = .ok (.aload_n 0, 1) := by decide +kernel
theorem dX8_does_158 : decode cX8_does 158 = .ok (.getfield 16, 3) := by decide +kernel
theorem dX8_does_161 : decode cX8_does 161 = .ok (.bipush 10, 2) := by decide +kernel
theorem dX8_does_163 : decode cX8_does 163 = .ok (.aload_n 0, 1) := by decide +kernel
theorem dX8_does_164 : decode cX8_does 164 = .ok (.getfield 16, 3) := by decide +kernel
theorem dX8_does_167 : decode cX8_does 167 = .ok (.aload_n 0, 1) := by decide +kernel
theorem dX8_does_168 : decode cX8_does 168 = .ok (.getfield 35, 3) := by decide +kernel
theorem dX8_does_171 : decode cX8_does 171 = .ok (.iload_n 1, 1) := by decide +kernel
theorem dX8_does_172 : decode cX8_does 172 = .ok (.iaload, 1) := by decide +kernel
theorem dX8_does_173 : decode cX8_does 173 = .ok (.laload, 1) := by decide +kernel
theorem dX8_does_174 : decode cX8_does 174 = .ok (.l2i, 1) := by decide +kernel
theorem dX8_does_175 : decode cX8_does 175 = .ok (.iadd, 1) := by decide +kernel
theorem dX8_does_176 : decode cX8_does 176 = .ok (.laload, 1) := by decide +kernel
theorem dX8_does_177 : decode cX8_does 177 = .ok (.invokevirtual 239, 3) := by decide +kernel
theorem dX8_does_180 : decode cX8_does 180 = .ok (.goto 37, 3) := by decide +kernel
theorem dX8_does_183 : decode cX8_does 183 = .ok (.aload_n 0, 1) := by decide +kernel
theorem dX8_does_184 : decode cX8_does 184 = .ok (.getfield 7, 3) := by decide +kernel
theorem dX8_does_187 : decode cX8_does 187 = .ok (.bipush 10, 2) := by decide +kernel
theorem dX8_does_189 : decode cX8_does 189 = .ok (.aload_n 0, 1) := by decide +kernel
theorem dX8_does_190 : decode cX8_does 190 = .ok (.getfield 16, 3) := by decide +kernel
theorem dX8_does_193 : decode cX8_does 193 = .ok (.aload_n 0, 1) := by decide +kernel
theorem dX8_does_194 : decode cX8_does 194 = .ok (.getfield 35, 3) := by decide +kernel
theorem dX8_does_197 : decode cX8_does 197 = .ok (.iload_n 1, 1) := by decide +kernel
theorem dX8_does_198 : decode cX8_does 198 = .ok (.iaload, 1) := by decide +kernel
theorem dX8_does_199 : decode cX8_does 199 = .ok (.laload, 1) := by decide +kernel
theorem dX8_does_200 : decode cX8_does 200 = .ok (.l2i, 1) := by decide +kernel
theorem dX8_does_201 : decode cX8_does 201 = .ok (.iadd, 1) := by decide +kernel
theorem dX8_does_202 : decode cX8_does 202 = .ok (.aload_n 0, 1) := by decide +kernel
theorem dX8_does_203 : decode cX8_does 203 = .ok (.getfield 16, 3) := by decide +kernel
theorem dX8_does_206 : decode cX8_does 206 = .ok (.aload_n 0, 1) := by decide +kernel
theorem dX8_does_207 : decode cX8_does 207 = .ok (.getfield 38, 3) := by decide +kernel
theorem dX8_does_210 : decode cX8_does 210 = .ok (.iload_n 1, 1) := by decide +kernel
theorem dX8_does_211 : decode cX8_does 211 = .ok (.iaload, 1) := by decide +kernel
theorem dX8_does_212 : decode cX8_does 212 = .ok (.laload, 1) := by decide +kernel
theorem dX8_does_213 : decode cX8_does 213 = .ok (.lastore, 1) := by decide +kernel
theorem dX8_does_214 : decode cX8_does 214 = .ok (.goto 3, 3) := by decide +kernel
theorem dX8_does_217 : decode cX8_does 217 = .ok (.return_, 1) := by decide +kernel
set_option maxRecDepth 20000 in
theorem ggX8_plainly_X8_copies : GoodIn wsX8_plainly wsX8_copies := goodIn_r _ [12] rfl (by decide +kernel)
set_option maxRecDepth 20000 in
theorem gX8_plainly_X8_copies : GoodIn wsX8_plainly (va_wsS RX8 246 yX8_copies wsX8_copies) := goodIn_app (goodIn_of _ (by decide +kernel)) ggX8_plainly_X8_copies
set_option maxRecDepth 20000 in
theorem ggX8_plainly_X8_holds : GoodIn wsX8_plainly wsX8_holds := goodIn_r _ [16, 8, 7, 17, 18, 19, 38, 39, 40, 41, 42, 43, 44, 45, 46, 47, 48, 49, 50, 51, 52, 53, 54, 55, 56, 57, 58, 59, 60, 61, 62, 63, 64, 65, 66, 67, 68, 69, 70, 71, 72, 73, 74, 75, 76, 77, 78, 79, 80, 81] rfl (by decide +kernel)
set_option maxRecDepth 20000 in
theorem gX8_plainly_X8_holds : GoodIn wsX8_plainly (wsV RX8 256 RX8 yX8_holds wsX8_holds) := goodIn_app (goodIn_of _ (by decide +kernel)) ggX8_plainly_X8_holds
set_option maxRecDepth 20000 in
theorem ggX8_plainly_X8_does : GoodIn wsX8_plainly wsX8_does := goodIn_r _ [23, 8, 17, 7, 18, 1, 24, 25, 26, 11, 27, 28, 29, 30, 31, 32, 33, 34, 35, 36, 37, 38, 39, 40, 41, 42, 43, 44, 45, 46, 47, 48, 49, 50, 51, 52, 53, 54, 55, 56, 57, 58, 59, 60, 61, 62, 63, 64, 65, 66, 67, 68, 69, 70, 71, 72, 73, 74, 75, 76, 77, 78, 79, 80, 81] rfl (by decide +kernel)
set_option maxRecDepth 20000 in
theorem gX8_plainly_X8_does : GoodIn wsX8_plainly (wsV RX8 259 RX8 yX8_does wsX8_does) := goodIn_app (goodIn_of _ (by decide +kernel)) ggX8_plainly_X8_does
theorem dX8_plainly_0 : decode cX8_plainly 0 = .ok (.aload_n 0, 1) := by decide +kernel
theorem dX8_plainly_1 : decode cX8_plainly 1 = .ok (.getfield 7, 3) := by decide +kernel
theorem dX8_plainly_4 : decode cX8_plainly 4 = .ok (.aload_n 0, 1) := by decide +kernel
theorem dX8_plainly_5 : decode cX8_plainly 5 = .ok (.getfield 19, 3) := by decide +kernel
theorem dX8_plainly_8 : decode cX8_plainly 8 = .ok (.invokestatic 246, 3) := by decide +kernel
theorem dX8_plainly_11 : decode cX8_plainly 11 = .ok (.aload_n 0, 1) := by decide +kernel
theorem dX8_plainly_12 : decode cX8_plainly 12 = .ok (.iconst 0, 1) := by decide +kernel
theorem dX8_plainly_13 : decode cX8_plainly 13 = .ok (.putfield 250, 3) := by decide +kernel
theorem dX8_plainly_16 : decode cX8_plainly 16 = .ok (.aload_n 0, 1) := by decide +kernel
theorem dX8_plainly_17 : decode cX8_plainly 17 = .ok (.iconst 0, 1) := by decide +kernel
theorem dX8_plainly_18 : decode cX8_plainly 18 = .ok (.putfield 253, 3) := by decide +kernel
theorem dX8_plainly_21 : decode cX8_plainly 21 = .ok (.aload_n 0, 1) := by decide +kernel
theorem dX8_plainly_22 : decode cX8_plainly 22 = .ok (.iconst (-1), 1) := by decide +kernel
theorem dX8_plainly_23 : decode cX8_plainly 23 = .ok (.putfield 100, 3) := by decide +kernel
theorem dX8_plainly_26 : decode cX8_plainly 26 = .ok (.iconst 0, 1) := by decide +kernel
theorem dX8_plainly_27 : decode cX8_plainly 27 = .ok (.istore_n 2, 1) := by decide +kernel
theorem dX8_plainly_28 : decode cX8_plainly 28 = .ok (.iload_n 2, 1) := by decide +kernel
theorem dX8_plainly_29 : decode cX8_plainly 29 = .ok (.aload_n 0, 1) := by decide +kernel
theorem dX8_plainly_30 : decode cX8_plainly 30 = .ok (.getfield 41, 3) := by decide +kernel
theorem dX8_plainly_33 : decode cX8_plainly 33 = .ok (.iload_n 1, 1) := by decide +kernel
theorem dX8_plainly_34 : decode cX8_plainly 34 = .ok (.iaload, 1) := by decide +kernel
theorem dX8_plainly_35 : decode cX8_plainly 35 = .ok (.if_icmp .ge 89, 3) := by decide +kernel
theorem dX8_plainly_38 : decode cX8_plainly 38 = .ok (.bipush 10, 2) := by decide +kernel
theorem dX8_plainly_40 : decode cX8_plainly 40 = .ok (.iload_n 1, 1) := by decide +kernel
theorem dX8_plainly_41 : decode cX8_plainly 41 = .ok (.imul, 1) := by decide +kernel
theorem dX8_plainly_42 : decode cX8_plainly 42 = .ok (.iload_n 2, 1) := by decide +kernel
theorem dX8_plainly_43 : decode cX8_plainly 43 = .ok (.iadd, 1) := by decide +kernel
theorem dX8_plainly_44 : decode cX8_plainly 44 = .ok (.istore_n 3, 1) := by decide +kernel
theorem dX8_plainly_45 : decode cX8_plainly 45 = .ok (.aload_n 0, 1) := by decide +kernel
theorem dX8_plainly_46 : decode cX8_plainly 46 = .ok (.getfield 7, 3) := by decide +kernel
theorem dX8_plainly_49 : decode cX8_plainly 49 = .ok (.aload_n 0, 1) := by decide +kernel
theorem dX8_plainly_50 : decode cX8_plainly 50 = .ok (.getfield 16, 3) := by decide +kernel
theorem dX8_plainly_53 : decode cX8_plainly 53 = .ok (.invokestatic 246, 3) := by decide +kernel
theorem dX8_plainly_56 : decode cX8_plainly 56 = .ok (.aload_n 0, 1) := by decide +kernel
theorem dX8_plainly_57 : decode cX8_plainly 57 = .ok (.dup, 1) := by decide +kernel
theorem dX8_plainly_58 : decode cX8_plainly 58 = .ok (.getfield 250, 3) := by decide +kernel
theorem dX8_plainly_61 : decode cX8_plainly 61 = .ok (.iconst 1, 1) := by decide +kernel
theorem dX8_plainly_62 : decode cX8_plainly 62 = .ok (.iadd, 1) := by decide +kernel
theorem dX8_plainly_63 : decode cX8_plainly 63 = .ok (.putfield 250, 3) := by decide +kernel
theorem dX8_plainly_66 : decode cX8_plainly 66 = .ok (.aload_n 0, 1) := by decide +kernel
theorem dX8_plainly_67 : decode cX8_plainly 67 = .ok (.iload_n 3, 1) := by decide +kernel
theorem dX8_plainly_68 : decode cX8_plainly 68 = .ok (.invokevirtual 256, 3) := by decide +kernel
theorem dX8_plainly_71 : decode cX8_plainly 71 = .ok (.ifCond .eq 16, 3) := by decide +kernel
theorem dX8_plainly_74 : decode cX8_plainly 74 = .ok (.aload_n 0, 1) := by decide +kernel
theorem dX8_plainly_75 : decode cX8_plainly 75 = .ok (.getfield 29, 3) := by decide +kernel
theorem dX8_plainly_78 : decode cX8_plainly 78 = .ok (.iload_n 3, 1) := by decide +kernel
theorem dX8_plainly_79 : decode cX8_plainly 79 = .ok (.iaload, 1) := by decide +kernel
theorem dX8_plainly_80 : decode cX8_plainly 80 = .ok (.bipush 9, 2) := by decide +kernel
theorem dX8_plainly_82 : decode cX8_plainly 82 = .ok (.if_icmp .ne 5, 3) := by decide +kernel
theorem dX8_plainly_85 : decode cX8_plainly 85 = .ok (.iconst 1, 1) := by decide +kernel
theorem dX8_plainly_86 : decode cX8_plainly 86 = .ok (.ireturn, 1) := by decide +kernel
theorem dX8_plainly_87 : decode cX8_plainly 87 = .ok (.aload_n 0, 1) := by decide +kernel
theorem dX8_plainly_88 : decode cX8_plainly 88 = .ok (.iload_n 3, 1) := by decide +kernel
theorem dX8_plainly_89 : decode cX8_plainly 89 = .ok (.invokevirtual 256, 3) := by decide +kernel
theorem dX8_plainly_92 : decode cX8_plainly 92 = .ok (.ifCond .eq 21, 3) := by decide +kernel
theorem dX8_plainly_95 : decode cX8_plainly 95 = .ok (.aload_n 0, 1) := by decide +kernel
theorem dX8_plainly_96 : decode cX8_plainly 96 = .ok (.iload_n 2, 1) := by decide +kernel
theorem dX8_plainly_97 : decode cX8_plainly 97 = .ok (.putfield 100, 3) := by decide +kernel
theorem dX8_plainly_100 : decode cX8_plainly 100 = .ok (.aload_n 0, 1) := by decide +kernel
theorem dX8_plainly_101 : decode cX8_plainly 101 = .ok (.getfield 19, 3) := by decide +kernel
theorem dX8_plainly_104 : decode cX8_plainly 104 = .ok (.aload_n 0, 1) := by decide +kernel
theorem dX8_plainly_105 : decode cX8_plainly 105 = .ok (.getfield 7, 3) := by decide +kernel
theorem dX8_plainly_108 : decode cX8_plainly 108 = .ok (.invokestatic 246, 3) := by decide +kernel
theorem dX8_plainly_111 : decode cX8_plainly 111 = .ok (.iconst 2, 1) := by decide +kernel
theorem dX8_plainly_112 : decode cX8_plainly 112 = .ok (.ireturn, 1) := by decide +kernel
theorem dX8_plainly_113 : decode cX8_plainly 113 = .ok (.aload_n 0, 1) := by decide +kernel
theorem dX8_plainly_114 : decode cX8_plainly 114 = .ok (.iload_n 3, 1) := by decide +kernel
theorem dX8_plainly_115 : decode cX8_plainly 115 = .ok (.invokevirtual 259, 3) := by decide +kernel
theorem dX8_plainly_118 : decode cX8_plainly 118 = .ok (.iinc 2 1, 3) := by decide +kernel
theorem dX8_plainly_121 : decode cX8_plainly 121 = .ok (.goto (-93), 3) := by decide +kernel
theorem dX8_plainly_124 : decode cX8_plainly 124 = .ok (.iconst 0, 1) := by decide +kernel
theorem dX8_plainly_125 : decode cX8_plainly 125 = .ok (.ireturn, 1) := by decide +kernel
set_option maxRecDepth 20000 in
theorem ggX8_byWords_X8_packs : GoodIn wsX8_byWords wsX8_packs := goodIn_r _ [15, 16, 8, 17, 18, 19, 9, 6, 20, 21, 22, 14, 23, 10, 24, 25, 26, 27, 28, 29, 30, 31, 32, 33, 34, 35, 36, 37, 38, 39, 40, 41, 42, 43, 44, 45, 46, 47, 48, 74, 75, 76, 77, 78, 79, 80, 81, 82, 83, 84, 85, 86, 87, 88, 89, 90, 91, 92, 93, 94, 95, 96, 97, 98, 99, 100, 101, 102, 103, 104, 105, 106, 107, 108, 109, 110, 111, 112, 113, 114, 115, 116, 117] rfl (by decide +kernel)
set_option maxRecDepth 20000 in
theorem gX8_byWords_X8_packs : GoodIn wsX8_byWords (wsV RX8 194 RX8 yX8_packs wsX8_packs) := goodIn_app (goodIn_of _ (by decide +kernel)) ggX8_byWords_X8_packs
set_option maxRecDepth 20000 in
theorem ggX8_byWords_X8_copies : GoodIn wsX8_byWords wsX8_copies := goodIn_r _ [51] rfl (by decide +kernel)
set_option maxRecDepth 20000 in
theorem gX8_byWords_X8_copies : GoodIn wsX8_byWords (va_wsS RX8 246 yX8_copies wsX8_copies) := goodIn_app (goodIn_of _ (by decide +kernel)) ggX8_byWords_X8_copies
set_option maxRecDepth 20000 in
theorem ggX8_byWords_X8_holds : GoodIn wsX8_byWords wsX8_holds := goodIn_r _ [55, 10, 7, 36, 37, 56, 74, 75, 76, 77, 78, 79, 80, 81, 82, 83, 84, 85, 86, 87, 88, 89, 90, 91, 92, 93, 94, 95, 96, 97, 98, 99, 100, 101, 102, 103, 104, 105, 106, 107, 108, 109, 110, 111, 112, 113, 114, 115, 116, 117] rfl (by decide +kernel)
set_option maxRecDepth 20000 in
theorem gX8_byWords_X8_holds : GoodIn wsX8_byWords (wsV RX8 256 RX8 yX8_holds wsX8_holds) := goodIn_app (goodIn_of _ (by decide +kernel)) ggX8_byWords_X8_holds
set_option maxRecDepth 20000 in
theorem ggX8_byWords_X8_does : GoodIn wsX8_byWords wsX8_does := goodIn_r _ [60, 10, 36, 7, 37, 1, 61, 62, 63, 14, 64, 28, 65, 66, 67, 68, 69, 70, 71, 72, 73, 74, 75, 76, 77, 78, 79, 80, 81, 82, 83, 84, 85, 86, 87, 88, 89, 90, 91, 92, 93, 94, 95, 96, 97, 98, 99, 100, 101, 102, 103, 104, 105, 106, 107, 108, 109, 110, 111, 112, 113, 114, 115, 116, 117] rfl (by decide +kernel)
set_option maxRecDepth 20000 in
theorem gX8_byWords_X8_does : GoodIn wsX8_byWords (wsV RX8 259 RX8 yX8_does wsX8_does) := goodIn_app (goodIn_of _ (by decide +kernel)) ggX8_byWords_X8_does
theorem dX8_byWords_0 : decode cX8_byWords 0 = .ok (.aload_n 0, 1) := by decide +kernel
theorem dX8_byWords_1 : decode cX8_byWords 1 = .ok (.iload_n 1, 1) := by decide +kernel
theorem dX8_byWords_2 : decode cX8_byWords 2 = .ok (.invokevirtual 194, 3) := by decide +kernel
theorem dX8_byWords_5 : decode cX8_byWords 5 = .ok (.aload_n 0, 1) := by decide +kernel
theorem dX8_byWords_6 : decode cX8_byWords 6 = .ok (.getfield 7, 3) := by decide +kernel
theorem dX8_byWords_9 : decode cX8_byWords 9 = .ok (.aload_n 0, 1) := by decide +kernel
theorem dX8_byWords_10 : decode cX8_byWords 10 = .ok (.getfield 19, 3) := by decide +kernel
theorem dX8_byWords_13 : decode cX8_byWords 13 = .ok (.invokestatic 246, 3) := by decide +kernel
theorem dX8_byWords_16 : decode cX8_byWords 16 = .ok (.aload_n 0, 1) := by decide +kernel
theorem dX8_byWords_17 : decode cX8_byWords 17 = .ok (.iconst 0, 1) := by decide +kernel
theorem dX8_byWords_18 : decode cX8_byWords 18 = .ok (.putfield 250, 3) := by decide +kernel
theorem dX8_byWords_21 : decode cX8_byWords 21 = .ok (.aload_n 0, 1) := by decide +kernel
theorem dX8_byWords_22 : decode cX8_byWords 22 = .ok (.iconst 0, 1) := by decide +kernel
theorem dX8_byWords_23 : decode cX8_byWords 23 = .ok (.putfield 253, 3) := by decide +kernel
theorem dX8_byWords_26 : decode cX8_byWords 26 = .ok (.aload_n 0, 1) := by decide +kernel
theorem dX8_byWords_27 : decode cX8_byWords 27 = .ok (.iconst (-1), 1) := by decide +kernel
theorem dX8_byWords_28 : decode cX8_byWords 28 = .ok (.putfield 100, 3) := by decide +kernel
theorem dX8_byWords_31 : decode cX8_byWords 31 = .ok (.iconst 0, 1) := by decide +kernel
theorem dX8_byWords_32 : decode cX8_byWords 32 = .ok (.istore_n 2, 1) := by decide +kernel
theorem dX8_byWords_33 : decode cX8_byWords 33 = .ok (.iload_n 2, 1) := by decide +kernel
theorem dX8_byWords_34 : decode cX8_byWords 34 = .ok (.aload_n 0, 1) := by decide +kernel
theorem dX8_byWords_35 : decode cX8_byWords 35 = .ok (.getfield 57, 3) := by decide +kernel
theorem dX8_byWords_38 : decode cX8_byWords 38 = .ok (.iload_n 1, 1) := by decide +kernel
theorem dX8_byWords_39 : decode cX8_byWords 39 = .ok (.iaload, 1) := by decide +kernel
theorem dX8_byWords_40 : decode cX8_byWords 40 = .ok (.if_icmp .ge 159, 3) := by decide +kernel
theorem dX8_byWords_43 : decode cX8_byWords 43 = .ok (.iconst 0, 1) := by decide +kernel
theorem dX8_byWords_44 : decode cX8_byWords 44 = .ok (.istore_n 3, 1) := by decide +kernel
theorem dX8_byWords_45 : decode cX8_byWords 45 = .ok (.aload_n 0, 1) := by decide +kernel
theorem dX8_byWords_46 : decode cX8_byWords 46 = .ok (.getfield 7, 3) := by decide +kernel
theorem dX8_byWords_49 : decode cX8_byWords 49 = .ok (.aload_n 0, 1) := by decide +kernel
theorem dX8_byWords_50 : decode cX8_byWords 50 = .ok (.getfield 16, 3) := by decide +kernel
theorem dX8_byWords_53 : decode cX8_byWords 53 = .ok (.invokestatic 246, 3) := by decide +kernel
theorem dX8_byWords_56 : decode cX8_byWords 56 = .ok (.aload_n 0, 1) := by decide +kernel
theorem dX8_byWords_57 : decode cX8_byWords 57 = .ok (.dup, 1) := by decide +kernel
theorem dX8_byWords_58 : decode cX8_byWords 58 = .ok (.getfield 253, 3) := by decide +kernel
theorem dX8_byWords_61 : decode cX8_byWords 61 = .ok (.iconst 1, 1) := by decide +kernel
theorem dX8_byWords_62 : decode cX8_byWords 62 = .ok (.iadd, 1) := by decide +kernel
theorem dX8_byWords_63 : decode cX8_byWords 63 = .ok (.putfield 253, 3) := by decide +kernel
theorem dX8_byWords_66 : decode cX8_byWords 66 = .ok (.iconst 0, 1) := by decide +kernel
theorem dX8_byWords_67 : decode cX8_byWords 67 = .ok (.istore 4, 2) := by decide +kernel
theorem dX8_byWords_69 : decode cX8_byWords 69 = .ok (.iload 4, 2) := by decide +kernel
theorem dX8_byWords_71 : decode cX8_byWords 71 = .ok (.aload_n 0, 1) := by decide +kernel
theorem dX8_byWords_72 : decode cX8_byWords 72 = .ok (.getfield 41, 3) := by decide +kernel
theorem dX8_byWords_75 : decode cX8_byWords 75 = .ok (.iload_n 1, 1) := by decide +kernel
theorem dX8_byWords_76 : decode cX8_byWords 76 = .ok (.iaload, 1) := by decide +kernel
theorem dX8_byWords_77 : decode cX8_byWords 77 = .ok (.if_icmp .ge 90, 3) := by decide +kernel
theorem dX8_byWords_80 : decode cX8_byWords 80 = .ok (.bipush 10, 2) := by decide +kernel
theorem dX8_byWords_82 : decode cX8_byWords 82 = .ok (.iload_n 1, 1) := by decide +kernel
theorem dX8_byWords_83 : decode cX8_byWords 83 = .ok (.imul, 1) := by decide +kernel
theorem dX8_byWords_84 : decode cX8_byWords 84 = .ok (.iload 4, 2) := by decide +kernel
theorem dX8_byWords_86 : decode cX8_byWords 86 = .ok (.iadd, 1) := by decide +kernel
theorem dX8_byWords_87 : decode cX8_byWords 87 = .ok (.istore 5, 2) := by decide +kernel
theorem dX8_byWords_89 : decode cX8_byWords 89 = .ok (.aload_n 0, 1) := by decide +kernel
theorem dX8_byWords_90 : decode cX8_byWords 90 = .ok (.getfield 54, 3) := by decide +kernel
theorem dX8_byWords_93 : decode cX8_byWords 93 = .ok (.iload 5, 2) := by decide +kernel
theorem dX8_byWords_95 : decode cX8_byWords 95 = .ok (.iaload, 1) := by decide +kernel
theorem dX8_byWords_96 : decode cX8_byWords 96 = .ok (.iload_n 2, 1) := by decide +kernel
theorem dX8_byWords_97 : decode cX8_byWords 97 = .ok (.if_icmp .eq 6, 3) := by decide +kernel
theorem dX8_byWords_100 : decode cX8_byWords 100 = .ok (.goto 61, 3) := by decide +kernel
theorem dX8_byWords_103 : decode cX8_byWords 103 = .ok (.aload_n 0, 1) := by decide +kernel
theorem dX8_byWords_104 : decode cX8_byWords 104 = .ok (.dup, 1) := by decide +kernel
theorem dX8_byWords_105 : decode cX8_byWords 105 = .ok (.getfield 250, 3) := by decide +kernel
theorem dX8_byWords_108 : decode cX8_byWords 108 = .ok (.iconst 1, 1) := by decide +kernel
theorem dX8_byWords_109 : decode cX8_byWords 109 = .ok (.iadd, 1) := by decide +kernel
theorem dX8_byWords_110 : decode cX8_byWords 110 = .ok (.putfield 250, 3) := by decide +kernel
theorem dX8_byWords_113 : decode cX8_byWords 113 = .ok (.aload_n 0, 1) := by decide +kernel
theorem dX8_byWords_114 : decode cX8_byWords 114 = .ok (.iload 5, 2) := by decide +kernel
theorem dX8_byWords_116 : decode cX8_byWords 116 = .ok (.invokevirtual 256, 3) := by decide +kernel
theorem dX8_byWords_119 : decode cX8_byWords 119 = .ok (.ifCond .ne 12, 3) := by decide +kernel
theorem dX8_byWords_122 : decode cX8_byWords 122 = .ok (.aload_n 0, 1) := by decide +kernel
theorem dX8_byWords_123 : decode cX8_byWords 123 = .ok (.iload 5, 2) := by decide +kernel
theorem dX8_byWords_125 : decode cX8_byWords 125 = .ok (.invokevirtual 259, 3) := by decide +kernel
theorem dX8_byWords_128 : decode cX8_byWords 128 = .ok (.goto 33, 3) := by decide +kernel
theorem dX8_byWords_131 : decode cX8_byWords 131 = .ok (.aload_n 0, 1) := by decide +kernel
theorem dX8_byWords_132 : decode cX8_byWords 132 = .ok (.getfield 29, 3) := by decide +kernel
theorem dX8_byWords_135 : decode cX8_byWords 135 = .ok (.iload 5, 2) := by decide +kernel
theorem dX8_byWords_137 : decode cX8_byWords 137 = .ok (.iaload, 1) := by decide +kernel
theorem dX8_byWords_138 : decode cX8_byWords 138 = .ok (.bipush 9, 2) := by decide +kernel
theorem dX8_byWords_140 : decode cX8_byWords 140 = .ok (.if_icmp .ne 8, 3) := by decide +kernel
theorem dX8_byWords_143 : decode cX8_byWords 143 = .ok (.iconst 1, 1) := by decide +kernel
theorem dX8_byWords_144 : decode cX8_byWords 144 = .ok (.istore_n 3, 1) := by decide +kernel
theorem dX8_byWords_145 : decode cX8_byWords 145 = .ok (.goto 16, 3) := by decide +kernel
theorem dX8_byWords_148 : decode cX8_byWords 148 = .ok (.aload_n 0, 1) := by decide +kernel
theorem dX8_byWords_149 : decode cX8_byWords 149 = .ok (.getfield 100, 3) := by decide +kernel
theorem dX8_byWords_152 : decode cX8_byWords 152 = .ok (.ifCond .ge 9, 3) := by decide +kernel
theorem dX8_byWords_155 : decode cX8_byWords 155 = .ok (.aload_n 0, 1) := by decide +kernel
theorem dX8_byWords_156 : decode cX8_byWords 156 = .ok (.iload 4, 2) := by decide +kernel
theorem dX8_byWords_158 : decode cX8_byWords 158 = .ok (.putfield 100, 3) := by decide +kernel
theorem dX8_byWords_161 : decode cX8_byWords 161 = .ok (.iinc 4 1, 3) := by decide +kernel
theorem dX8_byWords_164 : decode cX8_byWords 164 = .ok (.goto (-95), 3) := by decide +kernel
theorem dX8_byWords_167 : decode cX8_byWords 167 = .ok (.aload_n 0, 1) := by decide +kernel
theorem dX8_byWords_168 : decode cX8_byWords 168 = .ok (.getfield 100, 3) := by decide +kernel
theorem dX8_byWords_171 : decode cX8_byWords 171 = .ok (.ifCond .lt 16, 3) := by decide +kernel
theorem dX8_byWords_174 : decode cX8_byWords 174 = .ok (.aload_n 0, 1) := by decide +kernel
theorem dX8_byWords_175 : decode cX8_byWords 175 = .ok (.getfield 19, 3) := by decide +kernel
theorem dX8_byWords_178 : decode cX8_byWords 178 = .ok (.aload_n 0, 1) := by decide +kernel
theorem dX8_byWords_179 : decode cX8_byWords 179 = .ok (.getfield 7, 3) := by decide +kernel
theorem dX8_byWords_182 : decode cX8_byWords 182 = .ok (.invokestatic 246, 3) := by decide +kernel
theorem dX8_byWords_185 : decode cX8_byWords 185 = .ok (.iconst 2, 1) := by decide +kernel
theorem dX8_byWords_186 : decode cX8_byWords 186 = .ok (.ireturn, 1) := by decide +kernel
theorem dX8_byWords_187 : decode cX8_byWords 187 = .ok (.iload_n 3, 1) := by decide +kernel
theorem dX8_byWords_188 : decode cX8_byWords 188 = .ok (.ifCond .eq 5, 3) := by decide +kernel
theorem dX8_byWords_191 : decode cX8_byWords 191 = .ok (.iconst 1, 1) := by decide +kernel
theorem dX8_byWords_192 : decode cX8_byWords 192 = .ok (.ireturn, 1) := by decide +kernel
theorem dX8_byWords_193 : decode cX8_byWords 193 = .ok (.iinc 2 1, 3) := by decide +kernel
theorem dX8_byWords_196 : decode cX8_byWords 196 = .ok (.goto (-163), 3) := by decide +kernel
theorem dX8_byWords_199 : decode cX8_byWords 199 = .ok (.iconst 0, 1) := by decide +kernel
theorem dX8_byWords_200 : decode cX8_byWords 200 = .ok (.ireturn, 1) := by decide +kernel
set_option maxRecDepth 20000 in
theorem ggX8_run_X8_isInstruction : GoodIn wsX8_run wsX8_isInstruction := goodIn_r _ [4] rfl (by decide +kernel)
set_option maxRecDepth 20000 in
theorem gX8_run_X8_isInstruction : GoodIn wsX8_run (va_wsS RX8 157 yX8_isInstruction wsX8_isInstruction) := goodIn_app (goodIn_of _ (by decide +kernel)) ggX8_run_X8_isInstruction
set_option maxRecDepth 20000 in
theorem ggX8_run_X8_no : GoodIn wsX8_run wsX8_no := goodIn_r _ [8, 9, 90, 91, 92, 93, 94, 95, 96, 97, 98, 99, 100, 101, 102, 103, 104, 105, 106, 107, 108, 109, 110, 111, 112, 113, 114, 115, 116, 117, 118, 119, 120, 121, 122, 123, 124, 125, 126, 127, 128, 129, 130, 131, 132, 133] rfl (by decide +kernel)
set_option maxRecDepth 20000 in
theorem gX8_run_X8_no : GoodIn wsX8_run (wsV RX8 122 RX8 yX8_no wsX8_no) := goodIn_app (goodIn_of _ (by decide +kernel)) ggX8_run_X8_no
set_option maxRecDepth 20000 in
theorem ggX8_run_X8_byWords : GoodIn wsX8_run wsX8_byWords := goodIn_r _ [13, 14, 15, 16, 17, 18, 19, 20, 21, 22, 23, 24, 25, 26, 3, 27, 28, 29, 30, 31, 32, 33, 34, 35, 36, 37, 38, 39, 40, 41, 42, 43, 44, 45, 46, 47, 48, 49, 50, 51, 52, 53, 54, 55, 56, 57, 58, 59, 60, 61, 62, 63, 64, 65, 66, 67, 68, 69, 70, 71, 72, 73, 74, 75, 76, 77, 78, 79, 80, 81, 82, 83, 84, 85, 90, 91, 92, 93, 94, 95, 96, 97, 98, 99, 100, 101, 102, 103, 104, 105, 106, 107, 108, 109, 110, 111, 112, 113, 114, 115, 116, 117, 118, 119, 120, 121, 122, 123, 124, 125, 126, 127, 128, 129, 130, 131, 132, 133] rfl (by decide +kernel)
set_option maxRecDepth 20000 in
theorem gX8_run_X8_byWords : GoodIn wsX8_run (wsV RX8 262 RX8 yX8_byWords wsX8_byWords) := goodIn_app (goodIn_of _ (by decide +kernel)) ggX8_run_X8_byWords
set_option maxRecDepth 20000 in
theorem ggX8_run_X8_plainly : GoodIn wsX8_run wsX8_plainly := goodIn_r _ [89, 14, 15, 16, 17, 18, 21, 20, 23, 61, 62, 3, 63, 64, 65, 66, 67, 48, 49, 68, 69, 70, 71, 72, 73, 74, 75, 76, 40, 77, 78, 79, 80, 81, 82, 83, 84, 85, 90, 91, 92, 93, 94, 95, 96, 97, 98, 99, 100, 101, 102, 103, 104, 105, 106, 107, 108, 109, 110, 111, 112, 113, 114, 115, 116, 117, 118, 119, 120, 121, 122, 123, 124, 125, 126, 127, 128, 129, 130, 131, 132, 133] rfl (by decide +kernel)
set_option maxRecDepth 20000 in
theorem gX8_run_X8_plainly : GoodIn wsX8_run (wsV RX8 265 RX8 yX8_plainly wsX8_plainly) := goodIn_app (goodIn_of _ (by decide +kernel)) ggX8_run_X8_plainly
theorem dX8_run_0 : decode cX8_run 0 = .ok (.iload_n 1, 1) := by decide +kernel
theorem dX8_run_1 : decode cX8_run 1 = .ok (.invokestatic 157, 3) := by decide +kernel
theorem dX8_run_4 : decode cX8_run 4 = .ok (.ifCond .ne 10, 3) := by decide +kernel
theorem dX8_run_7 : decode cX8_run 7 = .ok (.aload_n 0, 1) := by decide +kernel
theorem dX8_run_8 : decode cX8_run 8 = .ok (.bipush (-3), 2) := by decide +kernel
theorem dX8_run_10 : decode cX8_run 10 = .ok (.invokevirtual 122, 3) := by decide +kernel
theorem dX8_run_13 : decode cX8_run 13 = .ok (.ireturn, 1) := by decide +kernel
theorem dX8_run_14 : decode cX8_run 14 = .ok (.iload_n 2, 1) := by decide +kernel
theorem dX8_run_15 : decode cX8_run 15 = .ok (.ifCond .eq 11, 3) := by decide +kernel
theorem dX8_run_18 : decode cX8_run 18 = .ok (.aload_n 0, 1) := by decide +kernel
theorem dX8_run_19 : decode cX8_run 19 = .ok (.iload_n 1, 1) := by decide +kernel
theorem dX8_run_20 : decode cX8_run 20 = .ok (.invokevirtual 262, 3) := by decide +kernel
theorem dX8_run_23 : decode cX8_run 23 = .ok (.goto 8, 3) := by decide +kernel
theorem dX8_run_26 : decode cX8_run 26 = .ok (.aload_n 0, 1) := by decide +kernel
theorem dX8_run_27 : decode cX8_run 27 = .ok (.iload_n 1, 1) := by decide +kernel
theorem dX8_run_28 : decode cX8_run 28 = .ok (.invokevirtual 265, 3) := by decide +kernel
theorem dX8_run_31 : decode cX8_run 31 = .ok (.ireturn, 1) := by decide +kernel
set_option maxRecDepth 20000 in
theorem ggX8_told_X8_isIn : GoodIn wsX8_told wsX8_isIn := goodIn_r _ [8] rfl (by decide +kernel)
set_option maxRecDepth 20000 in
theorem gX8_told_X8_isIn : GoodIn wsX8_told (va_wsS RX8 128 yX8_isIn wsX8_isIn) := goodIn_app (goodIn_of _ (by decide +kernel)) ggX8_told_X8_isIn
set_option maxRecDepth 20000 in
theorem ggX8_told_X8_no : GoodIn wsX8_told wsX8_no := goodIn_r _ [12, 13, 14, 15, 16, 17, 18, 19, 20, 21, 22, 23, 24, 25, 26, 27, 28, 29, 30, 31, 32, 33, 34, 35, 36, 37, 38, 39, 40, 41, 42, 43, 44, 45, 46, 47, 48, 49, 50, 51, 52, 53, 54, 55, 56, 57] rfl (by decide +kernel)
set_option maxRecDepth 20000 in
theorem gX8_told_X8_no : GoodIn wsX8_told (wsV RX8 122 RX8 yX8_no wsX8_no) := goodIn_app (goodIn_of _ (by decide +kernel)) ggX8_told_X8_no
theorem dX8_told_0 : decode cX8_told 0 = .ok (.iload_n 1, 1) := by decide +kernel
theorem dX8_told_1 : decode cX8_told 1 = .ok (.i2l, 1) := by decide +kernel
theorem dX8_told_2 : decode cX8_told 2 = .ok (.lconst 0, 1) := by decide +kernel
theorem dX8_told_3 : decode cX8_told 3 = .ok (.ldc2_w 141, 3) := by decide +kernel
theorem dX8_told_6 : decode cX8_told 6 = .ok (.invokestatic 128, 3) := by decide +kernel
theorem dX8_told_9 : decode cX8_told 9 = .ok (.ifCond .ne 10, 3) := by decide +kernel
theorem dX8_told_12 : decode cX8_told 12 = .ok (.aload_n 0, 1) := by decide +kernel
theorem dX8_told_13 : decode cX8_told 13 = .ok (.bipush (-6), 2) := by decide +kernel
theorem dX8_told_15 : decode cX8_told 15 = .ok (.invokevirtual 122, 3) := by decide +kernel
theorem dX8_told_18 : decode cX8_told 18 = .ok (.ireturn, 1) := by decide +kernel
theorem dX8_told_19 : decode cX8_told 19 = .ok (.iload_n 1, 1) := by decide +kernel
theorem dX8_told_20 : decode cX8_told 20 = .ok (.ifCond .ne 10, 3) := by decide +kernel
theorem dX8_told_23 : decode cX8_told 23 = .ok (.aload_n 0, 1) := by decide +kernel
theorem dX8_told_24 : decode cX8_told 24 = .ok (.getfield 250, 3) := by decide +kernel
theorem dX8_told_27 : decode cX8_told 27 = .ok (.goto 19, 3) := by decide +kernel
theorem dX8_told_30 : decode cX8_told 30 = .ok (.iload_n 1, 1) := by decide +kernel
theorem dX8_told_31 : decode cX8_told 31 = .ok (.iconst 1, 1) := by decide +kernel
theorem dX8_told_32 : decode cX8_told 32 = .ok (.if_icmp .ne 10, 3) := by decide +kernel
theorem dX8_told_35 : decode cX8_told 35 = .ok (.aload_n 0, 1) := by decide +kernel
theorem dX8_told_36 : decode cX8_told 36 = .ok (.getfield 253, 3) := by decide +kernel
theorem dX8_told_39 : decode cX8_told 39 = .ok (.goto 7, 3) := by decide +kernel
theorem dX8_told_42 : decode cX8_told 42 = .ok (.aload_n 0, 1) := by decide +kernel
theorem dX8_told_43 : decode cX8_told 43 = .ok (.getfield 100, 3) := by decide +kernel
theorem dX8_told_46 : decode cX8_told 46 = .ok (.ireturn, 1) := by decide +kernel
set_option maxRecDepth 20000 in
theorem ggX8_beside_X8_isInstruction : GoodIn wsX8_beside wsX8_isInstruction := goodIn_r _ [10] rfl (by decide +kernel)
set_option maxRecDepth 20000 in
theorem gX8_beside_X8_isInstruction : GoodIn wsX8_beside (va_wsS RX8 157 yX8_isInstruction wsX8_isInstruction) := goodIn_app (goodIn_of _ (by decide +kernel)) ggX8_beside_X8_isInstruction
set_option maxRecDepth 20000 in
theorem ggX8_beside_X8_no : GoodIn wsX8_beside wsX8_no := goodIn_r _ [14, 15, 92, 93, 94, 95, 96, 97, 98, 99, 100, 101, 102, 103, 104, 105, 106, 107, 108, 109, 110, 111, 112, 113, 114, 115, 116, 117, 118, 119, 120, 121, 122, 123, 124, 125, 126, 127, 128, 129, 130, 131, 132, 133, 134, 135] rfl (by decide +kernel)
set_option maxRecDepth 20000 in
theorem gX8_beside_X8_no : GoodIn wsX8_beside (wsV RX8 122 RX8 yX8_no wsX8_no) := goodIn_app (goodIn_of _ (by decide +kernel)) ggX8_beside_X8_no
set_option maxRecDepth 20000 in
theorem ggX8_beside_X8_copies : GoodIn wsX8_beside wsX8_copies := goodIn_r _ [18] rfl (by decide +kernel)
set_option maxRecDepth 20000 in
theorem gX8_beside_X8_copies : GoodIn wsX8_beside (va_wsS RX8 246 yX8_copies wsX8_copies) := goodIn_app (goodIn_of _ (by decide +kernel)) ggX8_beside_X8_copies
set_option maxRecDepth 20000 in
theorem ggX8_beside_X8_plainly : GoodIn wsX8_beside wsX8_plainly := goodIn_r _ [22, 4, 23, 1, 2, 3, 24, 25, 26, 16, 17, 9, 18, 27, 28, 29, 30, 31, 32, 33, 34, 35, 36, 37, 38, 39, 40, 41, 42, 43, 44, 45, 46, 47, 48, 49, 50, 51, 92, 93, 94, 95, 96, 97, 98, 99, 100, 101, 102, 103, 104, 105, 106, 107, 108, 109, 110, 111, 112, 113, 114, 115, 116, 117, 118, 119, 120, 121, 122, 123, 124, 125, 126, 127, 128, 129, 130, 131, 132, 133, 134, 135] rfl (by decide +kernel)
set_option maxRecDepth 20000 in
theorem gX8_beside_X8_plainly : GoodIn wsX8_beside (wsV RX8 265 RX8 yX8_plainly wsX8_plainly) := goodIn_app (goodIn_of _ (by decide +kernel)) ggX8_beside_X8_plainly
set_option maxRecDepth 20000 in
theorem ggX8_beside_X8_byWords : GoodIn wsX8_beside wsX8_byWords := goodIn_r _ [55, 4, 23, 1, 2, 3, 56, 25, 24, 57, 26, 58, 59, 60, 9, 61, 62, 63, 64, 65, 66, 67, 68, 69, 70, 71, 72, 73, 42, 74, 75, 76, 77, 78, 79, 80, 31, 32, 81, 82, 83, 84, 85, 86, 87, 88, 89, 90, 91, 16, 17, 18, 27, 28, 29, 30, 33, 34, 35, 36, 37, 38, 39, 40, 41, 43, 44, 45, 46, 47, 48, 49, 50, 51, 92, 93, 94, 95, 96, 97, 98, 99, 100, 101, 102, 103, 104, 105, 106, 107, 108, 109, 110, 111, 112, 113, 114, 115, 116, 117, 118, 119, 120, 121, 122, 123, 124, 125, 126, 127, 128, 129, 130, 131, 132, 133, 134, 135] rfl (by decide +kernel)
set_option maxRecDepth 20000 in
theorem gX8_beside_X8_byWords : GoodIn wsX8_beside (wsV RX8 262 RX8 yX8_byWords wsX8_byWords) := goodIn_app (goodIn_of _ (by decide +kernel)) ggX8_beside_X8_byWords
theorem dX8_beside_0 : decode cX8_beside 0 = .ok (.iload_n 1, 1) := by decide +kernel
theorem dX8_beside_1 : decode cX8_beside 1 = .ok (.invokestatic 157, 3) := by decide +kernel
theorem dX8_beside_4 : decode cX8_beside 4 = .ok (.ifCond .ne 10, 3) := by decide +kernel
theorem dX8_beside_7 : decode cX8_beside 7 = .ok (.aload_n 0, 1) := by decide +kernel
theorem dX8_beside_8 : decode cX8_beside 8 = .ok (.bipush (-3), 2) := by decide +kernel
theorem dX8_beside_10 : decode cX8_beside 10 = .ok (.invokevirtual 122, 3) := by decide +kernel
theorem dX8_beside_13 : decode cX8_beside 13 = .ok (.ireturn, 1) := by decide +kernel
theorem dX8_beside_14 : decode cX8_beside 14 = .ok (.aload_n 0, 1) := by decide +kernel
theorem dX8_beside_15 : decode cX8_beside 15 = .ok (.getfield 250, 3) := by decide +kernel
theorem dX8_beside_18 : decode cX8_beside 18 = .ok (.istore_n 2, 1) := by decide +kernel
theorem dX8_beside_19 : decode cX8_beside 19 = .ok (.aload_n 0, 1) := by decide +kernel
theorem dX8_beside_20 : decode cX8_beside 20 = .ok (.getfield 253, 3) := by decide +kernel
theorem dX8_beside_23 : decode cX8_beside 23 = .ok (.istore_n 3, 1) := by decide +kernel
theorem dX8_beside_24 : decode cX8_beside 24 = .ok (.aload_n 0, 1) := by decide +kernel
theorem dX8_beside_25 : decode cX8_beside 25 = .ok (.getfield 100, 3) := by decide +kernel
theorem dX8_beside_28 : decode cX8_beside 28 = .ok (.istore 4, 2) := by decide +kernel
theorem dX8_beside_30 : decode cX8_beside 30 = .ok (.aload_n 0, 1) := by decide +kernel
theorem dX8_beside_31 : decode cX8_beside 31 = .ok (.getfield 7, 3) := by decide +kernel
theorem dX8_beside_34 : decode cX8_beside 34 = .ok (.aload_n 0, 1) := by decide +kernel
theorem dX8_beside_35 : decode cX8_beside 35 = .ok (.getfield 103, 3) := by decide +kernel
theorem dX8_beside_38 : decode cX8_beside 38 = .ok (.invokestatic 246, 3) := by decide +kernel
theorem dX8_beside_41 : decode cX8_beside 41 = .ok (.aload_n 0, 1) := by decide +kernel
theorem dX8_beside_42 : decode cX8_beside 42 = .ok (.iload_n 1, 1) := by decide +kernel
theorem dX8_beside_43 : decode cX8_beside 43 = .ok (.invokevirtual 265, 3) := by decide +kernel
theorem dX8_beside_46 : decode cX8_beside 46 = .ok (.istore 5, 2) := by decide +kernel
theorem dX8_beside_48 : decode cX8_beside 48 = .ok (.aload_n 0, 1) := by decide +kernel
theorem dX8_beside_49 : decode cX8_beside 49 = .ok (.getfield 7, 3) := by decide +kernel
theorem dX8_beside_52 : decode cX8_beside 52 = .ok (.aload_n 0, 1) := by decide +kernel
theorem dX8_beside_53 : decode cX8_beside 53 = .ok (.getfield 22, 3) := by decide +kernel
theorem dX8_beside_56 : decode cX8_beside 56 = .ok (.invokestatic 246, 3) := by decide +kernel
theorem dX8_beside_59 : decode cX8_beside 59 = .ok (.aload_n 0, 1) := by decide +kernel
theorem dX8_beside_60 : decode cX8_beside 60 = .ok (.getfield 103, 3) := by decide +kernel
theorem dX8_beside_63 : decode cX8_beside 63 = .ok (.aload_n 0, 1) := by decide +kernel
theorem dX8_beside_64 : decode cX8_beside 64 = .ok (.getfield 7, 3) := by decide +kernel
theorem dX8_beside_67 : decode cX8_beside 67 = .ok (.invokestatic 246, 3) := by decide +kernel
theorem dX8_beside_70 : decode cX8_beside 70 = .ok (.aload_n 0, 1) := by decide +kernel
theorem dX8_beside_71 : decode cX8_beside 71 = .ok (.iload_n 1, 1) := by decide +kernel
theorem dX8_beside_72 : decode cX8_beside 72 = .ok (.invokevirtual 262, 3) := by decide +kernel
theorem dX8_beside_75 : decode cX8_beside 75 = .ok (.iload 5, 2) := by decide +kernel
theorem dX8_beside_77 : decode cX8_beside 77 = .ok (.if_icmp .ne 7, 3) := by decide +kernel
theorem dX8_beside_80 : decode cX8_beside 80 = .ok (.iconst 1, 1) := by decide +kernel
theorem dX8_beside_81 : decode cX8_beside 81 = .ok (.goto 4, 3) := by decide +kernel
theorem dX8_beside_84 : decode cX8_beside 84 = .ok (.iconst 0, 1) := by decide +kernel
theorem dX8_beside_85 : decode cX8_beside 85 = .ok (.istore 6, 2) := by decide +kernel
theorem dX8_beside_87 : decode cX8_beside 87 = .ok (.iconst 0, 1) := by decide +kernel
theorem dX8_beside_88 : decode cX8_beside 88 = .ok (.istore 7, 2) := by decide +kernel
theorem dX8_beside_90 : decode cX8_beside 90 = .ok (.iload 7, 2) := by decide +kernel
theorem dX8_beside_92 : decode cX8_beside 92 = .ok (.bipush 74, 2) := by decide +kernel
theorem dX8_beside_94 : decode cX8_beside 94 = .ok (.if_icmp .ge 39, 3) := by decide +kernel
theorem dX8_beside_97 : decode cX8_beside 97 = .ok (.iload 6, 2) := by decide +kernel
theorem dX8_beside_99 : decode cX8_beside 99 = .ok (.ifCond .eq 25, 3) := by decide +kernel
theorem dX8_beside_102 : decode cX8_beside 102 = .ok (.aload_n 0, 1) := by decide +kernel
theorem dX8_beside_103 : decode cX8_beside 103 = .ok (.getfield 7, 3) := by decide +kernel
theorem dX8_beside_106 : decode cX8_beside 106 = .ok (.iload 7, 2) := by decide +kernel
theorem dX8_beside_108 : decode cX8_beside 108 = .ok (.laload, 1) := by decide +kernel
theorem dX8_beside_109 : decode cX8_beside 109 = .ok (.aload_n 0, 1) := by decide +kernel
theorem dX8_beside_110 : decode cX8_beside 110 = .ok (.getfield 22, 3) := by decide +kernel
theorem dX8_beside_113 : decode cX8_beside 113 = .ok (.iload 7, 2) := by decide +kernel
theorem dX8_beside_115 : decode cX8_beside 115 = .ok (.laload, 1) := by decide +kernel
theorem dX8_beside_116 : decode cX8_beside 116 = .ok (.lcmp, 1) := by decide +kernel
theorem dX8_beside_117 : decode cX8_beside 117 = .ok (.ifCond .ne 7, 3) := by decide +kernel
theorem dX8_beside_120 : decode cX8_beside 120 = .ok (.iconst 1, 1) := by decide +kernel
theorem dX8_beside_121 : decode cX8_beside 121 = .ok (.goto 4, 3) := by decide +kernel
theorem dX8_beside_124 : decode cX8_beside 124 = .ok (.iconst 0, 1) := by decide +kernel
theorem dX8_beside_125 : decode cX8_beside 125 = .ok (.istore 6, 2) := by decide +kernel
theorem dX8_beside_127 : decode cX8_beside 127 = .ok (.iinc 7 1, 3) := by decide +kernel
theorem dX8_beside_130 : decode cX8_beside 130 = .ok (.goto (-40), 3) := by decide +kernel
theorem dX8_beside_133 : decode cX8_beside 133 = .ok (.aload_n 0, 1) := by decide +kernel
theorem dX8_beside_134 : decode cX8_beside 134 = .ok (.getfield 103, 3) := by decide +kernel
theorem dX8_beside_137 : decode cX8_beside 137 = .ok (.aload_n 0, 1) := by decide +kernel
theorem dX8_beside_138 : decode cX8_beside 138 = .ok (.getfield 7, 3) := by decide +kernel
theorem dX8_beside_141 : decode cX8_beside 141 = .ok (.invokestatic 246, 3) := by decide +kernel
theorem dX8_beside_144 : decode cX8_beside 144 = .ok (.aload_n 0, 1) := by decide +kernel
theorem dX8_beside_145 : decode cX8_beside 145 = .ok (.iload_n 2, 1) := by decide +kernel
theorem dX8_beside_146 : decode cX8_beside 146 = .ok (.putfield 250, 3) := by decide +kernel
theorem dX8_beside_149 : decode cX8_beside 149 = .ok (.aload_n 0, 1) := by decide +kernel
theorem dX8_beside_150 : decode cX8_beside 150 = .ok (.iload_n 3, 1) := by decide +kernel
theorem dX8_beside_151 : decode cX8_beside 151 = .ok (.putfield 253, 3) := by decide +kernel
theorem dX8_beside_154 : decode cX8_beside 154 = .ok (.aload_n 0, 1) := by decide +kernel
theorem dX8_beside_155 : decode cX8_beside 155 = .ok (.iload 4, 2) := by decide +kernel
theorem dX8_beside_157 : decode cX8_beside 157 = .ok (.putfield 100, 3) := by decide +kernel
theorem dX8_beside_160 : decode cX8_beside 160 = .ok (.iload 6, 2) := by decide +kernel
theorem dX8_beside_162 : decode cX8_beside 162 = .ok (.ifCond .eq 7, 3) := by decide +kernel
theorem dX8_beside_165 : decode cX8_beside 165 = .ok (.iconst 0, 1) := by decide +kernel
theorem dX8_beside_166 : decode cX8_beside 166 = .ok (.goto 4, 3) := by decide +kernel
theorem dX8_beside_169 : decode cX8_beside 169 = .ok (.iconst 1, 1) := by decide +kernel
theorem dX8_beside_170 : decode cX8_beside 170 = .ok (.ireturn, 1) := by decide +kernel
set_option maxRecDepth 20000 in
theorem ggX8_code_X8_isIn : GoodIn wsX8_code wsX8_isIn := goodIn_r _ [6] rfl (by decide +kernel)
set_option maxRecDepth 20000 in
theorem gX8_code_X8_isIn : GoodIn wsX8_code (va_wsS RX8 128 yX8_isIn wsX8_isIn) := goodIn_app (goodIn_of _ (by decide +kernel)) ggX8_code_X8_isIn
set_option maxRecDepth 20000 in
theorem ggX8_code_X8_isInstruction : GoodIn wsX8_code wsX8_isInstruction := goodIn_r _ [9] rfl (by decide +kernel)
set_option maxRecDepth 20000 in
theorem gX8_code_X8_isInstruction : GoodIn wsX8_code (va_wsS RX8 157 yX8_isInstruction wsX8_isInstruction) := goodIn_app (goodIn_of _ (by decide +kernel)) ggX8_code_X8_isInstruction
set_option maxRecDepth 20000 in
theorem ggX8_code_X8_no : GoodIn wsX8_code wsX8_no := goodIn_r _ [13, 14, 15, 16, 17, 18, 19, 20, 21, 22, 23, 24, 25, 26, 27, 28, 29, 30, 31, 32, 33, 34, 35, 36, 37, 38, 39, 40, 41, 42, 43, 44, 45, 46, 47, 48, 49, 50, 51, 52, 53, 54, 55, 56, 57, 58] rfl (by decide +kernel)
set_option maxRecDepth 20000 in
theorem gX8_code_X8_no : GoodIn wsX8_code (wsV RX8 122 RX8 yX8_no wsX8_no) := goodIn_app (goodIn_of _ (by decide +kernel)) ggX8_code_X8_no
theorem dX8_code_0 : decode cX8_code 0 = .ok (.iload_n 1, 1) := by decide +kernel
theorem dX8_code_1 : decode cX8_code 1 = .ok (.i2l, 1) := by decide +kernel
theorem dX8_code_2 : decode cX8_code 2 = .ok (.lconst 0, 1) := by decide +kernel
theorem dX8_code_3 : decode cX8_code 3 = .ok (.ldc2_w 268, 3) := by decide +kernel
theorem dX8_code_6 : decode cX8_code 6 = .ok (.invokestatic 128, 3) := by decide +kernel
theorem dX8_code_9 : decode cX8_code 9 = .ok (.ifCond .eq 15, 3) := by decide +kernel
theorem dX8_code_12 : decode cX8_code 12 = .ok (.iload_n 2, 1) := by decide +kernel
theorem dX8_code_13 : decode cX8_code 13 = .ok (.iconst (-1), 1) := by decide +kernel
theorem dX8_code_14 : decode cX8_code 14 = .ok (.if_icmp .eq 17, 3) := by decide +kernel
theorem dX8_code_17 : decode cX8_code 17 = .ok (.iload_n 2, 1) := by decide +kernel
theorem dX8_code_18 : decode cX8_code 18 = .ok (.invokestatic 157, 3) := by decide +kernel
theorem dX8_code_21 : decode cX8_code 21 = .ok (.ifCond .ne 10, 3) := by decide +kernel
theorem dX8_code_24 : decode cX8_code 24 = .ok (.aload_n 0, 1) := by decide +kernel
theorem dX8_code_25 : decode cX8_code 25 = .ok (.bipush (-3), 2) := by decide +kernel
theorem dX8_code_27 : decode cX8_code 27 = .ok (.invokevirtual 122, 3) := by decide +kernel
theorem dX8_code_30 : decode cX8_code 30 = .ok (.ireturn, 1) := by decide +kernel
theorem dX8_code_31 : decode cX8_code 31 = .ok (.aload_n 0, 1) := by decide +kernel
theorem dX8_code_32 : decode cX8_code 32 = .ok (.getfield 106, 3) := by decide +kernel
theorem dX8_code_35 : decode cX8_code 35 = .ok (.iload_n 1, 1) := by decide +kernel
theorem dX8_code_36 : decode cX8_code 36 = .ok (.iaload, 1) := by decide +kernel
theorem dX8_code_37 : decode cX8_code 37 = .ok (.istore_n 3, 1) := by decide +kernel
theorem dX8_code_38 : decode cX8_code 38 = .ok (.aload_n 0, 1) := by decide +kernel
theorem dX8_code_39 : decode cX8_code 39 = .ok (.getfield 106, 3) := by decide +kernel
theorem dX8_code_42 : decode cX8_code 42 = .ok (.iload_n 1, 1) := by decide +kernel
theorem dX8_code_43 : decode cX8_code 43 = .ok (.iload_n 2, 1) := by decide +kernel
theorem dX8_code_44 : decode cX8_code 44 = .ok (.iastore, 1) := by decide +kernel
theorem dX8_code_45 : decode cX8_code 45 = .ok (.iload_n 3, 1) := by decide +kernel
theorem dX8_code_46 : decode cX8_code 46 = .ok (.ireturn, 1) := by decide +kernel
set_option maxRecDepth 20000 in
theorem ggX8_step_X8_no : GoodIn wsX8_step wsX8_no := goodIn_r _ [13, 14, 92, 93, 94, 95, 96, 97, 98, 99, 100, 101, 102, 103, 104, 105, 106, 107, 108, 109, 110, 111, 112, 113, 114, 115, 116, 117, 118, 119, 120, 121, 122, 123, 124, 125, 126, 127, 128, 129, 130, 131, 132, 133, 134, 135] rfl (by decide +kernel)
set_option maxRecDepth 20000 in
theorem gX8_step_X8_no : GoodIn wsX8_step (wsV RX8 122 RX8 yX8_no wsX8_no) := goodIn_app (goodIn_of _ (by decide +kernel)) ggX8_step_X8_no
set_option maxRecDepth 20000 in
theorem ggX8_step_X8_isIn : GoodIn wsX8_step wsX8_isIn := goodIn_r _ [17] rfl (by decide +kernel)
set_option maxRecDepth 20000 in
theorem gX8_step_X8_isIn : GoodIn wsX8_step (va_wsS RX8 128 yX8_isIn wsX8_isIn) := goodIn_app (goodIn_of _ (by decide +kernel)) ggX8_step_X8_isIn
set_option maxRecDepth 20000 in
theorem ggX8_step_X8_cut : GoodIn wsX8_step wsX8_cut := goodIn_r _ [21, 22, 92, 93, 94, 95, 96, 97, 98, 99, 100, 101, 102, 103, 104, 105, 106, 107, 108, 109, 110, 111, 112, 113, 114, 115, 116, 117, 118, 119, 120, 121, 122, 123, 124, 125, 126, 127, 128, 129, 130, 131, 132, 133, 134, 135] rfl (by decide +kernel)
set_option maxRecDepth 20000 in
theorem gX8_step_X8_cut : GoodIn wsX8_step (wsV RX8 132 RX8 yX8_cut wsX8_cut) := goodIn_app (goodIn_of _ (by decide +kernel)) ggX8_step_X8_cut
set_option maxRecDepth 20000 in
theorem ggX8_step_X8_byWords : GoodIn wsX8_step wsX8_byWords := goodIn_r _ [26, 3, 27, 28, 29, 30, 31, 32, 33, 34, 35, 36, 37, 38, 12, 39, 40, 41, 42, 43, 44, 45, 46, 47, 48, 49, 50, 51, 52, 53, 54, 55, 56, 57, 58, 59, 60, 61, 62, 63, 64, 65, 66, 67, 68, 69, 70, 71, 72, 73, 74, 75, 76, 77, 78, 79, 4, 80, 81, 82, 83, 84, 85, 86, 87, 18, 19, 20, 21, 22, 88, 89, 90, 91, 92, 93, 94, 95, 96, 97, 98, 99, 100, 101, 102, 103, 104, 105, 106, 107, 108, 109, 110, 111, 112, 113, 114, 115, 116, 117, 118, 119, 120, 121, 122, 123, 124, 125, 126, 127, 128, 129, 130, 131, 132, 133, 134, 135] rfl (by decide +kernel)
set_option maxRecDepth 20000 in
theorem gX8_step_X8_byWords : GoodIn wsX8_step (wsV RX8 262 RX8 yX8_byWords wsX8_byWords) := goodIn_app (goodIn_of _ (by decide +kernel)) ggX8_step_X8_byWords
theorem dX8_step_0 : decode cX8_step 0 = .ok (.iload_n 1, 1) := by decide +kernel
theorem dX8_step_1 : decode cX8_step 1 = .ok (.ifCond .ge 10, 3) := by decide +kernel
theorem dX8_step_4 : decode cX8_step 4 = .ok (.aload_n 0, 1) := by decide +kernel
theorem dX8_step_5 : decode cX8_step 5 = .ok (.bipush (-4), 2) := by decide +kernel
theorem dX8_step_7 : decode cX8_step 7 = .ok (.invokevirtual 122, 3) := by decide +kernel
theorem dX8_step_10 : decode cX8_step 10 = .ok (.ireturn, 1) := by decide +kernel
theorem dX8_step_11 : decode cX8_step 11 = .ok (.iload_n 1, 1) := by decide +kernel
theorem dX8_step_12 : decode cX8_step 12 = .ok (.i2l, 1) := by decide +kernel
theorem dX8_step_13 : decode cX8_step 13 = .ok (.lconst 1, 1) := by decide +kernel
theorem dX8_step_14 : decode cX8_step 14 = .ok (.ldc2_w 270, 3) := by decide +kernel
theorem dX8_step_17 : decode cX8_step 17 = .ok (.invokestatic 128, 3) := by decide +kernel
theorem dX8_step_20 : decode cX8_step 20 = .ok (.ifCond .ne 10, 3) := by decide +kernel
theorem dX8_step_23 : decode cX8_step 23 = .ok (.aload_n 0, 1) := by decide +kernel
theorem dX8_step_24 : decode cX8_step 24 = .ok (.bipush (-6), 2) := by decide +kernel
theorem dX8_step_26 : decode cX8_step 26 = .ok (.invokevirtual 122, 3) := by decide +kernel
theorem dX8_step_29 : decode cX8_step 29 = .ok (.ireturn, 1) := by decide +kernel
theorem dX8_step_30 : decode cX8_step 30 = .ok (.aload_n 0, 1) := by decide +kernel
theorem dX8_step_31 : decode cX8_step 31 = .ok (.iconst 0, 1) := by decide +kernel
theorem dX8_step_32 : decode cX8_step 32 = .ok (.putfield 272, 3) := by decide +kernel
theorem dX8_step_35 : decode cX8_step 35 = .ok (.iconst 0, 1) := by decide +kernel
theorem dX8_step_36 : decode cX8_step 36 = .ok (.istore_n 2, 1) := by decide +kernel
theorem dX8_step_37 : decode cX8_step 37 = .ok (.iload_n 2, 1) := by decide +kernel
theorem dX8_step_38 : decode cX8_step 38 = .ok (.iload_n 1, 1) := by decide +kernel
theorem dX8_step_39 : decode cX8_step 39 = .ok (.if_icmp .ge 129, 3) := by decide +kernel
theorem dX8_step_42 : decode cX8_step 42 = .ok (.aload_n 0, 1) := by decide +kernel
theorem dX8_step_43 : decode cX8_step 43 = .ok (.getfield 272, 3) := by decide +kernel
theorem dX8_step_46 : decode cX8_step 46 = .ok (.ifCond .ne 122, 3) := by decide +kernel
theorem dX8_step_49 : decode cX8_step 49 = .ok (.aload_n 0, 1) := by decide +kernel
theorem dX8_step_50 : decode cX8_step 50 = .ok (.getfield 7, 3) := by decide +kernel
theorem dX8_step_53 : decode cX8_step 53 = .ok (.bipush 7, 2) := by decide +kernel
theorem dX8_step_55 : decode cX8_step 55 = .ok (.laload, 1) := by decide +kernel
theorem dX8_step_56 : decode cX8_step 56 = .ok (.lstore_n 3, 1) := by decide +kernel
theorem dX8_step_57 : decode cX8_step 57 = .ok (.lload_n 3, 1) := by decide +kernel
theorem dX8_step_58 : decode cX8_step 58 = .ok (.ldc2_w 237, 3) := by decide +kernel
theorem dX8_step_61 : decode cX8_step 61 = .ok (.lcmp, 1) := by decide +kernel
theorem dX8_step_62 : decode cX8_step 62 = .ok (.ifCond .le 7, 3) := by decide +kernel
theorem dX8_step_65 : decode cX8_step 65 = .ok (.iconst (-1), 1) := by decide +kernel
theorem dX8_step_66 : decode cX8_step 66 = .ok (.goto 23, 3) := by decide +kernel
theorem dX8_step_69 : decode cX8_step 69 = .ok (.aload_n 0, 1) := by decide +kernel
theorem dX8_step_70 : decode cX8_step 70 = .ok (.getfield 106, 3) := by decide +kernel
theorem dX8_step_73 : decode cX8_step 73 = .ok (.aload_n 0, 1) := by decide +kernel
theorem dX8_step_74 : decode cX8_step 74 = .ok (.getfield 7, 3) := by decide +kernel
theorem dX8_step_77 : decode cX8_step 77 = .ok (.bipush 10, 2) := by decide +kernel
theorem dX8_step_79 : decode cX8_step 79 = .ok (.lload_n 3, 1) := by decide +kernel
theorem dX8_step_80 : decode cX8_step 80 = .ok (.l2i, 1) := by decide +kernel
theorem dX8_step_81 : decode cX8_step 81 = .ok (.iadd, 1) := by decide +kernel
theorem dX8_step_82 : decode cX8_step 82 = .ok (.laload, 1) := by decide +kernel
theorem dX8_step_83 : decode cX8_step 83 = .ok (.ldc2_w 275, 3) := by decide +kernel
theorem dX8_step_86 : decode cX8_step 86 = .ok (.lrem, 1) := by decide +kernel
theorem dX8_step_87 : decode cX8_step 87 = .ok (.l2i, 1) := by decide +kernel
theorem dX8_step_88 : decode cX8_step 88 = .ok (.iaload, 1) := by decide +kernel
theorem dX8_step_89 : decode cX8_step 89 = .ok (.istore 5, 2) := by decide +kernel
theorem dX8_step_91 : decode cX8_step 91 = .ok (.iload 5, 2) := by decide +kernel
theorem dX8_step_93 : decode cX8_step 93 = .ok (.ifCond .ge 23, 3) := by decide +kernel
theorem dX8_step_96 : decode cX8_step 96 = .ok (.aload_n 0, 1) := by decide +kernel
theorem dX8_step_97 : decode cX8_step 97 = .ok (.lload_n 3, 1) := by decide +kernel
theorem dX8_step_98 : decode cX8_step 98 = .ok (.ldc2_w 237, 3) := by decide +kernel
theorem dX8_step_101 : decode cX8_step 101 = .ok (.lcmp, 1) := by decide +kernel
theorem dX8_step_102 : decode cX8_step 102 = .ok (.ifCond .le 7, 3) := by decide +kernel
theorem dX8_step_105 : decode cX8_step 105 = .ok (.iconst 1, 1) := by decide +kernel
theorem dX8_step_106 : decode cX8_step 106 = .ok (.goto 4, 3) := by decide +kernel
theorem dX8_step_109 : decode cX8_step 109 = .ok (.iconst 2, 1) := by decide +kernel
theorem dX8_step_110 : decode cX8_step 110 = .ok (.putfield 272, 3) := by decide +kernel
theorem dX8_step_113 : decode cX8_step 113 = .ok (.goto 52, 3) := by decide +kernel
theorem dX8_step_116 : decode cX8_step 116 = .ok (.aload_n 0, 1) := by decide +kernel
theorem dX8_step_117 : decode cX8_step 117 = .ok (.getfield 7, 3) := by decide +kernel
theorem dX8_step_120 : decode cX8_step 120 = .ok (.bipush 7, 2) := by decide +kernel
theorem dX8_step_122 : decode cX8_step 122 = .ok (.aload_n 0, 1) := by decide +kernel
theorem dX8_step_123 : decode cX8_step 123 = .ok (.bipush 7, 2) := by decide +kernel
theorem dX8_step_125 : decode cX8_step 125 = .ok (.lload_n 3, 1) := by decide +kernel
theorem dX8_step_126 : decode cX8_step 126 = .ok (.lconst 1, 1) := by decide +kernel
theorem dX8_step_127 : decode cX8_step 127 = .ok (.ladd, 1) := by decide +kernel
theorem dX8_step_128 : decode cX8_step 128 = .ok (.invokevirtual 132, 3) := by decide +kernel
theorem dX8_step_131 : decode cX8_step 131 = .ok (.lastore, 1) := by decide +kernel
theorem dX8_step_132 : decode cX8_step 132 = .ok (.aload_n 0, 1) := by decide +kernel
theorem dX8_step_133 : decode cX8_step 133 = .ok (.iload 5, 2) := by decide +kernel
theorem dX8_step_135 : decode cX8_step 135 = .ok (.invokevirtual 262, 3) := by decide +kernel
theorem dX8_step_138 : decode cX8_step 138 = .ok (.iconst 2, 1) := by decide +kernel
theorem dX8_step_139 : decode cX8_step 139 = .ok (.if_icmp .ne 13, 3) := by decide +kernel
theorem dX8_step_142 : decode cX8_step 142 = .ok (.aload_n 0, 1) := by decide +kernel
theorem dX8_step_143 : decode cX8_step 143 = .ok (.dup, 1) := by decide +kernel
theorem dX8_step_144 : decode cX8_step 144 = .ok (.getfield 277, 3) := by decide +kernel
theorem dX8_step_147 : decode cX8_step 147 = .ok (.iconst 1, 1) := by decide +kernel
theorem dX8_step_148 : decode cX8_step 148 = .ok (.iadd, 1) := by decide +kernel
theorem dX8_step_149 : decode cX8_step 149 = .ok (.putfield 277, 3) := by decide +kernel
theorem dX8_step_152 : decode cX8_step 152 = .ok (.iinc 2 1, 3) := by decide +kernel
theorem dX8_step_155 : decode cX8_step 155 = .ok (.aload_n 0, 1) := by decide +kernel
theorem dX8_step_156 : decode cX8_step 156 = .ok (.dup, 1) := by decide +kernel
theorem dX8_step_157 : decode cX8_step 157 = .ok (.getfield 280, 3) := by decide +kernel
theorem dX8_step_160 : decode cX8_step 160 = .ok (.iconst 1, 1) := by decide +kernel
theorem dX8_step_161 : decode cX8_step 161 = .ok (.iadd, 1) := by decide +kernel
theorem dX8_step_162 : decode cX8_step 162 = .ok (.putfield 280, 3) := by decide +kernel
theorem dX8_step_165 : decode cX8_step 165 = .ok (.goto (-128), 3) := by decide +kernel
theorem dX8_step_168 : decode cX8_step 168 = .ok (.iload_n 2, 1) := by decide +kernel
theorem dX8_step_169 : decode cX8_step 169 = .ok (.ireturn, 1) := by decide +kernel
set_option maxRecDepth 20000 in
theorem ggX8_count_X8_no : GoodIn wsX8_count wsX8_no := goodIn_r _ [8, 9, 10, 11, 12, 13, 14, 15, 16, 17, 18, 19, 20, 21, 22, 23, 24, 25, 26, 27, 28, 29, 30, 31, 32, 33, 34, 35, 36, 37, 38, 39, 40, 41, 42, 43, 44, 45, 46, 47, 48, 49, 50, 51, 52, 53] rfl (by decide +kernel)
set_option maxRecDepth 20000 in
theorem gX8_count_X8_no : GoodIn wsX8_count (wsV RX8 122 RX8 yX8_no wsX8_no) := goodIn_app (goodIn_of _ (by decide +kernel)) ggX8_count_X8_no
theorem dX8_count_0 : decode cX8_count 0 = .ok (.iload_n 1, 1) := by decide +kernel
theorem dX8_count_1 : decode cX8_count 1 = .ok (.tableswitch 42 0 2 #[27, 32, 37], 27) := by decide +kernel
theorem dX8_count_28 : decode cX8_count 28 = .ok (.aload_n 0, 1) := by decide +kernel
theorem dX8_count_29 : decode cX8_count 29 = .ok (.getfield 280, 3) := by decide +kernel
theorem dX8_count_32 : decode cX8_count 32 = .ok (.ireturn, 1) := by decide +kernel
theorem dX8_count_33 : decode cX8_count 33 = .ok (.aload_n 0, 1) := by decide +kernel
theorem dX8_count_34 : decode cX8_count 34 = .ok (.getfield 277, 3) := by decide +kernel
theorem dX8_count_37 : decode cX8_count 37 = .ok (.ireturn, 1) := by decide +kernel
theorem dX8_count_38 : decode cX8_count 38 = .ok (.aload_n 0, 1) := by decide +kernel
theorem dX8_count_39 : decode cX8_count 39 = .ok (.getfield 272, 3) := by decide +kernel
theorem dX8_count_42 : decode cX8_count 42 = .ok (.ireturn, 1) := by decide +kernel
theorem dX8_count_43 : decode cX8_count 43 = .ok (.aload_n 0, 1) := by decide +kernel
theorem dX8_count_44 : decode cX8_count 44 = .ok (.bipush (-6), 2) := by decide +kernel
theorem dX8_count_46 : decode cX8_count 46 = .ok (.invokevirtual 122, 3) := by decide +kernel
theorem dX8_count_49 : decode cX8_count 49 = .ok (.ireturn, 1) := by decide +kernel
set_option maxRecDepth 20000 in
theorem ggX8_image_X8_copies : GoodIn wsX8_image wsX8_copies := goodIn_r _ [7] rfl (by decide +kernel)
set_option maxRecDepth 20000 in
theorem gX8_image_X8_copies : GoodIn wsX8_image (va_wsS RX8 246 yX8_copies wsX8_copies) := goodIn_app (goodIn_of _ (by decide +kernel)) ggX8_image_X8_copies
theorem dX8_image_0 : decode cX8_image 0 = .ok (.aload_n 0, 1) := by decide +kernel
theorem dX8_image_1 : decode cX8_image 1 = .ok (.getfield 7, 3) := by decide +kernel
theorem dX8_image_4 : decode cX8_image 4 = .ok (.aload_n 0, 1) := by decide +kernel
theorem dX8_image_5 : decode cX8_image 5 = .ok (.getfield 13, 3) := by decide +kernel
theorem dX8_image_8 : decode cX8_image 8 = .ok (.invokestatic 246, 3) := by decide +kernel
theorem dX8_image_11 : decode cX8_image 11 = .ok (.aload_n 0, 1) := by decide +kernel
theorem dX8_image_12 : decode cX8_image 12 = .ok (.iconst 1, 1) := by decide +kernel
theorem dX8_image_13 : decode cX8_image 13 = .ok (.putfield 283, 3) := by decide +kernel
theorem dX8_image_16 : decode cX8_image 16 = .ok (.iconst 0, 1) := by decide +kernel
theorem dX8_image_17 : decode cX8_image 17 = .ok (.istore_n 1, 1) := by decide +kernel
theorem dX8_image_18 : decode cX8_image 18 = .ok (.iconst 0, 1) := by decide +kernel
theorem dX8_image_19 : decode cX8_image 19 = .ok (.istore_n 2, 1) := by decide +kernel
theorem dX8_image_20 : decode cX8_image 20 = .ok (.iload_n 2, 1) := by decide +kernel
theorem dX8_image_21 : decode cX8_image 21 = .ok (.bipush 74, 2) := by decide +kernel
theorem dX8_image_23 : decode cX8_image 23 = .ok (.if_icmp .ge 28, 3) := by decide +kernel
theorem dX8_image_26 : decode cX8_image 26 = .ok (.iload_n 1, 1) := by decide +kernel
theorem dX8_image_27 : decode cX8_image 27 = .ok (.aload_n 0, 1) := by decide +kernel
theorem dX8_image_28 : decode cX8_image 28 = .ok (.getfield 7, 3) := by decide +kernel
theorem dX8_image_31 : decode cX8_image 31 = .ok (.iload_n 2, 1) := by decide +kernel
theorem dX8_image_32 : decode cX8_image 32 = .ok (.laload, 1) := by decide +kernel
theorem dX8_image_33 : decode cX8_image 33 = .ok (.lconst 0, 1) := by decide +kernel
theorem dX8_image_34 : decode cX8_image 34 = .ok (.lcmp, 1) := by decide +kernel
theorem dX8_image_35 : decode cX8_image 35 = .ok (.ifCond .eq 7, 3) := by decide +kernel
theorem dX8_image_38 : decode cX8_image 38 = .ok (.iconst 1, 1) := by decide +kernel
theorem dX8_image_39 : decode cX8_image 39 = .ok (.goto 4, 3) := by decide +kernel
theorem dX8_image_42 : decode cX8_image 42 = .ok (.iconst 0, 1) := by decide +kernel
theorem dX8_image_43 : decode cX8_image 43 = .ok (.iadd, 1) := by decide +kernel
theorem dX8_image_44 : decode cX8_image 44 = .ok (.istore_n 1, 1) := by decide +kernel
theorem dX8_image_45 : decode cX8_image 45 = .ok (.iinc 2 1, 3) := by decide +kernel
theorem dX8_image_48 : decode cX8_image 48 = .ok (.goto (-28), 3) := by decide +kernel
theorem dX8_image_51 : decode cX8_image 51 = .ok (.iload_n 1, 1) := by decide +kernel
theorem dX8_image_52 : decode cX8_image 52 = .ok (.ireturn, 1) := by decide +kernel
set_option maxRecDepth 20000 in
theorem ggX8_restore_X8_no : GoodIn wsX8_restore wsX8_no := goodIn_r _ [8, 9, 15, 16, 17, 18, 19, 20, 21, 22, 23, 24, 25, 26, 27, 28, 29, 30, 31, 32, 33, 34, 35, 36, 37, 38, 39, 40, 41, 42, 43, 44, 45, 46, 47, 48, 49, 50, 51, 52, 53, 54, 55, 56, 57, 58] rfl (by decide +kernel)
set_option maxRecDepth 20000 in
theorem gX8_restore_X8_no : GoodIn wsX8_restore (wsV RX8 122 RX8 yX8_no wsX8_no) := goodIn_app (goodIn_of _ (by decide +kernel)) ggX8_restore_X8_no
set_option maxRecDepth 20000 in
theorem ggX8_restore_X8_cut : GoodIn wsX8_restore wsX8_cut := goodIn_r _ [13, 14, 15, 16, 17, 18, 19, 20, 21, 22, 23, 24, 25, 26, 27, 28, 29, 30, 31, 32, 33, 34, 35, 36, 37, 38, 39, 40, 41, 42, 43, 44, 45, 46, 47, 48, 49, 50, 51, 52, 53, 54, 55, 56, 57, 58] rfl (by decide +kernel)
set_option maxRecDepth 20000 in
theorem gX8_restore_X8_cut : GoodIn wsX8_restore (wsV RX8 132 RX8 yX8_cut wsX8_cut) := goodIn_app (goodIn_of _ (by decide +kernel)) ggX8_restore_X8_cut
theorem dX8_restore_0 : decode cX8_restore 0 = .ok (.aload_n 0, 1) := by decide +kernel
theorem dX8_restore_1 : decode cX8_restore 1 = .ok (.getfield 283, 3) := by decide +kernel
theorem dX8_restore_4 : decode cX8_restore 4 = .ok (.ifCond .ne 10, 3) := by decide +kernel
theorem dX8_restore_7 : decode cX8_restore 7 = .ok (.aload_n 0, 1) := by decide +kernel
theorem dX8_restore_8 : decode cX8_restore 8 = .ok (.bipush (-2), 2) := by decide +kernel
theorem dX8_restore_10 : decode cX8_restore 10 = .ok (.invokevirtual 122, 3) := by decide +kernel
theorem dX8_restore_13 : decode cX8_restore 13 = .ok (.ireturn, 1) := by decide +kernel
theorem dX8_restore_14 : decode cX8_restore 14 = .ok (.iconst 0, 1) := by decide +kernel
theorem dX8_restore_15 : decode cX8_restore 15 = .ok (.istore_n 1, 1) := by decide +kernel
theorem dX8_restore_16 : decode cX8_restore 16 = .ok (.iconst 0, 1) := by decide +kernel
theorem dX8_restore_17 : decode cX8_restore 17 = .ok (.istore_n 2, 1) := by decide +kernel
theorem dX8_restore_18 : decode cX8_restore 18 = .ok (.iload_n 2, 1) := by decide +kernel
theorem dX8_restore_19 : decode cX8_restore 19 = .ok (.bipush 74, 2) := by decide +kernel
theorem dX8_restore_21 : decode cX8_restore 21 = .ok (.if_icmp .ge 62, 3) := by decide +kernel
theorem dX8_restore_24 : decode cX8_restore 24 = .ok (.iload_n 2, 1) := by decide +kernel
theorem dX8_restore_25 : decode cX8_restore 25 = .ok (.bipush 8, 2) := by decide +kernel
theorem dX8_restore_27 : decode cX8_restore 27 = .ok (.if_icmp .ge 17, 3) := by decide +kernel
theorem dX8_restore_30 : decode cX8_restore 30 = .ok (.aload_n 0, 1) := by decide +kernel
theorem dX8_restore_31 : decode cX8_restore 31 = .ok (.iload_n 2, 1) := by decide +kernel
theorem dX8_restore_32 : decode cX8_restore 32 = .ok (.aload_n 0, 1) := by decide +kernel
theorem dX8_restore_33 : decode cX8_restore 33 = .ok (.getfield 13, 3) := by decide +kernel
theorem dX8_restore_36 : decode cX8_restore 36 = .ok (.iload_n 2, 1) := by decide +kernel
theorem dX8_restore_37 : decode cX8_restore 37 = .ok (.laload, 1) := by decide +kernel
theorem dX8_restore_38 : decode cX8_restore 38 = .ok (.invokevirtual 132, 3) := by decide +kernel
theorem dX8_restore_41 : decode cX8_restore 41 = .ok (.goto 9, 3) := by decide +kernel
theorem dX8_restore_44 : decode cX8_restore 44 = .ok (.aload_n 0, 1) := by decide +kernel
theorem dX8_restore_45 : decode cX8_restore 45 = .ok (.getfield 13, 3) := by decide +kernel
theorem dX8_restore_48 : decode cX8_restore 48 = .ok (.iload_n 2, 1) := by decide +kernel
theorem dX8_restore_49 : decode cX8_restore 49 = .ok (.laload, 1) := by decide +kernel
theorem dX8_restore_50 : decode cX8_restore 50 = .ok (.lstore_n 3, 1) := by decide +kernel
theorem dX8_restore_51 : decode cX8_restore 51 = .ok (.iload_n 1, 1) := by decide +kernel
theorem dX8_restore_52 : decode cX8_restore 52 = .ok (.lload_n 3, 1) := by decide +kernel
theorem dX8_restore_53 : decode cX8_restore 53 = .ok (.aload_n 0, 1) := by decide +kernel
theorem dX8_restore_54 : decode cX8_restore 54 = .ok (.getfield 7, 3) := by decide +kernel
theorem dX8_restore_57 : decode cX8_restore 57 = .ok (.iload_n 2, 1) := by decide +kernel
theorem dX8_restore_58 : decode cX8_restore 58 = .ok (.laload, 1) := by decide +kernel
theorem dX8_restore_59 : decode cX8_restore 59 = .ok (.lcmp, 1) := by decide +kernel
theorem dX8_restore_60 : decode cX8_restore 60 = .ok (.ifCond .eq 7, 3) := by decide +kernel
theorem dX8_restore_63 : decode cX8_restore 63 = .ok (.iconst 1, 1) := by decide +kernel
theorem dX8_restore_64 : decode cX8_restore 64 = .ok (.goto 4, 3) := by decide +kernel
theorem dX8_restore_67 : decode cX8_restore 67 = .ok (.iconst 0, 1) := by decide +kernel
theorem dX8_restore_68 : decode cX8_restore 68 = .ok (.iadd, 1) := by decide +kernel
theorem dX8_restore_69 : decode cX8_restore 69 = .ok (.istore_n 1, 1) := by decide +kernel
theorem dX8_restore_70 : decode cX8_restore 70 = .ok (.aload_n 0, 1) := by decide +kernel
theorem dX8_restore_71 : decode cX8_restore 71 = .ok (.getfield 7, 3) := by decide +kernel
theorem dX8_restore_74 : decode cX8_restore 74 = .ok (.iload_n 2, 1) := by decide +kernel
theorem dX8_restore_75 : decode cX8_restore 75 = .ok (.lload_n 3, 1) := by decide +kernel
theorem dX8_restore_76 : decode cX8_restore 76 = .ok (.lastore, 1) := by decide +kernel
theorem dX8_restore_77 : decode cX8_restore 77 = .ok (.iinc 2 1, 3) := by decide +kernel
theorem dX8_restore_80 : decode cX8_restore 80 = .ok (.goto (-62), 3) := by decide +kernel
theorem dX8_restore_83 : decode cX8_restore 83 = .ok (.iload_n 1, 1) := by decide +kernel
theorem dX8_restore_84 : decode cX8_restore 84 = .ok (.ireturn, 1) := by decide +kernel
set_option maxRecDepth 20000 in
theorem ggX8_lay_X8_no : GoodIn wsX8_lay wsX8_no := goodIn_r _ [11, 12, 13, 14, 15, 16, 17, 18, 19, 20, 21, 22, 23, 24, 25, 26, 27, 28, 29, 30, 31, 32, 33, 34, 35, 36, 37, 38, 39, 40, 41, 42, 43, 44, 45, 46, 47, 48, 49, 50, 51, 52, 53, 54, 55, 56] rfl (by decide +kernel)
set_option maxRecDepth 20000 in
theorem gX8_lay_X8_no : GoodIn wsX8_lay (wsV RX8 122 RX8 yX8_no wsX8_no) := goodIn_app (goodIn_of _ (by decide +kernel)) ggX8_lay_X8_no
theorem dX8_lay_0 : decode cX8_lay 0 = .ok (.iload_n 2, 1) := by decide +kernel
theorem dX8_lay_1 : decode cX8_lay 1 = .ok (.ifCond .ge 10, 3) := by decide +kernel
theorem dX8_lay_4 : decode cX8_lay 4 = .ok (.aload_n 0, 1) := by decide +kernel
theorem dX8_lay_5 : decode cX8_lay 5 = .ok (.bipush (-4), 2) := by decide +kernel
theorem dX8_lay_7 : decode cX8_lay 7 = .ok (.invokevirtual 122, 3) := by decide +kernel
theorem dX8_lay_10 : decode cX8_lay 10 = .ok (.ireturn, 1) := by decide +kernel
theorem dX8_lay_11 : decode cX8_lay 11 = .ok (.iload_n 1, 1) := by decide +kernel
theorem dX8_lay_12 : decode cX8_lay 12 = .ok (.ifCond .lt 15, 3) := by decide +kernel
theorem dX8_lay_15 : decode cX8_lay 15 = .ok (.iload_n 1, 1) := by decide +kernel
theorem dX8_lay_16 : decode cX8_lay 16 = .ok (.i2l, 1) := by decide +kernel
theorem dX8_lay_17 : decode cX8_lay 17 = .ok (.iload_n 2, 1) := by decide +kernel
theorem dX8_lay_18 : decode cX8_lay 18 = .ok (.i2l, 1) := by decide +kernel
theorem dX8_lay_19 : decode cX8_lay 19 = .ok (.ladd, 1) := by decide +kernel
theorem dX8_lay_20 : decode cX8_lay 20 = .ok (.ldc2_w 286, 3) := by decide +kernel
theorem dX8_lay_23 : decode cX8_lay 23 = .ok (.lcmp, 1) := by decide +kernel
theorem dX8_lay_24 : decode cX8_lay 24 = .ok (.ifCond .le 10, 3) := by decide +kernel
theorem dX8_lay_27 : decode cX8_lay 27 = .ok (.aload_n 0, 1) := by decide +kernel
theorem dX8_lay_28 : decode cX8_lay 28 = .ok (.bipush (-3), 2) := by decide +kernel
theorem dX8_lay_30 : decode cX8_lay 30 = .ok (.invokevirtual 122, 3) := by decide +kernel
theorem dX8_lay_33 : decode cX8_lay 33 = .ok (.ireturn, 1) := by decide +kernel
theorem dX8_lay_34 : decode cX8_lay 34 = .ok (.aload_n 0, 1) := by decide +kernel
theorem dX8_lay_35 : decode cX8_lay 35 = .ok (.iload_n 2, 1) := by decide +kernel
theorem dX8_lay_36 : decode cX8_lay 36 = .ok (.putfield 115, 3) := by decide +kernel
theorem dX8_lay_39 : decode cX8_lay 39 = .ok (.iconst 0, 1) := by decide +kernel
theorem dX8_lay_40 : decode cX8_lay 40 = .ok (.istore_n 3, 1) := by decide +kernel
theorem dX8_lay_41 : decode cX8_lay 41 = .ok (.iload_n 3, 1) := by decide +kernel
theorem dX8_lay_42 : decode cX8_lay 42 = .ok (.iload_n 2, 1) := by decide +kernel
theorem dX8_lay_43 : decode cX8_lay 43 = .ok (.if_icmp .ge 52, 3) := by decide +kernel
theorem dX8_lay_46 : decode cX8_lay 46 = .ok (.aload_n 0, 1) := by decide +kernel
theorem dX8_lay_47 : decode cX8_lay 47 = .ok (.getfield 7, 3) := by decide +kernel
theorem dX8_lay_50 : decode cX8_lay 50 = .ok (.bipush 10, 2) := by decide +kernel
theorem dX8_lay_52 : decode cX8_lay 52 = .ok (.iload_n 1, 1) := by decide +kernel
theorem dX8_lay_53 : decode cX8_lay 53 = .ok (.iadd, 1) := by decide +kernel
theorem dX8_lay_54 : decode cX8_lay 54 = .ok (.iload_n 3, 1) := by decide +kernel
theorem dX8_lay_55 : decode cX8_lay 55 = .ok (.iadd, 1) := by decide +kernel
theorem dX8_lay_56 : decode cX8_lay 56 = .ok (.laload, 1) := by decide +kernel
theorem dX8_lay_57 : decode cX8_lay 57 = .ok (.ldc2_w 288, 3) := by decide +kernel
theorem dX8_lay_60 : decode cX8_lay 60 = .ok (.land, 1) := by decide +kernel
theorem dX8_lay_61 : decode cX8_lay 61 = .ok (.l2i, 1) := by decide +kernel
theorem dX8_lay_62 : decode cX8_lay 62 = .ok (.istore 4, 2) := by decide +kernel
theorem dX8_lay_64 : decode cX8_lay 64 = .ok (.aload_n 0, 1) := by decide +kernel
theorem dX8_lay_65 : decode cX8_lay 65 = .ok (.getfield 109, 3) := by decide +kernel
theorem dX8_lay_68 : decode cX8_lay 68 = .ok (.iload_n 3, 1) := by decide +kernel
theorem dX8_lay_69 : decode cX8_lay 69 = .ok (.iload 4, 2) := by decide +kernel
theorem dX8_lay_71 : decode cX8_lay 71 = .ok (.sipush 32767, 3) := by decide +kernel
theorem dX8_lay_74 : decode cX8_lay 74 = .ok (.if_icmp .le 12, 3) := by decide +kernel
theorem dX8_lay_77 : decode cX8_lay 77 = .ok (.iload 4, 2) := by decide +kernel
theorem dX8_lay_79 : decode cX8_lay 79 = .ok (.ldc_w 290, 3) := by decide +kernel
theorem dX8_lay_82 : decode cX8_lay 82 = .ok (.isub, 1) := by decide +kernel
theorem dX8_lay_83 : decode cX8_lay 83 = .ok (.goto 5, 3) := by decide +kernel
theorem dX8_lay_86 : decode cX8_lay 86 = .ok (.iload 4, 2) := by decide +kernel
theorem dX8_lay_88 : decode cX8_lay 88 = .ok (.iastore, 1) := by decide +kernel
theorem dX8_lay_89 : decode cX8_lay 89 = .ok (.iinc 3 1, 3) := by decide +kernel
theorem dX8_lay_92 : decode cX8_lay 92 = .ok (.goto (-51), 3) := by decide +kernel
theorem dX8_lay_95 : decode cX8_lay 95 = .ok (.iload_n 2, 1) := by decide +kernel
theorem dX8_lay_96 : decode cX8_lay 96 = .ok (.ireturn, 1) := by decide +kernel
theorem dX8_tear_0 : decode cX8_tear 0 = .ok (.aload_n 0, 1) := by decide +kernel
theorem dX8_tear_1 : decode cX8_tear 1 = .ok (.getfield 115, 3) := by decide +kernel
theorem dX8_tear_4 : decode cX8_tear 4 = .ok (.ifCond .lt 7, 3) := by decide +kernel
theorem dX8_tear_7 : decode cX8_tear 7 = .ok (.iconst 1, 1) := by decide +kernel
theorem dX8_tear_8 : decode cX8_tear 8 = .ok (.goto 4, 3) := by decide +kernel
theorem dX8_tear_11 : decode cX8_tear 11 = .ok (.iconst 0, 1) := by decide +kernel
theorem dX8_tear_12 : decode cX8_tear 12 = .ok (.istore_n 1, 1) := by decide +kernel
theorem dX8_tear_13 : decode cX8_tear 13 = .ok (.aload_n 0, 1) := by decide +kernel
theorem dX8_tear_14 : decode cX8_tear 14 = .ok (.iconst (-1), 1) := by decide +kernel
theorem dX8_tear_15 : decode cX8_tear 15 = .ok (.putfield 115, 3) := by decide +kernel
theorem dX8_tear_18 : decode cX8_tear 18 = .ok (.iload_n 1, 1) := by decide +kernel
theorem dX8_tear_19 : decode cX8_tear 19 = .ok (.ireturn, 1) := by decide +kernel
set_option maxRecDepth 20000 in
theorem ggX8_row_X8_no : GoodIn wsX8_row wsX8_no := goodIn_r _ [7, 8, 12, 13, 14, 15, 16, 17, 18, 19, 20, 21, 22, 23, 24, 25, 26, 27, 28, 29, 30, 31, 32, 33, 34, 35, 36, 37, 38, 39, 40, 41, 42, 43, 44, 45, 46, 47, 48, 49, 50, 51, 52, 53, 54, 55] rfl (by decide +kernel)
set_option maxRecDepth 20000 in
theorem gX8_row_X8_no : GoodIn wsX8_row (wsV RX8 122 RX8 yX8_no wsX8_no) := goodIn_app (goodIn_of _ (by decide +kernel)) ggX8_row_X8_no
set_option maxRecDepth 20000 in
theorem ggX8_row_X8_isIn : GoodIn wsX8_row wsX8_isIn := goodIn_r _ [11] rfl (by decide +kernel)
set_option maxRecDepth 20000 in
theorem gX8_row_X8_isIn : GoodIn wsX8_row (va_wsS RX8 128 yX8_isIn wsX8_isIn) := goodIn_app (goodIn_of _ (by decide +kernel)) ggX8_row_X8_isIn
theorem dX8_row_0 : decode cX8_row 0 = .ok (.aload_n 0, 1) := by decide +kernel
theorem dX8_row_1 : decode cX8_row 1 = .ok (.getfield 115, 3) := by decide +kernel
theorem dX8_row_4 : decode cX8_row 4 = .ok (.ifCond .ge 10, 3) := by decide +kernel
theorem dX8_row_7 : decode cX8_row 7 = .ok (.aload_n 0, 1) := by decide +kernel
theorem dX8_row_8 : decode cX8_row 8 = .ok (.bipush (-2), 2) := by decide +kernel
theorem dX8_row_10 : decode cX8_row 10 = .ok (.invokevirtual 122, 3) := by decide +kernel
theorem dX8_row_13 : decode cX8_row 13 = .ok (.ireturn, 1) := by decide +kernel
theorem dX8_row_14 : decode cX8_row 14 = .ok (.iload_n 1, 1) := by decide +kernel
theorem dX8_row_15 : decode cX8_row 15 = .ok (.i2l, 1) := by decide +kernel
theorem dX8_row_16 : decode cX8_row 16 = .ok (.lconst 0, 1) := by decide +kernel
theorem dX8_row_17 : decode cX8_row 17 = .ok (.aload_n 0, 1) := by decide +kernel
theorem dX8_row_18 : decode cX8_row 18 = .ok (.getfield 115, 3) := by decide +kernel
theorem dX8_row_21 : decode cX8_row 21 = .ok (.iconst 1, 1) := by decide +kernel
theorem dX8_row_22 : decode cX8_row 22 = .ok (.isub, 1) := by decide +kernel
theorem dX8_row_23 : decode cX8_row 23 = .ok (.i2l, 1) := by decide +kernel
theorem dX8_row_24 : decode cX8_row 24 = .ok (.invokestatic 128, 3) := by decide +kernel
theorem dX8_row_27 : decode cX8_row 27 = .ok (.ifCond .eq 12, 3) := by decide +kernel
theorem dX8_row_30 : decode cX8_row 30 = .ok (.aload_n 0, 1) := by decide +kernel
theorem dX8_row_31 : decode cX8_row 31 = .ok (.getfield 109, 3) := by decide +kernel
theorem dX8_row_34 : decode cX8_row 34 = .ok (.iload_n 1, 1) := by decide +kernel
theorem dX8_row_35 : decode cX8_row 35 = .ok (.iaload, 1) := by decide +kernel
theorem dX8_row_36 : decode cX8_row 36 = .ok (.goto 9, 3) := by decide +kernel
theorem dX8_row_39 : decode cX8_row 39 = .ok (.aload_n 0, 1) := by decide +kernel
theorem dX8_row_40 : decode cX8_row 40 = .ok (.bipush (-3), 2) := by decide +kernel
theorem dX8_row_42 : decode cX8_row 42 = .ok (.invokevirtual 122, 3) := by decide +kernel
theorem dX8_row_45 : decode cX8_row 45 = .ok (.ireturn, 1) := by decide +kernel
set_option maxRecDepth 20000 in
theorem ggX8_copy_X8_no : GoodIn wsX8_copy wsX8_no := goodIn_r _ [8, 9, 10, 11, 12, 13, 14, 15, 16, 17, 18, 19, 20, 21, 22, 23, 24, 25, 26, 27, 28, 29, 30, 31, 32, 33, 34, 35, 36, 37, 38, 39, 40, 41, 42, 43, 44, 45, 46, 47, 48, 49, 50, 51, 52, 53] rfl (by decide +kernel)
set_option maxRecDepth 20000 in
theorem gX8_copy_X8_no : GoodIn wsX8_copy (wsV RX8 122 RX8 yX8_no wsX8_no) := goodIn_app (goodIn_of _ (by decide +kernel)) ggX8_copy_X8_no
theorem dX8_copy_0 : decode cX8_copy 0 = .ok (.aload_n 0, 1) := by decide +kernel
theorem dX8_copy_1 : decode cX8_copy 1 = .ok (.getfield 115, 3) := by decide +kernel
theorem dX8_copy_4 : decode cX8_copy 4 = .ok (.ifCond .ge 10, 3) := by decide +kernel
theorem dX8_copy_7 : decode cX8_copy 7 = .ok (.aload_n 0, 1) := by decide +kernel
theorem dX8_copy_8 : decode cX8_copy 8 = .ok (.bipush (-2), 2) := by decide +kernel
theorem dX8_copy_10 : decode cX8_copy 10 = .ok (.invokevirtual 122, 3) := by decide +kernel
theorem dX8_copy_13 : decode cX8_copy 13 = .ok (.ireturn, 1) := by decide +kernel
theorem dX8_copy_14 : decode cX8_copy 14 = .ok (.iload_n 3, 1) := by decide +kernel
theorem dX8_copy_15 : decode cX8_copy 15 = .ok (.ifCond .ge 10, 3) := by decide +kernel
theorem dX8_copy_18 : decode cX8_copy 18 = .ok (.aload_n 0, 1) := by decide +kernel
theorem dX8_copy_19 : decode cX8_copy 19 = .ok (.bipush (-4), 2) := by decide +kernel
theorem dX8_copy_21 : decode cX8_copy 21 = .ok (.invokevirtual 122, 3) := by decide +kernel
theorem dX8_copy_24 : decode cX8_copy 24 = .ok (.ireturn, 1) := by decide +kernel
theorem dX8_copy_25 : decode cX8_copy 25 = .ok (.iload_n 1, 1) := by decide +kernel
theorem dX8_copy_26 : decode cX8_copy 26 = .ok (.ifCond .lt 35, 3) := by decide +kernel
theorem dX8_copy_29 : decode cX8_copy 29 = .ok (.iload_n 2, 1) := by decide +kernel
theorem dX8_copy_30 : decode cX8_copy 30 = .ok (.ifCond .lt 31, 3) := by decide +kernel
theorem dX8_copy_33 : decode cX8_copy 33 = .ok (.iload_n 1, 1) := by decide +kernel
theorem dX8_copy_34 : decode cX8_copy 34 = .ok (.i2l, 1) := by decide +kernel
theorem dX8_copy_35 : decode cX8_copy 35 = .ok (.iload_n 3, 1) := by decide +kernel
theorem dX8_copy_36 : decode cX8_copy 36 = .ok (.i2l, 1) := by decide +kernel
theorem dX8_copy_37 : decode cX8_copy 37 = .ok (.ladd, 1) := by decide +kernel
theorem dX8_copy_38 : decode cX8_copy 38 = .ok (.aload_n 0, 1) := by decide +kernel
theorem dX8_copy_39 : decode cX8_copy 39 = .ok (.getfield 115, 3) := by decide +kernel
theorem dX8_copy_42 : decode cX8_copy 42 = .ok (.i2l, 1) := by decide +kernel
theorem dX8_copy_43 : decode cX8_copy 43 = .ok (.lcmp, 1) := by decide +kernel
theorem dX8_copy_44 : decode cX8_copy 44 = .ok (.ifCond .gt 17, 3) := by decide +kernel
theorem dX8_copy_47 : decode cX8_copy 47 = .ok (.iload_n 2, 1) := by decide +kernel
theorem dX8_copy_48 : decode cX8_copy 48 = .ok (.i2l, 1) := by decide +kernel
theorem dX8_copy_49 : decode cX8_copy 49 = .ok (.iload_n 3, 1) := by decide +kernel
theorem dX8_copy_50 : decode cX8_copy 50 = .ok (.i2l, 1) := by decide +kernel
theorem dX8_copy_51 : decode cX8_copy 51 = .ok (.ladd, 1) := by decide +kernel
theorem dX8_copy_52 : decode cX8_copy 52 = .ok (.aload_n 0, 1) := by decide +kernel
theorem dX8_copy_53 : decode cX8_copy 53 = .ok (.getfield 115, 3) := by decide +kernel
theorem dX8_copy_56 : decode cX8_copy 56 = .ok (.i2l, 1) := by decide +kernel
theorem dX8_copy_57 : decode cX8_copy 57 = .ok (.lcmp, 1) := by decide +kernel
theorem dX8_copy_58 : decode cX8_copy 58 = .ok (.ifCond .le 10, 3) := by decide +kernel
theorem dX8_copy_61 : decode cX8_copy 61 = .ok (.aload_n 0, 1) := by decide +kernel
theorem dX8_copy_62 : decode cX8_copy 62 = .ok (.bipush (-5), 2) := by decide +kernel
theorem dX8_copy_64 : decode cX8_copy 64 = .ok (.invokevirtual 122, 3) := by decide +kernel
theorem dX8_copy_67 : decode cX8_copy 67 = .ok (.ireturn, 1) := by decide +kernel
theorem dX8_copy_68 : decode cX8_copy 68 = .ok (.iconst 0, 1) := by decide +kernel
theorem dX8_copy_69 : decode cX8_copy 69 = .ok (.istore 4, 2) := by decide +kernel
theorem dX8_copy_71 : decode cX8_copy 71 = .ok (.iload 4, 2) := by decide +kernel
theorem dX8_copy_73 : decode cX8_copy 73 = .ok (.iload_n 3, 1) := by decide +kernel
theorem dX8_copy_74 : decode cX8_copy 74 = .ok (.if_icmp .ge 25, 3) := by decide +kernel
theorem dX8_copy_77 : decode cX8_copy 77 = .ok (.aload_n 0, 1) := by decide +kernel
theorem dX8_copy_78 : decode cX8_copy 78 = .ok (.getfield 112, 3) := by decide +kernel
theorem dX8_copy_81 : decode cX8_copy 81 = .ok (.iload 4, 2) := by decide +kernel
theorem dX8_copy_83 : decode cX8_copy 83 = .ok (.aload_n 0, 1) := by decide +kernel
theorem dX8_copy_84 : decode cX8_copy 84 = .ok (.getfield 109, 3) := by decide +kernel
theorem dX8_copy_87 : decode cX8_copy 87 = .ok (.iload_n 1, 1) := by decide +kernel
theorem dX8_copy_88 : decode cX8_copy 88 = .ok (.iload 4, 2) := by decide +kernel
theorem dX8_copy_90 : decode cX8_copy 90 = .ok (.iadd, 1) := by decide +kernel
theorem dX8_copy_91 : decode cX8_copy 91 = .ok (.iaload, 1) := by decide +kernel
theorem dX8_copy_92 : decode cX8_copy 92 = .ok (.iastore, 1) := by decide +kernel
theorem dX8_copy_93 : decode cX8_copy 93 = .ok (.iinc 4 1, 3) := by decide +kernel
theorem dX8_copy_96 : decode cX8_copy 96 = .ok (.goto (-25), 3) := by decide +kernel
theorem dX8_copy_99 : decode cX8_copy 99 = .ok (.iconst 0, 1) := by decide +kernel
theorem dX8_copy_100 : decode cX8_copy 100 = .ok (.istore 4, 2) := by decide +kernel
theorem dX8_copy_102 : decode cX8_copy 102 = .ok (.iload 4, 2) := by decide +kernel
theorem dX8_copy_104 : decode cX8_copy 104 = .ok (.iload_n 3, 1) := by decide +kernel
theorem dX8_copy_105 : decode cX8_copy 105 = .ok (.if_icmp .ge 25, 3) := by decide +kernel
theorem dX8_copy_108 : decode cX8_copy 108 = .ok (.aload_n 0, 1) := by decide +kernel
theorem dX8_copy_109 : decode cX8_copy 109 = .ok (.getfield 109, 3) := by decide +kernel
theorem dX8_copy_112 : decode cX8_copy 112 = .ok (.iload_n 2, 1) := by decide +kernel
theorem dX8_copy_113 : decode cX8_copy 113 = .ok (.iload 4, 2) := by decide +kernel
theorem dX8_copy_115 : decode cX8_copy 115 = .ok (.iadd, 1) := by decide +kernel
theorem dX8_copy_116 : decode cX8_copy 116 = .ok (.aload_n 0, 1) := by decide +kernel
theorem dX8_copy_117 : decode cX8_copy 117 = .ok (.getfield 112, 3) := by decide +kernel
theorem dX8_copy_120 : decode cX8_copy 120 = .ok (.iload 4, 2) := by decide +kernel
theorem dX8_copy_122 : decode cX8_copy 122 = .ok (.iaload, 1) := by decide +kernel
theorem dX8_copy_123 : decode cX8_copy 123 = .ok (.iastore, 1) := by decide +kernel
theorem dX8_copy_124 : decode cX8_copy 124 = .ok (.iinc 4 1, 3) := by decide +kernel
theorem dX8_copy_127 : decode cX8_copy 127 = .ok (.goto (-25), 3) := by decide +kernel
theorem dX8_copy_130 : decode cX8_copy 130 = .ok (.iload_n 3, 1) := by decide +kernel
theorem dX8_copy_131 : decode cX8_copy 131 = .ok (.ireturn, 1) := by decide +kernel
set_option maxRecDepth 20000 in
theorem ggX8_status_X8_isIn : GoodIn wsX8_status wsX8_isIn := goodIn_r _ [7] rfl (by decide +kernel)
set_option maxRecDepth 20000 in
theorem gX8_status_X8_isIn : GoodIn wsX8_status (va_wsS RX8 128 yX8_isIn wsX8_isIn) := goodIn_app (goodIn_of _ (by decide +kernel)) ggX8_status_X8_isIn
set_option maxRecDepth 20000 in
theorem ggX8_status_X8_no : GoodIn wsX8_status wsX8_no := goodIn_r _ [11, 3, 12, 13, 14, 15, 16, 17, 18, 19, 20, 21, 22, 23, 24, 25, 26, 27, 28, 29, 30, 31, 32, 33, 34, 35, 36, 37, 38, 39, 40, 41, 42, 43, 44, 45, 46, 47, 48, 49, 50, 51, 52, 53, 54, 55] rfl (by decide +kernel)
set_option maxRecDepth 20000 in
theorem gX8_status_X8_no : GoodIn wsX8_status (wsV RX8 122 RX8 yX8_no wsX8_no) := goodIn_app (goodIn_of _ (by decide +kernel)) ggX8_status_X8_no
theorem dX8_status_0 : decode cX8_status 0 = .ok (.iload_n 1, 1) := by decide +kernel
theorem dX8_status_1 : decode cX8_status 1 = .ok (.i2l, 1) := by decide +kernel
theorem dX8_status_2 : decode cX8_status 2 = .ok (.ldc2_w 291, 3) := by decide +kernel
theorem dX8_status_5 : decode cX8_status 5 = .ok (.ldc2_w 293, 3) := by decide +kernel
theorem dX8_status_8 : decode cX8_status 8 = .ok (.invokestatic 128, 3) := by decide +kernel
theorem dX8_status_11 : decode cX8_status 11 = .ok (.ifCond .eq 13, 3) := by decide +kernel
theorem dX8_status_14 : decode cX8_status 14 = .ok (.aload_n 0, 1) := by decide +kernel
theorem dX8_status_15 : decode cX8_status 15 = .ok (.getfield 48, 3) := by decide +kernel
theorem dX8_status_18 : decode cX8_status 18 = .ok (.iload_n 1, 1) := by decide +kernel
theorem dX8_status_19 : decode cX8_status 19 = .ok (.ineg, 1) := by decide +kernel
theorem dX8_status_20 : decode cX8_status 20 = .ok (.iaload, 1) := by decide +kernel
theorem dX8_status_21 : decode cX8_status 21 = .ok (.goto 9, 3) := by decide +kernel
theorem dX8_status_24 : decode cX8_status 24 = .ok (.aload_n 0, 1) := by decide +kernel
theorem dX8_status_25 : decode cX8_status 25 = .ok (.bipush (-6), 2) := by decide +kernel
theorem dX8_status_27 : decode cX8_status 27 = .ok (.invokevirtual 122, 3) := by decide +kernel
theorem dX8_status_30 : decode cX8_status 30 = .ok (.ireturn, 1) := by decide +kernel
