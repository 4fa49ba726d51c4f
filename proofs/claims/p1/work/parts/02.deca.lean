theorem dX0_init_0 : decode cX0_init 0 = .ok (.aload_n 0, 1) := by decide +kernel
theorem dX0_init_1 : decode cX0_init 1 = .ok (.invokespecial 3, 3) := by decide +kernel
theorem dX0_init_4 : decode cX0_init 4 = .ok (.aload_n 0, 1) := by decide +kernel
theorem dX0_init_5 : decode cX0_init 5 = .ok (.iconst (-1), 1) := by decide +kernel
theorem dX0_init_6 : decode cX0_init 6 = .ok (.putfield 9, 3) := by decide +kernel
theorem dX0_init_9 : decode cX0_init 9 = .ok (.aload_n 0, 1) := by decide +kernel
theorem dX0_init_10 : decode cX0_init 10 = .ok (.bipush 30, 2) := by decide +kernel
theorem dX0_init_12 : decode cX0_init 12 = .ok (.newarray .int, 2) := by decide +kernel
theorem dX0_init_14 : decode cX0_init 14 = .ok (.putfield 15, 3) := by decide +kernel
theorem dX0_init_17 : decode cX0_init 17 = .ok (.aload_n 0, 1) := by decide +kernel
theorem dX0_init_18 : decode cX0_init 18 = .ok (.bipush 30, 2) := by decide +kernel
theorem dX0_init_20 : decode cX0_init 20 = .ok (.newarray .long, 2) := by decide +kernel
theorem dX0_init_22 : decode cX0_init 22 = .ok (.putfield 19, 3) := by decide +kernel
theorem dX0_init_25 : decode cX0_init 25 = .ok (.aload_n 0, 1) := by decide +kernel
theorem dX0_init_26 : decode cX0_init 26 = .ok (.bipush 74, 2) := by decide +kernel
theorem dX0_init_28 : decode cX0_init 28 = .ok (.newarray .long, 2) := by decide +kernel
theorem dX0_init_30 : decode cX0_init 30 = .ok (.putfield 23, 3) := by decide +kernel
theorem dX0_init_33 : decode cX0_init 33 = .ok (.aload_n 0, 1) := by decide +kernel
theorem dX0_init_34 : decode cX0_init 34 = .ok (.aload_n 1, 1) := by decide +kernel
theorem dX0_init_35 : decode cX0_init 35 = .ok (.putfield 26, 3) := by decide +kernel
theorem dX0_init_38 : decode cX0_init 38 = .ok (.aload_n 0, 1) := by decide +kernel
theorem dX0_init_39 : decode cX0_init 39 = .ok (.aload_n 2, 1) := by decide +kernel
theorem dX0_init_40 : decode cX0_init 40 = .ok (.putfield 30, 3) := by decide +kernel
theorem dX0_init_43 : decode cX0_init 43 = .ok (.aload_n 0, 1) := by decide +kernel
theorem dX0_init_44 : decode cX0_init 44 = .ok (.aload_n 3, 1) := by decide +kernel
theorem dX0_init_45 : decode cX0_init 45 = .ok (.putfield 34, 3) := by decide +kernel
theorem dX0_init_48 : decode cX0_init 48 = .ok (.return_, 1) := by decide +kernel
set_option maxRecDepth 20000 in
theorem ggX0_perform_X2_forgetOlds : GoodIn wsX0_perform wsX2_forgetOlds := goodIn_r _ [14, 15, 109, 110, 111, 112, 113] rfl (by decide +kernel)
set_option maxRecDepth 20000 in
theorem gX0_perform_X2_forgetOlds : GoodIn wsX0_perform (wsV RX0 38 RX2 yX2_forgetOlds wsX2_forgetOlds) := goodIn_app (goodIn_of _ (by decide +kernel)) ggX0_perform_X2_forgetOlds
theorem dX0_perform_0 : decode cX0_perform 0 = .ok (.aload_n 0, 1) := by decide +kernel
theorem dX0_perform_1 : decode cX0_perform 1 = .ok (.getfield 26, 3) := by decide +kernel
theorem dX0_perform_4 : decode cX0_perform 4 = .ok (.invokevirtual 38, 3) := by decide +kernel
theorem dX0_perform_7 : decode cX0_perform 7 = .ok (.aload_n 0, 1) := by decide +kernel
theorem dX0_perform_8 : decode cX0_perform 8 = .ok (.iconst (-1), 1) := by decide +kernel
theorem dX0_perform_9 : decode cX0_perform 9 = .ok (.putfield 9, 3) := by decide +kernel
theorem dX0_perform_12 : decode cX0_perform 12 = .ok (.aload_n 0, 1) := by decide +kernel
theorem dX0_perform_13 : decode cX0_perform 13 = .ok (.iconst 0, 1) := by decide +kernel
theorem dX0_perform_14 : decode cX0_perform 14 = .ok (.putfield 43, 3) := by decide +kernel
theorem dX0_perform_17 : decode cX0_perform 17 = .ok (.aload_n 0, 1) := by decide +kernel
theorem dX0_perform_18 : decode cX0_perform 18 = .ok (.iconst 0, 1) := by decide +kernel
theorem dX0_perform_19 : decode cX0_perform 19 = .ok (.putfield 46, 3) := by decide +kernel
theorem dX0_perform_22 : decode cX0_perform 22 = .ok (.iload_n 2, 1) := by decide +kernel
theorem dX0_perform_23 : decode cX0_perform 23 = .ok (.ifCond .eq 15, 3) := by decide +kernel
theorem dX0_perform_26 : decode cX0_perform 26 = .ok (.aload_n 0, 1) := by decide +kernel
theorem dX0_perform_27 : decode cX0_perform 27 = .ok (.getfield 34, 3) := by decide +kernel
theorem dX0_perform_30 : decode cX0_perform 30 = .ok (.getfield 49, 3) := by decide +kernel
theorem dX0_perform_33 : decode cX0_perform 33 = .ok (.iload_n 1, 1) := by decide +kernel
theorem dX0_perform_34 : decode cX0_perform 34 = .ok (.iaload, 1) := by decide +kernel
theorem dX0_perform_35 : decode cX0_perform 35 = .ok (.goto 12, 3) := by decide +kernel
theorem dX0_perform_38 : decode cX0_perform 38 = .ok (.aload_n 0, 1) := by decide +kernel
theorem dX0_perform_39 : decode cX0_perform 39 = .ok (.getfield 30, 3) := by decide +kernel
theorem dX0_perform_42 : decode cX0_perform 42 = .ok (.getfield 54, 3) := by decide +kernel
theorem dX0_perform_45 : decode cX0_perform 45 = .ok (.iload_n 1, 1) := by decide +kernel
theorem dX0_perform_46 : decode cX0_perform 46 = .ok (.iaload, 1) := by decide +kernel
theorem dX0_perform_47 : decode cX0_perform 47 = .ok (.istore_n 3, 1) := by decide +kernel
theorem dX0_perform_48 : decode cX0_perform 48 = .ok (.iconst 0, 1) := by decide +kernel
theorem dX0_perform_49 : decode cX0_perform 49 = .ok (.istore 4, 2) := by decide +kernel
theorem dX0_perform_51 : decode cX0_perform 51 = .ok (.iconst 0, 1) := by decide +kernel
theorem dX0_perform_52 : decode cX0_perform 52 = .ok (.istore 5, 2) := by decide +kernel
theorem dX0_perform_54 : decode cX0_perform 54 = .ok (.iload 5, 2) := by decide +kernel
theorem dX0_perform_56 : decode cX0_perform 56 = .ok (.iload_n 3, 1) := by decide +kernel
theorem dX0_perform_57 : decode cX0_perform 57 = .ok (.if_icmp .ge 78, 3) := by decide +kernel
theorem dX0_perform_135 : decode cX0_perform 135 = .ok (.iload 4, 2) := by decide +kernel
theorem dX0_perform_137 : decode cX0_perform 137 = .ok (.ireturn, 1) := by decide +kernel
set_option maxRecDepth 20000 in
theorem ggX0_endsAlike_X0_perform : GoodIn wsX0_endsAlike wsX0_perform := goodIn_r _ [12, 1, 13, 14, 15, 16, 17, 18, 19, 20, 21, 22, 23, 24, 25, 26, 27, 28, 29, 30, 31, 32, 11, 33, 34, 35, 36, 37, 38, 39, 40, 41, 42, 43, 44, 45, 46, 2, 47, 48, 49, 50, 51, 52, 53, 54, 55, 56, 57, 58, 59, 60, 61, 62, 63, 64, 65, 66, 67, 68, 69, 70, 71, 72, 73, 74, 75, 76, 77, 78, 79, 80, 81, 82, 83, 84, 85, 86, 87, 88, 89, 90, 91, 92, 93, 98, 99, 100, 101, 102, 103, 104, 105, 106, 107, 113, 114, 115, 116, 117, 118, 119, 120, 121, 122, 123, 124, 125, 126, 108, 109, 110, 111, 112] rfl (by decide +kernel)
set_option maxRecDepth 20000 in
theorem gX0_endsAlike_X0_perform : GoodIn wsX0_endsAlike (wsV RX0 73 RX0 yX0_perform wsX0_perform) := goodIn_app (goodIn_of _ (by decide +kernel)) ggX0_endsAlike_X0_perform
set_option maxRecDepth 20000 in
theorem ggX0_endsAlike_X2_goBack : GoodIn wsX0_endsAlike wsX2_goBack := goodIn_r _ [74, 26, 75, 76, 77, 108, 109, 110, 111, 112] rfl (by decide +kernel)
set_option maxRecDepth 20000 in
theorem gX0_endsAlike_X2_goBack : GoodIn wsX0_endsAlike (wsV RX0 86 RX2 yX2_goBack wsX2_goBack) := goodIn_app (goodIn_of _ (by decide +kernel)) ggX0_endsAlike_X2_goBack
set_option maxRecDepth 20000 in
theorem ggX0_endsAlike_X0_isOtherEnd : GoodIn wsX0_endsAlike wsX0_isOtherEnd := goodIn_r _ [97, 1, 2, 3, 98, 99, 100, 101, 102, 103, 104, 105, 106, 107, 108, 109, 110, 111, 112] rfl (by decide +kernel)
set_option maxRecDepth 20000 in
theorem gX0_endsAlike_X0_isOtherEnd : GoodIn wsX0_endsAlike (wsV RX0 89 RX0 yX0_isOtherEnd wsX0_isOtherEnd) := goodIn_app (goodIn_of _ (by decide +kernel)) ggX0_endsAlike_X0_isOtherEnd
theorem dX0_endsAlike_0 : decode cX0_endsAlike 0 = .ok (.aload_n 0, 1) := by decide +kernel
theorem dX0_endsAlike_1 : decode cX0_endsAlike 1 = .ok (.iload_n 1, 1) := by decide +kernel
theorem dX0_endsAlike_2 : decode cX0_endsAlike 2 = .ok (.iconst 1, 1) := by decide +kernel
theorem dX0_endsAlike_3 : decode cX0_endsAlike 3 = .ok (.invokevirtual 73, 3) := by decide +kernel
theorem dX0_endsAlike_6 : decode cX0_endsAlike 6 = .ok (.istore_n 2, 1) := by decide +kernel
theorem dX0_endsAlike_7 : decode cX0_endsAlike 7 = .ok (.aload_n 0, 1) := by decide +kernel
theorem dX0_endsAlike_8 : decode cX0_endsAlike 8 = .ok (.getfield 26, 3) := by decide +kernel
theorem dX0_endsAlike_11 : decode cX0_endsAlike 11 = .ok (.getfield 77, 3) := by decide +kernel
theorem dX0_endsAlike_14 : decode cX0_endsAlike 14 = .ok (.iconst 0, 1) := by decide +kernel
theorem dX0_endsAlike_15 : decode cX0_endsAlike 15 = .ok (.aload_n 0, 1) := by decide +kernel
theorem dX0_endsAlike_16 : decode cX0_endsAlike 16 = .ok (.getfield 23, 3) := by decide +kernel
theorem dX0_endsAlike_19 : decode cX0_endsAlike 19 = .ok (.iconst 0, 1) := by decide +kernel
theorem dX0_endsAlike_20 : decode cX0_endsAlike 20 = .ok (.bipush 74, 2) := by decide +kernel
theorem dX0_endsAlike_22 : decode cX0_endsAlike 22 = .ok (.invokestatic 80, 3) := by decide +kernel
theorem dX0_endsAlike_25 : decode cX0_endsAlike 25 = .ok (.aload_n 0, 1) := by decide +kernel
theorem dX0_endsAlike_26 : decode cX0_endsAlike 26 = .ok (.getfield 26, 3) := by decide +kernel
theorem dX0_endsAlike_29 : decode cX0_endsAlike 29 = .ok (.invokevirtual 86, 3) := by decide +kernel
theorem dX0_endsAlike_32 : decode cX0_endsAlike 32 = .ok (.aload_n 0, 1) := by decide +kernel
theorem dX0_endsAlike_33 : decode cX0_endsAlike 33 = .ok (.iload_n 1, 1) := by decide +kernel
theorem dX0_endsAlike_34 : decode cX0_endsAlike 34 = .ok (.iconst 0, 1) := by decide +kernel
theorem dX0_endsAlike_35 : decode cX0_endsAlike 35 = .ok (.invokevirtual 73, 3) := by decide +kernel
theorem dX0_endsAlike_38 : decode cX0_endsAlike 38 = .ok (.iload_n 2, 1) := by decide +kernel
theorem dX0_endsAlike_39 : decode cX0_endsAlike 39 = .ok (.if_icmp .ne 14, 3) := by decide +kernel
theorem dX0_endsAlike_42 : decode cX0_endsAlike 42 = .ok (.aload_n 0, 1) := by decide +kernel
theorem dX0_endsAlike_43 : decode cX0_endsAlike 43 = .ok (.invokevirtual 89, 3) := by decide +kernel
theorem dX0_endsAlike_46 : decode cX0_endsAlike 46 = .ok (.ifCond .eq 7, 3) := by decide +kernel
theorem dX0_endsAlike_49 : decode cX0_endsAlike 49 = .ok (.iconst 1, 1) := by decide +kernel
theorem dX0_endsAlike_50 : decode cX0_endsAlike 50 = .ok (.goto 4, 3) := by decide +kernel
theorem dX0_endsAlike_54 : decode cX0_endsAlike 54 = .ok (.istore_n 3, 1) := by decide +kernel
theorem dX0_endsAlike_55 : decode cX0_endsAlike 55 = .ok (.aload_n 0, 1) := by decide +kernel
theorem dX0_endsAlike_56 : decode cX0_endsAlike 56 = .ok (.getfield 26, 3) := by decide +kernel
theorem dX0_endsAlike_59 : decode cX0_endsAlike 59 = .ok (.invokevirtual 86, 3) := by decide +kernel
theorem dX0_endsAlike_62 : decode cX0_endsAlike 62 = .ok (.iload_n 3, 1) := by decide +kernel
theorem dX0_endsAlike_63 : decode cX0_endsAlike 63 = .ok (.ireturn, 1) := by decide +kernel
theorem dX0_isOtherEnd_0 : decode cX0_isOtherEnd 0 = .ok (.iconst 0, 1) := by decide +kernel
theorem dX0_isOtherEnd_1 : decode cX0_isOtherEnd 1 = .ok (.istore_n 1, 1) := by decide +kernel
theorem dX0_isOtherEnd_2 : decode cX0_isOtherEnd 2 = .ok (.iload_n 1, 1) := by decide +kernel
theorem dX0_isOtherEnd_3 : decode cX0_isOtherEnd 3 = .ok (.bipush 74, 2) := by decide +kernel
theorem dX0_isOtherEnd_5 : decode cX0_isOtherEnd 5 = .ok (.if_icmp .ge 30, 3) := by decide +kernel
theorem dX0_isOtherEnd_8 : decode cX0_isOtherEnd 8 = .ok (.aload_n 0, 1) := by decide +kernel
theorem dX0_isOtherEnd_9 : decode cX0_isOtherEnd 9 = .ok (.getfield 26, 3) := by decide +kernel
theorem dX0_isOtherEnd_12 : decode cX0_isOtherEnd 12 = .ok (.getfield 77, 3) := by decide +kernel
theorem dX0_isOtherEnd_15 : decode cX0_isOtherEnd 15 = .ok (.iload_n 1, 1) := by decide +kernel
theorem dX0_isOtherEnd_16 : decode cX0_isOtherEnd 16 = .ok (.laload, 1) := by decide +kernel
theorem dX0_isOtherEnd_17 : decode cX0_isOtherEnd 17 = .ok (.aload_n 0, 1) := by decide +kernel
theorem dX0_isOtherEnd_18 : decode cX0_isOtherEnd 18 = .ok (.getfield 23, 3) := by decide +kernel
theorem dX0_isOtherEnd_21 : decode cX0_isOtherEnd 21 = .ok (.iload_n 1, 1) := by decide +kernel
theorem dX0_isOtherEnd_22 : decode cX0_isOtherEnd 22 = .ok (.laload, 1) := by decide +kernel
theorem dX0_isOtherEnd_23 : decode cX0_isOtherEnd 23 = .ok (.lcmp, 1) := by decide +kernel
theorem dX0_isOtherEnd_24 : decode cX0_isOtherEnd 24 = .ok (.ifCond .eq 5, 3) := by decide +kernel
theorem dX0_isOtherEnd_29 : decode cX0_isOtherEnd 29 = .ok (.iinc 1 1, 3) := by decide +kernel
theorem dX0_isOtherEnd_32 : decode cX0_isOtherEnd 32 = .ok (.goto (-30), 3) := by decide +kernel
theorem dX0_isOtherEnd_35 : decode cX0_isOtherEnd 35 = .ok (.iconst 1, 1) := by decide +kernel
theorem dX0_isOtherEnd_36 : decode cX0_isOtherEnd 36 = .ok (.ireturn, 1) := by decide +kernel
theorem dX1_init_0 : decode cX1_init 0 = .ok (.aload_n 0, 1) := by decide +kernel
theorem dX1_init_1 : decode cX1_init 1 = .ok (.invokespecial 3, 3) := by decide +kernel
theorem dX1_init_4 : decode cX1_init 4 = .ok (.aload_n 0, 1) := by decide +kernel
theorem dX1_init_5 : decode cX1_init 5 = .ok (.bipush 7, 2) := by decide +kernel
theorem dX1_init_7 : decode cX1_init 7 = .ok (.newarray .int, 2) := by decide +kernel
theorem dX1_init_9 : decode cX1_init 9 = .ok (.putfield 9, 3) := by decide +kernel
theorem dX1_init_12 : decode cX1_init 12 = .ok (.aload_n 0, 1) := by decide +kernel
theorem dX1_init_13 : decode cX1_init 13 = .ok (.bipush 120, 2) := by decide +kernel
theorem dX1_init_15 : decode cX1_init 15 = .ok (.newarray .int, 2) := by decide +kernel
theorem dX1_init_17 : decode cX1_init 17 = .ok (.putfield 15, 3) := by decide +kernel
theorem dX1_init_20 : decode cX1_init 20 = .ok (.aload_n 0, 1) := by decide +kernel
theorem dX1_init_21 : decode cX1_init 21 = .ok (.bipush 120, 2) := by decide +kernel
theorem dX1_init_23 : decode cX1_init 23 = .ok (.newarray .int, 2) := by decide +kernel
theorem dX1_init_25 : decode cX1_init 25 = .ok (.putfield 18, 3) := by decide +kernel
theorem dX1_init_28 : decode cX1_init 28 = .ok (.aload_n 0, 1) := by decide +kernel
theorem dX1_init_29 : decode cX1_init 29 = .ok (.bipush 7, 2) := by decide +kernel
theorem dX1_init_31 : decode cX1_init 31 = .ok (.newarray .int, 2) := by decide +kernel
theorem dX1_init_33 : decode cX1_init 33 = .ok (.putfield 21, 3) := by decide +kernel
theorem dX1_init_36 : decode cX1_init 36 = .ok (.aload_n 0, 1) := by decide +kernel
theorem dX1_init_37 : decode cX1_init 37 = .ok (.bipush 7, 2) := by decide +kernel
theorem dX1_init_39 : decode cX1_init 39 = .ok (.newarray .int, 2) := by decide +kernel
theorem dX1_init_41 : decode cX1_init 41 = .ok (.putfield 24, 3) := by decide +kernel
theorem dX1_init_44 : decode cX1_init 44 = .ok (.aload_n 0, 1) := by decide +kernel
theorem dX1_init_45 : decode cX1_init 45 = .ok (.bipush 7, 2) := by decide +kernel
theorem dX1_init_47 : decode cX1_init 47 = .ok (.newarray .int, 2) := by decide +kernel
theorem dX1_init_49 : decode cX1_init 49 = .ok (.putfield 27, 3) := by decide +kernel
theorem dX1_init_52 : decode cX1_init 52 = .ok (.aload_n 0, 1) := by decide +kernel
theorem dX1_init_53 : decode cX1_init 53 = .ok (.bipush 7, 2) := by decide +kernel
theorem dX1_init_55 : decode cX1_init 55 = .ok (.newarray .int, 2) := by decide +kernel
theorem dX1_init_57 : decode cX1_init 57 = .ok (.putfield 30, 3) := by decide +kernel
theorem dX1_init_60 : decode cX1_init 60 = .ok (.aload_n 0, 1) := by decide +kernel
theorem dX1_init_61 : decode cX1_init 61 = .ok (.aload_n 1, 1) := by decide +kernel
theorem dX1_init_62 : decode cX1_init 62 = .ok (.putfield 33, 3) := by decide +kernel
theorem dX1_init_65 : decode cX1_init 65 = .ok (.aload_n 0, 1) := by decide +kernel
theorem dX1_init_66 : decode cX1_init 66 = .ok (.aload_n 2, 1) := by decide +kernel
theorem dX1_init_67 : decode cX1_init 67 = .ok (.putfield 37, 3) := by decide +kernel
theorem dX1_init_70 : decode cX1_init 70 = .ok (.return_, 1) := by decide +kernel
set_option maxRecDepth 20000 in
theorem ggX1_make_J7_fill_53178 : GoodIn wsX1_make wsJ7_fill_53178 := goodIn_r _ [14] rfl (by decide +kernel)
set_option maxRecDepth 20000 in
theorem gX1_make_J7_fill_53178 : GoodIn wsX1_make (va_wsS RX1 45 yJ7_fill_53178 wsJ7_fill_53178) := goodIn_app (goodIn_of _ (by decide +kernel)) ggX1_make_J7_fill_53178
set_option maxRecDepth 20000 in
theorem ggX1_make_X1_makeGroups : GoodIn wsX1_make wsX1_makeGroups := goodIn_r _ [52, 9, 53, 10, 54, 2, 55, 56, 57, 58, 11, 12, 13, 14, 59, 60, 61, 18, 62, 3, 66, 67, 68, 69, 70, 71, 72, 73, 74, 75, 76, 77] rfl (by decide +kernel)
set_option maxRecDepth 20000 in
theorem gX1_make_X1_makeGroups : GoodIn wsX1_make (wsV RX1 70 RX1 yX1_makeGroups wsX1_makeGroups) := goodIn_app (goodIn_of _ (by decide +kernel)) ggX1_make_X1_makeGroups
set_option maxRecDepth 20000 in
theorem ggX1_make_X1_bitsToTell : GoodIn wsX1_make wsX1_bitsToTell := goodIn_r _ [65] rfl (by decide +kernel)
set_option maxRecDepth 20000 in
theorem gX1_make_X1_bitsToTell : GoodIn wsX1_make (va_wsS RX1 73 yX1_bitsToTell wsX1_bitsToTell) := goodIn_app (goodIn_of _ (by decide +kernel)) ggX1_make_X1_bitsToTell
theorem dX1_make_0 : decode cX1_make 0 = .ok (.aload_n 0, 1) := by decide +kernel
theorem dX1_make_1 : decode cX1_make 1 = .ok (.iconst 0, 1) := by decide +kernel
theorem dX1_make_2 : decode cX1_make 2 = .ok (.putfield 41, 3) := by decide +kernel
theorem dX1_make_5 : decode cX1_make 5 = .ok (.aload_n 0, 1) := by decide +kernel
theorem dX1_make_6 : decode cX1_make 6 = .ok (.getfield 21, 3) := by decide +kernel
theorem dX1_make_9 : decode cX1_make 9 = .ok (.iconst 0, 1) := by decide +kernel
theorem dX1_make_10 : decode cX1_make 10 = .ok (.invokestatic 45, 3) := by decide +kernel
theorem dX1_make_13 : decode cX1_make 13 = .ok (.aload_n 0, 1) := by decide +kernel
theorem dX1_make_14 : decode cX1_make 14 = .ok (.getfield 24, 3) := by decide +kernel
theorem dX1_make_17 : decode cX1_make 17 = .ok (.iconst 0, 1) := by decide +kernel
theorem dX1_make_18 : decode cX1_make 18 = .ok (.invokestatic 45, 3) := by decide +kernel
theorem dX1_make_21 : decode cX1_make 21 = .ok (.iconst 0, 1) := by decide +kernel
theorem dX1_make_22 : decode cX1_make 22 = .ok (.istore_n 1, 1) := by decide +kernel
theorem dX1_make_23 : decode cX1_make 23 = .ok (.iload_n 1, 1) := by decide +kernel
theorem dX1_make_24 : decode cX1_make 24 = .ok (.aload_n 0, 1) := by decide +kernel
theorem dX1_make_25 : decode cX1_make 25 = .ok (.getfield 37, 3) := by decide +kernel
theorem dX1_make_28 : decode cX1_make 28 = .ok (.getfield 51, 3) := by decide +kernel
theorem dX1_make_31 : decode cX1_make 31 = .ok (.if_icmp .ge 35, 3) := by decide +kernel
theorem dX1_make_66 : decode cX1_make 66 = .ok (.aload_n 0, 1) := by decide +kernel
theorem dX1_make_67 : decode cX1_make 67 = .ok (.invokevirtual 70, 3) := by decide +kernel
theorem dX1_make_70 : decode cX1_make 70 = .ok (.aload_n 0, 1) := by decide +kernel
theorem dX1_make_71 : decode cX1_make 71 = .ok (.aload_n 0, 1) := by decide +kernel
theorem dX1_make_72 : decode cX1_make 72 = .ok (.getfield 37, 3) := by decide +kernel
theorem dX1_make_75 : decode cX1_make 75 = .ok (.getfield 51, 3) := by decide +kernel
theorem dX1_make_78 : decode cX1_make 78 = .ok (.iconst 1, 1) := by decide +kernel
theorem dX1_make_79 : decode cX1_make 79 = .ok (.iadd, 1) := by decide +kernel
theorem dX1_make_80 : decode cX1_make 80 = .ok (.invokestatic 73, 3) := by decide +kernel
theorem dX1_make_83 : decode cX1_make 83 = .ok (.putfield 77, 3) := by decide +kernel
theorem dX1_make_86 : decode cX1_make 86 = .ok (.iconst 0, 1) := by decide +kernel
theorem dX1_make_87 : decode cX1_make 87 = .ok (.istore_n 1, 1) := by decide +kernel
theorem dX1_make_88 : decode cX1_make 88 = .ok (.iload_n 1, 1) := by decide +kernel
theorem dX1_make_89 : decode cX1_make 89 = .ok (.aload_n 0, 1) := by decide +kernel
theorem dX1_make_90 : decode cX1_make 90 = .ok (.getfield 80, 3) := by decide +kernel
theorem dX1_make_93 : decode cX1_make 93 = .ok (.if_icmp .ge 29, 3) := by decide +kernel
theorem dX1_make_122 : decode cX1_make 122 = .ok (.return_, 1) := by decide +kernel
set_option maxRecDepth 20000 in
theorem ggX1_makeGroups_J7_fill_53178 : GoodIn wsX1_makeGroups wsJ7_fill_53178 := goodIn_r _ [13] rfl (by decide +kernel)
set_option maxRecDepth 20000 in
theorem gX1_makeGroups_J7_fill_53178 : GoodIn wsX1_makeGroups (va_wsS RX1 45 yJ7_fill_53178 wsJ7_fill_53178) := goodIn_app (goodIn_of _ (by decide +kernel)) ggX1_makeGroups_J7_fill_53178
theorem dX1_makeGroups_0 : decode cX1_makeGroups 0 = .ok (.aload_n 0, 1) := by decide +kernel
theorem dX1_makeGroups_1 : decode cX1_makeGroups 1 = .ok (.iconst 0, 1) := by decide +kernel
theorem dX1_makeGroups_2 : decode cX1_makeGroups 2 = .ok (.putfield 80, 3) := by decide +kernel
theorem dX1_makeGroups_5 : decode cX1_makeGroups 5 = .ok (.aload_n 0, 1) := by decide +kernel
theorem dX1_makeGroups_6 : decode cX1_makeGroups 6 = .ok (.getfield 27, 3) := by decide +kernel
theorem dX1_makeGroups_9 : decode cX1_makeGroups 9 = .ok (.iconst 0, 1) := by decide +kernel
theorem dX1_makeGroups_10 : decode cX1_makeGroups 10 = .ok (.invokestatic 45, 3) := by decide +kernel
theorem dX1_makeGroups_13 : decode cX1_makeGroups 13 = .ok (.aload_n 0, 1) := by decide +kernel
theorem dX1_makeGroups_14 : decode cX1_makeGroups 14 = .ok (.getfield 30, 3) := by decide +kernel
theorem dX1_makeGroups_17 : decode cX1_makeGroups 17 = .ok (.iconst 0, 1) := by decide +kernel
theorem dX1_makeGroups_18 : decode cX1_makeGroups 18 = .ok (.invokestatic 45, 3) := by decide +kernel
theorem dX1_makeGroups_21 : decode cX1_makeGroups 21 = .ok (.iconst 0, 1) := by decide +kernel
theorem dX1_makeGroups_22 : decode cX1_makeGroups 22 = .ok (.istore_n 1, 1) := by decide +kernel
theorem dX1_makeGroups_23 : decode cX1_makeGroups 23 = .ok (.iload_n 1, 1) := by decide +kernel
theorem dX1_makeGroups_24 : decode cX1_makeGroups 24 = .ok (.bipush 7, 2) := by decide +kernel
theorem dX1_makeGroups_26 : decode cX1_makeGroups 26 = .ok (.if_icmp .ge 79, 3) := by decide +kernel
theorem dX1_makeGroups_29 : decode cX1_makeGroups 29 = .ok (.aload_n 0, 1) := by decide +kernel
theorem dX1_makeGroups_30 : decode cX1_makeGroups 30 = .ok (.getfield 9, 3) := by decide +kernel
theorem dX1_makeGroups_33 : decode cX1_makeGroups 33 = .ok (.iload_n 1, 1) := by decide +kernel
theorem dX1_makeGroups_34 : decode cX1_makeGroups 34 = .ok (.iconst (-1), 1) := by decide +kernel
theorem dX1_makeGroups_35 : decode cX1_makeGroups 35 = .ok (.iastore, 1) := by decide +kernel
theorem dX1_makeGroups_36 : decode cX1_makeGroups 36 = .ok (.aload_n 0, 1) := by decide +kernel
theorem dX1_makeGroups_37 : decode cX1_makeGroups 37 = .ok (.getfield 21, 3) := by decide +kernel
theorem dX1_makeGroups_40 : decode cX1_makeGroups 40 = .ok (.iload_n 1, 1) := by decide +kernel
theorem dX1_makeGroups_41 : decode cX1_makeGroups 41 = .ok (.iaload, 1) := by decide +kernel
theorem dX1_makeGroups_42 : decode cX1_makeGroups 42 = .ok (.ifCond .le 57, 3) := by decide +kernel
theorem dX1_makeGroups_99 : decode cX1_makeGroups 99 = .ok (.iinc 1 1, 3) := by decide +kernel
theorem dX1_makeGroups_102 : decode cX1_makeGroups 102 = .ok (.goto (-79), 3) := by decide +kernel
theorem dX1_makeGroups_105 : decode cX1_makeGroups 105 = .ok (.return_, 1) := by decide +kernel
theorem dX1_bitsToTell_0 : decode cX1_bitsToTell 0 = .ok (.iconst 0, 1) := by decide +kernel
theorem dX1_bitsToTell_1 : decode cX1_bitsToTell 1 = .ok (.istore_n 1, 1) := by decide +kernel
theorem dX1_bitsToTell_2 : decode cX1_bitsToTell 2 = .ok (.iconst 1, 1) := by decide +kernel
theorem dX1_bitsToTell_3 : decode cX1_bitsToTell 3 = .ok (.istore_n 2, 1) := by decide +kernel
theorem dX1_bitsToTell_4 : decode cX1_bitsToTell 4 = .ok (.iload_n 2, 1) := by decide +kernel
theorem dX1_bitsToTell_5 : decode cX1_bitsToTell 5 = .ok (.iload_n 0, 1) := by decide +kernel
theorem dX1_bitsToTell_6 : decode cX1_bitsToTell 6 = .ok (.if_icmp .ge 13, 3) := by decide +kernel
theorem dX1_bitsToTell_19 : decode cX1_bitsToTell 19 = .ok (.iload_n 1, 1) := by decide +kernel
theorem dX1_bitsToTell_20 : decode cX1_bitsToTell 20 = .ok (.ireturn, 1) := by decide +kernel
set_option maxRecDepth 20000 in
theorem ggX2_init_J7_fill_53178 : GoodIn wsX2_init wsJ7_fill_53178 := goodIn_r _ [13] rfl (by decide +kernel)
set_option maxRecDepth 20000 in
theorem gX2_init_J7_fill_53178 : GoodIn wsX2_init (va_wsS RX2 25 yJ7_fill_53178 wsJ7_fill_53178) := goodIn_app (goodIn_of _ (by decide +kernel)) ggX2_init_J7_fill_53178
theorem dX2_init_0 : decode cX2_init 0 = .ok (.aload_n 0, 1) := by decide +kernel
theorem dX2_init_1 : decode cX2_init 1 = .ok (.invokespecial 3, 3) := by decide +kernel
theorem dX2_init_4 : decode cX2_init 4 = .ok (.aload_n 0, 1) := by decide +kernel
theorem dX2_init_5 : decode cX2_init 5 = .ok (.bipush 8, 2) := by decide +kernel
theorem dX2_init_7 : decode cX2_init 7 = .ok (.newarray .int, 2) := by decide +kernel
theorem dX2_init_9 : decode cX2_init 9 = .ok (.putfield 9, 3) := by decide +kernel
theorem dX2_init_12 : decode cX2_init 12 = .ok (.aload_n 0, 1) := by decide +kernel
theorem dX2_init_13 : decode cX2_init 13 = .ok (.bipush 74, 2) := by decide +kernel
theorem dX2_init_15 : decode cX2_init 15 = .ok (.newarray .long, 2) := by decide +kernel
theorem dX2_init_17 : decode cX2_init 17 = .ok (.putfield 15, 3) := by decide +kernel
theorem dX2_init_20 : decode cX2_init 20 = .ok (.aload_n 0, 1) := by decide +kernel
theorem dX2_init_21 : decode cX2_init 21 = .ok (.bipush 30, 2) := by decide +kernel
theorem dX2_init_23 : decode cX2_init 23 = .ok (.newarray .int, 2) := by decide +kernel
theorem dX2_init_25 : decode cX2_init 25 = .ok (.putfield 19, 3) := by decide +kernel
theorem dX2_init_28 : decode cX2_init 28 = .ok (.aload_n 0, 1) := by decide +kernel
theorem dX2_init_29 : decode cX2_init 29 = .ok (.bipush 30, 2) := by decide +kernel
theorem dX2_init_31 : decode cX2_init 31 = .ok (.newarray .long, 2) := by decide +kernel
theorem dX2_init_33 : decode cX2_init 33 = .ok (.putfield 22, 3) := by decide +kernel
theorem dX2_init_36 : decode cX2_init 36 = .ok (.aload_n 0, 1) := by decide +kernel
theorem dX2_init_37 : decode cX2_init 37 = .ok (.getfield 9, 3) := by decide +kernel
theorem dX2_init_40 : decode cX2_init 40 = .ok (.bipush 16, 2) := by decide +kernel
theorem dX2_init_42 : decode cX2_init 42 = .ok (.invokestatic 25, 3) := by decide +kernel
theorem dX2_init_45 : decode cX2_init 45 = .ok (.return_, 1) := by decide +kernel
theorem dX2_cutFor_0 : decode cX2_cutFor 0 = .ok (.iload_n 1, 1) := by decide +kernel
theorem dX2_cutFor_1 : decode cX2_cutFor 1 = .ok (.bipush 8, 2) := by decide +kernel
theorem dX2_cutFor_3 : decode cX2_cutFor 3 = .ok (.if_icmp .ge 12, 3) := by decide +kernel
theorem dX2_cutFor_6 : decode cX2_cutFor 6 = .ok (.aload_n 0, 1) := by decide +kernel
theorem dX2_cutFor_7 : decode cX2_cutFor 7 = .ok (.getfield 9, 3) := by decide +kernel
theorem dX2_cutFor_10 : decode cX2_cutFor 10 = .ok (.iload_n 1, 1) := by decide +kernel
theorem dX2_cutFor_11 : decode cX2_cutFor 11 = .ok (.iaload, 1) := by decide +kernel
theorem dX2_cutFor_12 : decode cX2_cutFor 12 = .ok (.goto 5, 3) := by decide +kernel
theorem dX2_cutFor_15 : decode cX2_cutFor 15 = .ok (.bipush 32, 2) := by decide +kernel
theorem dX2_cutFor_17 : decode cX2_cutFor 17 = .ok (.istore 4, 2) := by decide +kernel
theorem dX2_cutFor_19 : decode cX2_cutFor 19 = .ok (.lload_n 2, 1) := by decide +kernel
theorem dX2_cutFor_20 : decode cX2_cutFor 20 = .ok (.lconst 1, 1) := by decide +kernel
theorem dX2_cutFor_21 : decode cX2_cutFor 21 = .ok (.iload 4, 2) := by decide +kernel
theorem dX2_cutFor_23 : decode cX2_cutFor 23 = .ok (.lshl, 1) := by decide +kernel
theorem dX2_cutFor_24 : decode cX2_cutFor 24 = .ok (.lconst 1, 1) := by decide +kernel
theorem dX2_cutFor_25 : decode cX2_cutFor 25 = .ok (.lsub, 1) := by decide +kernel
theorem dX2_cutFor_26 : decode cX2_cutFor 26 = .ok (.land, 1) := by decide +kernel
theorem dX2_cutFor_27 : decode cX2_cutFor 27 = .ok (.lreturn, 1) := by decide +kernel
set_option maxRecDepth 20000 in
theorem ggX2_put_X2_cutFor : GoodIn wsX2_put wsX2_cutFor := goodIn_r _ [6, 7, 8, 9, 10, 11, 12] rfl (by decide +kernel)
set_option maxRecDepth 20000 in
theorem gX2_put_X2_cutFor : GoodIn wsX2_put (wsV RX2 31 RX2 yX2_cutFor wsX2_cutFor) := goodIn_app (goodIn_of _ (by decide +kernel)) ggX2_put_X2_cutFor
theorem dX2_put_0 : decode cX2_put 0 = .ok (.aload_n 0, 1) := by decide +kernel
theorem dX2_put_1 : decode cX2_put 1 = .ok (.getfield 15, 3) := by decide +kernel
theorem dX2_put_4 : decode cX2_put 4 = .ok (.iload_n 1, 1) := by decide +kernel
theorem dX2_put_5 : decode cX2_put 5 = .ok (.laload, 1) := by decide +kernel
theorem dX2_put_6 : decode cX2_put 6 = .ok (.lstore 4, 2) := by decide +kernel
theorem dX2_put_8 : decode cX2_put 8 = .ok (.aload_n 0, 1) := by decide +kernel
theorem dX2_put_9 : decode cX2_put 9 = .ok (.getfield 15, 3) := by decide +kernel
theorem dX2_put_12 : decode cX2_put 12 = .ok (.iload_n 1, 1) := by decide +kernel
theorem dX2_put_13 : decode cX2_put 13 = .ok (.aload_n 0, 1) := by decide +kernel
theorem dX2_put_14 : decode cX2_put 14 = .ok (.iload_n 1, 1) := by decide +kernel
theorem dX2_put_15 : decode cX2_put 15 = .ok (.lload_n 2, 1) := by decide +kernel
theorem dX2_put_16 : decode cX2_put 16 = .ok (.invokevirtual 31, 3) := by decide +kernel
theorem dX2_put_19 : decode cX2_put 19 = .ok (.lastore, 1) := by decide +kernel
theorem dX2_put_20 : decode cX2_put 20 = .ok (.aload_n 0, 1) := by decide +kernel
theorem dX2_put_21 : decode cX2_put 21 = .ok (.getfield 15, 3) := by decide +kernel
theorem dX2_put_24 : decode cX2_put 24 = .ok (.iload_n 1, 1) := by decide +kernel
theorem dX2_put_25 : decode cX2_put 25 = .ok (.laload, 1) := by decide +kernel
theorem dX2_put_26 : decode cX2_put 26 = .ok (.lload 4, 2) := by decide +kernel
theorem dX2_put_28 : decode cX2_put 28 = .ok (.lcmp, 1) := by decide +kernel
theorem dX2_put_29 : decode cX2_put 29 = .ok (.ifCond .ne 7, 3) := by decide +kernel
theorem dX2_put_32 : decode cX2_put 32 = .ok (.iconst 0, 1) := by decide +kernel
theorem dX2_put_33 : decode cX2_put 33 = .ok (.goto 4, 3) := by decide +kernel
theorem dX2_put_36 : decode cX2_put 36 = .ok (.iconst 1, 1) := by decide +kernel
theorem dX2_put_37 : decode cX2_put 37 = .ok (.ireturn, 1) := by decide +kernel
theorem dX2_forgetOlds_0 : decode cX2_forgetOlds 0 = .ok (.aload_n 0, 1) := by decide +kernel
theorem dX2_forgetOlds_1 : decode cX2_forgetOlds 1 = .ok (.iconst 0, 1) := by decide +kernel
theorem dX2_forgetOlds_2 : decode cX2_forgetOlds 2 = .ok (.putfield 35, 3) := by decide +kernel
theorem dX2_forgetOlds_5 : decode cX2_forgetOlds 5 = .ok (.return_, 1) := by decide +kernel
theorem dX2_goBack_0 : decode cX2_goBack 0 = .ok (.aload_n 0, 1) := by decide +kernel
theorem dX2_goBack_1 : decode cX2_goBack 1 = .ok (.getfield 35, 3) := by decide +kernel
theorem dX2_goBack_4 : decode cX2_goBack 4 = .ok (.iconst 1, 1) := by decide +kernel
theorem dX2_goBack_5 : decode cX2_goBack 5 = .ok (.isub, 1) := by decide +kernel
theorem dX2_goBack_6 : decode cX2_goBack 6 = .ok (.istore_n 1, 1) := by decide +kernel
theorem dX2_goBack_7 : decode cX2_goBack 7 = .ok (.iload_n 1, 1) := by decide +kernel
theorem dX2_goBack_8 : decode cX2_goBack 8 = .ok (.ifCond .lt 26, 3) := by decide +kernel
theorem dX2_goBack_34 : decode cX2_goBack 34 = .ok (.aload_n 0, 1) := by decide +kernel
theorem dX2_goBack_35 : decode cX2_goBack 35 = .ok (.iconst 0, 1) := by decide +kernel
theorem dX2_goBack_36 : decode cX2_goBack 36 = .ok (.putfield 35, 3) := by decide +kernel
theorem dX2_goBack_39 : decode cX2_goBack 39 = .ok (.return_, 1) := by decide +kernel
set_option maxRecDepth 20000 in
theorem ggX3_init_X6_init : GoodIn wsX3_init wsX6_init := goodIn_r _ [18, 19, 2, 3, 6, 20, 21, 22, 23, 24, 25, 26, 27, 28, 36, 37, 38, 39, 40, 41, 42, 43, 44, 45] rfl (by decide +kernel)
set_option maxRecDepth 20000 in
theorem gX3_init_X6_init : GoodIn wsX3_init (wsX6_init) := ggX3_init_X6_init
theorem dX3_init_0 : decode cX3_init 0 = .ok (.aload_n 0, 1) := by decide +kernel
theorem dX3_init_1 : decode cX3_init 1 = .ok (.invokespecial 3, 3) := by decide +kernel
theorem dX3_init_4 : decode cX3_init 4 = .ok (.aload_n 0, 1) := by decide +kernel
theorem dX3_init_5 : decode cX3_init 5 = .ok (.bipush 12, 2) := by decide +kernel
theorem dX3_init_7 : decode cX3_init 7 = .ok (.newarray .boolean, 2) := by decide +kernel
theorem dX3_init_9 : decode cX3_init 9 = .ok (.putfield 9, 3) := by decide +kernel
theorem dX3_init_12 : decode cX3_init 12 = .ok (.aload_n 0, 1) := by decide +kernel
theorem dX3_init_13 : decode cX3_init 13 = .ok (.bipush 12, 2) := by decide +kernel
theorem dX3_init_15 : decode cX3_init 15 = .ok (.newarray .int, 2) := by decide +kernel
theorem dX3_init_17 : decode cX3_init 17 = .ok (.putfield 15, 3) := by decide +kernel
theorem dX3_init_20 : decode cX3_init 20 = .ok (.aload_n 0, 1) := by decide +kernel
theorem dX3_init_21 : decode cX3_init 21 = .ok (.bipush 120, 2) := by decide +kernel
theorem dX3_init_23 : decode cX3_init 23 = .ok (.newarray .int, 2) := by decide +kernel
theorem dX3_init_25 : decode cX3_init 25 = .ok (.putfield 19, 3) := by decide +kernel
theorem dX3_init_28 : decode cX3_init 28 = .ok (.aload_n 0, 1) := by decide +kernel
theorem dX3_init_29 : decode cX3_init 29 = .ok (.bipush 120, 2) := by decide +kernel
theorem dX3_init_31 : decode cX3_init 31 = .ok (.newarray .int, 2) := by decide +kernel
theorem dX3_init_33 : decode cX3_init 33 = .ok (.putfield 22, 3) := by decide +kernel
theorem dX3_init_36 : decode cX3_init 36 = .ok (.aload_n 0, 1) := by decide +kernel
theorem dX3_init_37 : decode cX3_init 37 = .ok (.iconst 1, 1) := by decide +kernel
theorem dX3_init_38 : decode cX3_init 38 = .ok (.putfield 25, 3) := by decide +kernel
theorem dX3_init_41 : decode cX3_init 41 = .ok (.aload_n 0, 1) := by decide +kernel
theorem dX3_init_42 : decode cX3_init 42 = .ok (.aload_n 1, 1) := by decide +kernel
theorem dX3_init_43 : decode cX3_init 43 = .ok (.putfield 29, 3) := by decide +kernel
theorem dX3_init_46 : decode cX3_init 46 = .ok (.aload_n 0, 1) := by decide +kernel
theorem dX3_init_47 : decode cX3_init 47 = .ok (.new 33, 3) := by decide +kernel
theorem dX3_init_50 : decode cX3_init 50 = .ok (.dup, 1) := by decide +kernel
theorem dX3_init_51 : decode cX3_init 51 = .ok (.aload_n 1, 1) := by decide +kernel
theorem dX3_init_52 : decode cX3_init 52 = .ok (.invokespecial 35, 3) := by decide +kernel
theorem dX3_init_55 : decode cX3_init 55 = .ok (.putfield 38, 3) := by decide +kernel
theorem dX3_init_58 : decode cX3_init 58 = .ok (.return_, 1) := by decide +kernel
set_option maxRecDepth 20000 in
theorem ggX3_make_X6_solve : GoodIn wsX3_make wsX6_solve := goodIn_r _ [12, 13, 14, 15, 16, 17, 18, 19, 20, 11, 21, 22, 23, 24, 25, 26, 27, 28, 29, 30, 31, 32, 33, 34, 35, 36, 37, 38, 39, 40, 41, 42, 43, 44, 45, 46, 47, 48, 49, 50, 51, 52, 53, 54, 55, 56, 57, 58, 59, 60, 61, 62, 63, 64, 65, 66, 67, 68, 69, 70, 71, 72, 73, 74, 75, 76, 77, 78, 79, 80, 81, 82, 83, 84, 85, 86, 94, 95, 96, 97, 98, 99, 100, 101, 102, 103, 104, 105, 106, 107, 108, 109, 110] rfl (by decide +kernel)
set_option maxRecDepth 20000 in
theorem gX3_make_X6_solve : GoodIn wsX3_make (wsV RX3 42 RX6 yX6_solve wsX6_solve) := goodIn_app (goodIn_of _ (by decide +kernel)) ggX3_make_X6_solve
theorem dX3_make_0 : decode cX3_make 0 = .ok (.aload_n 0, 1) := by decide +kernel
theorem dX3_make_1 : decode cX3_make 1 = .ok (.getfield 9, 3) := by decide +kernel
theorem dX3_make_4 : decode cX3_make 4 = .ok (.iload_n 1, 1) := by decide +kernel
theorem dX3_make_5 : decode cX3_make 5 = .ok (.baload, 1) := by decide +kernel
theorem dX3_make_6 : decode cX3_make 6 = .ok (.ifCond .eq 4, 3) := by decide +kernel
theorem dX3_make_9 : decode cX3_make 9 = .ok (.return_, 1) := by decide +kernel
theorem dX3_make_10 : decode cX3_make 10 = .ok (.aload_n 0, 1) := by decide +kernel
theorem dX3_make_11 : decode cX3_make 11 = .ok (.getfield 38, 3) := by decide +kernel
theorem dX3_make_14 : decode cX3_make 14 = .ok (.iload_n 1, 1) := by decide +kernel
theorem dX3_make_15 : decode cX3_make 15 = .ok (.aload_n 0, 1) := by decide +kernel
theorem dX3_make_16 : decode cX3_make 16 = .ok (.getfield 25, 3) := by decide +kernel
theorem dX3_make_19 : decode cX3_make 19 = .ok (.invokevirtual 42, 3) := by decide +kernel
theorem dX3_make_22 : decode cX3_make 22 = .ok (.istore_n 2, 1) := by decide +kernel
theorem dX3_make_23 : decode cX3_make 23 = .ok (.iconst 0, 1) := by decide +kernel
theorem dX3_make_24 : decode cX3_make 24 = .ok (.istore_n 3, 1) := by decide +kernel
theorem dX3_make_25 : decode cX3_make 25 = .ok (.iload_n 3, 1) := by decide +kernel
theorem dX3_make_26 : decode cX3_make 26 = .ok (.iload_n 2, 1) := by decide +kernel
theorem dX3_make_27 : decode cX3_make 27 = .ok (.if_icmp .ge 70, 3) := by decide +kernel
theorem dX3_make_97 : decode cX3_make 97 = .ok (.aload_n 0, 1) := by decide +kernel
theorem dX3_make_98 : decode cX3_make 98 = .ok (.getfield 15, 3) := by decide +kernel
theorem dX3_make_101 : decode cX3_make 101 = .ok (.iload_n 1, 1) := by decide +kernel
theorem dX3_make_102 : decode cX3_make 102 = .ok (.iload_n 2, 1) := by decide +kernel
theorem dX3_make_103 : decode cX3_make 103 = .ok (.iastore, 1) := by decide +kernel
theorem dX3_make_104 : decode cX3_make 104 = .ok (.aload_n 0, 1) := by decide +kernel
theorem dX3_make_105 : decode cX3_make 105 = .ok (.getfield 9, 3) := by decide +kernel
theorem dX3_make_108 : decode cX3_make 108 = .ok (.iload_n 1, 1) := by decide +kernel
theorem dX3_make_109 : decode cX3_make 109 = .ok (.iconst 1, 1) := by decide +kernel
theorem dX3_make_110 : decode cX3_make 110 = .ok (.bastore, 1) := by decide +kernel
theorem dX3_make_111 : decode cX3_make 111 = .ok (.return_, 1) := by decide +kernel
theorem dX3_dropAll_0 : decode cX3_dropAll 0 = .ok (.iconst 0, 1) := by decide +kernel
theorem dX3_dropAll_1 : decode cX3_dropAll 1 = .ok (.istore_n 1, 1) := by decide +kernel
theorem dX3_dropAll_2 : decode cX3_dropAll 2 = .ok (.iload_n 1, 1) := by decide +kernel
theorem dX3_dropAll_3 : decode cX3_dropAll 3 = .ok (.bipush 12, 2) := by decide +kernel
theorem dX3_dropAll_5 : decode cX3_dropAll 5 = .ok (.if_icmp .ge 16, 3) := by decide +kernel
theorem dX3_dropAll_8 : decode cX3_dropAll 8 = .ok (.aload_n 0, 1) := by decide +kernel
theorem dX3_dropAll_9 : decode cX3_dropAll 9 = .ok (.getfield 9, 3) := by decide +kernel
theorem dX3_dropAll_12 : decode cX3_dropAll 12 = .ok (.iload_n 1, 1) := by decide +kernel
theorem dX3_dropAll_13 : decode cX3_dropAll 13 = .ok (.iconst 0, 1) := by decide +kernel
theorem dX3_dropAll_14 : decode cX3_dropAll 14 = .ok (.bastore, 1) := by decide +kernel
theorem dX3_dropAll_15 : decode cX3_dropAll 15 = .ok (.iinc 1 1, 3) := by decide +kernel
theorem dX3_dropAll_18 : decode cX3_dropAll 18 = .ok (.goto (-16), 3) := by decide +kernel
theorem dX3_dropAll_21 : decode cX3_dropAll 21 = .ok (.return_, 1) := by decide +kernel
theorem dX4_init_0 : decode cX4_init 0 = .ok (.aload_n 0, 1) := by decide +kernel
theorem dX4_init_1 : decode cX4_init 1 = .ok (.invokespecial 3, 3) := by decide +kernel
theorem dX4_init_4 : decode cX4_init 4 = .ok (.aload_n 0, 1) := by decide +kernel
theorem dX4_init_5 : decode cX4_init 5 = .ok (.bipush 120, 2) := by decide +kernel
theorem dX4_init_7 : decode cX4_init 7 = .ok (.newarray .int, 2) := by decide +kernel
theorem dX4_init_9 : decode cX4_init 9 = .ok (.putfield 9, 3) := by decide +kernel
theorem dX4_init_12 : decode cX4_init 12 = .ok (.aload_n 0, 1) := by decide +kernel
theorem dX4_init_13 : decode cX4_init 13 = .ok (.bipush 120, 2) := by decide +kernel
theorem dX4_init_15 : decode cX4_init 15 = .ok (.newarray .int, 2) := by decide +kernel
theorem dX4_init_17 : decode cX4_init 17 = .ok (.putfield 15, 3) := by decide +kernel
theorem dX4_init_20 : decode cX4_init 20 = .ok (.aload_n 0, 1) := by decide +kernel
theorem dX4_init_21 : decode cX4_init 21 = .ok (.bipush 120, 2) := by decide +kernel
theorem dX4_init_23 : decode cX4_init 23 = .ok (.newarray .int, 2) := by decide +kernel
theorem dX4_init_25 : decode cX4_init 25 = .ok (.putfield 18, 3) := by decide +kernel
theorem dX4_init_28 : decode cX4_init 28 = .ok (.aload_n 0, 1) := by decide +kernel
theorem dX4_init_29 : decode cX4_init 29 = .ok (.bipush 120, 2) := by decide +kernel
theorem dX4_init_31 : decode cX4_init 31 = .ok (.newarray .int, 2) := by decide +kernel
theorem dX4_init_33 : decode cX4_init 33 = .ok (.putfield 21, 3) := by decide +kernel
theorem dX4_init_36 : decode cX4_init 36 = .ok (.aload_n 0, 1) := by decide +kernel
theorem dX4_init_37 : decode cX4_init 37 = .ok (.bipush 120, 2) := by decide +kernel
theorem dX4_init_39 : decode cX4_init 39 = .ok (.newarray .int, 2) := by decide +kernel
theorem dX4_init_41 : decode cX4_init 41 = .ok (.putfield 24, 3) := by decide +kernel
theorem dX4_init_44 : decode cX4_init 44 = .ok (.aload_n 0, 1) := by decide +kernel
theorem dX4_init_45 : decode cX4_init 45 = .ok (.aload_n 1, 1) := by decide +kernel
theorem dX4_init_46 : decode cX4_init 46 = .ok (.putfield 27, 3) := by decide +kernel
theorem dX4_init_49 : decode cX4_init 49 = .ok (.aload_n 0, 1) := by decide +kernel
theorem dX4_init_50 : decode cX4_init 50 = .ok (.aload_n 2, 1) := by decide +kernel
theorem dX4_init_51 : decode cX4_init 51 = .ok (.putfield 31, 3) := by decide +kernel
theorem dX4_init_54 : decode cX4_init 54 = .ok (.return_, 1) := by decide +kernel
theorem dX4_make_0 : decode cX4_make 0 = .ok (.aload_n 0, 1) := by decide +kernel
theorem dX4_make_1 : decode cX4_make 1 = .ok (.iconst 0, 1) := by decide +kernel
theorem dX4_make_2 : decode cX4_make 2 = .ok (.putfield 35, 3) := by decide +kernel
theorem dX4_make_5 : decode cX4_make 5 = .ok (.iconst 0, 1) := by decide +kernel
theorem dX4_make_6 : decode cX4_make 6 = .ok (.istore_n 1, 1) := by decide +kernel
theorem dX4_make_7 : decode cX4_make 7 = .ok (.iload_n 1, 1) := by decide +kernel
theorem dX4_make_8 : decode cX4_make 8 = .ok (.bipush 12, 2) := by decide +kernel
theorem dX4_make_10 : decode cX4_make 10 = .ok (.if_icmp .ge 75, 3) := by decide +kernel
theorem dX4_make_13 : decode cX4_make 13 = .ok (.iconst (-1), 1) := by decide +kernel
theorem dX4_make_14 : decode cX4_make 14 = .ok (.istore_n 2, 1) := by decide +kernel
theorem dX4_make_15 : decode cX4_make 15 = .ok (.aload_n 0, 1) := by decide +kernel
theorem dX4_make_16 : decode cX4_make 16 = .ok (.getfield 31, 3) := by decide +kernel
theorem dX4_make_19 : decode cX4_make 19 = .ok (.getfield 39, 3) := by decide +kernel
theorem dX4_make_22 : decode cX4_make 22 = .ok (.iload_n 1, 1) := by decide +kernel
theorem dX4_make_23 : decode cX4_make 23 = .ok (.iaload, 1) := by decide +kernel
theorem dX4_make_24 : decode cX4_make 24 = .ok (.iconst 1, 1) := by decide +kernel
theorem dX4_make_25 : decode cX4_make 25 = .ok (.isub, 1) := by decide +kernel
theorem dX4_make_26 : decode cX4_make 26 = .ok (.istore_n 3, 1) := by decide +kernel
theorem dX4_make_27 : decode cX4_make 27 = .ok (.iload_n 3, 1) := by decide +kernel
theorem dX4_make_28 : decode cX4_make 28 = .ok (.ifCond .lt 51, 3) := by decide +kernel
theorem dX4_make_79 : decode cX4_make 79 = .ok (.iinc 1 1, 3) := by decide +kernel
theorem dX4_make_82 : decode cX4_make 82 = .ok (.goto (-75), 3) := by decide +kernel
theorem dX4_make_85 : decode cX4_make 85 = .ok (.aload_n 0, 1) := by decide +kernel
theorem dX4_make_86 : decode cX4_make 86 = .ok (.iconst 1, 1) := by decide +kernel
theorem dX4_make_87 : decode cX4_make 87 = .ok (.putfield 55, 3) := by decide +kernel
theorem dX4_make_90 : decode cX4_make 90 = .ok (.return_, 1) := by decide +kernel
theorem dX5_init_0 : decode cX5_init 0 = .ok (.aload_n 0, 1) := by decide +kernel
theorem dX5_init_1 : decode cX5_init 1 = .ok (.invokespecial 3, 3) := by decide +kernel
theorem dX5_init_4 : decode cX5_init 4 = .ok (.aload_n 0, 1) := by decide +kernel
theorem dX5_init_5 : decode cX5_init 5 = .ok (.bipush 12, 2) := by decide +kernel
theorem dX5_init_7 : decode cX5_init 7 = .ok (.newarray .int, 2) := by decide +kernel
theorem dX5_init_9 : decode cX5_init 9 = .ok (.putfield 9, 3) := by decide +kernel
theorem dX5_init_12 : decode cX5_init 12 = .ok (.aload_n 0, 1) := by decide +kernel
theorem dX5_init_13 : decode cX5_init 13 = .ok (.bipush 120, 2) := by decide +kernel
theorem dX5_init_15 : decode cX5_init 15 = .ok (.newarray .int, 2) := by decide +kernel
theorem dX5_init_17 : decode cX5_init 17 = .ok (.putfield 15, 3) := by decide +kernel
theorem dX5_init_20 : decode cX5_init 20 = .ok (.aload_n 0, 1) := by decide +kernel
theorem dX5_init_21 : decode cX5_init 21 = .ok (.bipush 120, 2) := by decide +kernel
theorem dX5_init_23 : decode cX5_init 23 = .ok (.newarray .int, 2) := by decide +kernel
theorem dX5_init_25 : decode cX5_init 25 = .ok (.putfield 18, 3) := by decide +kernel
theorem dX5_init_28 : decode cX5_init 28 = .ok (.aload_n 0, 1) := by decide +kernel
theorem dX5_init_29 : decode cX5_init 29 = .ok (.bipush 120, 2) := by decide +kernel
theorem dX5_init_31 : decode cX5_init 31 = .ok (.newarray .int, 2) := by decide +kernel
theorem dX5_init_33 : decode cX5_init 33 = .ok (.putfield 21, 3) := by decide +kernel
theorem dX5_init_36 : decode cX5_init 36 = .ok (.aload_n 0, 1) := by decide +kernel
theorem dX5_init_37 : decode cX5_init 37 = .ok (.bipush 120, 2) := by decide +kernel
theorem dX5_init_39 : decode cX5_init 39 = .ok (.newarray .int, 2) := by decide +kernel
theorem dX5_init_41 : decode cX5_init 41 = .ok (.putfield 24, 3) := by decide +kernel
theorem dX5_init_44 : decode cX5_init 44 = .ok (.aload_n 0, 1) := by decide +kernel
theorem dX5_init_45 : decode cX5_init 45 = .ok (.bipush 120, 2) := by decide +kernel
theorem dX5_init_47 : decode cX5_init 47 = .ok (.newarray .int, 2) := by decide +kernel
theorem dX5_init_49 : decode cX5_init 49 = .ok (.putfield 27, 3) := by decide +kernel
theorem dX5_init_52 : decode cX5_init 52 = .ok (.aload_n 0, 1) := by decide +kernel
theorem dX5_init_53 : decode cX5_init 53 = .ok (.bipush 120, 2) := by decide +kernel
theorem dX5_init_55 : decode cX5_init 55 = .ok (.newarray .int, 2) := by decide +kernel
theorem dX5_init_57 : decode cX5_init 57 = .ok (.putfield 30, 3) := by decide +kernel
theorem dX5_init_60 : decode cX5_init 60 = .ok (.return_, 1) := by decide +kernel
set_option maxRecDepth 20000 in
theorem ggX5_add_X7_slot : GoodIn wsX5_add wsX7_slot := goodIn_r _ [10] rfl (by decide +kernel)
set_option maxRecDepth 20000 in
theorem gX5_add_X7_slot_n33 : GoodIn wsX5_add (wsX7_slot) := ggX5_add_X7_slot
set_option maxRecDepth 20000 in
theorem ggX5_add_X5_readsOf : GoodIn wsX5_add wsX5_readsOf := goodIn_r _ [14] rfl (by decide +kernel)
set_option maxRecDepth 20000 in
theorem gX5_add_X5_readsOf : GoodIn wsX5_add (va_wsS RX5 43 yX5_readsOf wsX5_readsOf) := goodIn_app (goodIn_of _ (by decide +kernel)) ggX5_add_X5_readsOf
set_option maxRecDepth 20000 in
theorem ggX5_add_X5_writesOf : GoodIn wsX5_add wsX5_writesOf := goodIn_r _ [17] rfl (by decide +kernel)
set_option maxRecDepth 20000 in
theorem gX5_add_X5_writesOf : GoodIn wsX5_add (va_wsS RX5 47 yX5_writesOf wsX5_writesOf) := goodIn_app (goodIn_of _ (by decide +kernel)) ggX5_add_X5_writesOf
theorem dX5_add_0 : decode cX5_add 0 = .ok (.iload_n 1, 1) := by decide +kernel
theorem dX5_add_1 : decode cX5_add 1 = .ok (.aload_n 0, 1) := by decide +kernel
theorem dX5_add_2 : decode cX5_add 2 = .ok (.getfield 9, 3) := by decide +kernel
theorem dX5_add_5 : decode cX5_add 5 = .ok (.iload_n 1, 1) := by decide +kernel
theorem dX5_add_6 : decode cX5_add 6 = .ok (.iaload, 1) := by decide +kernel
theorem dX5_add_7 : decode cX5_add 7 = .ok (.invokestatic 33, 3) := by decide +kernel
theorem dX5_add_10 : decode cX5_add 10 = .ok (.istore 6, 2) := by decide +kernel
theorem dX5_add_12 : decode cX5_add 12 = .ok (.aload_n 0, 1) := by decide +kernel
theorem dX5_add_13 : decode cX5_add 13 = .ok (.getfield 15, 3) := by decide +kernel
theorem dX5_add_16 : decode cX5_add 16 = .ok (.iload 6, 2) := by decide +kernel
theorem dX5_add_18 : decode cX5_add 18 = .ok (.iload_n 2, 1) := by decide +kernel
theorem dX5_add_19 : decode cX5_add 19 = .ok (.iastore, 1) := by decide +kernel
theorem dX5_add_20 : decode cX5_add 20 = .ok (.aload_n 0, 1) := by decide +kernel
theorem dX5_add_21 : decode cX5_add 21 = .ok (.getfield 18, 3) := by decide +kernel
theorem dX5_add_24 : decode cX5_add 24 = .ok (.iload 6, 2) := by decide +kernel
theorem dX5_add_26 : decode cX5_add 26 = .ok (.getstatic 37, 3) := by decide +kernel
theorem dX5_add_29 : decode cX5_add 29 = .ok (.iload_n 2, 1) := by decide +kernel
theorem dX5_add_30 : decode cX5_add 30 = .ok (.iaload, 1) := by decide +kernel
theorem dX5_add_31 : decode cX5_add 31 = .ok (.ifCond .ne 7, 3) := by decide +kernel
theorem dX5_add_34 : decode cX5_add 34 = .ok (.iconst (-1), 1) := by decide +kernel
theorem dX5_add_35 : decode cX5_add 35 = .ok (.goto 4, 3) := by decide +kernel
theorem dX5_add_38 : decode cX5_add 38 = .ok (.iload_n 3, 1) := by decide +kernel
theorem dX5_add_39 : decode cX5_add 39 = .ok (.iastore, 1) := by decide +kernel
theorem dX5_add_40 : decode cX5_add 40 = .ok (.aload_n 0, 1) := by decide +kernel
theorem dX5_add_41 : decode cX5_add 41 = .ok (.getfield 21, 3) := by decide +kernel
theorem dX5_add_44 : decode cX5_add 44 = .ok (.iload 6, 2) := by decide +kernel
theorem dX5_add_46 : decode cX5_add 46 = .ok (.iload 4, 2) := by decide +kernel
theorem dX5_add_48 : decode cX5_add 48 = .ok (.iastore, 1) := by decide +kernel
theorem dX5_add_49 : decode cX5_add 49 = .ok (.aload_n 0, 1) := by decide +kernel
theorem dX5_add_50 : decode cX5_add 50 = .ok (.getfield 24, 3) := by decide +kernel
theorem dX5_add_53 : decode cX5_add 53 = .ok (.iload 6, 2) := by decide +kernel
theorem dX5_add_55 : decode cX5_add 55 = .ok (.getstatic 40, 3) := by decide +kernel
theorem dX5_add_58 : decode cX5_add 58 = .ok (.iload_n 2, 1) := by decide +kernel
theorem dX5_add_59 : decode cX5_add 59 = .ok (.iaload, 1) := by decide +kernel
theorem dX5_add_60 : decode cX5_add 60 = .ok (.ifCond .ne 7, 3) := by decide +kernel
theorem dX5_add_63 : decode cX5_add 63 = .ok (.iconst (-1), 1) := by decide +kernel
theorem dX5_add_64 : decode cX5_add 64 = .ok (.goto 5, 3) := by decide +kernel
theorem dX5_add_67 : decode cX5_add 67 = .ok (.iload 5, 2) := by decide +kernel
theorem dX5_add_69 : decode cX5_add 69 = .ok (.iastore, 1) := by decide +kernel
theorem dX5_add_70 : decode cX5_add 70 = .ok (.aload_n 0, 1) := by decide +kernel
theorem dX5_add_71 : decode cX5_add 71 = .ok (.getfield 27, 3) := by decide +kernel
theorem dX5_add_74 : decode cX5_add 74 = .ok (.iload 6, 2) := by decide +kernel
theorem dX5_add_76 : decode cX5_add 76 = .ok (.iload_n 2, 1) := by decide +kernel
theorem dX5_add_77 : decode cX5_add 77 = .ok (.iload 4, 2) := by decide +kernel
theorem dX5_add_79 : decode cX5_add 79 = .ok (.iload 5, 2) := by decide +kernel
theorem dX5_add_81 : decode cX5_add 81 = .ok (.invokestatic 43, 3) := by decide +kernel
theorem dX5_add_84 : decode cX5_add 84 = .ok (.iastore, 1) := by decide +kernel
theorem dX5_add_85 : decode cX5_add 85 = .ok (.aload_n 0, 1) := by decide +kernel
theorem dX5_add_86 : decode cX5_add 86 = .ok (.getfield 30, 3) := by decide +kernel
theorem dX5_add_89 : decode cX5_add 89 = .ok (.iload 6, 2) := by decide +kernel
theorem dX5_add_91 : decode cX5_add 91 = .ok (.iload_n 2, 1) := by decide +kernel
theorem dX5_add_92 : decode cX5_add 92 = .ok (.iload_n 3, 1) := by decide +kernel
theorem dX5_add_93 : decode cX5_add 93 = .ok (.invokestatic 47, 3) := by decide +kernel
theorem dX5_add_96 : decode cX5_add 96 = .ok (.iastore, 1) := by decide +kernel
theorem dX5_add_97 : decode cX5_add 97 = .ok (.aload_n 0, 1) := by decide +kernel
theorem dX5_add_98 : decode cX5_add 98 = .ok (.getfield 9, 3) := by decide +kernel
theorem dX5_add_101 : decode cX5_add 101 = .ok (.iload_n 1, 1) := by decide +kernel
theorem dX5_add_102 : decode cX5_add 102 = .ok (.dup2, 1) := by decide +kernel
theorem dX5_add_103 : decode cX5_add 103 = .ok (.iaload, 1) := by decide +kernel
theorem dX5_add_104 : decode cX5_add 104 = .ok (.iconst 1, 1) := by decide +kernel
theorem dX5_add_105 : decode cX5_add 105 = .ok (.iadd, 1) := by decide +kernel
theorem dX5_add_106 : decode cX5_add 106 = .ok (.iastore, 1) := by decide +kernel
theorem dX5_add_107 : decode cX5_add 107 = .ok (.return_, 1) := by decide +kernel
theorem dX5_readsOf_0 : decode cX5_readsOf 0 = .ok (.iconst 0, 1) := by decide +kernel
theorem dX5_readsOf_1 : decode cX5_readsOf 1 = .ok (.istore_n 3, 1) := by decide +kernel
theorem dX5_readsOf_2 : decode cX5_readsOf 2 = .ok (.getstatic 50, 3) := by decide +kernel
theorem dX5_readsOf_5 : decode cX5_readsOf 5 = .ok (.iload_n 0, 1) := by decide +kernel
theorem dX5_readsOf_6 : decode cX5_readsOf 6 = .ok (.iaload, 1) := by decide +kernel
theorem dX5_readsOf_7 : decode cX5_readsOf 7 = .ok (.iconst 1, 1) := by decide +kernel
theorem dX5_readsOf_8 : decode cX5_readsOf 8 = .ok (.if_icmp .ne 9, 3) := by decide +kernel
theorem dX5_readsOf_11 : decode cX5_readsOf 11 = .ok (.iload_n 3, 1) := by decide +kernel
theorem dX5_readsOf_12 : decode cX5_readsOf 12 = .ok (.iconst 1, 1) := by decide +kernel
theorem dX5_readsOf_13 : decode cX5_readsOf 13 = .ok (.iload_n 1, 1) := by decide +kernel
theorem dX5_readsOf_14 : decode cX5_readsOf 14 = .ok (.ishl, 1) := by decide +kernel
theorem dX5_readsOf_15 : decode cX5_readsOf 15 = .ok (.ior, 1) := by decide +kernel
theorem dX5_readsOf_16 : decode cX5_readsOf 16 = .ok (.istore_n 3, 1) := by decide +kernel
theorem dX5_readsOf_17 : decode cX5_readsOf 17 = .ok (.getstatic 40, 3) := by decide +kernel
theorem dX5_readsOf_20 : decode cX5_readsOf 20 = .ok (.iload_n 0, 1) := by decide +kernel
theorem dX5_readsOf_21 : decode cX5_readsOf 21 = .ok (.iaload, 1) := by decide +kernel
theorem dX5_readsOf_22 : decode cX5_readsOf 22 = .ok (.iconst 1, 1) := by decide +kernel
theorem dX5_readsOf_23 : decode cX5_readsOf 23 = .ok (.if_icmp .ne 9, 3) := by decide +kernel
theorem dX5_readsOf_26 : decode cX5_readsOf 26 = .ok (.iload_n 3, 1) := by decide +kernel
theorem dX5_readsOf_27 : decode cX5_readsOf 27 = .ok (.iconst 1, 1) := by decide +kernel
theorem dX5_readsOf_28 : decode cX5_readsOf 28 = .ok (.iload_n 2, 1) := by decide +kernel
theorem dX5_readsOf_29 : decode cX5_readsOf 29 = .ok (.ishl, 1) := by decide +kernel
theorem dX5_readsOf_30 : decode cX5_readsOf 30 = .ok (.ior, 1) := by decide +kernel
theorem dX5_readsOf_31 : decode cX5_readsOf 31 = .ok (.istore_n 3, 1) := by decide +kernel
theorem dX5_readsOf_32 : decode cX5_readsOf 32 = .ok (.iload_n 0, 1) := by decide +kernel
theorem dX5_readsOf_33 : decode cX5_readsOf 33 = .ok (.bipush 7, 2) := by decide +kernel
theorem dX5_readsOf_35 : decode cX5_readsOf 35 = .ok (.if_icmp .ne 9, 3) := by decide +kernel
theorem dX5_readsOf_38 : decode cX5_readsOf 38 = .ok (.iload_n 3, 1) := by decide +kernel
theorem dX5_readsOf_39 : decode cX5_readsOf 39 = .ok (.sipush 1024, 3) := by decide +kernel
theorem dX5_readsOf_42 : decode cX5_readsOf 42 = .ok (.ior, 1) := by decide +kernel
theorem dX5_readsOf_43 : decode cX5_readsOf 43 = .ok (.istore_n 3, 1) := by decide +kernel
theorem dX5_readsOf_44 : decode cX5_readsOf 44 = .ok (.iload_n 0, 1) := by decide +kernel
theorem dX5_readsOf_45 : decode cX5_readsOf 45 = .ok (.bipush 9, 2) := by decide +kernel
theorem dX5_readsOf_47 : decode cX5_readsOf 47 = .ok (.if_icmp .eq 9, 3) := by decide +kernel
theorem dX5_readsOf_50 : decode cX5_readsOf 50 = .ok (.iload_n 0, 1) := by decide +kernel
theorem dX5_readsOf_51 : decode cX5_readsOf 51 = .ok (.bipush 10, 2) := by decide +kernel
theorem dX5_readsOf_53 : decode cX5_readsOf 53 = .ok (.if_icmp .ne 12, 3) := by decide +kernel
theorem dX5_readsOf_56 : decode cX5_readsOf 56 = .ok (.iload_n 3, 1) := by decide +kernel
theorem dX5_readsOf_57 : decode cX5_readsOf 57 = .ok (.iconst 1, 1) := by decide +kernel
theorem dX5_readsOf_58 : decode cX5_readsOf 58 = .ok (.bipush 8, 2) := by decide +kernel
theorem dX5_readsOf_60 : decode cX5_readsOf 60 = .ok (.iload_n 1, 1) := by decide +kernel
theorem dX5_readsOf_61 : decode cX5_readsOf 61 = .ok (.iadd, 1) := by decide +kernel
theorem dX5_readsOf_62 : decode cX5_readsOf 62 = .ok (.ishl, 1) := by decide +kernel
theorem dX5_readsOf_63 : decode cX5_readsOf 63 = .ok (.ior, 1) := by decide +kernel
theorem dX5_readsOf_64 : decode cX5_readsOf 64 = .ok (.istore_n 3, 1) := by decide +kernel
theorem dX5_readsOf_65 : decode cX5_readsOf 65 = .ok (.iload_n 3, 1) := by decide +kernel
theorem dX5_readsOf_66 : decode cX5_readsOf 66 = .ok (.ireturn, 1) := by decide +kernel
theorem dX5_writesOf_0 : decode cX5_writesOf 0 = .ok (.iconst 0, 1) := by decide +kernel
theorem dX5_writesOf_1 : decode cX5_writesOf 1 = .ok (.istore_n 2, 1) := by decide +kernel
theorem dX5_writesOf_2 : decode cX5_writesOf 2 = .ok (.getstatic 37, 3) := by decide +kernel
theorem dX5_writesOf_5 : decode cX5_writesOf 5 = .ok (.iload_n 0, 1) := by decide +kernel
theorem dX5_writesOf_6 : decode cX5_writesOf 6 = .ok (.iaload, 1) := by decide +kernel
theorem dX5_writesOf_7 : decode cX5_writesOf 7 = .ok (.iconst 1, 1) := by decide +kernel
theorem dX5_writesOf_8 : decode cX5_writesOf 8 = .ok (.if_icmp .ne 9, 3) := by decide +kernel
theorem dX5_writesOf_11 : decode cX5_writesOf 11 = .ok (.iload_n 2, 1) := by decide +kernel
theorem dX5_writesOf_12 : decode cX5_writesOf 12 = .ok (.iconst 1, 1) := by decide +kernel
theorem dX5_writesOf_13 : decode cX5_writesOf 13 = .ok (.iload_n 1, 1) := by decide +kernel
theorem dX5_writesOf_14 : decode cX5_writesOf 14 = .ok (.ishl, 1) := by decide +kernel
theorem dX5_writesOf_15 : decode cX5_writesOf 15 = .ok (.ior, 1) := by decide +kernel
theorem dX5_writesOf_16 : decode cX5_writesOf 16 = .ok (.istore_n 2, 1) := by decide +kernel
theorem dX5_writesOf_17 : decode cX5_writesOf 17 = .ok (.getstatic 53, 3) := by decide +kernel
theorem dX5_writesOf_20 : decode cX5_writesOf 20 = .ok (.iload_n 0, 1) := by decide +kernel
theorem dX5_writesOf_21 : decode cX5_writesOf 21 = .ok (.iaload, 1) := by decide +kernel
theorem dX5_writesOf_22 : decode cX5_writesOf 22 = .ok (.iconst 1, 1) := by decide +kernel
theorem dX5_writesOf_23 : decode cX5_writesOf 23 = .ok (.if_icmp .ne 9, 3) := by decide +kernel
theorem dX5_writesOf_26 : decode cX5_writesOf 26 = .ok (.iload_n 2, 1) := by decide +kernel
theorem dX5_writesOf_27 : decode cX5_writesOf 27 = .ok (.sipush 768, 3) := by decide +kernel
theorem dX5_writesOf_30 : decode cX5_writesOf 30 = .ok (.ior, 1) := by decide +kernel
theorem dX5_writesOf_31 : decode cX5_writesOf 31 = .ok (.istore_n 2, 1) := by decide +kernel
theorem dX5_writesOf_32 : decode cX5_writesOf 32 = .ok (.iload_n 0, 1) := by decide +kernel
theorem dX5_writesOf_33 : decode cX5_writesOf 33 = .ok (.bipush 8, 2) := by decide +kernel
theorem dX5_writesOf_35 : decode cX5_writesOf 35 = .ok (.if_icmp .ne 9, 3) := by decide +kernel
theorem dX5_writesOf_38 : decode cX5_writesOf 38 = .ok (.iload_n 2, 1) := by decide +kernel
theorem dX5_writesOf_39 : decode cX5_writesOf 39 = .ok (.sipush 1024, 3) := by decide +kernel
theorem dX5_writesOf_42 : decode cX5_writesOf 42 = .ok (.ior, 1) := by decide +kernel
theorem dX5_writesOf_43 : decode cX5_writesOf 43 = .ok (.istore_n 2, 1) := by decide +kernel
theorem dX5_writesOf_44 : decode cX5_writesOf 44 = .ok (.iload_n 2, 1) := by decide +kernel
theorem dX5_writesOf_45 : decode cX5_writesOf 45 = .ok (.ireturn, 1) := by decide +kernel
theorem dX6_init_0 : decode cX6_init 0 = .ok (.aload_n 0, 1) := by decide +kernel
theorem dX6_init_1 : decode cX6_init 1 = .ok (.invokespecial 3, 3) := by decide +kernel
theorem dX6_init_4 : decode cX6_init 4 = .ok (.aload_n 0, 1) := by decide +kernel
theorem dX6_init_5 : decode cX6_init 5 = .ok (.bipush 10, 2) := by decide +kernel
theorem dX6_init_7 : decode cX6_init 7 = .ok (.newarray .int, 2) := by decide +kernel
theorem dX6_init_9 : decode cX6_init 9 = .ok (.putfield 9, 3) := by decide +kernel
theorem dX6_init_12 : decode cX6_init 12 = .ok (.aload_n 0, 1) := by decide +kernel
theorem dX6_init_13 : decode cX6_init 13 = .ok (.bipush 10, 2) := by decide +kernel
theorem dX6_init_15 : decode cX6_init 15 = .ok (.newarray .int, 2) := by decide +kernel
theorem dX6_init_17 : decode cX6_init 17 = .ok (.putfield 15, 3) := by decide +kernel
theorem dX6_init_20 : decode cX6_init 20 = .ok (.aload_n 0, 1) := by decide +kernel
theorem dX6_init_21 : decode cX6_init 21 = .ok (.bipush 10, 2) := by decide +kernel
theorem dX6_init_23 : decode cX6_init 23 = .ok (.newarray .int, 2) := by decide +kernel
theorem dX6_init_25 : decode cX6_init 25 = .ok (.putfield 18, 3) := by decide +kernel
theorem dX6_init_28 : decode cX6_init 28 = .ok (.aload_n 0, 1) := by decide +kernel
theorem dX6_init_29 : decode cX6_init 29 = .ok (.bipush 10, 2) := by decide +kernel
theorem dX6_init_31 : decode cX6_init 31 = .ok (.newarray .int, 2) := by decide +kernel
theorem dX6_init_33 : decode cX6_init 33 = .ok (.putfield 21, 3) := by decide +kernel
theorem dX6_init_36 : decode cX6_init 36 = .ok (.aload_n 0, 1) := by decide +kernel
theorem dX6_init_37 : decode cX6_init 37 = .ok (.iconst 5, 1) := by decide +kernel
theorem dX6_init_38 : decode cX6_init 38 = .ok (.newarray .int, 2) := by decide +kernel
theorem dX6_init_40 : decode cX6_init 40 = .ok (.putfield 24, 3) := by decide +kernel
theorem dX6_init_43 : decode cX6_init 43 = .ok (.aload_n 0, 1) := by decide +kernel
theorem dX6_init_44 : decode cX6_init 44 = .ok (.iconst 5, 1) := by decide +kernel
theorem dX6_init_45 : decode cX6_init 45 = .ok (.newarray .int, 2) := by decide +kernel
theorem dX6_init_47 : decode cX6_init 47 = .ok (.putfield 27, 3) := by decide +kernel
theorem dX6_init_50 : decode cX6_init 50 = .ok (.aload_n 0, 1) := by decide +kernel
theorem dX6_init_51 : decode cX6_init 51 = .ok (.sipush 1024, 3) := by decide +kernel
theorem dX6_init_54 : decode cX6_init 54 = .ok (.newarray .byte, 2) := by decide +kernel
theorem dX6_init_56 : decode cX6_init 56 = .ok (.putfield 30, 3) := by decide +kernel
theorem dX6_init_59 : decode cX6_init 59 = .ok (.aload_n 0, 1) := by decide +kernel
theorem dX6_init_60 : decode cX6_init 60 = .ok (.aload_n 1, 1) := by decide +kernel
theorem dX6_init_61 : decode cX6_init 61 = .ok (.putfield 34, 3) := by decide +kernel
theorem dX6_init_64 : decode cX6_init 64 = .ok (.return_, 1) := by decide +kernel
set_option maxRecDepth 20000 in
theorem ggX6_solve_X6_learnParts : GoodIn wsX6_solve wsX6_learnParts := goodIn_r _ [10, 11, 12, 3, 1, 13, 14, 15, 16, 17, 18, 19, 20, 21, 22, 23, 24, 25, 76, 77, 78, 79, 80, 81, 82, 83, 84, 85, 86, 87, 88, 89, 90, 91, 92] rfl (by decide +kernel)
set_option maxRecDepth 20000 in
theorem gX6_solve_X6_learnParts : GoodIn wsX6_solve (wsV RX6 47 RX6 yX6_learnParts wsX6_learnParts) := goodIn_app (goodIn_of _ (by decide +kernel)) ggX6_solve_X6_learnParts
set_option maxRecDepth 20000 in
theorem ggX6_solve_X6_learnNeeds : GoodIn wsX6_solve wsX6_learnNeeds := goodIn_r _ [29, 30, 31, 32, 3, 1, 33, 34, 35, 36, 13, 14, 15, 16, 17, 18, 19, 37, 38, 39, 23, 40, 41, 42, 25, 43, 44, 45, 46, 76, 77, 78, 79, 80, 81, 82, 83, 84, 85, 86, 87, 88, 89, 90, 91, 92] rfl (by decide +kernel)
set_option maxRecDepth 20000 in
theorem gX6_solve_X6_learnNeeds : GoodIn wsX6_solve (wsV RX6 51 RX6 yX6_learnNeeds wsX6_learnNeeds) := goodIn_app (goodIn_of _ (by decide +kernel)) ggX6_solve_X6_learnNeeds
set_option maxRecDepth 20000 in
theorem ggX6_solve_X6_fill : GoodIn wsX6_solve wsX6_fill := goodIn_r _ [49, 3, 5, 4, 50, 51, 52, 53, 9, 54, 11, 12, 32, 55, 56, 57, 58, 59, 60, 61, 62, 18, 63, 64, 65, 66, 67, 30, 31, 68, 69, 70, 71, 72, 73, 74, 75, 47, 48, 76, 77, 78, 79, 80, 81, 82, 83, 84, 85] rfl (by decide +kernel)
set_option maxRecDepth 20000 in
theorem gX6_solve_X6_fill : GoodIn wsX6_solve (va_wsS RX6 58 yX6_fill wsX6_fill) := goodIn_app (goodIn_of _ (by decide +kernel)) ggX6_solve_X6_fill
theorem dX6_solve_0 : decode cX6_solve 0 = .ok (.aload_n 0, 1) := by decide +kernel
theorem dX6_solve_1 : decode cX6_solve 1 = .ok (.aload_n 0, 1) := by decide +kernel
theorem dX6_solve_2 : decode cX6_solve 2 = .ok (.getfield 34, 3) := by decide +kernel
theorem dX6_solve_5 : decode cX6_solve 5 = .ok (.getfield 38, 3) := by decide +kernel
theorem dX6_solve_8 : decode cX6_solve 8 = .ok (.iload_n 1, 1) := by decide +kernel
theorem dX6_solve_9 : decode cX6_solve 9 = .ok (.iaload, 1) := by decide +kernel
theorem dX6_solve_10 : decode cX6_solve 10 = .ok (.putfield 43, 3) := by decide +kernel
theorem dX6_solve_13 : decode cX6_solve 13 = .ok (.aload_n 0, 1) := by decide +kernel
theorem dX6_solve_14 : decode cX6_solve 14 = .ok (.iload_n 1, 1) := by decide +kernel
theorem dX6_solve_15 : decode cX6_solve 15 = .ok (.iload_n 2, 1) := by decide +kernel
theorem dX6_solve_16 : decode cX6_solve 16 = .ok (.invokevirtual 47, 3) := by decide +kernel
theorem dX6_solve_19 : decode cX6_solve 19 = .ok (.aload_n 0, 1) := by decide +kernel
theorem dX6_solve_20 : decode cX6_solve 20 = .ok (.iload_n 1, 1) := by decide +kernel
theorem dX6_solve_21 : decode cX6_solve 21 = .ok (.invokevirtual 51, 3) := by decide +kernel
theorem dX6_solve_24 : decode cX6_solve 24 = .ok (.iconst 0, 1) := by decide +kernel
theorem dX6_solve_25 : decode cX6_solve 25 = .ok (.istore_n 3, 1) := by decide +kernel
theorem dX6_solve_26 : decode cX6_solve 26 = .ok (.iload_n 3, 1) := by decide +kernel
theorem dX6_solve_27 : decode cX6_solve 27 = .ok (.iconst 1, 1) := by decide +kernel
theorem dX6_solve_28 : decode cX6_solve 28 = .ok (.aload_n 0, 1) := by decide +kernel
theorem dX6_solve_29 : decode cX6_solve 29 = .ok (.getfield 43, 3) := by decide +kernel
theorem dX6_solve_32 : decode cX6_solve 32 = .ok (.ishl, 1) := by decide +kernel
theorem dX6_solve_33 : decode cX6_solve 33 = .ok (.if_icmp .ge 16, 3) := by decide +kernel
theorem dX6_solve_36 : decode cX6_solve 36 = .ok (.aload_n 0, 1) := by decide +kernel
theorem dX6_solve_37 : decode cX6_solve 37 = .ok (.getfield 30, 3) := by decide +kernel
theorem dX6_solve_40 : decode cX6_solve 40 = .ok (.iload_n 3, 1) := by decide +kernel
theorem dX6_solve_41 : decode cX6_solve 41 = .ok (.iconst 0, 1) := by decide +kernel
theorem dX6_solve_42 : decode cX6_solve 42 = .ok (.bastore, 1) := by decide +kernel
theorem dX6_solve_43 : decode cX6_solve 43 = .ok (.iinc 3 1, 3) := by decide +kernel
theorem dX6_solve_46 : decode cX6_solve 46 = .ok (.goto (-20), 3) := by decide +kernel
theorem dX6_solve_49 : decode cX6_solve 49 = .ok (.aload_n 0, 1) := by decide +kernel
theorem dX6_solve_50 : decode cX6_solve 50 = .ok (.iconst 0, 1) := by decide +kernel
theorem dX6_solve_51 : decode cX6_solve 51 = .ok (.putfield 55, 3) := by decide +kernel
theorem dX6_solve_54 : decode cX6_solve 54 = .ok (.aload_n 0, 1) := by decide +kernel
theorem dX6_solve_55 : decode cX6_solve 55 = .ok (.iconst 0, 1) := by decide +kernel
theorem dX6_solve_56 : decode cX6_solve 56 = .ok (.iconst 0, 1) := by decide +kernel
theorem dX6_solve_57 : decode cX6_solve 57 = .ok (.invokestatic 58, 3) := by decide +kernel
theorem dX6_solve_60 : decode cX6_solve 60 = .ok (.ifCond .ne 27, 3) := by decide +kernel
theorem dX6_solve_87 : decode cX6_solve 87 = .ok (.aload_n 0, 1) := by decide +kernel
theorem dX6_solve_88 : decode cX6_solve 88 = .ok (.getfield 55, 3) := by decide +kernel
theorem dX6_solve_91 : decode cX6_solve 91 = .ok (.ireturn, 1) := by decide +kernel
set_option maxRecDepth 20000 in
theorem ggX6_learnParts_J7_fill_53178 : GoodIn wsX6_learnParts wsJ7_fill_53178 := goodIn_r _ [8] rfl (by decide +kernel)
set_option maxRecDepth 20000 in
theorem gX6_learnParts_J7_fill_53178 : GoodIn wsX6_learnParts (va_wsS RX6 62 yJ7_fill_53178 wsJ7_fill_53178) := goodIn_app (goodIn_of _ (by decide +kernel)) ggX6_learnParts_J7_fill_53178
theorem dX6_learnParts_0 : decode cX6_learnParts 0 = .ok (.aload_n 0, 1) := by decide +kernel
theorem dX6_learnParts_1 : decode cX6_learnParts 1 = .ok (.getfield 24, 3) := by decide +kernel
theorem dX6_learnParts_4 : decode cX6_learnParts 4 = .ok (.iconst 0, 1) := by decide +kernel
theorem dX6_learnParts_5 : decode cX6_learnParts 5 = .ok (.invokestatic 62, 3) := by decide +kernel
theorem dX6_learnParts_8 : decode cX6_learnParts 8 = .ok (.aload_n 0, 1) := by decide +kernel
theorem dX6_learnParts_9 : decode cX6_learnParts 9 = .ok (.getfield 27, 3) := by decide +kernel
theorem dX6_learnParts_12 : decode cX6_learnParts 12 = .ok (.iconst 1, 1) := by decide +kernel
theorem dX6_learnParts_13 : decode cX6_learnParts 13 = .ok (.invokestatic 62, 3) := by decide +kernel
theorem dX6_learnParts_16 : decode cX6_learnParts 16 = .ok (.aload_n 0, 1) := by decide +kernel
theorem dX6_learnParts_17 : decode cX6_learnParts 17 = .ok (.getfield 27, 3) := by decide +kernel
theorem dX6_learnParts_20 : decode cX6_learnParts 20 = .ok (.iconst 0, 1) := by decide +kernel
theorem dX6_learnParts_21 : decode cX6_learnParts 21 = .ok (.iload_n 2, 1) := by decide +kernel
theorem dX6_learnParts_22 : decode cX6_learnParts 22 = .ok (.iastore, 1) := by decide +kernel
theorem dX6_learnParts_23 : decode cX6_learnParts 23 = .ok (.iconst 0, 1) := by decide +kernel
theorem dX6_learnParts_24 : decode cX6_learnParts 24 = .ok (.istore_n 3, 1) := by decide +kernel
theorem dX6_learnParts_25 : decode cX6_learnParts 25 = .ok (.iload_n 3, 1) := by decide +kernel
theorem dX6_learnParts_26 : decode cX6_learnParts 26 = .ok (.aload_n 0, 1) := by decide +kernel
theorem dX6_learnParts_27 : decode cX6_learnParts 27 = .ok (.getfield 43, 3) := by decide +kernel
theorem dX6_learnParts_30 : decode cX6_learnParts 30 = .ok (.if_icmp .ge 32, 3) := by decide +kernel
theorem dX6_learnParts_62 : decode cX6_learnParts 62 = .ok (.return_, 1) := by decide +kernel
set_option maxRecDepth 20000 in
theorem ggX6_learnNeeds_J7_fill_53178 : GoodIn wsX6_learnNeeds wsJ7_fill_53178 := goodIn_r _ [13] rfl (by decide +kernel)
set_option maxRecDepth 20000 in
theorem gX6_learnNeeds_J7_fill_53178 : GoodIn wsX6_learnNeeds (va_wsS RX6 62 yJ7_fill_53178 wsJ7_fill_53178) := goodIn_app (goodIn_of _ (by decide +kernel)) ggX6_learnNeeds_J7_fill_53178
theorem dX6_learnNeeds_0 : decode cX6_learnNeeds 0 = .ok (.aload_n 0, 1) := by decide +kernel
theorem dX6_learnNeeds_1 : decode cX6_learnNeeds 1 = .ok (.getfield 15, 3) := by decide +kernel
theorem dX6_learnNeeds_4 : decode cX6_learnNeeds 4 = .ok (.iconst 0, 1) := by decide +kernel
theorem dX6_learnNeeds_5 : decode cX6_learnNeeds 5 = .ok (.invokestatic 62, 3) := by decide +kernel
theorem dX6_learnNeeds_8 : decode cX6_learnNeeds 8 = .ok (.aload_n 0, 1) := by decide +kernel
theorem dX6_learnNeeds_9 : decode cX6_learnNeeds 9 = .ok (.getfield 18, 3) := by decide +kernel
theorem dX6_learnNeeds_12 : decode cX6_learnNeeds 12 = .ok (.iconst 0, 1) := by decide +kernel
theorem dX6_learnNeeds_13 : decode cX6_learnNeeds 13 = .ok (.invokestatic 62, 3) := by decide +kernel
theorem dX6_learnNeeds_16 : decode cX6_learnNeeds 16 = .ok (.aload_n 0, 1) := by decide +kernel
theorem dX6_learnNeeds_17 : decode cX6_learnNeeds 17 = .ok (.getfield 21, 3) := by decide +kernel
theorem dX6_learnNeeds_20 : decode cX6_learnNeeds 20 = .ok (.iconst 0, 1) := by decide +kernel
theorem dX6_learnNeeds_21 : decode cX6_learnNeeds 21 = .ok (.invokestatic 62, 3) := by decide +kernel
theorem dX6_learnNeeds_24 : decode cX6_learnNeeds 24 = .ok (.aload_n 0, 1) := by decide +kernel
theorem dX6_learnNeeds_25 : decode cX6_learnNeeds 25 = .ok (.getfield 43, 3) := by decide +kernel
theorem dX6_learnNeeds_28 : decode cX6_learnNeeds 28 = .ok (.iconst 1, 1) := by decide +kernel
theorem dX6_learnNeeds_29 : decode cX6_learnNeeds 29 = .ok (.isub, 1) := by decide +kernel
theorem dX6_learnNeeds_30 : decode cX6_learnNeeds 30 = .ok (.istore_n 2, 1) := by decide +kernel
theorem dX6_learnNeeds_31 : decode cX6_learnNeeds 31 = .ok (.iload_n 2, 1) := by decide +kernel
theorem dX6_learnNeeds_32 : decode cX6_learnNeeds 32 = .ok (.ifCond .lt 129, 3) := by decide +kernel
theorem dX6_learnNeeds_161 : decode cX6_learnNeeds 161 = .ok (.return_, 1) := by decide +kernel
theorem dX6_fill_0 : decode cX6_fill 0 = .ok (.iconst 1, 1) := by decide +kernel
theorem dX6_fill_1 : decode cX6_fill 1 = .ok (.aload_n 0, 1) := by decide +kernel
theorem dX6_fill_2 : decode cX6_fill 2 = .ok (.getfield 43, 3) := by decide +kernel
theorem dX6_fill_5 : decode cX6_fill 5 = .ok (.ishl, 1) := by decide +kernel
theorem dX6_fill_6 : decode cX6_fill 6 = .ok (.iconst 1, 1) := by decide +kernel
theorem dX6_fill_7 : decode cX6_fill 7 = .ok (.isub, 1) := by decide +kernel
theorem dX6_fill_8 : decode cX6_fill 8 = .ok (.iload_n 1, 1) := by decide +kernel
theorem dX6_fill_9 : decode cX6_fill 9 = .ok (.iconst (-1), 1) := by decide +kernel
theorem dX6_fill_10 : decode cX6_fill 10 = .ok (.ixor, 1) := by decide +kernel
theorem dX6_fill_11 : decode cX6_fill 11 = .ok (.iand, 1) := by decide +kernel
theorem dX6_fill_12 : decode cX6_fill 12 = .ok (.istore_n 3, 1) := by decide +kernel
theorem dX6_fill_13 : decode cX6_fill 13 = .ok (.iload_n 3, 1) := by decide +kernel
theorem dX6_fill_14 : decode cX6_fill 14 = .ok (.ifCond .ne 5, 3) := by decide +kernel
theorem dX6_fill_17 : decode cX6_fill 17 = .ok (.iconst 1, 1) := by decide +kernel
theorem dX6_fill_18 : decode cX6_fill 18 = .ok (.ireturn, 1) := by decide +kernel
theorem dJ7_fill_53178_0 : decode cJ7_fill_53178 0 = .ok (.iconst 0, 1) := by decide +kernel
theorem dJ7_fill_53178_1 : decode cJ7_fill_53178 1 = .ok (.istore_n 2, 1) := by decide +kernel
theorem dJ7_fill_53178_2 : decode cJ7_fill_53178 2 = .ok (.aload_n 0, 1) := by decide +kernel
theorem dJ7_fill_53178_3 : decode cJ7_fill_53178 3 = .ok (.arraylength, 1) := by decide +kernel
theorem dJ7_fill_53178_4 : decode cJ7_fill_53178 4 = .ok (.istore_n 3, 1) := by decide +kernel
theorem dJ7_fill_53178_5 : decode cJ7_fill_53178 5 = .ok (.iload_n 2, 1) := by decide +kernel
theorem dJ7_fill_53178_6 : decode cJ7_fill_53178 6 = .ok (.iload_n 3, 1) := by decide +kernel
theorem dJ7_fill_53178_7 : decode cJ7_fill_53178 7 = .ok (.if_icmp .ge 13, 3) := by decide +kernel
theorem dJ7_fill_53178_10 : decode cJ7_fill_53178 10 = .ok (.aload_n 0, 1) := by decide +kernel
theorem dJ7_fill_53178_11 : decode cJ7_fill_53178 11 = .ok (.iload_n 2, 1) := by decide +kernel
theorem dJ7_fill_53178_12 : decode cJ7_fill_53178 12 = .ok (.iload_n 1, 1) := by decide +kernel
theorem dJ7_fill_53178_13 : decode cJ7_fill_53178 13 = .ok (.iastore, 1) := by decide +kernel
theorem dJ7_fill_53178_14 : decode cJ7_fill_53178 14 = .ok (.iinc 2 1, 3) := by decide +kernel
theorem dJ7_fill_53178_17 : decode cJ7_fill_53178 17 = .ok (.goto (-12), 3) := by decide +kernel
theorem dJ7_fill_53178_20 : decode cJ7_fill_53178 20 = .ok (.return_, 1) := by decide +kernel
