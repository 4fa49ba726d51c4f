set_option maxRecDepth 20000 in
theorem ggX7_init_X2_init : GoodIn wsX7_init wsX2_init := goodIn_r _ [39, 40, 2, 3, 28, 41, 31, 42, 43, 44, 45, 46, 47, 48, 123, 124, 125, 126, 127] rfl (by decide +kernel)
set_option maxRecDepth 20000 in
theorem gX7_init_X2_init : GoodIn wsX7_init (wsX2_init) := ggX7_init_X2_init
set_option maxRecDepth 20000 in
theorem ggX7_init_X5_init : GoodIn wsX7_init wsX5_init := goodIn_r _ [50, 51, 2, 3, 28, 52, 53, 54, 55, 56, 57, 58, 144, 145, 146, 147, 148, 149, 150] rfl (by decide +kernel)
set_option maxRecDepth 20000 in
theorem gX7_init_X5_init_n18 : GoodIn wsX7_init (wsX5_init) := ggX7_init_X5_init
set_option maxRecDepth 20000 in
theorem ggX7_init_X3_init : GoodIn wsX7_init wsX3_init := goodIn_r _ [61, 62, 2, 3, 63, 64, 28, 65, 66, 67, 68, 69, 70, 71, 72, 73, 74, 75, 76, 77, 78, 79, 80, 81, 82, 83, 84, 85, 86, 151, 152, 153, 154, 155, 156, 157, 189, 190, 191, 192, 193, 194, 195, 196, 197, 198] rfl (by decide +kernel)
set_option maxRecDepth 20000 in
theorem gX7_init_X3_init : GoodIn wsX7_init (wsX3_init) := ggX7_init_X3_init
set_option maxRecDepth 20000 in
theorem ggX7_init_X4_init : GoodIn wsX7_init wsX4_init := goodIn_r _ [89, 90, 2, 3, 28, 91, 92, 93, 94, 95, 96, 97, 158, 159, 160, 161, 162, 163, 164, 165, 166] rfl (by decide +kernel)
set_option maxRecDepth 20000 in
theorem gX7_init_X4_init : GoodIn wsX7_init (wsX4_init) := ggX7_init_X4_init
set_option maxRecDepth 20000 in
theorem ggX7_init_X1_init : GoodIn wsX7_init wsX1_init := goodIn_r _ [100, 101, 2, 3, 28, 102, 103, 104, 105, 106, 107, 108, 109, 110, 167, 168, 169, 170, 171, 172, 173, 174, 175, 176, 177, 178] rfl (by decide +kernel)
set_option maxRecDepth 20000 in
theorem gX7_init_X1_init : GoodIn wsX7_init (wsX1_init) := ggX7_init_X1_init
set_option maxRecDepth 20000 in
theorem ggX7_init_X0_init : GoodIn wsX7_init wsX0_init := goodIn_r _ [113, 114, 2, 3, 115, 28, 116, 31, 117, 118, 119, 120, 121, 179, 180, 181, 182, 183, 184, 185, 186, 187, 188] rfl (by decide +kernel)
set_option maxRecDepth 20000 in
theorem gX7_init_X0_init : GoodIn wsX7_init (wsX0_init) := ggX7_init_X0_init
set_option maxRecDepth 20000 in
theorem ggX7_init_J7_fill_53178 : GoodIn wsX7_init wsJ7_fill_53178 := goodIn_r _ [48] rfl (by decide +kernel)
set_option maxRecDepth 20000 in
theorem gX7_init_J7_fill_53178 : GoodIn wsX7_init (va_wsS RX7 77 yJ7_fill_53178 wsJ7_fill_53178) := goodIn_app (goodIn_of _ (by decide +kernel)) ggX7_init_J7_fill_53178
theorem dX7_init_0 : decode cX7_init 0 = .ok (.aload_n 0, 1) := by decide +kernel
theorem dX7_init_1 : decode cX7_init 1 = .ok (.invokespecial 3, 3) := by decide +kernel
theorem dX7_init_4 : decode cX7_init 4 = .ok (.aload_n 0, 1) := by decide +kernel
theorem dX7_init_5 : decode cX7_init 5 = .ok (.new 9, 3) := by decide +kernel
theorem dX7_init_8 : decode cX7_init 8 = .ok (.dup, 1) := by decide +kernel
theorem dX7_init_9 : decode cX7_init 9 = .ok (.invokespecial 11, 3) := by decide +kernel
theorem dX7_init_12 : decode cX7_init 12 = .ok (.putfield 12, 3) := by decide +kernel
theorem dX7_init_15 : decode cX7_init 15 = .ok (.aload_n 0, 1) := by decide +kernel
theorem dX7_init_16 : decode cX7_init 16 = .ok (.new 16, 3) := by decide +kernel
theorem dX7_init_19 : decode cX7_init 19 = .ok (.dup, 1) := by decide +kernel
theorem dX7_init_20 : decode cX7_init 20 = .ok (.invokespecial 18, 3) := by decide +kernel
theorem dX7_init_23 : decode cX7_init 23 = .ok (.putfield 19, 3) := by decide +kernel
theorem dX7_init_26 : decode cX7_init 26 = .ok (.aload_n 0, 1) := by decide +kernel
theorem dX7_init_27 : decode cX7_init 27 = .ok (.new 23, 3) := by decide +kernel
theorem dX7_init_30 : decode cX7_init 30 = .ok (.dup, 1) := by decide +kernel
theorem dX7_init_31 : decode cX7_init 31 = .ok (.aload_n 0, 1) := by decide +kernel
theorem dX7_init_32 : decode cX7_init 32 = .ok (.getfield 19, 3) := by decide +kernel
theorem dX7_init_35 : decode cX7_init 35 = .ok (.invokespecial 25, 3) := by decide +kernel
theorem dX7_init_38 : decode cX7_init 38 = .ok (.putfield 28, 3) := by decide +kernel
theorem dX7_init_41 : decode cX7_init 41 = .ok (.aload_n 0, 1) := by decide +kernel
theorem dX7_init_42 : decode cX7_init 42 = .ok (.new 32, 3) := by decide +kernel
theorem dX7_init_45 : decode cX7_init 45 = .ok (.dup, 1) := by decide +kernel
theorem dX7_init_46 : decode cX7_init 46 = .ok (.aload_n 0, 1) := by decide +kernel
theorem dX7_init_47 : decode cX7_init 47 = .ok (.getfield 19, 3) := by decide +kernel
theorem dX7_init_50 : decode cX7_init 50 = .ok (.aload_n 0, 1) := by decide +kernel
theorem dX7_init_51 : decode cX7_init 51 = .ok (.getfield 28, 3) := by decide +kernel
theorem dX7_init_54 : decode cX7_init 54 = .ok (.invokespecial 34, 3) := by decide +kernel
theorem dX7_init_57 : decode cX7_init 57 = .ok (.putfield 37, 3) := by decide +kernel
theorem dX7_init_60 : decode cX7_init 60 = .ok (.aload_n 0, 1) := by decide +kernel
theorem dX7_init_61 : decode cX7_init 61 = .ok (.new 41, 3) := by decide +kernel
theorem dX7_init_64 : decode cX7_init 64 = .ok (.dup, 1) := by decide +kernel
theorem dX7_init_65 : decode cX7_init 65 = .ok (.aload_n 0, 1) := by decide +kernel
theorem dX7_init_66 : decode cX7_init 66 = .ok (.getfield 19, 3) := by decide +kernel
theorem dX7_init_69 : decode cX7_init 69 = .ok (.aload_n 0, 1) := by decide +kernel
theorem dX7_init_70 : decode cX7_init 70 = .ok (.getfield 37, 3) := by decide +kernel
theorem dX7_init_73 : decode cX7_init 73 = .ok (.invokespecial 43, 3) := by decide +kernel
theorem dX7_init_76 : decode cX7_init 76 = .ok (.putfield 46, 3) := by decide +kernel
theorem dX7_init_79 : decode cX7_init 79 = .ok (.aload_n 0, 1) := by decide +kernel
theorem dX7_init_80 : decode cX7_init 80 = .ok (.new 50, 3) := by decide +kernel
theorem dX7_init_83 : decode cX7_init 83 = .ok (.dup, 1) := by decide +kernel
theorem dX7_init_84 : decode cX7_init 84 = .ok (.aload_n 0, 1) := by decide +kernel
theorem dX7_init_85 : decode cX7_init 85 = .ok (.getfield 12, 3) := by decide +kernel
theorem dX7_init_88 : decode cX7_init 88 = .ok (.aload_n 0, 1) := by decide +kernel
theorem dX7_init_89 : decode cX7_init 89 = .ok (.getfield 19, 3) := by decide +kernel
theorem dX7_init_92 : decode cX7_init 92 = .ok (.aload_n 0, 1) := by decide +kernel
theorem dX7_init_93 : decode cX7_init 93 = .ok (.getfield 28, 3) := by decide +kernel
theorem dX7_init_96 : decode cX7_init 96 = .ok (.invokespecial 52, 3) := by decide +kernel
theorem dX7_init_99 : decode cX7_init 99 = .ok (.putfield 55, 3) := by decide +kernel
theorem dX7_init_102 : decode cX7_init 102 = .ok (.aload_n 0, 1) := by decide +kernel
theorem dX7_init_103 : decode cX7_init 103 = .ok (.iconst 3, 1) := by decide +kernel
theorem dX7_init_104 : decode cX7_init 104 = .ok (.newarray .int, 2) := by decide +kernel
theorem dX7_init_106 : decode cX7_init 106 = .ok (.putfield 59, 3) := by decide +kernel
theorem dX7_init_109 : decode cX7_init 109 = .ok (.aload_n 0, 1) := by decide +kernel
theorem dX7_init_110 : decode cX7_init 110 = .ok (.bipush 16, 2) := by decide +kernel
theorem dX7_init_112 : decode cX7_init 112 = .ok (.newarray .int, 2) := by decide +kernel
theorem dX7_init_114 : decode cX7_init 114 = .ok (.putfield 63, 3) := by decide +kernel
theorem dX7_init_117 : decode cX7_init 117 = .ok (.aload_n 0, 1) := by decide +kernel
theorem dX7_init_118 : decode cX7_init 118 = .ok (.bipush 74, 2) := by decide +kernel
theorem dX7_init_120 : decode cX7_init 120 = .ok (.newarray .long, 2) := by decide +kernel
theorem dX7_init_122 : decode cX7_init 122 = .ok (.putfield 66, 3) := by decide +kernel
theorem dX7_init_125 : decode cX7_init 125 = .ok (.aload_n 0, 1) := by decide +kernel
theorem dX7_init_126 : decode cX7_init 126 = .ok (.bipush 64, 2) := by decide +kernel
theorem dX7_init_128 : decode cX7_init 128 = .ok (.newarray .short, 2) := by decide +kernel
theorem dX7_init_130 : decode cX7_init 130 = .ok (.putfield 70, 3) := by decide +kernel
theorem dX7_init_133 : decode cX7_init 133 = .ok (.aload_n 0, 1) := by decide +kernel
theorem dX7_init_134 : decode cX7_init 134 = .ok (.bipush 8, 2) := by decide +kernel
theorem dX7_init_136 : decode cX7_init 136 = .ok (.newarray .int, 2) := by decide +kernel
theorem dX7_init_138 : decode cX7_init 138 = .ok (.putfield 74, 3) := by decide +kernel
theorem dX7_init_141 : decode cX7_init 141 = .ok (.aload_n 0, 1) := by decide +kernel
theorem dX7_init_142 : decode cX7_init 142 = .ok (.getfield 63, 3) := by decide +kernel
theorem dX7_init_145 : decode cX7_init 145 = .ok (.iconst (-1), 1) := by decide +kernel
theorem dX7_init_146 : decode cX7_init 146 = .ok (.invokestatic 77, 3) := by decide +kernel
theorem dX7_init_149 : decode cX7_init 149 = .ok (.aload_n 0, 1) := by decide +kernel
theorem dX7_init_150 : decode cX7_init 150 = .ok (.getfield 59, 3) := by decide +kernel
theorem dX7_init_153 : decode cX7_init 153 = .ok (.iconst 2, 1) := by decide +kernel
theorem dX7_init_154 : decode cX7_init 154 = .ok (.iconst (-1), 1) := by decide +kernel
theorem dX7_init_155 : decode cX7_init 155 = .ok (.iastore, 1) := by decide +kernel
theorem dX7_init_156 : decode cX7_init 156 = .ok (.aload_n 0, 1) := by decide +kernel
theorem dX7_init_157 : decode cX7_init 157 = .ok (.iconst (-1), 1) := by decide +kernel
theorem dX7_init_158 : decode cX7_init 158 = .ok (.putfield 83, 3) := by decide +kernel
theorem dX7_init_161 : decode cX7_init 161 = .ok (.return_, 1) := by decide +kernel
set_option maxRecDepth 20000 in
theorem ggX7_width_X7_isRegister : GoodIn wsX7_width wsX7_isRegister := goodIn_r _ [7] rfl (by decide +kernel)
set_option maxRecDepth 20000 in
theorem gX7_width_X7_isRegister : GoodIn wsX7_width (va_wsS RX7 87 yX7_isRegister wsX7_isRegister) := goodIn_app (goodIn_of _ (by decide +kernel)) ggX7_width_X7_isRegister
set_option maxRecDepth 20000 in
theorem ggX7_width_X7_refuse : GoodIn wsX7_width wsX7_refuse := goodIn_r _ [11, 12, 24, 25, 26, 27, 28, 29, 30, 31, 32, 33, 34, 35, 36, 37, 38, 39] rfl (by decide +kernel)
set_option maxRecDepth 20000 in
theorem gX7_width_X7_refuse : GoodIn wsX7_width (wsV RX7 91 RX7 yX7_refuse wsX7_refuse) := goodIn_app (goodIn_of _ (by decide +kernel)) ggX7_width_X7_refuse
set_option maxRecDepth 20000 in
theorem ggX7_width_X2_put : GoodIn wsX7_width wsX2_put := goodIn_r _ [17, 18, 19, 20, 21, 16, 22, 23, 40, 41, 42, 43, 44] rfl (by decide +kernel)
set_option maxRecDepth 20000 in
theorem gX7_width_X2_put : GoodIn wsX7_width (wsV RX7 101 RX2 yX2_put wsX2_put) := goodIn_app (goodIn_of _ (by decide +kernel)) ggX7_width_X2_put
theorem dX7_width_0 : decode cX7_width 0 = .ok (.iload_n 1, 1) := by decide +kernel
theorem dX7_width_1 : decode cX7_width 1 = .ok (.invokestatic 87, 3) := by decide +kernel
theorem dX7_width_4 : decode cX7_width 4 = .ok (.ifCond .ne 10, 3) := by decide +kernel
theorem dX7_width_7 : decode cX7_width 7 = .ok (.aload_n 0, 1) := by decide +kernel
theorem dX7_width_8 : decode cX7_width 8 = .ok (.bipush (-3), 2) := by decide +kernel
theorem dX7_width_10 : decode cX7_width 10 = .ok (.invokevirtual 91, 3) := by decide +kernel
theorem dX7_width_13 : decode cX7_width 13 = .ok (.ireturn, 1) := by decide +kernel
theorem dX7_width_14 : decode cX7_width 14 = .ok (.iload_n 2, 1) := by decide +kernel
theorem dX7_width_15 : decode cX7_width 15 = .ok (.iconst 1, 1) := by decide +kernel
theorem dX7_width_16 : decode cX7_width 16 = .ok (.if_icmp .lt 9, 3) := by decide +kernel
theorem dX7_width_19 : decode cX7_width 19 = .ok (.iload_n 2, 1) := by decide +kernel
theorem dX7_width_20 : decode cX7_width 20 = .ok (.bipush 32, 2) := by decide +kernel
theorem dX7_width_22 : decode cX7_width 22 = .ok (.if_icmp .le 10, 3) := by decide +kernel
theorem dX7_width_25 : decode cX7_width 25 = .ok (.aload_n 0, 1) := by decide +kernel
theorem dX7_width_26 : decode cX7_width 26 = .ok (.bipush (-6), 2) := by decide +kernel
theorem dX7_width_28 : decode cX7_width 28 = .ok (.invokevirtual 91, 3) := by decide +kernel
theorem dX7_width_31 : decode cX7_width 31 = .ok (.ireturn, 1) := by decide +kernel
theorem dX7_width_32 : decode cX7_width 32 = .ok (.aload_n 0, 1) := by decide +kernel
theorem dX7_width_33 : decode cX7_width 33 = .ok (.getfield 12, 3) := by decide +kernel
theorem dX7_width_36 : decode cX7_width 36 = .ok (.getfield 95, 3) := by decide +kernel
theorem dX7_width_39 : decode cX7_width 39 = .ok (.iload_n 1, 1) := by decide +kernel
theorem dX7_width_40 : decode cX7_width 40 = .ok (.iaload, 1) := by decide +kernel
theorem dX7_width_41 : decode cX7_width 41 = .ok (.istore_n 3, 1) := by decide +kernel
theorem dX7_width_42 : decode cX7_width 42 = .ok (.aload_n 0, 1) := by decide +kernel
theorem dX7_width_43 : decode cX7_width 43 = .ok (.getfield 12, 3) := by decide +kernel
theorem dX7_width_46 : decode cX7_width 46 = .ok (.getfield 95, 3) := by decide +kernel
theorem dX7_width_49 : decode cX7_width 49 = .ok (.iload_n 1, 1) := by decide +kernel
theorem dX7_width_50 : decode cX7_width 50 = .ok (.iload_n 2, 1) := by decide +kernel
theorem dX7_width_51 : decode cX7_width 51 = .ok (.iastore, 1) := by decide +kernel
theorem dX7_width_52 : decode cX7_width 52 = .ok (.aload_n 0, 1) := by decide +kernel
theorem dX7_width_53 : decode cX7_width 53 = .ok (.getfield 12, 3) := by decide +kernel
theorem dX7_width_56 : decode cX7_width 56 = .ok (.iload_n 1, 1) := by decide +kernel
theorem dX7_width_57 : decode cX7_width 57 = .ok (.aload_n 0, 1) := by decide +kernel
theorem dX7_width_58 : decode cX7_width 58 = .ok (.getfield 12, 3) := by decide +kernel
theorem dX7_width_61 : decode cX7_width 61 = .ok (.getfield 98, 3) := by decide +kernel
theorem dX7_width_64 : decode cX7_width 64 = .ok (.iload_n 1, 1) := by decide +kernel
theorem dX7_width_65 : decode cX7_width 65 = .ok (.laload, 1) := by decide +kernel
theorem dX7_width_66 : decode cX7_width 66 = .ok (.invokevirtual 101, 3) := by decide +kernel
theorem dX7_width_69 : decode cX7_width 69 = .ok (.pop, 1) := by decide +kernel
theorem dX7_width_70 : decode cX7_width 70 = .ok (.iload_n 3, 1) := by decide +kernel
theorem dX7_width_71 : decode cX7_width 71 = .ok (.ireturn, 1) := by decide +kernel
set_option maxRecDepth 20000 in
theorem ggX7_set_X7_isRegister : GoodIn wsX7_set wsX7_isRegister := goodIn_r _ [5] rfl (by decide +kernel)
set_option maxRecDepth 20000 in
theorem gX7_set_X7_isRegister : GoodIn wsX7_set (va_wsS RX7 87 yX7_isRegister wsX7_isRegister) := goodIn_app (goodIn_of _ (by decide +kernel)) ggX7_set_X7_isRegister
set_option maxRecDepth 20000 in
theorem ggX7_set_X7_refuse : GoodIn wsX7_set wsX7_refuse := goodIn_r _ [9, 10, 22, 23, 24, 25, 26, 27, 28, 29, 30, 31, 32, 33, 34, 35, 36, 37] rfl (by decide +kernel)
set_option maxRecDepth 20000 in
theorem gX7_set_X7_refuse : GoodIn wsX7_set (wsV RX7 91 RX7 yX7_refuse wsX7_refuse) := goodIn_app (goodIn_of _ (by decide +kernel)) ggX7_set_X7_refuse
set_option maxRecDepth 20000 in
theorem ggX7_set_X2_put : GoodIn wsX7_set wsX2_put := goodIn_r _ [15, 16, 17, 18, 19, 14, 20, 21, 38, 39, 40, 41, 42] rfl (by decide +kernel)
set_option maxRecDepth 20000 in
theorem gX7_set_X2_put : GoodIn wsX7_set (wsV RX7 101 RX2 yX2_put wsX2_put) := goodIn_app (goodIn_of _ (by decide +kernel)) ggX7_set_X2_put
theorem dX7_set_0 : decode cX7_set 0 = .ok (.iload_n 1, 1) := by decide +kernel
theorem dX7_set_1 : decode cX7_set 1 = .ok (.invokestatic 87, 3) := by decide +kernel
theorem dX7_set_4 : decode cX7_set 4 = .ok (.ifCond .ne 10, 3) := by decide +kernel
theorem dX7_set_7 : decode cX7_set 7 = .ok (.aload_n 0, 1) := by decide +kernel
theorem dX7_set_8 : decode cX7_set 8 = .ok (.bipush (-3), 2) := by decide +kernel
theorem dX7_set_10 : decode cX7_set 10 = .ok (.invokevirtual 91, 3) := by decide +kernel
theorem dX7_set_13 : decode cX7_set 13 = .ok (.ireturn, 1) := by decide +kernel
theorem dX7_set_14 : decode cX7_set 14 = .ok (.aload_n 0, 1) := by decide +kernel
theorem dX7_set_15 : decode cX7_set 15 = .ok (.getfield 12, 3) := by decide +kernel
theorem dX7_set_18 : decode cX7_set 18 = .ok (.iload_n 1, 1) := by decide +kernel
theorem dX7_set_19 : decode cX7_set 19 = .ok (.lload_n 2, 1) := by decide +kernel
theorem dX7_set_20 : decode cX7_set 20 = .ok (.invokevirtual 101, 3) := by decide +kernel
theorem dX7_set_23 : decode cX7_set 23 = .ok (.ireturn, 1) := by decide +kernel
set_option maxRecDepth 20000 in
theorem ggX7_register_X7_isRegister : GoodIn wsX7_register wsX7_isRegister := goodIn_r _ [6] rfl (by decide +kernel)
set_option maxRecDepth 20000 in
theorem gX7_register_X7_isRegister : GoodIn wsX7_register (va_wsS RX7 87 yX7_isRegister wsX7_isRegister) := goodIn_app (goodIn_of _ (by decide +kernel)) ggX7_register_X7_isRegister
set_option maxRecDepth 20000 in
theorem ggX7_register_X7_refuse : GoodIn wsX7_register wsX7_refuse := goodIn_r _ [10, 11, 12, 13, 14, 15, 16, 17, 18, 19, 20, 21, 22, 23, 24, 25, 26, 27] rfl (by decide +kernel)
set_option maxRecDepth 20000 in
theorem gX7_register_X7_refuse : GoodIn wsX7_register (wsV RX7 91 RX7 yX7_refuse wsX7_refuse) := goodIn_app (goodIn_of _ (by decide +kernel)) ggX7_register_X7_refuse
theorem dX7_register_0 : decode cX7_register 0 = .ok (.iload_n 1, 1) := by decide +kernel
theorem dX7_register_1 : decode cX7_register 1 = .ok (.invokestatic 87, 3) := by decide +kernel
theorem dX7_register_4 : decode cX7_register 4 = .ok (.ifCond .ne 12, 3) := by decide +kernel
theorem dX7_register_7 : decode cX7_register 7 = .ok (.aload_n 0, 1) := by decide +kernel
theorem dX7_register_8 : decode cX7_register 8 = .ok (.bipush (-3), 2) := by decide +kernel
theorem dX7_register_10 : decode cX7_register 10 = .ok (.invokevirtual 91, 3) := by decide +kernel
theorem dX7_register_13 : decode cX7_register 13 = .ok (.pop, 1) := by decide +kernel
theorem dX7_register_14 : decode cX7_register 14 = .ok (.lconst 0, 1) := by decide +kernel
theorem dX7_register_15 : decode cX7_register 15 = .ok (.lreturn, 1) := by decide +kernel
theorem dX7_register_16 : decode cX7_register 16 = .ok (.aload_n 0, 1) := by decide +kernel
theorem dX7_register_17 : decode cX7_register 17 = .ok (.getfield 12, 3) := by decide +kernel
theorem dX7_register_20 : decode cX7_register 20 = .ok (.getfield 98, 3) := by decide +kernel
theorem dX7_register_23 : decode cX7_register 23 = .ok (.iload_n 1, 1) := by decide +kernel
theorem dX7_register_24 : decode cX7_register 24 = .ok (.laload, 1) := by decide +kernel
theorem dX7_register_25 : decode cX7_register 25 = .ok (.lreturn, 1) := by decide +kernel
set_option maxRecDepth 20000 in
theorem ggX7_poke_X7_isCell : GoodIn wsX7_poke wsX7_isCell := goodIn_r _ [5, 6] rfl (by decide +kernel)
set_option maxRecDepth 20000 in
theorem gX7_poke_X7_isCell : GoodIn wsX7_poke (va_wsS RX7 105 yX7_isCell wsX7_isCell) := goodIn_app (goodIn_of _ (by decide +kernel)) ggX7_poke_X7_isCell
set_option maxRecDepth 20000 in
theorem ggX7_poke_X7_refuse : GoodIn wsX7_poke wsX7_refuse := goodIn_r _ [10, 11, 23, 24, 25, 26, 27, 28, 29, 30, 31, 32, 33, 34, 35, 36, 37, 38] rfl (by decide +kernel)
set_option maxRecDepth 20000 in
theorem gX7_poke_X7_refuse : GoodIn wsX7_poke (wsV RX7 91 RX7 yX7_refuse wsX7_refuse) := goodIn_app (goodIn_of _ (by decide +kernel)) ggX7_poke_X7_refuse
set_option maxRecDepth 20000 in
theorem ggX7_poke_X2_put : GoodIn wsX7_poke wsX2_put := goodIn_r _ [16, 17, 18, 19, 20, 15, 21, 22, 39, 40, 41, 42, 43] rfl (by decide +kernel)
set_option maxRecDepth 20000 in
theorem gX7_poke_X2_put : GoodIn wsX7_poke (wsV RX7 101 RX2 yX2_put wsX2_put) := goodIn_app (goodIn_of _ (by decide +kernel)) ggX7_poke_X2_put
theorem dX7_poke_0 : decode cX7_poke 0 = .ok (.iload_n 1, 1) := by decide +kernel
theorem dX7_poke_1 : decode cX7_poke 1 = .ok (.i2l, 1) := by decide +kernel
theorem dX7_poke_2 : decode cX7_poke 2 = .ok (.invokestatic 105, 3) := by decide +kernel
theorem dX7_poke_5 : decode cX7_poke 5 = .ok (.ifCond .ne 10, 3) := by decide +kernel
theorem dX7_poke_8 : decode cX7_poke 8 = .ok (.aload_n 0, 1) := by decide +kernel
theorem dX7_poke_9 : decode cX7_poke 9 = .ok (.bipush (-3), 2) := by decide +kernel
theorem dX7_poke_11 : decode cX7_poke 11 = .ok (.invokevirtual 91, 3) := by decide +kernel
theorem dX7_poke_14 : decode cX7_poke 14 = .ok (.ireturn, 1) := by decide +kernel
theorem dX7_poke_15 : decode cX7_poke 15 = .ok (.aload_n 0, 1) := by decide +kernel
theorem dX7_poke_16 : decode cX7_poke 16 = .ok (.getfield 12, 3) := by decide +kernel
theorem dX7_poke_19 : decode cX7_poke 19 = .ok (.bipush 10, 2) := by decide +kernel
theorem dX7_poke_21 : decode cX7_poke 21 = .ok (.iload_n 1, 1) := by decide +kernel
theorem dX7_poke_22 : decode cX7_poke 22 = .ok (.iadd, 1) := by decide +kernel
theorem dX7_poke_23 : decode cX7_poke 23 = .ok (.lload_n 2, 1) := by decide +kernel
theorem dX7_poke_24 : decode cX7_poke 24 = .ok (.invokevirtual 101, 3) := by decide +kernel
theorem dX7_poke_27 : decode cX7_poke 27 = .ok (.ireturn, 1) := by decide +kernel
set_option maxRecDepth 20000 in
theorem ggX7_cell_X7_isCell : GoodIn wsX7_cell wsX7_isCell := goodIn_r _ [6, 7] rfl (by decide +kernel)
set_option maxRecDepth 20000 in
theorem gX7_cell_X7_isCell : GoodIn wsX7_cell (va_wsS RX7 105 yX7_isCell wsX7_isCell) := goodIn_app (goodIn_of _ (by decide +kernel)) ggX7_cell_X7_isCell
set_option maxRecDepth 20000 in
theorem ggX7_cell_X7_refuse : GoodIn wsX7_cell wsX7_refuse := goodIn_r _ [11, 12, 13, 14, 15, 16, 17, 18, 19, 20, 21, 22, 23, 24, 25, 26, 27, 28] rfl (by decide +kernel)
set_option maxRecDepth 20000 in
theorem gX7_cell_X7_refuse : GoodIn wsX7_cell (wsV RX7 91 RX7 yX7_refuse wsX7_refuse) := goodIn_app (goodIn_of _ (by decide +kernel)) ggX7_cell_X7_refuse
theorem dX7_cell_0 : decode cX7_cell 0 = .ok (.iload_n 1, 1) := by decide +kernel
theorem dX7_cell_1 : decode cX7_cell 1 = .ok (.i2l, 1) := by decide +kernel
theorem dX7_cell_2 : decode cX7_cell 2 = .ok (.invokestatic 105, 3) := by decide +kernel
theorem dX7_cell_5 : decode cX7_cell 5 = .ok (.ifCond .ne 12, 3) := by decide +kernel
theorem dX7_cell_8 : decode cX7_cell 8 = .ok (.aload_n 0, 1) := by decide +kernel
theorem dX7_cell_9 : decode cX7_cell 9 = .ok (.bipush (-3), 2) := by decide +kernel
theorem dX7_cell_11 : decode cX7_cell 11 = .ok (.invokevirtual 91, 3) := by decide +kernel
theorem dX7_cell_14 : decode cX7_cell 14 = .ok (.pop, 1) := by decide +kernel
theorem dX7_cell_15 : decode cX7_cell 15 = .ok (.lconst 0, 1) := by decide +kernel
theorem dX7_cell_16 : decode cX7_cell 16 = .ok (.lreturn, 1) := by decide +kernel
theorem dX7_cell_17 : decode cX7_cell 17 = .ok (.aload_n 0, 1) := by decide +kernel
theorem dX7_cell_18 : decode cX7_cell 18 = .ok (.getfield 12, 3) := by decide +kernel
theorem dX7_cell_21 : decode cX7_cell 21 = .ok (.getfield 98, 3) := by decide +kernel
theorem dX7_cell_24 : decode cX7_cell 24 = .ok (.bipush 10, 2) := by decide +kernel
theorem dX7_cell_26 : decode cX7_cell 26 = .ok (.iload_n 1, 1) := by decide +kernel
theorem dX7_cell_27 : decode cX7_cell 27 = .ok (.iadd, 1) := by decide +kernel
theorem dX7_cell_28 : decode cX7_cell 28 = .ok (.laload, 1) := by decide +kernel
theorem dX7_cell_29 : decode cX7_cell 29 = .ok (.lreturn, 1) := by decide +kernel
set_option maxRecDepth 20000 in
theorem ggX7_flag_X7_refuse : GoodIn wsX7_flag wsX7_refuse := goodIn_r _ [7, 8, 20, 21, 22, 23, 24, 25, 26, 27, 28, 29, 30, 31, 32, 33, 34, 35] rfl (by decide +kernel)
set_option maxRecDepth 20000 in
theorem gX7_flag_X7_refuse : GoodIn wsX7_flag (wsV RX7 91 RX7 yX7_refuse wsX7_refuse) := goodIn_app (goodIn_of _ (by decide +kernel)) ggX7_flag_X7_refuse
set_option maxRecDepth 20000 in
theorem ggX7_flag_X2_put : GoodIn wsX7_flag wsX2_put := goodIn_r _ [13, 14, 15, 16, 17, 12, 18, 19, 36, 37, 38, 39, 40] rfl (by decide +kernel)
set_option maxRecDepth 20000 in
theorem gX7_flag_X2_put : GoodIn wsX7_flag (wsV RX7 101 RX2 yX2_put wsX2_put) := goodIn_app (goodIn_of _ (by decide +kernel)) ggX7_flag_X2_put
theorem dX7_flag_0 : decode cX7_flag 0 = .ok (.iload_n 1, 1) := by decide +kernel
theorem dX7_flag_1 : decode cX7_flag 1 = .ok (.ifCond .lt 8, 3) := by decide +kernel
theorem dX7_flag_4 : decode cX7_flag 4 = .ok (.iload_n 1, 1) := by decide +kernel
theorem dX7_flag_5 : decode cX7_flag 5 = .ok (.iconst 2, 1) := by decide +kernel
theorem dX7_flag_6 : decode cX7_flag 6 = .ok (.if_icmp .lt 10, 3) := by decide +kernel
theorem dX7_flag_9 : decode cX7_flag 9 = .ok (.aload_n 0, 1) := by decide +kernel
theorem dX7_flag_10 : decode cX7_flag 10 = .ok (.bipush (-3), 2) := by decide +kernel
theorem dX7_flag_12 : decode cX7_flag 12 = .ok (.invokevirtual 91, 3) := by decide +kernel
theorem dX7_flag_15 : decode cX7_flag 15 = .ok (.ireturn, 1) := by decide +kernel
theorem dX7_flag_16 : decode cX7_flag 16 = .ok (.aload_n 0, 1) := by decide +kernel
theorem dX7_flag_17 : decode cX7_flag 17 = .ok (.getfield 12, 3) := by decide +kernel
theorem dX7_flag_20 : decode cX7_flag 20 = .ok (.getfield 98, 3) := by decide +kernel
theorem dX7_flag_23 : decode cX7_flag 23 = .ok (.bipush 8, 2) := by decide +kernel
theorem dX7_flag_25 : decode cX7_flag 25 = .ok (.iload_n 1, 1) := by decide +kernel
theorem dX7_flag_26 : decode cX7_flag 26 = .ok (.iadd, 1) := by decide +kernel
theorem dX7_flag_27 : decode cX7_flag 27 = .ok (.laload, 1) := by decide +kernel
theorem dX7_flag_28 : decode cX7_flag 28 = .ok (.l2i, 1) := by decide +kernel
theorem dX7_flag_29 : decode cX7_flag 29 = .ok (.istore_n 3, 1) := by decide +kernel
theorem dX7_flag_30 : decode cX7_flag 30 = .ok (.aload_n 0, 1) := by decide +kernel
theorem dX7_flag_31 : decode cX7_flag 31 = .ok (.getfield 12, 3) := by decide +kernel
theorem dX7_flag_34 : decode cX7_flag 34 = .ok (.bipush 8, 2) := by decide +kernel
theorem dX7_flag_36 : decode cX7_flag 36 = .ok (.iload_n 1, 1) := by decide +kernel
theorem dX7_flag_37 : decode cX7_flag 37 = .ok (.iadd, 1) := by decide +kernel
theorem dX7_flag_38 : decode cX7_flag 38 = .ok (.iload_n 2, 1) := by decide +kernel
theorem dX7_flag_39 : decode cX7_flag 39 = .ok (.ifCond .eq 7, 3) := by decide +kernel
theorem dX7_flag_42 : decode cX7_flag 42 = .ok (.lconst 1, 1) := by decide +kernel
theorem dX7_flag_43 : decode cX7_flag 43 = .ok (.goto 4, 3) := by decide +kernel
theorem dX7_flag_46 : decode cX7_flag 46 = .ok (.lconst 0, 1) := by decide +kernel
theorem dX7_flag_47 : decode cX7_flag 47 = .ok (.invokevirtual 101, 3) := by decide +kernel
theorem dX7_flag_50 : decode cX7_flag 50 = .ok (.pop, 1) := by decide +kernel
theorem dX7_flag_51 : decode cX7_flag 51 = .ok (.iload_n 3, 1) := by decide +kernel
theorem dX7_flag_52 : decode cX7_flag 52 = .ok (.ireturn, 1) := by decide +kernel
theorem dX7_flags_0 : decode cX7_flags 0 = .ok (.aload_n 0, 1) := by decide +kernel
theorem dX7_flags_1 : decode cX7_flags 1 = .ok (.getfield 12, 3) := by decide +kernel
theorem dX7_flags_4 : decode cX7_flags 4 = .ok (.getfield 98, 3) := by decide +kernel
theorem dX7_flags_7 : decode cX7_flags 7 = .ok (.bipush 8, 2) := by decide +kernel
theorem dX7_flags_9 : decode cX7_flags 9 = .ok (.laload, 1) := by decide +kernel
theorem dX7_flags_10 : decode cX7_flags 10 = .ok (.ldc2_w 109, 3) := by decide +kernel
theorem dX7_flags_13 : decode cX7_flags 13 = .ok (.aload_n 0, 1) := by decide +kernel
theorem dX7_flags_14 : decode cX7_flags 14 = .ok (.getfield 12, 3) := by decide +kernel
theorem dX7_flags_17 : decode cX7_flags 17 = .ok (.getfield 98, 3) := by decide +kernel
theorem dX7_flags_20 : decode cX7_flags 20 = .ok (.bipush 9, 2) := by decide +kernel
theorem dX7_flags_22 : decode cX7_flags 22 = .ok (.laload, 1) := by decide +kernel
theorem dX7_flags_23 : decode cX7_flags 23 = .ok (.lmul, 1) := by decide +kernel
theorem dX7_flags_24 : decode cX7_flags 24 = .ok (.ladd, 1) := by decide +kernel
theorem dX7_flags_25 : decode cX7_flags 25 = .ok (.l2i, 1) := by decide +kernel
theorem dX7_flags_26 : decode cX7_flags 26 = .ok (.ireturn, 1) := by decide +kernel
set_option maxRecDepth 20000 in
theorem ggX7_act_X7_isInstruction : GoodIn wsX7_act wsX7_isInstruction := goodIn_r _ [6] rfl (by decide +kernel)
set_option maxRecDepth 20000 in
theorem gX7_act_X7_isInstruction : GoodIn wsX7_act (va_wsS RX7 111 yX7_isInstruction wsX7_isInstruction) := goodIn_app (goodIn_of _ (by decide +kernel)) ggX7_act_X7_isInstruction
set_option maxRecDepth 20000 in
theorem ggX7_act_X7_refuse : GoodIn wsX7_act wsX7_refuse := goodIn_r _ [10, 11, 51, 52, 53, 54, 55, 56, 57, 58, 59, 60, 61, 62, 63, 64, 65, 66] rfl (by decide +kernel)
set_option maxRecDepth 20000 in
theorem gX7_act_X7_refuse : GoodIn wsX7_act (wsV RX7 91 RX7 yX7_refuse wsX7_refuse) := goodIn_app (goodIn_of _ (by decide +kernel)) ggX7_act_X7_refuse
set_option maxRecDepth 20000 in
theorem ggX7_act_X7_isAct : GoodIn wsX7_act wsX7_isAct := goodIn_r _ [14, 15, 16, 17, 18, 19, 5, 20, 21, 22] rfl (by decide +kernel)
set_option maxRecDepth 20000 in
theorem gX7_act_X7_isAct : GoodIn wsX7_act (va_wsS RX7 114 yX7_isAct wsX7_isAct) := goodIn_app (goodIn_of _ (by decide +kernel)) ggX7_act_X7_isAct
set_option maxRecDepth 20000 in
theorem ggX7_act_X5_add : GoodIn wsX7_act wsX5_add := goodIn_r _ [27, 28, 29, 30, 31, 32, 33, 34, 35, 5, 36, 37, 38, 26, 39, 40, 41, 42, 67, 68, 69, 70, 71, 72, 73] rfl (by decide +kernel)
set_option maxRecDepth 20000 in
theorem gX7_act_X5_add : GoodIn wsX7_act (wsV RX7 121 RX5 yX5_add wsX5_add) := goodIn_app (goodIn_of _ (by decide +kernel)) ggX7_act_X5_add
set_option maxRecDepth 20000 in
theorem ggX7_act_X7_takeAwayPackedOf : GoodIn wsX7_act wsX7_takeAwayPackedOf := goodIn_r _ [46, 47, 48, 49, 50, 51, 52, 53, 54, 55, 56, 57, 58, 59, 60, 61, 62, 63, 64, 65, 66, 74, 75, 76, 77, 78, 79, 80, 81, 82, 83, 84, 85, 86, 87, 88, 89] rfl (by decide +kernel)
set_option maxRecDepth 20000 in
theorem gX7_act_X7_takeAwayPackedOf : GoodIn wsX7_act (wsV RX7 125 RX7 yX7_takeAwayPackedOf wsX7_takeAwayPackedOf) := goodIn_app (goodIn_of _ (by decide +kernel)) ggX7_act_X7_takeAwayPackedOf
theorem dX7_act_0 : decode cX7_act 0 = .ok (.iload_n 1, 1) := by decide +kernel
theorem dX7_act_1 : decode cX7_act 1 = .ok (.invokestatic 111, 3) := by decide +kernel
theorem dX7_act_4 : decode cX7_act 4 = .ok (.ifCond .ne 10, 3) := by decide +kernel
theorem dX7_act_7 : decode cX7_act 7 = .ok (.aload_n 0, 1) := by decide +kernel
theorem dX7_act_8 : decode cX7_act 8 = .ok (.bipush (-3), 2) := by decide +kernel
theorem dX7_act_10 : decode cX7_act 10 = .ok (.invokevirtual 91, 3) := by decide +kernel
theorem dX7_act_13 : decode cX7_act 13 = .ok (.ireturn, 1) := by decide +kernel
theorem dX7_act_14 : decode cX7_act 14 = .ok (.iload_n 2, 1) := by decide +kernel
theorem dX7_act_15 : decode cX7_act 15 = .ok (.iload_n 3, 1) := by decide +kernel
theorem dX7_act_16 : decode cX7_act 16 = .ok (.iload 4, 2) := by decide +kernel
theorem dX7_act_18 : decode cX7_act 18 = .ok (.iload 5, 2) := by decide +kernel
theorem dX7_act_20 : decode cX7_act 20 = .ok (.invokestatic 114, 3) := by decide +kernel
theorem dX7_act_23 : decode cX7_act 23 = .ok (.ifCond .ne 10, 3) := by decide +kernel
theorem dX7_act_26 : decode cX7_act 26 = .ok (.aload_n 0, 1) := by decide +kernel
theorem dX7_act_27 : decode cX7_act 27 = .ok (.bipush (-6), 2) := by decide +kernel
theorem dX7_act_29 : decode cX7_act 29 = .ok (.invokevirtual 91, 3) := by decide +kernel
theorem dX7_act_32 : decode cX7_act 32 = .ok (.ireturn, 1) := by decide +kernel
theorem dX7_act_33 : decode cX7_act 33 = .ok (.aload_n 0, 1) := by decide +kernel
theorem dX7_act_34 : decode cX7_act 34 = .ok (.getfield 19, 3) := by decide +kernel
theorem dX7_act_37 : decode cX7_act 37 = .ok (.getfield 118, 3) := by decide +kernel
theorem dX7_act_40 : decode cX7_act 40 = .ok (.iload_n 1, 1) := by decide +kernel
theorem dX7_act_41 : decode cX7_act 41 = .ok (.iaload, 1) := by decide +kernel
theorem dX7_act_42 : decode cX7_act 42 = .ok (.bipush 10, 2) := by decide +kernel
theorem dX7_act_44 : decode cX7_act 44 = .ok (.if_icmp .lt 10, 3) := by decide +kernel
theorem dX7_act_47 : decode cX7_act 47 = .ok (.aload_n 0, 1) := by decide +kernel
theorem dX7_act_48 : decode cX7_act 48 = .ok (.bipush (-7), 2) := by decide +kernel
theorem dX7_act_50 : decode cX7_act 50 = .ok (.invokevirtual 91, 3) := by decide +kernel
theorem dX7_act_53 : decode cX7_act 53 = .ok (.ireturn, 1) := by decide +kernel
theorem dX7_act_54 : decode cX7_act 54 = .ok (.aload_n 0, 1) := by decide +kernel
theorem dX7_act_55 : decode cX7_act 55 = .ok (.getfield 19, 3) := by decide +kernel
theorem dX7_act_58 : decode cX7_act 58 = .ok (.iload_n 1, 1) := by decide +kernel
theorem dX7_act_59 : decode cX7_act 59 = .ok (.iload_n 2, 1) := by decide +kernel
theorem dX7_act_60 : decode cX7_act 60 = .ok (.iload_n 3, 1) := by decide +kernel
theorem dX7_act_61 : decode cX7_act 61 = .ok (.iload 4, 2) := by decide +kernel
theorem dX7_act_63 : decode cX7_act 63 = .ok (.iload 5, 2) := by decide +kernel
theorem dX7_act_65 : decode cX7_act 65 = .ok (.invokevirtual 121, 3) := by decide +kernel
theorem dX7_act_68 : decode cX7_act 68 = .ok (.aload_n 0, 1) := by decide +kernel
theorem dX7_act_69 : decode cX7_act 69 = .ok (.iload_n 1, 1) := by decide +kernel
theorem dX7_act_70 : decode cX7_act 70 = .ok (.invokevirtual 125, 3) := by decide +kernel
theorem dX7_act_73 : decode cX7_act 73 = .ok (.aload_n 0, 1) := by decide +kernel
theorem dX7_act_74 : decode cX7_act 74 = .ok (.getfield 19, 3) := by decide +kernel
theorem dX7_act_77 : decode cX7_act 77 = .ok (.getfield 118, 3) := by decide +kernel
theorem dX7_act_80 : decode cX7_act 80 = .ok (.iload_n 1, 1) := by decide +kernel
theorem dX7_act_81 : decode cX7_act 81 = .ok (.iaload, 1) := by decide +kernel
theorem dX7_act_82 : decode cX7_act 82 = .ok (.ireturn, 1) := by decide +kernel
set_option maxRecDepth 20000 in
theorem ggX7_clear_X7_isInstruction : GoodIn wsX7_clear wsX7_isInstruction := goodIn_r _ [6] rfl (by decide +kernel)
set_option maxRecDepth 20000 in
theorem gX7_clear_X7_isInstruction : GoodIn wsX7_clear (va_wsS RX7 111 yX7_isInstruction wsX7_isInstruction) := goodIn_app (goodIn_of _ (by decide +kernel)) ggX7_clear_X7_isInstruction
set_option maxRecDepth 20000 in
theorem ggX7_clear_X7_refuse : GoodIn wsX7_clear wsX7_refuse := goodIn_r _ [10, 11, 20, 21, 22, 23, 24, 25, 26, 27, 28, 29, 30, 31, 32, 33, 34, 35] rfl (by decide +kernel)
set_option maxRecDepth 20000 in
theorem gX7_clear_X7_refuse : GoodIn wsX7_clear (wsV RX7 91 RX7 yX7_refuse wsX7_refuse) := goodIn_app (goodIn_of _ (by decide +kernel)) ggX7_clear_X7_refuse
set_option maxRecDepth 20000 in
theorem ggX7_clear_X7_takeAwayPackedOf : GoodIn wsX7_clear wsX7_takeAwayPackedOf := goodIn_r _ [15, 16, 17, 18, 19, 20, 21, 22, 23, 24, 25, 26, 27, 28, 29, 30, 31, 32, 33, 34, 35, 43, 44, 45, 46, 47, 48, 49, 50, 51, 52, 53, 54, 55, 56, 57, 58] rfl (by decide +kernel)
set_option maxRecDepth 20000 in
theorem gX7_clear_X7_takeAwayPackedOf : GoodIn wsX7_clear (wsV RX7 125 RX7 yX7_takeAwayPackedOf wsX7_takeAwayPackedOf) := goodIn_app (goodIn_of _ (by decide +kernel)) ggX7_clear_X7_takeAwayPackedOf
theorem dX7_clear_0 : decode cX7_clear 0 = .ok (.iload_n 1, 1) := by decide +kernel
theorem dX7_clear_1 : decode cX7_clear 1 = .ok (.invokestatic 111, 3) := by decide +kernel
theorem dX7_clear_4 : decode cX7_clear 4 = .ok (.ifCond .ne 10, 3) := by decide +kernel
theorem dX7_clear_7 : decode cX7_clear 7 = .ok (.aload_n 0, 1) := by decide +kernel
theorem dX7_clear_8 : decode cX7_clear 8 = .ok (.bipush (-3), 2) := by decide +kernel
theorem dX7_clear_10 : decode cX7_clear 10 = .ok (.invokevirtual 91, 3) := by decide +kernel
theorem dX7_clear_13 : decode cX7_clear 13 = .ok (.ireturn, 1) := by decide +kernel
theorem dX7_clear_14 : decode cX7_clear 14 = .ok (.aload_n 0, 1) := by decide +kernel
theorem dX7_clear_15 : decode cX7_clear 15 = .ok (.getfield 19, 3) := by decide +kernel
theorem dX7_clear_18 : decode cX7_clear 18 = .ok (.getfield 118, 3) := by decide +kernel
theorem dX7_clear_21 : decode cX7_clear 21 = .ok (.iload_n 1, 1) := by decide +kernel
theorem dX7_clear_22 : decode cX7_clear 22 = .ok (.iaload, 1) := by decide +kernel
theorem dX7_clear_23 : decode cX7_clear 23 = .ok (.istore_n 2, 1) := by decide +kernel
theorem dX7_clear_24 : decode cX7_clear 24 = .ok (.iload_n 2, 1) := by decide +kernel
theorem dX7_clear_25 : decode cX7_clear 25 = .ok (.ifCond .le 18, 3) := by decide +kernel
theorem dX7_clear_28 : decode cX7_clear 28 = .ok (.aload_n 0, 1) := by decide +kernel
theorem dX7_clear_29 : decode cX7_clear 29 = .ok (.getfield 19, 3) := by decide +kernel
theorem dX7_clear_32 : decode cX7_clear 32 = .ok (.getfield 118, 3) := by decide +kernel
theorem dX7_clear_35 : decode cX7_clear 35 = .ok (.iload_n 1, 1) := by decide +kernel
theorem dX7_clear_36 : decode cX7_clear 36 = .ok (.iconst 0, 1) := by decide +kernel
theorem dX7_clear_37 : decode cX7_clear 37 = .ok (.iastore, 1) := by decide +kernel
theorem dX7_clear_38 : decode cX7_clear 38 = .ok (.aload_n 0, 1) := by decide +kernel
theorem dX7_clear_39 : decode cX7_clear 39 = .ok (.iload_n 1, 1) := by decide +kernel
theorem dX7_clear_40 : decode cX7_clear 40 = .ok (.invokevirtual 125, 3) := by decide +kernel
theorem dX7_clear_43 : decode cX7_clear 43 = .ok (.iload_n 2, 1) := by decide +kernel
theorem dX7_clear_44 : decode cX7_clear 44 = .ok (.ireturn, 1) := by decide +kernel
set_option maxRecDepth 20000 in
theorem ggX7_look_X7_hasAct : GoodIn wsX7_look wsX7_hasAct := goodIn_r _ [10, 1, 11, 12, 13, 9, 14, 33, 34, 35, 36, 37, 38, 39, 40, 41, 42, 43, 44, 45, 46, 47, 48, 49, 50, 51, 52, 53, 54, 55] rfl (by decide +kernel)
set_option maxRecDepth 20000 in
theorem gX7_look_X7_hasAct : GoodIn wsX7_look (wsV RX7 129 RX7 yX7_hasAct wsX7_hasAct) := goodIn_app (goodIn_of _ (by decide +kernel)) ggX7_look_X7_hasAct
set_option maxRecDepth 20000 in
theorem ggX7_look_X7_refuse : GoodIn wsX7_look wsX7_refuse := goodIn_r _ [18, 19, 33, 34, 35, 36, 37, 38, 39, 40, 41, 42, 43, 44, 45, 46, 47, 48] rfl (by decide +kernel)
set_option maxRecDepth 20000 in
theorem gX7_look_X7_refuse : GoodIn wsX7_look (wsV RX7 91 RX7 yX7_refuse wsX7_refuse) := goodIn_app (goodIn_of _ (by decide +kernel)) ggX7_look_X7_refuse
set_option maxRecDepth 20000 in
theorem ggX7_look_X7_slot : GoodIn wsX7_look wsX7_slot := goodIn_r _ [22] rfl (by decide +kernel)
set_option maxRecDepth 20000 in
theorem gX7_look_X7_slot : GoodIn wsX7_look (va_wsS RX7 133 yX7_slot wsX7_slot) := goodIn_app (goodIn_of _ (by decide +kernel)) ggX7_look_X7_slot
set_option maxRecDepth 20000 in
theorem ggX7_look_X5_partOf : GoodIn wsX7_look wsX5_partOf := goodIn_r _ [27, 28, 49, 50, 51, 52, 53, 54, 55] rfl (by decide +kernel)
set_option maxRecDepth 20000 in
theorem gX7_look_X5_partOf : GoodIn wsX7_look (wsV RX7 149 RX5 yX5_partOf wsX5_partOf) := goodIn_app (goodIn_of _ (by decide +kernel)) ggX7_look_X5_partOf
set_option maxRecDepth 20000 in
theorem ggX7_look_X5_canTrap : GoodIn wsX7_look wsX5_canTrap := goodIn_r _ [32, 28, 49, 50, 51, 52, 53, 54, 55] rfl (by decide +kernel)
set_option maxRecDepth 20000 in
theorem gX7_look_X5_canTrap : GoodIn wsX7_look (wsV RX7 152 RX5 yX5_canTrap wsX5_canTrap) := goodIn_app (goodIn_of _ (by decide +kernel)) ggX7_look_X5_canTrap
theorem dX7_look_0 : decode cX7_look 0 = .ok (.aload_n 0, 1) := by decide +kernel
theorem dX7_look_1 : decode cX7_look 1 = .ok (.iload_n 1, 1) := by decide +kernel
theorem dX7_look_2 : decode cX7_look 2 = .ok (.iload_n 2, 1) := by decide +kernel
theorem dX7_look_3 : decode cX7_look 3 = .ok (.invokevirtual 129, 3) := by decide +kernel
theorem dX7_look_6 : decode cX7_look 6 = .ok (.ifCond .ne 10, 3) := by decide +kernel
theorem dX7_look_9 : decode cX7_look 9 = .ok (.aload_n 0, 1) := by decide +kernel
theorem dX7_look_10 : decode cX7_look 10 = .ok (.bipush (-3), 2) := by decide +kernel
theorem dX7_look_12 : decode cX7_look 12 = .ok (.invokevirtual 91, 3) := by decide +kernel
theorem dX7_look_15 : decode cX7_look 15 = .ok (.ireturn, 1) := by decide +kernel
theorem dX7_look_16 : decode cX7_look 16 = .ok (.iload_n 1, 1) := by decide +kernel
theorem dX7_look_17 : decode cX7_look 17 = .ok (.iload_n 2, 1) := by decide +kernel
theorem dX7_look_18 : decode cX7_look 18 = .ok (.invokestatic 133, 3) := by decide +kernel
theorem dX7_look_21 : decode cX7_look 21 = .ok (.istore 4, 2) := by decide +kernel
theorem dX7_look_23 : decode cX7_look 23 = .ok (.iload_n 3, 1) := by decide +kernel
theorem dX7_look_24 : decode cX7_look 24 = .ok (.tableswitch 112 0 5 #[40, 51, 62, 73, 84, 94], 40) := by decide +kernel
theorem dX7_look_64 : decode cX7_look 64 = .ok (.aload_n 0, 1) := by decide +kernel
theorem dX7_look_65 : decode cX7_look 65 = .ok (.getfield 19, 3) := by decide +kernel
theorem dX7_look_68 : decode cX7_look 68 = .ok (.getfield 137, 3) := by decide +kernel
theorem dX7_look_71 : decode cX7_look 71 = .ok (.iload 4, 2) := by decide +kernel
theorem dX7_look_73 : decode cX7_look 73 = .ok (.iaload, 1) := by decide +kernel
theorem dX7_look_74 : decode cX7_look 74 = .ok (.ireturn, 1) := by decide +kernel
theorem dX7_look_75 : decode cX7_look 75 = .ok (.aload_n 0, 1) := by decide +kernel
theorem dX7_look_76 : decode cX7_look 76 = .ok (.getfield 19, 3) := by decide +kernel
theorem dX7_look_79 : decode cX7_look 79 = .ok (.getfield 140, 3) := by decide +kernel
theorem dX7_look_82 : decode cX7_look 82 = .ok (.iload 4, 2) := by decide +kernel
theorem dX7_look_84 : decode cX7_look 84 = .ok (.iaload, 1) := by decide +kernel
theorem dX7_look_85 : decode cX7_look 85 = .ok (.ireturn, 1) := by decide +kernel
theorem dX7_look_86 : decode cX7_look 86 = .ok (.aload_n 0, 1) := by decide +kernel
theorem dX7_look_87 : decode cX7_look 87 = .ok (.getfield 19, 3) := by decide +kernel
theorem dX7_look_90 : decode cX7_look 90 = .ok (.getfield 143, 3) := by decide +kernel
theorem dX7_look_93 : decode cX7_look 93 = .ok (.iload 4, 2) := by decide +kernel
theorem dX7_look_95 : decode cX7_look 95 = .ok (.iaload, 1) := by decide +kernel
theorem dX7_look_96 : decode cX7_look 96 = .ok (.ireturn, 1) := by decide +kernel
theorem dX7_look_97 : decode cX7_look 97 = .ok (.aload_n 0, 1) := by decide +kernel
theorem dX7_look_98 : decode cX7_look 98 = .ok (.getfield 19, 3) := by decide +kernel
theorem dX7_look_101 : decode cX7_look 101 = .ok (.getfield 146, 3) := by decide +kernel
theorem dX7_look_104 : decode cX7_look 104 = .ok (.iload 4, 2) := by decide +kernel
theorem dX7_look_106 : decode cX7_look 106 = .ok (.iaload, 1) := by decide +kernel
theorem dX7_look_107 : decode cX7_look 107 = .ok (.ireturn, 1) := by decide +kernel
theorem dX7_look_108 : decode cX7_look 108 = .ok (.aload_n 0, 1) := by decide +kernel
theorem dX7_look_109 : decode cX7_look 109 = .ok (.getfield 19, 3) := by decide +kernel
theorem dX7_look_112 : decode cX7_look 112 = .ok (.iload 4, 2) := by decide +kernel
theorem dX7_look_114 : decode cX7_look 114 = .ok (.invokevirtual 149, 3) := by decide +kernel
theorem dX7_look_117 : decode cX7_look 117 = .ok (.ireturn, 1) := by decide +kernel
theorem dX7_look_118 : decode cX7_look 118 = .ok (.aload_n 0, 1) := by decide +kernel
theorem dX7_look_119 : decode cX7_look 119 = .ok (.getfield 19, 3) := by decide +kernel
theorem dX7_look_122 : decode cX7_look 122 = .ok (.iload 4, 2) := by decide +kernel
theorem dX7_look_124 : decode cX7_look 124 = .ok (.invokevirtual 152, 3) := by decide +kernel
theorem dX7_look_127 : decode cX7_look 127 = .ok (.ifCond .eq 7, 3) := by decide +kernel
theorem dX7_look_130 : decode cX7_look 130 = .ok (.iconst 1, 1) := by decide +kernel
theorem dX7_look_131 : decode cX7_look 131 = .ok (.goto 4, 3) := by decide +kernel
theorem dX7_look_134 : decode cX7_look 134 = .ok (.iconst 0, 1) := by decide +kernel
theorem dX7_look_135 : decode cX7_look 135 = .ok (.ireturn, 1) := by decide +kernel
theorem dX7_look_136 : decode cX7_look 136 = .ok (.aload_n 0, 1) := by decide +kernel
theorem dX7_look_137 : decode cX7_look 137 = .ok (.bipush (-6), 2) := by decide +kernel
theorem dX7_look_139 : decode cX7_look 139 = .ok (.invokevirtual 91, 3) := by decide +kernel
theorem dX7_look_142 : decode cX7_look 142 = .ok (.ireturn, 1) := by decide +kernel
set_option maxRecDepth 20000 in
theorem ggX7_buses_X7_refuse : GoodIn wsX7_buses wsX7_refuse := goodIn_r _ [9, 10, 17, 18, 19, 20, 21, 22, 23, 24, 25, 26, 27, 28, 29, 30, 31, 32] rfl (by decide +kernel)
set_option maxRecDepth 20000 in
theorem gX7_buses_X7_refuse : GoodIn wsX7_buses (wsV RX7 91 RX7 yX7_refuse wsX7_refuse) := goodIn_app (goodIn_of _ (by decide +kernel)) ggX7_buses_X7_refuse
set_option maxRecDepth 20000 in
theorem ggX7_buses_X3_dropAll : GoodIn wsX7_buses wsX3_dropAll := goodIn_r _ [15, 16, 33, 34, 35, 36, 37, 38, 39] rfl (by decide +kernel)
set_option maxRecDepth 20000 in
theorem gX7_buses_X3_dropAll : GoodIn wsX7_buses (wsV RX7 158 RX3 yX3_dropAll wsX3_dropAll) := goodIn_app (goodIn_of _ (by decide +kernel)) ggX7_buses_X3_dropAll
theorem dX7_buses_0 : decode cX7_buses 0 = .ok (.iload_n 1, 1) := by decide +kernel
theorem dX7_buses_1 : decode cX7_buses 1 = .ok (.iconst 1, 1) := by decide +kernel
theorem dX7_buses_2 : decode cX7_buses 2 = .ok (.if_icmp .lt 8, 3) := by decide +kernel
theorem dX7_buses_5 : decode cX7_buses 5 = .ok (.iload_n 1, 1) := by decide +kernel
theorem dX7_buses_6 : decode cX7_buses 6 = .ok (.iconst 3, 1) := by decide +kernel
theorem dX7_buses_7 : decode cX7_buses 7 = .ok (.if_icmp .le 10, 3) := by decide +kernel
theorem dX7_buses_10 : decode cX7_buses 10 = .ok (.aload_n 0, 1) := by decide +kernel
theorem dX7_buses_11 : decode cX7_buses 11 = .ok (.bipush (-6), 2) := by decide +kernel
theorem dX7_buses_13 : decode cX7_buses 13 = .ok (.invokevirtual 91, 3) := by decide +kernel
theorem dX7_buses_16 : decode cX7_buses 16 = .ok (.ireturn, 1) := by decide +kernel
theorem dX7_buses_17 : decode cX7_buses 17 = .ok (.aload_n 0, 1) := by decide +kernel
theorem dX7_buses_18 : decode cX7_buses 18 = .ok (.getfield 28, 3) := by decide +kernel
theorem dX7_buses_21 : decode cX7_buses 21 = .ok (.getfield 155, 3) := by decide +kernel
theorem dX7_buses_24 : decode cX7_buses 24 = .ok (.istore_n 2, 1) := by decide +kernel
theorem dX7_buses_25 : decode cX7_buses 25 = .ok (.iload_n 1, 1) := by decide +kernel
theorem dX7_buses_26 : decode cX7_buses 26 = .ok (.iload_n 2, 1) := by decide +kernel
theorem dX7_buses_27 : decode cX7_buses 27 = .ok (.if_icmp .eq 26, 3) := by decide +kernel
theorem dX7_buses_30 : decode cX7_buses 30 = .ok (.aload_n 0, 1) := by decide +kernel
theorem dX7_buses_31 : decode cX7_buses 31 = .ok (.getfield 28, 3) := by decide +kernel
theorem dX7_buses_34 : decode cX7_buses 34 = .ok (.iload_n 1, 1) := by decide +kernel
theorem dX7_buses_35 : decode cX7_buses 35 = .ok (.putfield 155, 3) := by decide +kernel
theorem dX7_buses_38 : decode cX7_buses 38 = .ok (.aload_n 0, 1) := by decide +kernel
theorem dX7_buses_39 : decode cX7_buses 39 = .ok (.getfield 28, 3) := by decide +kernel
theorem dX7_buses_42 : decode cX7_buses 42 = .ok (.invokevirtual 158, 3) := by decide +kernel
theorem dX7_buses_45 : decode cX7_buses 45 = .ok (.aload_n 0, 1) := by decide +kernel
theorem dX7_buses_46 : decode cX7_buses 46 = .ok (.getfield 37, 3) := by decide +kernel
theorem dX7_buses_49 : decode cX7_buses 49 = .ok (.iconst 0, 1) := by decide +kernel
theorem dX7_buses_50 : decode cX7_buses 50 = .ok (.putfield 161, 3) := by decide +kernel
theorem dX7_buses_53 : decode cX7_buses 53 = .ok (.iload_n 2, 1) := by decide +kernel
theorem dX7_buses_54 : decode cX7_buses 54 = .ok (.ireturn, 1) := by decide +kernel
set_option maxRecDepth 20000 in
theorem ggX7_needs_X7_hasAct : GoodIn wsX7_needs wsX7_hasAct := goodIn_r _ [6, 1, 7, 8, 9, 5, 10, 31, 32, 33, 34, 35, 36, 37, 38, 39, 40, 41, 42, 43, 44, 45, 46, 47, 48, 49, 50, 51, 52, 53] rfl (by decide +kernel)
set_option maxRecDepth 20000 in
theorem gX7_needs_X7_hasAct : GoodIn wsX7_needs (wsV RX7 129 RX7 yX7_hasAct wsX7_hasAct) := goodIn_app (goodIn_of _ (by decide +kernel)) ggX7_needs_X7_hasAct
set_option maxRecDepth 20000 in
theorem ggX7_needs_X7_refuse : GoodIn wsX7_needs wsX7_refuse := goodIn_r _ [14, 15, 31, 32, 33, 34, 35, 36, 37, 38, 39, 40, 41, 42, 43, 44, 45, 46] rfl (by decide +kernel)
set_option maxRecDepth 20000 in
theorem gX7_needs_X7_refuse : GoodIn wsX7_needs (wsV RX7 91 RX7 yX7_refuse wsX7_refuse) := goodIn_app (goodIn_of _ (by decide +kernel)) ggX7_needs_X7_refuse
set_option maxRecDepth 20000 in
theorem ggX7_needs_X7_slot : GoodIn wsX7_needs wsX7_slot := goodIn_r _ [18] rfl (by decide +kernel)
set_option maxRecDepth 20000 in
theorem gX7_needs_X7_slot : GoodIn wsX7_needs (va_wsS RX7 133 yX7_slot wsX7_slot) := goodIn_app (goodIn_of _ (by decide +kernel)) ggX7_needs_X7_slot
set_option maxRecDepth 20000 in
theorem ggX7_needs_X5_need : GoodIn wsX7_needs wsX5_need := goodIn_r _ [23, 24, 25, 26, 27, 28, 29, 22, 30, 47, 48, 49, 50, 51, 52, 53] rfl (by decide +kernel)
set_option maxRecDepth 20000 in
theorem gX7_needs_X5_need : GoodIn wsX7_needs (wsV RX7 165 RX5 yX5_need wsX5_need) := goodIn_app (goodIn_of _ (by decide +kernel)) ggX7_needs_X5_need
theorem dX7_needs_0 : decode cX7_needs 0 = .ok (.aload_n 0, 1) := by decide +kernel
theorem dX7_needs_1 : decode cX7_needs 1 = .ok (.iload_n 1, 1) := by decide +kernel
theorem dX7_needs_2 : decode cX7_needs 2 = .ok (.iload_n 2, 1) := by decide +kernel
theorem dX7_needs_3 : decode cX7_needs 3 = .ok (.invokevirtual 129, 3) := by decide +kernel
theorem dX7_needs_6 : decode cX7_needs 6 = .ok (.ifCond .eq 12, 3) := by decide +kernel
theorem dX7_needs_9 : decode cX7_needs 9 = .ok (.aload_n 0, 1) := by decide +kernel
theorem dX7_needs_10 : decode cX7_needs 10 = .ok (.iload_n 1, 1) := by decide +kernel
theorem dX7_needs_11 : decode cX7_needs 11 = .ok (.iload_n 3, 1) := by decide +kernel
theorem dX7_needs_12 : decode cX7_needs 12 = .ok (.invokevirtual 129, 3) := by decide +kernel
theorem dX7_needs_15 : decode cX7_needs 15 = .ok (.ifCond .ne 10, 3) := by decide +kernel
theorem dX7_needs_18 : decode cX7_needs 18 = .ok (.aload_n 0, 1) := by decide +kernel
theorem dX7_needs_19 : decode cX7_needs 19 = .ok (.bipush (-3), 2) := by decide +kernel
theorem dX7_needs_21 : decode cX7_needs 21 = .ok (.invokevirtual 91, 3) := by decide +kernel
theorem dX7_needs_24 : decode cX7_needs 24 = .ok (.ireturn, 1) := by decide +kernel
theorem dX7_needs_25 : decode cX7_needs 25 = .ok (.iload_n 2, 1) := by decide +kernel
theorem dX7_needs_26 : decode cX7_needs 26 = .ok (.iload_n 3, 1) := by decide +kernel
theorem dX7_needs_27 : decode cX7_needs 27 = .ok (.if_icmp .lt 10, 3) := by decide +kernel
theorem dX7_needs_30 : decode cX7_needs 30 = .ok (.aload_n 0, 1) := by decide +kernel
theorem dX7_needs_31 : decode cX7_needs 31 = .ok (.bipush (-6), 2) := by decide +kernel
theorem dX7_needs_33 : decode cX7_needs 33 = .ok (.invokevirtual 91, 3) := by decide +kernel
theorem dX7_needs_36 : decode cX7_needs 36 = .ok (.ireturn, 1) := by decide +kernel
theorem dX7_needs_37 : decode cX7_needs 37 = .ok (.aload_n 0, 1) := by decide +kernel
theorem dX7_needs_38 : decode cX7_needs 38 = .ok (.getfield 19, 3) := by decide +kernel
theorem dX7_needs_41 : decode cX7_needs 41 = .ok (.iload_n 1, 1) := by decide +kernel
theorem dX7_needs_42 : decode cX7_needs 42 = .ok (.iload_n 2, 1) := by decide +kernel
theorem dX7_needs_43 : decode cX7_needs 43 = .ok (.invokestatic 133, 3) := by decide +kernel
theorem dX7_needs_46 : decode cX7_needs 46 = .ok (.iload_n 1, 1) := by decide +kernel
theorem dX7_needs_47 : decode cX7_needs 47 = .ok (.iload_n 3, 1) := by decide +kernel
theorem dX7_needs_48 : decode cX7_needs 48 = .ok (.invokestatic 133, 3) := by decide +kernel
theorem dX7_needs_51 : decode cX7_needs 51 = .ok (.invokevirtual 165, 3) := by decide +kernel
theorem dX7_needs_54 : decode cX7_needs 54 = .ok (.ireturn, 1) := by decide +kernel
set_option maxRecDepth 20000 in
theorem ggX7_pack_X7_isInstruction : GoodIn wsX7_pack wsX7_isInstruction := goodIn_r _ [6] rfl (by decide +kernel)
set_option maxRecDepth 20000 in
theorem gX7_pack_X7_isInstruction : GoodIn wsX7_pack (va_wsS RX7 111 yX7_isInstruction wsX7_isInstruction) := goodIn_app (goodIn_of _ (by decide +kernel)) ggX7_pack_X7_isInstruction
set_option maxRecDepth 20000 in
theorem ggX7_pack_X7_refuse : GoodIn wsX7_pack wsX7_refuse := goodIn_r _ [10, 11, 102, 103, 104, 105, 106, 107, 108, 109, 110, 111, 112, 113, 114, 115, 116, 117] rfl (by decide +kernel)
set_option maxRecDepth 20000 in
theorem gX7_pack_X7_refuse : GoodIn wsX7_pack (wsV RX7 91 RX7 yX7_refuse wsX7_refuse) := goodIn_app (goodIn_of _ (by decide +kernel)) ggX7_pack_X7_refuse
set_option maxRecDepth 20000 in
theorem ggX7_pack_X3_make : GoodIn wsX7_pack wsX3_make := goodIn_r _ [16, 17, 18, 19, 20, 21, 22, 23, 24, 25, 26, 27, 28, 29, 30, 31, 32, 33, 34, 35, 36, 37, 38, 39, 40, 41, 42, 43, 44, 5, 45, 46, 47, 48, 49, 50, 51, 52, 53, 54, 55, 56, 57, 58, 59, 60, 61, 62, 63, 64, 65, 66, 67, 68, 69, 70, 71, 72, 73, 74, 75, 76, 77, 78, 79, 80, 81, 82, 83, 84, 85, 86, 87, 88, 89, 90, 91, 92, 93, 94, 95, 96, 97, 98, 99, 100, 101, 118, 119, 120, 121, 122, 123, 124, 125, 126, 127, 128, 129, 130, 131, 132, 133, 134, 135, 136, 137, 138, 139, 140, 141] rfl (by decide +kernel)
set_option maxRecDepth 20000 in
theorem gX7_pack_X3_make : GoodIn wsX7_pack (wsV RX7 168 RX3 yX3_make wsX3_make) := goodIn_app (goodIn_of _ (by decide +kernel)) ggX7_pack_X3_make
theorem dX7_pack_0 : decode cX7_pack 0 = .ok (.iload_n 1, 1) := by decide +kernel
theorem dX7_pack_1 : decode cX7_pack 1 = .ok (.invokestatic 111, 3) := by decide +kernel
theorem dX7_pack_4 : decode cX7_pack 4 = .ok (.ifCond .ne 10, 3) := by decide +kernel
theorem dX7_pack_7 : decode cX7_pack 7 = .ok (.aload_n 0, 1) := by decide +kernel
theorem dX7_pack_8 : decode cX7_pack 8 = .ok (.bipush (-3), 2) := by decide +kernel
theorem dX7_pack_10 : decode cX7_pack 10 = .ok (.invokevirtual 91, 3) := by decide +kernel
theorem dX7_pack_13 : decode cX7_pack 13 = .ok (.ireturn, 1) := by decide +kernel
theorem dX7_pack_14 : decode cX7_pack 14 = .ok (.aload_n 0, 1) := by decide +kernel
theorem dX7_pack_15 : decode cX7_pack 15 = .ok (.getfield 28, 3) := by decide +kernel
theorem dX7_pack_18 : decode cX7_pack 18 = .ok (.iload_n 1, 1) := by decide +kernel
theorem dX7_pack_19 : decode cX7_pack 19 = .ok (.invokevirtual 168, 3) := by decide +kernel
theorem dX7_pack_22 : decode cX7_pack 22 = .ok (.aload_n 0, 1) := by decide +kernel
theorem dX7_pack_23 : decode cX7_pack 23 = .ok (.getfield 28, 3) := by decide +kernel
theorem dX7_pack_26 : decode cX7_pack 26 = .ok (.getfield 171, 3) := by decide +kernel
theorem dX7_pack_29 : decode cX7_pack 29 = .ok (.iload_n 1, 1) := by decide +kernel
theorem dX7_pack_30 : decode cX7_pack 30 = .ok (.iaload, 1) := by decide +kernel
theorem dX7_pack_31 : decode cX7_pack 31 = .ok (.ireturn, 1) := by decide +kernel
set_option maxRecDepth 20000 in
theorem ggX7_word_X7_hasAct : GoodIn wsX7_word wsX7_hasAct := goodIn_r _ [8, 9, 10, 11, 12, 7, 13, 22, 23, 24, 25, 26, 27, 28, 29, 30, 31, 32, 33, 34, 35, 36, 37, 45, 46, 47, 48, 49, 50, 51] rfl (by decide +kernel)
set_option maxRecDepth 20000 in
theorem gX7_word_X7_hasAct : GoodIn wsX7_word (wsV RX7 129 RX7 yX7_hasAct wsX7_hasAct) := goodIn_app (goodIn_of _ (by decide +kernel)) ggX7_word_X7_hasAct
set_option maxRecDepth 20000 in
theorem ggX7_word_X7_refuse : GoodIn wsX7_word wsX7_refuse := goodIn_r _ [17, 18, 22, 23, 24, 25, 26, 27, 28, 29, 30, 31, 32, 33, 34, 35, 36, 37] rfl (by decide +kernel)
set_option maxRecDepth 20000 in
theorem gX7_word_X7_refuse : GoodIn wsX7_word (wsV RX7 91 RX7 yX7_refuse wsX7_refuse) := goodIn_app (goodIn_of _ (by decide +kernel)) ggX7_word_X7_refuse
set_option maxRecDepth 20000 in
theorem ggX7_word_X7_slot : GoodIn wsX7_word wsX7_slot := goodIn_r _ [21] rfl (by decide +kernel)
set_option maxRecDepth 20000 in
theorem gX7_word_X7_slot : GoodIn wsX7_word (va_wsS RX7 133 yX7_slot wsX7_slot) := goodIn_app (goodIn_of _ (by decide +kernel)) ggX7_word_X7_slot
theorem dX7_word_0 : decode cX7_word 0 = .ok (.aload_n 0, 1) := by decide +kernel
theorem dX7_word_1 : decode cX7_word 1 = .ok (.iload_n 1, 1) := by decide +kernel
theorem dX7_word_2 : decode cX7_word 2 = .ok (.iload_n 2, 1) := by decide +kernel
theorem dX7_word_3 : decode cX7_word 3 = .ok (.invokevirtual 129, 3) := by decide +kernel
theorem dX7_word_6 : decode cX7_word 6 = .ok (.ifCond .ne 10, 3) := by decide +kernel
theorem dX7_word_9 : decode cX7_word 9 = .ok (.aload_n 0, 1) := by decide +kernel
theorem dX7_word_10 : decode cX7_word 10 = .ok (.bipush (-3), 2) := by decide +kernel
theorem dX7_word_12 : decode cX7_word 12 = .ok (.invokevirtual 91, 3) := by decide +kernel
theorem dX7_word_15 : decode cX7_word 15 = .ok (.ireturn, 1) := by decide +kernel
theorem dX7_word_16 : decode cX7_word 16 = .ok (.aload_n 0, 1) := by decide +kernel
theorem dX7_word_17 : decode cX7_word 17 = .ok (.getfield 28, 3) := by decide +kernel
theorem dX7_word_20 : decode cX7_word 20 = .ok (.getfield 172, 3) := by decide +kernel
theorem dX7_word_23 : decode cX7_word 23 = .ok (.iload_n 1, 1) := by decide +kernel
theorem dX7_word_24 : decode cX7_word 24 = .ok (.baload, 1) := by decide +kernel
theorem dX7_word_25 : decode cX7_word 25 = .ok (.ifCond .ne 10, 3) := by decide +kernel
theorem dX7_word_28 : decode cX7_word 28 = .ok (.aload_n 0, 1) := by decide +kernel
theorem dX7_word_29 : decode cX7_word 29 = .ok (.bipush (-2), 2) := by decide +kernel
theorem dX7_word_31 : decode cX7_word 31 = .ok (.invokevirtual 91, 3) := by decide +kernel
theorem dX7_word_34 : decode cX7_word 34 = .ok (.ireturn, 1) := by decide +kernel
theorem dX7_word_35 : decode cX7_word 35 = .ok (.aload_n 0, 1) := by decide +kernel
theorem dX7_word_36 : decode cX7_word 36 = .ok (.getfield 28, 3) := by decide +kernel
theorem dX7_word_39 : decode cX7_word 39 = .ok (.getfield 175, 3) := by decide +kernel
theorem dX7_word_42 : decode cX7_word 42 = .ok (.iload_n 1, 1) := by decide +kernel
theorem dX7_word_43 : decode cX7_word 43 = .ok (.iload_n 2, 1) := by decide +kernel
theorem dX7_word_44 : decode cX7_word 44 = .ok (.invokestatic 133, 3) := by decide +kernel
theorem dX7_word_47 : decode cX7_word 47 = .ok (.iaload, 1) := by decide +kernel
theorem dX7_word_48 : decode cX7_word 48 = .ok (.ireturn, 1) := by decide +kernel
set_option maxRecDepth 20000 in
theorem ggX7_why_X7_hasAct : GoodIn wsX7_why wsX7_hasAct := goodIn_r _ [7, 8, 9, 10, 11, 6, 12, 39, 40, 41, 42, 43, 44, 45, 46, 47, 48, 49, 50, 51, 52, 53, 54, 62, 63, 64, 65, 66, 67, 68] rfl (by decide +kernel)
set_option maxRecDepth 20000 in
theorem gX7_why_X7_hasAct : GoodIn wsX7_why (wsV RX7 129 RX7 yX7_hasAct wsX7_hasAct) := goodIn_app (goodIn_of _ (by decide +kernel)) ggX7_why_X7_hasAct
set_option maxRecDepth 20000 in
theorem ggX7_why_X7_refuse : GoodIn wsX7_why wsX7_refuse := goodIn_r _ [16, 17, 39, 40, 41, 42, 43, 44, 45, 46, 47, 48, 49, 50, 51, 52, 53, 54] rfl (by decide +kernel)
set_option maxRecDepth 20000 in
theorem gX7_why_X7_refuse : GoodIn wsX7_why (wsV RX7 91 RX7 yX7_refuse wsX7_refuse) := goodIn_app (goodIn_of _ (by decide +kernel)) ggX7_why_X7_refuse
set_option maxRecDepth 20000 in
theorem ggX7_why_X3_holderOf : GoodIn wsX7_why wsX3_holderOf := goodIn_r _ [22, 23, 24, 25, 6, 26, 27, 28, 29, 30, 31, 32, 33, 34, 35, 36, 37, 38, 55, 56, 57, 58, 59, 60, 61, 62, 63, 64, 65, 66, 67, 68] rfl (by decide +kernel)
set_option maxRecDepth 20000 in
theorem gX7_why_X3_holderOf : GoodIn wsX7_why (wsV RX7 178 RX3 yX3_holderOf wsX3_holderOf) := goodIn_app (goodIn_of _ (by decide +kernel)) ggX7_why_X3_holderOf
theorem dX7_why_0 : decode cX7_why 0 = .ok (.aload_n 0, 1) := by decide +kernel
theorem dX7_why_1 : decode cX7_why 1 = .ok (.iload_n 1, 1) := by decide +kernel
theorem dX7_why_2 : decode cX7_why 2 = .ok (.iload_n 2, 1) := by decide +kernel
theorem dX7_why_3 : decode cX7_why 3 = .ok (.invokevirtual 129, 3) := by decide +kernel
theorem dX7_why_6 : decode cX7_why 6 = .ok (.ifCond .ne 10, 3) := by decide +kernel
theorem dX7_why_9 : decode cX7_why 9 = .ok (.aload_n 0, 1) := by decide +kernel
theorem dX7_why_10 : decode cX7_why 10 = .ok (.bipush (-3), 2) := by decide +kernel
theorem dX7_why_12 : decode cX7_why 12 = .ok (.invokevirtual 91, 3) := by decide +kernel
theorem dX7_why_15 : decode cX7_why 15 = .ok (.ireturn, 1) := by decide +kernel
theorem dX7_why_16 : decode cX7_why 16 = .ok (.aload_n 0, 1) := by decide +kernel
theorem dX7_why_17 : decode cX7_why 17 = .ok (.getfield 28, 3) := by decide +kernel
theorem dX7_why_20 : decode cX7_why 20 = .ok (.getfield 172, 3) := by decide +kernel
theorem dX7_why_23 : decode cX7_why 23 = .ok (.iload_n 1, 1) := by decide +kernel
theorem dX7_why_24 : decode cX7_why 24 = .ok (.baload, 1) := by decide +kernel
theorem dX7_why_25 : decode cX7_why 25 = .ok (.ifCond .ne 10, 3) := by decide +kernel
theorem dX7_why_28 : decode cX7_why 28 = .ok (.aload_n 0, 1) := by decide +kernel
theorem dX7_why_29 : decode cX7_why 29 = .ok (.bipush (-2), 2) := by decide +kernel
theorem dX7_why_31 : decode cX7_why 31 = .ok (.invokevirtual 91, 3) := by decide +kernel
theorem dX7_why_34 : decode cX7_why 34 = .ok (.ireturn, 1) := by decide +kernel
theorem dX7_why_35 : decode cX7_why 35 = .ok (.aload_n 0, 1) := by decide +kernel
theorem dX7_why_36 : decode cX7_why 36 = .ok (.getfield 28, 3) := by decide +kernel
theorem dX7_why_39 : decode cX7_why 39 = .ok (.iload_n 1, 1) := by decide +kernel
theorem dX7_why_40 : decode cX7_why 40 = .ok (.iload_n 2, 1) := by decide +kernel
theorem dX7_why_41 : decode cX7_why 41 = .ok (.invokevirtual 178, 3) := by decide +kernel
theorem dX7_why_44 : decode cX7_why 44 = .ok (.ireturn, 1) := by decide +kernel
set_option maxRecDepth 20000 in
theorem ggX7_store_X3_make : GoodIn wsX7_store wsX3_make := goodIn_r _ [10, 11, 12, 13, 14, 15, 16, 17, 18, 19, 20, 21, 22, 23, 24, 25, 26, 27, 28, 29, 30, 31, 32, 33, 34, 35, 36, 37, 38, 39, 40, 41, 42, 43, 44, 45, 46, 47, 48, 49, 50, 51, 52, 53, 54, 55, 56, 57, 58, 59, 60, 61, 62, 63, 64, 65, 66, 67, 68, 69, 70, 71, 72, 73, 74, 75, 76, 77, 78, 79, 80, 81, 82, 83, 84, 85, 86, 87, 88, 89, 90, 91, 92, 93, 94, 95, 96, 204, 205, 206, 207, 208, 209, 210, 211, 212, 213, 214, 215, 216, 217, 218, 219, 220, 221, 222, 223, 224, 225, 226, 227] rfl (by decide +kernel)
set_option maxRecDepth 20000 in
theorem gX7_store_X3_make : GoodIn wsX7_store (wsV RX7 168 RX3 yX3_make wsX3_make) := goodIn_app (goodIn_of _ (by decide +kernel)) ggX7_store_X3_make
set_option maxRecDepth 20000 in
theorem ggX7_store_X4_make : GoodIn wsX7_store wsX4_make := goodIn_r _ [101, 102, 103, 104, 105, 106, 107, 108, 38, 39, 40, 109, 110, 111, 100, 112, 113, 114, 115, 116, 117, 118, 119, 120, 121, 77, 78, 79, 80, 81, 82, 83, 84, 122, 123, 124, 125, 126, 127, 44, 128, 46, 129, 130, 131, 195, 196, 197, 198, 199, 200, 201, 202, 203, 204, 205, 206, 207, 208, 209, 210, 221, 222, 223, 224, 225, 226, 227] rfl (by decide +kernel)
set_option maxRecDepth 20000 in
theorem gX7_store_X4_make : GoodIn wsX7_store (wsV RX7 181 RX4 yX4_make wsX4_make) := goodIn_app (goodIn_of _ (by decide +kernel)) ggX7_store_X4_make
set_option maxRecDepth 20000 in
theorem ggX7_store_X1_make : GoodIn wsX7_store wsX1_make := goodIn_r _ [136, 137, 138, 139, 140, 141, 142, 143, 144, 145, 146, 147, 35, 36, 37, 148, 149, 150, 135, 151, 152, 83, 39, 84, 38, 40, 153, 42, 43, 44, 45, 46, 154, 155, 156, 157, 158, 159, 160, 126, 127, 128, 129, 130, 131, 161, 162, 163, 164, 165, 166, 167, 168, 169, 170, 171, 55, 56, 57, 172, 173, 174, 175, 176, 177, 178, 228, 229, 230, 231, 232, 233, 234, 235, 236, 237, 238, 239, 195, 196, 197, 198, 199, 200, 201, 202, 203, 221, 222, 223, 224, 225, 226, 227] rfl (by decide +kernel)
set_option maxRecDepth 20000 in
theorem gX7_store_X1_make : GoodIn wsX7_store (wsV RX7 183 RX1 yX1_make wsX1_make) := goodIn_app (goodIn_of _ (by decide +kernel)) ggX7_store_X1_make
theorem dX7_store_0 : decode cX7_store 0 = .ok (.aload_n 0, 1) := by decide +kernel
theorem dX7_store_1 : decode cX7_store 1 = .ok (.getfield 37, 3) := by decide +kernel
theorem dX7_store_4 : decode cX7_store 4 = .ok (.getfield 161, 3) := by decide +kernel
theorem dX7_store_7 : decode cX7_store 7 = .ok (.ifCond .ne 39, 3) := by decide +kernel
theorem dX7_store_10 : decode cX7_store 10 = .ok (.iconst 0, 1) := by decide +kernel
theorem dX7_store_11 : decode cX7_store 11 = .ok (.istore_n 1, 1) := by decide +kernel
theorem dX7_store_12 : decode cX7_store 12 = .ok (.iload_n 1, 1) := by decide +kernel
theorem dX7_store_13 : decode cX7_store 13 = .ok (.bipush 12, 2) := by decide +kernel
theorem dX7_store_15 : decode cX7_store 15 = .ok (.if_icmp .ge 17, 3) := by decide +kernel
theorem dX7_store_18 : decode cX7_store 18 = .ok (.aload_n 0, 1) := by decide +kernel
theorem dX7_store_19 : decode cX7_store 19 = .ok (.getfield 28, 3) := by decide +kernel
theorem dX7_store_22 : decode cX7_store 22 = .ok (.iload_n 1, 1) := by decide +kernel
theorem dX7_store_23 : decode cX7_store 23 = .ok (.invokevirtual 168, 3) := by decide +kernel
theorem dX7_store_26 : decode cX7_store 26 = .ok (.iinc 1 1, 3) := by decide +kernel
theorem dX7_store_29 : decode cX7_store 29 = .ok (.goto (-17), 3) := by decide +kernel
theorem dX7_store_32 : decode cX7_store 32 = .ok (.aload_n 0, 1) := by decide +kernel
theorem dX7_store_33 : decode cX7_store 33 = .ok (.getfield 37, 3) := by decide +kernel
theorem dX7_store_36 : decode cX7_store 36 = .ok (.invokevirtual 181, 3) := by decide +kernel
theorem dX7_store_39 : decode cX7_store 39 = .ok (.aload_n 0, 1) := by decide +kernel
theorem dX7_store_40 : decode cX7_store 40 = .ok (.getfield 46, 3) := by decide +kernel
theorem dX7_store_43 : decode cX7_store 43 = .ok (.invokevirtual 183, 3) := by decide +kernel
theorem dX7_store_46 : decode cX7_store 46 = .ok (.aload_n 0, 1) := by decide +kernel
theorem dX7_store_47 : decode cX7_store 47 = .ok (.getfield 37, 3) := by decide +kernel
theorem dX7_store_50 : decode cX7_store 50 = .ok (.getfield 184, 3) := by decide +kernel
theorem dX7_store_53 : decode cX7_store 53 = .ok (.ireturn, 1) := by decide +kernel
set_option maxRecDepth 20000 in
theorem ggX7_place_X7_isInstruction : GoodIn wsX7_place wsX7_isInstruction := goodIn_r _ [9] rfl (by decide +kernel)
set_option maxRecDepth 20000 in
theorem gX7_place_X7_isInstruction : GoodIn wsX7_place (va_wsS RX7 111 yX7_isInstruction wsX7_isInstruction) := goodIn_app (goodIn_of _ (by decide +kernel)) ggX7_place_X7_isInstruction
set_option maxRecDepth 20000 in
theorem ggX7_place_X7_refuse : GoodIn wsX7_place wsX7_refuse := goodIn_r _ [13, 14, 18, 19, 20, 21, 22, 23, 24, 25, 26, 27, 28, 29, 30, 31, 32, 33] rfl (by decide +kernel)
set_option maxRecDepth 20000 in
theorem gX7_place_X7_refuse : GoodIn wsX7_place (wsV RX7 91 RX7 yX7_refuse wsX7_refuse) := goodIn_app (goodIn_of _ (by decide +kernel)) ggX7_place_X7_refuse
set_option maxRecDepth 20000 in
theorem ggX7_place_X7_slot : GoodIn wsX7_place wsX7_slot := goodIn_r _ [17] rfl (by decide +kernel)
set_option maxRecDepth 20000 in
theorem gX7_place_X7_slot : GoodIn wsX7_place (va_wsS RX7 133 yX7_slot wsX7_slot) := goodIn_app (goodIn_of _ (by decide +kernel)) ggX7_place_X7_slot
theorem dX7_place_0 : decode cX7_place 0 = .ok (.iload_n 1, 1) := by decide +kernel
theorem dX7_place_1 : decode cX7_place 1 = .ok (.invokestatic 111, 3) := by decide +kernel
theorem dX7_place_4 : decode cX7_place 4 = .ok (.ifCond .ne 10, 3) := by decide +kernel
theorem dX7_place_7 : decode cX7_place 7 = .ok (.aload_n 0, 1) := by decide +kernel
theorem dX7_place_8 : decode cX7_place 8 = .ok (.bipush (-3), 2) := by decide +kernel
theorem dX7_place_10 : decode cX7_place 10 = .ok (.invokevirtual 91, 3) := by decide +kernel
theorem dX7_place_13 : decode cX7_place 13 = .ok (.ireturn, 1) := by decide +kernel
theorem dX7_place_14 : decode cX7_place 14 = .ok (.aload_n 0, 1) := by decide +kernel
theorem dX7_place_15 : decode cX7_place 15 = .ok (.getfield 37, 3) := by decide +kernel
theorem dX7_place_18 : decode cX7_place 18 = .ok (.getfield 161, 3) := by decide +kernel
theorem dX7_place_21 : decode cX7_place 21 = .ok (.ifCond .ne 10, 3) := by decide +kernel
theorem dX7_place_24 : decode cX7_place 24 = .ok (.aload_n 0, 1) := by decide +kernel
theorem dX7_place_25 : decode cX7_place 25 = .ok (.bipush (-2), 2) := by decide +kernel
theorem dX7_place_27 : decode cX7_place 27 = .ok (.invokevirtual 91, 3) := by decide +kernel
theorem dX7_place_30 : decode cX7_place 30 = .ok (.ireturn, 1) := by decide +kernel
theorem dX7_place_31 : decode cX7_place 31 = .ok (.iload_n 2, 1) := by decide +kernel
theorem dX7_place_32 : decode cX7_place 32 = .ok (.ifCond .lt 16, 3) := by decide +kernel
theorem dX7_place_35 : decode cX7_place 35 = .ok (.iload_n 2, 1) := by decide +kernel
theorem dX7_place_36 : decode cX7_place 36 = .ok (.aload_n 0, 1) := by decide +kernel
theorem dX7_place_37 : decode cX7_place 37 = .ok (.getfield 28, 3) := by decide +kernel
theorem dX7_place_40 : decode cX7_place 40 = .ok (.getfield 171, 3) := by decide +kernel
theorem dX7_place_43 : decode cX7_place 43 = .ok (.iload_n 1, 1) := by decide +kernel
theorem dX7_place_44 : decode cX7_place 44 = .ok (.iaload, 1) := by decide +kernel
theorem dX7_place_45 : decode cX7_place 45 = .ok (.if_icmp .lt 10, 3) := by decide +kernel
theorem dX7_place_48 : decode cX7_place 48 = .ok (.aload_n 0, 1) := by decide +kernel
theorem dX7_place_49 : decode cX7_place 49 = .ok (.bipush (-3), 2) := by decide +kernel
theorem dX7_place_51 : decode cX7_place 51 = .ok (.invokevirtual 91, 3) := by decide +kernel
theorem dX7_place_54 : decode cX7_place 54 = .ok (.ireturn, 1) := by decide +kernel
theorem dX7_place_55 : decode cX7_place 55 = .ok (.aload_n 0, 1) := by decide +kernel
theorem dX7_place_56 : decode cX7_place 56 = .ok (.getfield 37, 3) := by decide +kernel
theorem dX7_place_59 : decode cX7_place 59 = .ok (.getfield 187, 3) := by decide +kernel
theorem dX7_place_62 : decode cX7_place 62 = .ok (.iload_n 1, 1) := by decide +kernel
theorem dX7_place_63 : decode cX7_place 63 = .ok (.iload_n 2, 1) := by decide +kernel
theorem dX7_place_64 : decode cX7_place 64 = .ok (.invokestatic 133, 3) := by decide +kernel
theorem dX7_place_67 : decode cX7_place 67 = .ok (.iaload, 1) := by decide +kernel
theorem dX7_place_68 : decode cX7_place 68 = .ok (.ireturn, 1) := by decide +kernel
set_option maxRecDepth 20000 in
theorem ggX7_at_X7_refuse : GoodIn wsX7_at wsX7_refuse := goodIn_r _ [11, 12, 20, 21, 22, 23, 24, 25, 26, 27, 28, 29, 30, 31, 32, 33, 34, 35] rfl (by decide +kernel)
set_option maxRecDepth 20000 in
theorem gX7_at_X7_refuse : GoodIn wsX7_at (wsV RX7 91 RX7 yX7_refuse wsX7_refuse) := goodIn_app (goodIn_of _ (by decide +kernel)) ggX7_at_X7_refuse
set_option maxRecDepth 20000 in
theorem ggX7_at_J6_bitCount_0f7a4 : GoodIn wsX7_at wsJ6_bitCount_0f7a4 := goodIn_r _ [16, 17, 18, 19] rfl (by decide +kernel)
set_option maxRecDepth 20000 in
theorem gX7_at_J6_bitCount_0f7a4 : GoodIn wsX7_at (va_wsS RX7 193 yJ6_bitCount_0f7a4 wsJ6_bitCount_0f7a4) := goodIn_app (goodIn_of _ (by decide +kernel)) ggX7_at_J6_bitCount_0f7a4
theorem dX7_at_0 : decode cX7_at 0 = .ok (.aload_n 0, 1) := by decide +kernel
theorem dX7_at_1 : decode cX7_at 1 = .ok (.getfield 37, 3) := by decide +kernel
theorem dX7_at_4 : decode cX7_at 4 = .ok (.getfield 161, 3) := by decide +kernel
theorem dX7_at_7 : decode cX7_at 7 = .ok (.ifCond .ne 10, 3) := by decide +kernel
theorem dX7_at_10 : decode cX7_at 10 = .ok (.aload_n 0, 1) := by decide +kernel
theorem dX7_at_11 : decode cX7_at 11 = .ok (.bipush (-2), 2) := by decide +kernel
theorem dX7_at_13 : decode cX7_at 13 = .ok (.invokevirtual 91, 3) := by decide +kernel
theorem dX7_at_16 : decode cX7_at 16 = .ok (.ireturn, 1) := by decide +kernel
theorem dX7_at_17 : decode cX7_at 17 = .ok (.iload_n 1, 1) := by decide +kernel
theorem dX7_at_18 : decode cX7_at 18 = .ok (.ifCond .lt 14, 3) := by decide +kernel
theorem dX7_at_21 : decode cX7_at 21 = .ok (.iload_n 1, 1) := by decide +kernel
theorem dX7_at_22 : decode cX7_at 22 = .ok (.aload_n 0, 1) := by decide +kernel
theorem dX7_at_23 : decode cX7_at 23 = .ok (.getfield 37, 3) := by decide +kernel
theorem dX7_at_26 : decode cX7_at 26 = .ok (.getfield 184, 3) := by decide +kernel
theorem dX7_at_29 : decode cX7_at 29 = .ok (.if_icmp .lt 10, 3) := by decide +kernel
theorem dX7_at_32 : decode cX7_at 32 = .ok (.aload_n 0, 1) := by decide +kernel
theorem dX7_at_33 : decode cX7_at 33 = .ok (.bipush (-3), 2) := by decide +kernel
theorem dX7_at_35 : decode cX7_at 35 = .ok (.invokevirtual 91, 3) := by decide +kernel
theorem dX7_at_38 : decode cX7_at 38 = .ok (.ireturn, 1) := by decide +kernel
theorem dX7_at_39 : decode cX7_at 39 = .ok (.iload_n 2, 1) := by decide +kernel
theorem dX7_at_40 : decode cX7_at 40 = .ok (.tableswitch 61 0 2 #[28, 41, 51], 28) := by decide +kernel
theorem dX7_at_68 : decode cX7_at 68 = .ok (.aload_n 0, 1) := by decide +kernel
theorem dX7_at_69 : decode cX7_at 69 = .ok (.getfield 37, 3) := by decide +kernel
theorem dX7_at_72 : decode cX7_at 72 = .ok (.getfield 190, 3) := by decide +kernel
theorem dX7_at_75 : decode cX7_at 75 = .ok (.iload_n 1, 1) := by decide +kernel
theorem dX7_at_76 : decode cX7_at 76 = .ok (.iaload, 1) := by decide +kernel
theorem dX7_at_77 : decode cX7_at 77 = .ok (.invokestatic 193, 3) := by decide +kernel
theorem dX7_at_80 : decode cX7_at 80 = .ok (.ireturn, 1) := by decide +kernel
theorem dX7_at_81 : decode cX7_at 81 = .ok (.aload_n 0, 1) := by decide +kernel
theorem dX7_at_82 : decode cX7_at 82 = .ok (.getfield 37, 3) := by decide +kernel
theorem dX7_at_85 : decode cX7_at 85 = .ok (.getfield 198, 3) := by decide +kernel
theorem dX7_at_88 : decode cX7_at 88 = .ok (.iload_n 1, 1) := by decide +kernel
theorem dX7_at_89 : decode cX7_at 89 = .ok (.iaload, 1) := by decide +kernel
theorem dX7_at_90 : decode cX7_at 90 = .ok (.ireturn, 1) := by decide +kernel
theorem dX7_at_91 : decode cX7_at 91 = .ok (.aload_n 0, 1) := by decide +kernel
theorem dX7_at_92 : decode cX7_at 92 = .ok (.getfield 37, 3) := by decide +kernel
theorem dX7_at_95 : decode cX7_at 95 = .ok (.getfield 201, 3) := by decide +kernel
theorem dX7_at_98 : decode cX7_at 98 = .ok (.iload_n 1, 1) := by decide +kernel
theorem dX7_at_99 : decode cX7_at 99 = .ok (.iaload, 1) := by decide +kernel
theorem dX7_at_100 : decode cX7_at 100 = .ok (.ireturn, 1) := by decide +kernel
theorem dX7_at_101 : decode cX7_at 101 = .ok (.aload_n 0, 1) := by decide +kernel
theorem dX7_at_102 : decode cX7_at 102 = .ok (.bipush (-6), 2) := by decide +kernel
theorem dX7_at_104 : decode cX7_at 104 = .ok (.invokevirtual 91, 3) := by decide +kernel
theorem dX7_at_107 : decode cX7_at 107 = .ok (.ireturn, 1) := by decide +kernel
set_option maxRecDepth 20000 in
theorem ggX7_group_X7_refuse : GoodIn wsX7_group wsX7_refuse := goodIn_r _ [9, 10, 11, 12, 13, 14, 15, 16, 17, 18, 19, 20, 21, 22, 23, 24, 25, 26] rfl (by decide +kernel)
set_option maxRecDepth 20000 in
theorem gX7_group_X7_refuse : GoodIn wsX7_group (wsV RX7 91 RX7 yX7_refuse wsX7_refuse) := goodIn_app (goodIn_of _ (by decide +kernel)) ggX7_group_X7_refuse
theorem dX7_group_0 : decode cX7_group 0 = .ok (.iload_n 1, 1) := by decide +kernel
theorem dX7_group_1 : decode cX7_group 1 = .ok (.ifCond .lt 9, 3) := by decide +kernel
theorem dX7_group_4 : decode cX7_group 4 = .ok (.iload_n 1, 1) := by decide +kernel
theorem dX7_group_5 : decode cX7_group 5 = .ok (.bipush 7, 2) := by decide +kernel
theorem dX7_group_7 : decode cX7_group 7 = .ok (.if_icmp .lt 10, 3) := by decide +kernel
theorem dX7_group_10 : decode cX7_group 10 = .ok (.aload_n 0, 1) := by decide +kernel
theorem dX7_group_11 : decode cX7_group 11 = .ok (.bipush (-3), 2) := by decide +kernel
theorem dX7_group_13 : decode cX7_group 13 = .ok (.invokevirtual 91, 3) := by decide +kernel
theorem dX7_group_16 : decode cX7_group 16 = .ok (.ireturn, 1) := by decide +kernel
theorem dX7_group_17 : decode cX7_group 17 = .ok (.aload_n 0, 1) := by decide +kernel
theorem dX7_group_18 : decode cX7_group 18 = .ok (.getfield 37, 3) := by decide +kernel
theorem dX7_group_21 : decode cX7_group 21 = .ok (.getfield 161, 3) := by decide +kernel
theorem dX7_group_24 : decode cX7_group 24 = .ok (.ifCond .ne 10, 3) := by decide +kernel
theorem dX7_group_27 : decode cX7_group 27 = .ok (.aload_n 0, 1) := by decide +kernel
theorem dX7_group_28 : decode cX7_group 28 = .ok (.bipush (-2), 2) := by decide +kernel
theorem dX7_group_30 : decode cX7_group 30 = .ok (.invokevirtual 91, 3) := by decide +kernel
theorem dX7_group_33 : decode cX7_group 33 = .ok (.ireturn, 1) := by decide +kernel
theorem dX7_group_34 : decode cX7_group 34 = .ok (.aload_n 0, 1) := by decide +kernel
theorem dX7_group_35 : decode cX7_group 35 = .ok (.getfield 46, 3) := by decide +kernel
theorem dX7_group_38 : decode cX7_group 38 = .ok (.getfield 204, 3) := by decide +kernel
theorem dX7_group_41 : decode cX7_group 41 = .ok (.iload_n 1, 1) := by decide +kernel
theorem dX7_group_42 : decode cX7_group 42 = .ok (.iaload, 1) := by decide +kernel
theorem dX7_group_43 : decode cX7_group 43 = .ok (.ireturn, 1) := by decide +kernel
set_option maxRecDepth 20000 in
theorem ggX7_narrow_X7_refuse : GoodIn wsX7_narrow wsX7_refuse := goodIn_r _ [12, 13, 14, 15, 16, 17, 18, 19, 20, 21, 22, 23, 24, 25, 26, 27, 28, 29] rfl (by decide +kernel)
set_option maxRecDepth 20000 in
theorem gX7_narrow_X7_refuse : GoodIn wsX7_narrow (wsV RX7 91 RX7 yX7_refuse wsX7_refuse) := goodIn_app (goodIn_of _ (by decide +kernel)) ggX7_narrow_X7_refuse
theorem dX7_narrow_0 : decode cX7_narrow 0 = .ok (.aload_n 0, 1) := by decide +kernel
theorem dX7_narrow_1 : decode cX7_narrow 1 = .ok (.getfield 37, 3) := by decide +kernel
theorem dX7_narrow_4 : decode cX7_narrow 4 = .ok (.getfield 161, 3) := by decide +kernel
theorem dX7_narrow_7 : decode cX7_narrow 7 = .ok (.ifCond .ne 10, 3) := by decide +kernel
theorem dX7_narrow_10 : decode cX7_narrow 10 = .ok (.aload_n 0, 1) := by decide +kernel
theorem dX7_narrow_11 : decode cX7_narrow 11 = .ok (.bipush (-2), 2) := by decide +kernel
theorem dX7_narrow_13 : decode cX7_narrow 13 = .ok (.invokevirtual 91, 3) := by decide +kernel
theorem dX7_narrow_16 : decode cX7_narrow 16 = .ok (.ireturn, 1) := by decide +kernel
theorem dX7_narrow_17 : decode cX7_narrow 17 = .ok (.iload_n 1, 1) := by decide +kernel
theorem dX7_narrow_18 : decode cX7_narrow 18 = .ok (.tableswitch 70 0 3 #[30, 38, 54, 62], 30) := by decide +kernel
theorem dX7_narrow_48 : decode cX7_narrow 48 = .ok (.aload_n 0, 1) := by decide +kernel
theorem dX7_narrow_49 : decode cX7_narrow 49 = .ok (.getfield 46, 3) := by decide +kernel
theorem dX7_narrow_52 : decode cX7_narrow 52 = .ok (.getfield 207, 3) := by decide +kernel
theorem dX7_narrow_55 : decode cX7_narrow 55 = .ok (.ireturn, 1) := by decide +kernel
theorem dX7_narrow_56 : decode cX7_narrow 56 = .ok (.aload_n 0, 1) := by decide +kernel
theorem dX7_narrow_57 : decode cX7_narrow 57 = .ok (.getfield 46, 3) := by decide +kernel
theorem dX7_narrow_60 : decode cX7_narrow 60 = .ok (.getfield 207, 3) := by decide +kernel
theorem dX7_narrow_63 : decode cX7_narrow 63 = .ok (.aload_n 0, 1) := by decide +kernel
theorem dX7_narrow_64 : decode cX7_narrow 64 = .ok (.getfield 37, 3) := by decide +kernel
theorem dX7_narrow_67 : decode cX7_narrow 67 = .ok (.getfield 184, 3) := by decide +kernel
theorem dX7_narrow_70 : decode cX7_narrow 70 = .ok (.imul, 1) := by decide +kernel
theorem dX7_narrow_71 : decode cX7_narrow 71 = .ok (.ireturn, 1) := by decide +kernel
theorem dX7_narrow_72 : decode cX7_narrow 72 = .ok (.aload_n 0, 1) := by decide +kernel
theorem dX7_narrow_73 : decode cX7_narrow 73 = .ok (.getfield 46, 3) := by decide +kernel
theorem dX7_narrow_76 : decode cX7_narrow 76 = .ok (.getfield 210, 3) := by decide +kernel
theorem dX7_narrow_79 : decode cX7_narrow 79 = .ok (.ireturn, 1) := by decide +kernel
theorem dX7_narrow_80 : decode cX7_narrow 80 = .ok (.aload_n 0, 1) := by decide +kernel
theorem dX7_narrow_81 : decode cX7_narrow 81 = .ok (.getfield 46, 3) := by decide +kernel
theorem dX7_narrow_84 : decode cX7_narrow 84 = .ok (.getfield 213, 3) := by decide +kernel
theorem dX7_narrow_87 : decode cX7_narrow 87 = .ok (.ireturn, 1) := by decide +kernel
theorem dX7_narrow_88 : decode cX7_narrow 88 = .ok (.aload_n 0, 1) := by decide +kernel
theorem dX7_narrow_89 : decode cX7_narrow 89 = .ok (.bipush (-6), 2) := by decide +kernel
theorem dX7_narrow_91 : decode cX7_narrow 91 = .ok (.invokevirtual 91, 3) := by decide +kernel
theorem dX7_narrow_94 : decode cX7_narrow 94 = .ok (.ireturn, 1) := by decide +kernel
set_option maxRecDepth 20000 in
theorem ggX7_run_X7_isInstruction : GoodIn wsX7_run wsX7_isInstruction := goodIn_r _ [6] rfl (by decide +kernel)
set_option maxRecDepth 20000 in
theorem gX7_run_X7_isInstruction : GoodIn wsX7_run (va_wsS RX7 111 yX7_isInstruction wsX7_isInstruction) := goodIn_app (goodIn_of _ (by decide +kernel)) ggX7_run_X7_isInstruction
set_option maxRecDepth 20000 in
theorem ggX7_run_X7_refuse : GoodIn wsX7_run wsX7_refuse := goodIn_r _ [10, 11, 187, 188, 189, 190, 191, 192, 193, 194, 195, 196, 197, 198, 199, 200, 201, 202] rfl (by decide +kernel)
set_option maxRecDepth 20000 in
theorem gX7_run_X7_refuse : GoodIn wsX7_run (wsV RX7 91 RX7 yX7_refuse wsX7_refuse) := goodIn_app (goodIn_of _ (by decide +kernel)) ggX7_run_X7_refuse
set_option maxRecDepth 20000 in
theorem ggX7_run_X3_make : GoodIn wsX7_run wsX3_make := goodIn_r _ [16, 17, 18, 19, 20, 21, 22, 23, 24, 25, 26, 27, 28, 29, 30, 31, 32, 33, 34, 35, 36, 37, 38, 39, 40, 41, 42, 43, 44, 5, 45, 46, 47, 48, 49, 50, 51, 52, 53, 54, 55, 56, 57, 58, 59, 60, 61, 62, 63, 64, 65, 66, 67, 68, 69, 70, 71, 72, 73, 74, 75, 76, 77, 78, 79, 80, 81, 82, 83, 84, 85, 86, 87, 88, 89, 90, 91, 92, 93, 94, 95, 96, 97, 98, 99, 100, 101, 203, 204, 205, 206, 207, 208, 209, 210, 211, 212, 213, 214, 215, 216, 217, 218, 219, 220, 221, 222, 223, 224, 225, 226] rfl (by decide +kernel)
set_option maxRecDepth 20000 in
theorem gX7_run_X3_make : GoodIn wsX7_run (wsV RX7 168 RX3 yX3_make wsX3_make) := goodIn_app (goodIn_of _ (by decide +kernel)) ggX7_run_X3_make
set_option maxRecDepth 20000 in
theorem ggX7_run_X0_perform : GoodIn wsX7_run wsX0_perform := goodIn_r _ [106, 107, 108, 109, 110, 111, 112, 113, 114, 115, 116, 117, 118, 119, 120, 121, 44, 5, 45, 122, 123, 124, 105, 125, 126, 127, 128, 88, 89, 129, 130, 131, 132, 133, 134, 135, 136, 137, 138, 139, 140, 141, 142, 143, 144, 145, 146, 147, 148, 149, 150, 151, 152, 153, 154, 155, 156, 157, 158, 159, 160, 161, 162, 163, 164, 165, 166, 167, 168, 169, 170, 171, 172, 173, 174, 175, 176, 177, 178, 82, 83, 84, 85, 86, 87, 227, 228, 229, 230, 231, 232, 233, 234, 235, 236, 203, 204, 205, 206, 207, 208, 209, 220, 221, 222, 223, 224, 225, 226, 237, 238, 239, 240, 241] rfl (by decide +kernel)
set_option maxRecDepth 20000 in
theorem gX7_run_X0_perform : GoodIn wsX7_run (wsV RX7 216 RX0 yX0_perform wsX0_perform) := goodIn_app (goodIn_of _ (by decide +kernel)) ggX7_run_X0_perform
set_option maxRecDepth 20000 in
theorem ggX7_run_X7_keepTold : GoodIn wsX7_run wsX7_keepTold := goodIn_r _ [182, 183, 2, 184, 185, 186, 187, 188, 189, 190, 191, 192, 193, 194, 195, 196, 197, 198, 199, 200, 201, 202, 227, 228, 229, 230, 231, 232, 233, 234, 235, 236] rfl (by decide +kernel)
set_option maxRecDepth 20000 in
theorem gX7_run_X7_keepTold : GoodIn wsX7_run (wsV RX7 220 RX7 yX7_keepTold wsX7_keepTold) := goodIn_app (goodIn_of _ (by decide +kernel)) ggX7_run_X7_keepTold
theorem dX7_run_0 : decode cX7_run 0 = .ok (.iload_n 1, 1) := by decide +kernel
theorem dX7_run_1 : decode cX7_run 1 = .ok (.invokestatic 111, 3) := by decide +kernel
theorem dX7_run_4 : decode cX7_run 4 = .ok (.ifCond .ne 10, 3) := by decide +kernel
theorem dX7_run_7 : decode cX7_run 7 = .ok (.aload_n 0, 1) := by decide +kernel
theorem dX7_run_8 : decode cX7_run 8 = .ok (.bipush (-3), 2) := by decide +kernel
theorem dX7_run_10 : decode cX7_run 10 = .ok (.invokevirtual 91, 3) := by decide +kernel
theorem dX7_run_13 : decode cX7_run 13 = .ok (.ireturn, 1) := by decide +kernel
theorem dX7_run_14 : decode cX7_run 14 = .ok (.iload_n 2, 1) := by decide +kernel
theorem dX7_run_15 : decode cX7_run 15 = .ok (.ifCond .eq 11, 3) := by decide +kernel
theorem dX7_run_18 : decode cX7_run 18 = .ok (.aload_n 0, 1) := by decide +kernel
theorem dX7_run_19 : decode cX7_run 19 = .ok (.getfield 28, 3) := by decide +kernel
theorem dX7_run_22 : decode cX7_run 22 = .ok (.iload_n 1, 1) := by decide +kernel
theorem dX7_run_23 : decode cX7_run 23 = .ok (.invokevirtual 168, 3) := by decide +kernel
theorem dX7_run_26 : decode cX7_run 26 = .ok (.aload_n 0, 1) := by decide +kernel
theorem dX7_run_27 : decode cX7_run 27 = .ok (.getfield 55, 3) := by decide +kernel
theorem dX7_run_30 : decode cX7_run 30 = .ok (.iload_n 1, 1) := by decide +kernel
theorem dX7_run_31 : decode cX7_run 31 = .ok (.iload_n 2, 1) := by decide +kernel
theorem dX7_run_32 : decode cX7_run 32 = .ok (.invokevirtual 216, 3) := by decide +kernel
theorem dX7_run_35 : decode cX7_run 35 = .ok (.istore_n 3, 1) := by decide +kernel
theorem dX7_run_36 : decode cX7_run 36 = .ok (.aload_n 0, 1) := by decide +kernel
theorem dX7_run_37 : decode cX7_run 37 = .ok (.invokevirtual 220, 3) := by decide +kernel
theorem dX7_run_40 : decode cX7_run 40 = .ok (.iload_n 3, 1) := by decide +kernel
theorem dX7_run_41 : decode cX7_run 41 = .ok (.ireturn, 1) := by decide +kernel
set_option maxRecDepth 20000 in
theorem ggX7_told_X7_refuse : GoodIn wsX7_told wsX7_refuse := goodIn_r _ [6, 7, 8, 9, 10, 11, 12, 13, 14, 15, 16, 17, 18, 19, 20, 21, 22, 23] rfl (by decide +kernel)
set_option maxRecDepth 20000 in
theorem gX7_told_X7_refuse : GoodIn wsX7_told (wsV RX7 91 RX7 yX7_refuse wsX7_refuse) := goodIn_app (goodIn_of _ (by decide +kernel)) ggX7_told_X7_refuse
theorem dX7_told_0 : decode cX7_told 0 = .ok (.iload_n 1, 1) := by decide +kernel
theorem dX7_told_1 : decode cX7_told 1 = .ok (.ifCond .lt 12, 3) := by decide +kernel
theorem dX7_told_4 : decode cX7_told 4 = .ok (.iload_n 1, 1) := by decide +kernel
theorem dX7_told_5 : decode cX7_told 5 = .ok (.aload_n 0, 1) := by decide +kernel
theorem dX7_told_6 : decode cX7_told 6 = .ok (.getfield 59, 3) := by decide +kernel
theorem dX7_told_9 : decode cX7_told 9 = .ok (.arraylength, 1) := by decide +kernel
theorem dX7_told_10 : decode cX7_told 10 = .ok (.if_icmp .lt 10, 3) := by decide +kernel
theorem dX7_told_13 : decode cX7_told 13 = .ok (.aload_n 0, 1) := by decide +kernel
theorem dX7_told_14 : decode cX7_told 14 = .ok (.bipush (-6), 2) := by decide +kernel
theorem dX7_told_16 : decode cX7_told 16 = .ok (.invokevirtual 91, 3) := by decide +kernel
theorem dX7_told_19 : decode cX7_told 19 = .ok (.ireturn, 1) := by decide +kernel
theorem dX7_told_20 : decode cX7_told 20 = .ok (.aload_n 0, 1) := by decide +kernel
theorem dX7_told_21 : decode cX7_told 21 = .ok (.getfield 59, 3) := by decide +kernel
theorem dX7_told_24 : decode cX7_told 24 = .ok (.iload_n 1, 1) := by decide +kernel
theorem dX7_told_25 : decode cX7_told 25 = .ok (.iaload, 1) := by decide +kernel
theorem dX7_told_26 : decode cX7_told 26 = .ok (.ireturn, 1) := by decide +kernel
set_option maxRecDepth 20000 in
theorem ggX7_beside_X7_isInstruction : GoodIn wsX7_beside wsX7_isInstruction := goodIn_r _ [7] rfl (by decide +kernel)
set_option maxRecDepth 20000 in
theorem gX7_beside_X7_isInstruction : GoodIn wsX7_beside (va_wsS RX7 111 yX7_isInstruction wsX7_isInstruction) := goodIn_app (goodIn_of _ (by decide +kernel)) ggX7_beside_X7_isInstruction
set_option maxRecDepth 20000 in
theorem ggX7_beside_X7_refuse : GoodIn wsX7_beside wsX7_refuse := goodIn_r _ [11, 12, 193, 194, 195, 196, 197, 198, 199, 200, 201, 202, 203, 204, 205, 206, 207, 208] rfl (by decide +kernel)
set_option maxRecDepth 20000 in
theorem gX7_beside_X7_refuse : GoodIn wsX7_beside (wsV RX7 91 RX7 yX7_refuse wsX7_refuse) := goodIn_app (goodIn_of _ (by decide +kernel)) ggX7_beside_X7_refuse
set_option maxRecDepth 20000 in
theorem ggX7_beside_X3_make : GoodIn wsX7_beside wsX3_make := goodIn_r _ [17, 18, 19, 20, 21, 22, 23, 24, 25, 26, 27, 28, 29, 30, 31, 32, 33, 34, 35, 36, 37, 38, 39, 40, 41, 42, 43, 44, 45, 6, 46, 47, 48, 49, 50, 51, 52, 53, 54, 55, 56, 57, 58, 59, 60, 61, 62, 63, 64, 65, 66, 67, 68, 69, 70, 71, 72, 73, 74, 75, 76, 77, 78, 79, 80, 81, 82, 83, 84, 85, 86, 87, 88, 89, 90, 91, 92, 93, 94, 95, 96, 97, 98, 99, 100, 101, 102, 209, 210, 211, 212, 213, 214, 215, 216, 217, 218, 219, 220, 221, 222, 223, 224, 225, 226, 227, 228, 229, 230, 231, 232] rfl (by decide +kernel)
set_option maxRecDepth 20000 in
theorem gX7_beside_X3_make : GoodIn wsX7_beside (wsV RX7 168 RX3 yX3_make wsX3_make) := goodIn_app (goodIn_of _ (by decide +kernel)) ggX7_beside_X3_make
set_option maxRecDepth 20000 in
theorem ggX7_beside_X0_endsAlike : GoodIn wsX7_beside wsX0_endsAlike := goodIn_r _ [107, 108, 109, 110, 111, 112, 113, 114, 115, 116, 117, 106, 118, 119, 120, 121, 122, 123, 124, 125, 126, 127, 128, 129, 130, 131, 132, 45, 6, 46, 133, 134, 135, 136, 137, 138, 139, 89, 90, 140, 141, 142, 143, 144, 145, 146, 147, 148, 149, 150, 151, 152, 153, 154, 155, 156, 157, 158, 159, 160, 161, 162, 163, 164, 165, 166, 167, 168, 169, 170, 171, 172, 173, 174, 175, 176, 177, 178, 179, 180, 181, 182, 183, 184, 185, 186, 187, 188, 83, 84, 85, 86, 87, 88, 189, 190, 191, 192, 233, 234, 235, 236, 237, 238, 239, 240, 241, 242, 243, 244, 245, 246, 247, 209, 210, 211, 212, 213, 214, 215, 226, 227, 228, 229, 230, 231, 232] rfl (by decide +kernel)
set_option maxRecDepth 20000 in
theorem gX7_beside_X0_endsAlike : GoodIn wsX7_beside (wsV RX7 223 RX0 yX0_endsAlike wsX0_endsAlike) := goodIn_app (goodIn_of _ (by decide +kernel)) ggX7_beside_X0_endsAlike
theorem dX7_beside_0 : decode cX7_beside 0 = .ok (.iload_n 1, 1) := by decide +kernel
theorem dX7_beside_1 : decode cX7_beside 1 = .ok (.invokestatic 111, 3) := by decide +kernel
theorem dX7_beside_4 : decode cX7_beside 4 = .ok (.ifCond .ne 10, 3) := by decide +kernel
theorem dX7_beside_7 : decode cX7_beside 7 = .ok (.aload_n 0, 1) := by decide +kernel
theorem dX7_beside_8 : decode cX7_beside 8 = .ok (.bipush (-3), 2) := by decide +kernel
theorem dX7_beside_10 : decode cX7_beside 10 = .ok (.invokevirtual 91, 3) := by decide +kernel
theorem dX7_beside_13 : decode cX7_beside 13 = .ok (.ireturn, 1) := by decide +kernel
theorem dX7_beside_14 : decode cX7_beside 14 = .ok (.aload_n 0, 1) := by decide +kernel
theorem dX7_beside_15 : decode cX7_beside 15 = .ok (.getfield 28, 3) := by decide +kernel
theorem dX7_beside_18 : decode cX7_beside 18 = .ok (.getfield 172, 3) := by decide +kernel
theorem dX7_beside_21 : decode cX7_beside 21 = .ok (.iload_n 1, 1) := by decide +kernel
theorem dX7_beside_22 : decode cX7_beside 22 = .ok (.baload, 1) := by decide +kernel
theorem dX7_beside_23 : decode cX7_beside 23 = .ok (.istore_n 2, 1) := by decide +kernel
theorem dX7_beside_24 : decode cX7_beside 24 = .ok (.aload_n 0, 1) := by decide +kernel
theorem dX7_beside_25 : decode cX7_beside 25 = .ok (.getfield 28, 3) := by decide +kernel
theorem dX7_beside_28 : decode cX7_beside 28 = .ok (.iload_n 1, 1) := by decide +kernel
theorem dX7_beside_29 : decode cX7_beside 29 = .ok (.invokevirtual 168, 3) := by decide +kernel
theorem dX7_beside_32 : decode cX7_beside 32 = .ok (.aload_n 0, 1) := by decide +kernel
theorem dX7_beside_33 : decode cX7_beside 33 = .ok (.getfield 55, 3) := by decide +kernel
theorem dX7_beside_36 : decode cX7_beside 36 = .ok (.iload_n 1, 1) := by decide +kernel
theorem dX7_beside_37 : decode cX7_beside 37 = .ok (.invokevirtual 223, 3) := by decide +kernel
theorem dX7_beside_40 : decode cX7_beside 40 = .ok (.istore_n 3, 1) := by decide +kernel
theorem dX7_beside_41 : decode cX7_beside 41 = .ok (.aload_n 0, 1) := by decide +kernel
theorem dX7_beside_42 : decode cX7_beside 42 = .ok (.getfield 28, 3) := by decide +kernel
theorem dX7_beside_45 : decode cX7_beside 45 = .ok (.getfield 172, 3) := by decide +kernel
theorem dX7_beside_48 : decode cX7_beside 48 = .ok (.iload_n 1, 1) := by decide +kernel
theorem dX7_beside_49 : decode cX7_beside 49 = .ok (.iload_n 2, 1) := by decide +kernel
theorem dX7_beside_50 : decode cX7_beside 50 = .ok (.bastore, 1) := by decide +kernel
theorem dX7_beside_51 : decode cX7_beside 51 = .ok (.iload_n 3, 1) := by decide +kernel
theorem dX7_beside_52 : decode cX7_beside 52 = .ok (.ifCond .eq 7, 3) := by decide +kernel
theorem dX7_beside_55 : decode cX7_beside 55 = .ok (.iconst 0, 1) := by decide +kernel
theorem dX7_beside_56 : decode cX7_beside 56 = .ok (.goto 4, 3) := by decide +kernel
theorem dX7_beside_59 : decode cX7_beside 59 = .ok (.iconst 1, 1) := by decide +kernel
theorem dX7_beside_60 : decode cX7_beside 60 = .ok (.ireturn, 1) := by decide +kernel
set_option maxRecDepth 20000 in
theorem ggX7_code_X7_refuse : GoodIn wsX7_code wsX7_refuse := goodIn_r _ [6, 7, 11, 12, 13, 14, 15, 16, 17, 18, 19, 20, 21, 22, 23, 24, 25, 26] rfl (by decide +kernel)
set_option maxRecDepth 20000 in
theorem gX7_code_X7_refuse : GoodIn wsX7_code (wsV RX7 91 RX7 yX7_refuse wsX7_refuse) := goodIn_app (goodIn_of _ (by decide +kernel)) ggX7_code_X7_refuse
set_option maxRecDepth 20000 in
theorem ggX7_code_X7_isInstruction : GoodIn wsX7_code wsX7_isInstruction := goodIn_r _ [10] rfl (by decide +kernel)
set_option maxRecDepth 20000 in
theorem gX7_code_X7_isInstruction : GoodIn wsX7_code (va_wsS RX7 111 yX7_isInstruction wsX7_isInstruction) := goodIn_app (goodIn_of _ (by decide +kernel)) ggX7_code_X7_isInstruction
theorem dX7_code_0 : decode cX7_code 0 = .ok (.iload_n 1, 1) := by decide +kernel
theorem dX7_code_1 : decode cX7_code 1 = .ok (.ifCond .lt 9, 3) := by decide +kernel
theorem dX7_code_4 : decode cX7_code 4 = .ok (.iload_n 1, 1) := by decide +kernel
theorem dX7_code_5 : decode cX7_code 5 = .ok (.bipush 16, 2) := by decide +kernel
theorem dX7_code_7 : decode cX7_code 7 = .ok (.if_icmp .lt 10, 3) := by decide +kernel
theorem dX7_code_10 : decode cX7_code 10 = .ok (.aload_n 0, 1) := by decide +kernel
theorem dX7_code_11 : decode cX7_code 11 = .ok (.bipush (-3), 2) := by decide +kernel
theorem dX7_code_13 : decode cX7_code 13 = .ok (.invokevirtual 91, 3) := by decide +kernel
theorem dX7_code_16 : decode cX7_code 16 = .ok (.ireturn, 1) := by decide +kernel
theorem dX7_code_17 : decode cX7_code 17 = .ok (.iload_n 2, 1) := by decide +kernel
theorem dX7_code_18 : decode cX7_code 18 = .ok (.iconst (-1), 1) := by decide +kernel
theorem dX7_code_19 : decode cX7_code 19 = .ok (.if_icmp .eq 17, 3) := by decide +kernel
theorem dX7_code_22 : decode cX7_code 22 = .ok (.iload_n 2, 1) := by decide +kernel
theorem dX7_code_23 : decode cX7_code 23 = .ok (.invokestatic 111, 3) := by decide +kernel
theorem dX7_code_26 : decode cX7_code 26 = .ok (.ifCond .ne 10, 3) := by decide +kernel
theorem dX7_code_29 : decode cX7_code 29 = .ok (.aload_n 0, 1) := by decide +kernel
theorem dX7_code_30 : decode cX7_code 30 = .ok (.bipush (-3), 2) := by decide +kernel
theorem dX7_code_32 : decode cX7_code 32 = .ok (.invokevirtual 91, 3) := by decide +kernel
theorem dX7_code_35 : decode cX7_code 35 = .ok (.ireturn, 1) := by decide +kernel
theorem dX7_code_36 : decode cX7_code 36 = .ok (.aload_n 0, 1) := by decide +kernel
theorem dX7_code_37 : decode cX7_code 37 = .ok (.getfield 63, 3) := by decide +kernel
theorem dX7_code_40 : decode cX7_code 40 = .ok (.iload_n 1, 1) := by decide +kernel
theorem dX7_code_41 : decode cX7_code 41 = .ok (.iaload, 1) := by decide +kernel
theorem dX7_code_42 : decode cX7_code 42 = .ok (.istore_n 3, 1) := by decide +kernel
theorem dX7_code_43 : decode cX7_code 43 = .ok (.aload_n 0, 1) := by decide +kernel
theorem dX7_code_44 : decode cX7_code 44 = .ok (.getfield 63, 3) := by decide +kernel
theorem dX7_code_47 : decode cX7_code 47 = .ok (.iload_n 1, 1) := by decide +kernel
theorem dX7_code_48 : decode cX7_code 48 = .ok (.iload_n 2, 1) := by decide +kernel
theorem dX7_code_49 : decode cX7_code 49 = .ok (.iastore, 1) := by decide +kernel
theorem dX7_code_50 : decode cX7_code 50 = .ok (.iload_n 3, 1) := by decide +kernel
theorem dX7_code_51 : decode cX7_code 51 = .ok (.ireturn, 1) := by decide +kernel
set_option maxRecDepth 20000 in
theorem ggX7_step_X7_refuse : GoodIn wsX7_step wsX7_refuse := goodIn_r _ [7, 8, 196, 197, 198, 199, 200, 201, 202, 203, 204, 205, 206, 207, 208, 209, 210, 211] rfl (by decide +kernel)
set_option maxRecDepth 20000 in
theorem gX7_step_X7_refuse : GoodIn wsX7_step (wsV RX7 91 RX7 yX7_refuse wsX7_refuse) := goodIn_app (goodIn_of _ (by decide +kernel)) ggX7_step_X7_refuse
set_option maxRecDepth 20000 in
theorem ggX7_step_X7_doStep : GoodIn wsX7_step wsX7_doStep := goodIn_r _ [12, 13, 14, 15, 16, 17, 18, 19, 20, 21, 22, 23, 24, 25, 26, 27, 28, 29, 30, 31, 32, 33, 34, 35, 36, 37, 38, 39, 40, 41, 42, 43, 44, 45, 46, 47, 48, 49, 50, 51, 52, 53, 6, 54, 55, 56, 57, 58, 59, 60, 61, 62, 63, 64, 65, 66, 67, 68, 69, 70, 71, 72, 73, 74, 75, 76, 77, 78, 79, 80, 81, 82, 83, 84, 85, 86, 87, 88, 89, 90, 91, 92, 93, 94, 95, 96, 97, 98, 99, 100, 101, 102, 103, 104, 105, 106, 107, 108, 109, 110, 111, 112, 113, 114, 115, 116, 117, 118, 119, 120, 121, 122, 123, 124, 125, 126, 127, 128, 129, 130, 131, 132, 133, 134, 135, 136, 137, 138, 139, 140, 141, 142, 143, 144, 145, 146, 147, 148, 149, 150, 151, 152, 153, 154, 155, 156, 157, 158, 159, 160, 161, 162, 163, 164, 165, 166, 167, 168, 169, 170, 171, 172, 173, 174, 175, 176, 177, 178, 179, 180, 181, 182, 183, 184, 185, 186, 187, 188, 189, 190, 191, 192, 193, 194, 195, 196, 197, 198, 199, 200, 201, 202, 203, 204, 205, 206, 207, 208, 209, 210, 211, 212, 213, 214, 215, 216, 217, 218, 219, 220, 221, 222, 223, 224, 225, 226, 227, 228, 229, 230, 231, 232, 233, 234, 235, 236, 237, 238, 239, 240, 241, 242, 243, 244, 245, 246, 247, 248, 249, 250] rfl (by decide +kernel)
set_option maxRecDepth 20000 in
theorem gX7_step_X7_doStep : GoodIn wsX7_step (wsV RX7 229 RX7 yX7_doStep wsX7_doStep) := goodIn_app (goodIn_of _ (by decide +kernel)) ggX7_step_X7_doStep
theorem dX7_step_0 : decode cX7_step 0 = .ok (.iload_n 1, 1) := by decide +kernel
theorem dX7_step_1 : decode cX7_step 1 = .ok (.ifCond .ge 10, 3) := by decide +kernel
theorem dX7_step_4 : decode cX7_step 4 = .ok (.aload_n 0, 1) := by decide +kernel
theorem dX7_step_5 : decode cX7_step 5 = .ok (.bipush (-4), 2) := by decide +kernel
theorem dX7_step_7 : decode cX7_step 7 = .ok (.invokevirtual 91, 3) := by decide +kernel
theorem dX7_step_10 : decode cX7_step 10 = .ok (.ireturn, 1) := by decide +kernel
theorem dX7_step_11 : decode cX7_step 11 = .ok (.iload_n 1, 1) := by decide +kernel
theorem dX7_step_12 : decode cX7_step 12 = .ok (.ifCond .eq 10, 3) := by decide +kernel
theorem dX7_step_15 : decode cX7_step 15 = .ok (.iload_n 1, 1) := by decide +kernel
theorem dX7_step_16 : decode cX7_step 16 = .ok (.sipush 1000, 3) := by decide +kernel
theorem dX7_step_19 : decode cX7_step 19 = .ok (.if_icmp .le 10, 3) := by decide +kernel
theorem dX7_step_22 : decode cX7_step 22 = .ok (.aload_n 0, 1) := by decide +kernel
theorem dX7_step_23 : decode cX7_step 23 = .ok (.bipush (-6), 2) := by decide +kernel
theorem dX7_step_25 : decode cX7_step 25 = .ok (.invokevirtual 91, 3) := by decide +kernel
theorem dX7_step_28 : decode cX7_step 28 = .ok (.ireturn, 1) := by decide +kernel
theorem dX7_step_29 : decode cX7_step 29 = .ok (.iconst 0, 1) := by decide +kernel
theorem dX7_step_30 : decode cX7_step 30 = .ok (.istore_n 2, 1) := by decide +kernel
theorem dX7_step_31 : decode cX7_step 31 = .ok (.aload_n 0, 1) := by decide +kernel
theorem dX7_step_32 : decode cX7_step 32 = .ok (.iconst 0, 1) := by decide +kernel
theorem dX7_step_33 : decode cX7_step 33 = .ok (.putfield 226, 3) := by decide +kernel
theorem dX7_step_36 : decode cX7_step 36 = .ok (.iconst 0, 1) := by decide +kernel
theorem dX7_step_37 : decode cX7_step 37 = .ok (.istore_n 3, 1) := by decide +kernel
theorem dX7_step_38 : decode cX7_step 38 = .ok (.iload_n 3, 1) := by decide +kernel
theorem dX7_step_39 : decode cX7_step 39 = .ok (.iload_n 1, 1) := by decide +kernel
theorem dX7_step_40 : decode cX7_step 40 = .ok (.if_icmp .ge 34, 3) := by decide +kernel
theorem dX7_step_43 : decode cX7_step 43 = .ok (.aload_n 0, 1) := by decide +kernel
theorem dX7_step_44 : decode cX7_step 44 = .ok (.getfield 226, 3) := by decide +kernel
theorem dX7_step_47 : decode cX7_step 47 = .ok (.ifCond .ne 27, 3) := by decide +kernel
theorem dX7_step_50 : decode cX7_step 50 = .ok (.aload_n 0, 1) := by decide +kernel
theorem dX7_step_51 : decode cX7_step 51 = .ok (.aload_n 0, 1) := by decide +kernel
theorem dX7_step_52 : decode cX7_step 52 = .ok (.invokevirtual 229, 3) := by decide +kernel
theorem dX7_step_55 : decode cX7_step 55 = .ok (.putfield 226, 3) := by decide +kernel
theorem dX7_step_58 : decode cX7_step 58 = .ok (.aload_n 0, 1) := by decide +kernel
theorem dX7_step_59 : decode cX7_step 59 = .ok (.getfield 226, 3) := by decide +kernel
theorem dX7_step_62 : decode cX7_step 62 = .ok (.ifCond .ne 6, 3) := by decide +kernel
theorem dX7_step_65 : decode cX7_step 65 = .ok (.iinc 2 1, 3) := by decide +kernel
theorem dX7_step_68 : decode cX7_step 68 = .ok (.iinc 3 1, 3) := by decide +kernel
theorem dX7_step_71 : decode cX7_step 71 = .ok (.goto (-33), 3) := by decide +kernel
theorem dX7_step_74 : decode cX7_step 74 = .ok (.aload_n 0, 1) := by decide +kernel
theorem dX7_step_75 : decode cX7_step 75 = .ok (.dup, 1) := by decide +kernel
theorem dX7_step_76 : decode cX7_step 76 = .ok (.getfield 233, 3) := by decide +kernel
theorem dX7_step_79 : decode cX7_step 79 = .ok (.iload_n 2, 1) := by decide +kernel
theorem dX7_step_80 : decode cX7_step 80 = .ok (.iadd, 1) := by decide +kernel
theorem dX7_step_81 : decode cX7_step 81 = .ok (.putfield 233, 3) := by decide +kernel
theorem dX7_step_84 : decode cX7_step 84 = .ok (.iload_n 2, 1) := by decide +kernel
theorem dX7_step_85 : decode cX7_step 85 = .ok (.ireturn, 1) := by decide +kernel
set_option maxRecDepth 20000 in
theorem ggX7_count_X7_refuse : GoodIn wsX7_count wsX7_refuse := goodIn_r _ [8, 9, 10, 11, 12, 13, 14, 15, 16, 17, 18, 19, 20, 21, 22, 23, 24, 25] rfl (by decide +kernel)
set_option maxRecDepth 20000 in
theorem gX7_count_X7_refuse : GoodIn wsX7_count (wsV RX7 91 RX7 yX7_refuse wsX7_refuse) := goodIn_app (goodIn_of _ (by decide +kernel)) ggX7_count_X7_refuse
theorem dX7_count_0 : decode cX7_count 0 = .ok (.iload_n 1, 1) := by decide +kernel
theorem dX7_count_1 : decode cX7_count 1 = .ok (.tableswitch 42 0 2 #[27, 32, 37], 27) := by decide +kernel
theorem dX7_count_28 : decode cX7_count 28 = .ok (.aload_n 0, 1) := by decide +kernel
theorem dX7_count_29 : decode cX7_count 29 = .ok (.getfield 233, 3) := by decide +kernel
theorem dX7_count_32 : decode cX7_count 32 = .ok (.ireturn, 1) := by decide +kernel
theorem dX7_count_33 : decode cX7_count 33 = .ok (.aload_n 0, 1) := by decide +kernel
theorem dX7_count_34 : decode cX7_count 34 = .ok (.getfield 236, 3) := by decide +kernel
theorem dX7_count_37 : decode cX7_count 37 = .ok (.ireturn, 1) := by decide +kernel
theorem dX7_count_38 : decode cX7_count 38 = .ok (.aload_n 0, 1) := by decide +kernel
theorem dX7_count_39 : decode cX7_count 39 = .ok (.getfield 226, 3) := by decide +kernel
theorem dX7_count_42 : decode cX7_count 42 = .ok (.ireturn, 1) := by decide +kernel
theorem dX7_count_43 : decode cX7_count 43 = .ok (.aload_n 0, 1) := by decide +kernel
theorem dX7_count_44 : decode cX7_count 44 = .ok (.bipush (-6), 2) := by decide +kernel
theorem dX7_count_46 : decode cX7_count 46 = .ok (.invokevirtual 91, 3) := by decide +kernel
theorem dX7_count_49 : decode cX7_count 49 = .ok (.ireturn, 1) := by decide +kernel
theorem dX7_image_0 : decode cX7_image 0 = .ok (.iconst 0, 1) := by decide +kernel
theorem dX7_image_1 : decode cX7_image 1 = .ok (.istore_n 1, 1) := by decide +kernel
theorem dX7_image_2 : decode cX7_image 2 = .ok (.iconst 0, 1) := by decide +kernel
theorem dX7_image_3 : decode cX7_image 3 = .ok (.istore_n 2, 1) := by decide +kernel
theorem dX7_image_4 : decode cX7_image 4 = .ok (.iload_n 2, 1) := by decide +kernel
theorem dX7_image_5 : decode cX7_image 5 = .ok (.bipush 74, 2) := by decide +kernel
theorem dX7_image_7 : decode cX7_image 7 = .ok (.if_icmp .ge 38, 3) := by decide +kernel
theorem dX7_image_10 : decode cX7_image 10 = .ok (.aload_n 0, 1) := by decide +kernel
theorem dX7_image_11 : decode cX7_image 11 = .ok (.getfield 66, 3) := by decide +kernel
theorem dX7_image_14 : decode cX7_image 14 = .ok (.iload_n 2, 1) := by decide +kernel
theorem dX7_image_15 : decode cX7_image 15 = .ok (.aload_n 0, 1) := by decide +kernel
theorem dX7_image_16 : decode cX7_image 16 = .ok (.getfield 12, 3) := by decide +kernel
theorem dX7_image_19 : decode cX7_image 19 = .ok (.getfield 98, 3) := by decide +kernel
theorem dX7_image_22 : decode cX7_image 22 = .ok (.iload_n 2, 1) := by decide +kernel
theorem dX7_image_23 : decode cX7_image 23 = .ok (.laload, 1) := by decide +kernel
theorem dX7_image_24 : decode cX7_image 24 = .ok (.lastore, 1) := by decide +kernel
theorem dX7_image_25 : decode cX7_image 25 = .ok (.aload_n 0, 1) := by decide +kernel
theorem dX7_image_26 : decode cX7_image 26 = .ok (.getfield 66, 3) := by decide +kernel
theorem dX7_image_29 : decode cX7_image 29 = .ok (.iload_n 2, 1) := by decide +kernel
theorem dX7_image_30 : decode cX7_image 30 = .ok (.laload, 1) := by decide +kernel
theorem dX7_image_31 : decode cX7_image 31 = .ok (.lconst 0, 1) := by decide +kernel
theorem dX7_image_32 : decode cX7_image 32 = .ok (.lcmp, 1) := by decide +kernel
theorem dX7_image_33 : decode cX7_image 33 = .ok (.ifCond .eq 6, 3) := by decide +kernel
theorem dX7_image_36 : decode cX7_image 36 = .ok (.iinc 1 1, 3) := by decide +kernel
theorem dX7_image_39 : decode cX7_image 39 = .ok (.iinc 2 1, 3) := by decide +kernel
theorem dX7_image_42 : decode cX7_image 42 = .ok (.goto (-38), 3) := by decide +kernel
theorem dX7_image_45 : decode cX7_image 45 = .ok (.aload_n 0, 1) := by decide +kernel
theorem dX7_image_46 : decode cX7_image 46 = .ok (.iconst 1, 1) := by decide +kernel
theorem dX7_image_47 : decode cX7_image 47 = .ok (.putfield 239, 3) := by decide +kernel
theorem dX7_image_50 : decode cX7_image 50 = .ok (.iload_n 1, 1) := by decide +kernel
theorem dX7_image_51 : decode cX7_image 51 = .ok (.ireturn, 1) := by decide +kernel
set_option maxRecDepth 20000 in
theorem ggX7_restore_X7_refuse : GoodIn wsX7_restore wsX7_refuse := goodIn_r _ [8, 9, 21, 22, 23, 24, 25, 26, 27, 28, 29, 30, 31, 32, 33, 34, 35, 36] rfl (by decide +kernel)
set_option maxRecDepth 20000 in
theorem gX7_restore_X7_refuse : GoodIn wsX7_restore (wsV RX7 91 RX7 yX7_refuse wsX7_refuse) := goodIn_app (goodIn_of _ (by decide +kernel)) ggX7_restore_X7_refuse
set_option maxRecDepth 20000 in
theorem ggX7_restore_X2_put : GoodIn wsX7_restore wsX2_put := goodIn_r _ [14, 15, 16, 17, 18, 13, 19, 20, 37, 38, 39, 40, 41] rfl (by decide +kernel)
set_option maxRecDepth 20000 in
theorem gX7_restore_X2_put : GoodIn wsX7_restore (wsV RX7 101 RX2 yX2_put wsX2_put) := goodIn_app (goodIn_of _ (by decide +kernel)) ggX7_restore_X2_put
theorem dX7_restore_0 : decode cX7_restore 0 = .ok (.aload_n 0, 1) := by decide +kernel
theorem dX7_restore_1 : decode cX7_restore 1 = .ok (.getfield 239, 3) := by decide +kernel
theorem dX7_restore_4 : decode cX7_restore 4 = .ok (.ifCond .ne 10, 3) := by decide +kernel
theorem dX7_restore_7 : decode cX7_restore 7 = .ok (.aload_n 0, 1) := by decide +kernel
theorem dX7_restore_8 : decode cX7_restore 8 = .ok (.bipush (-2), 2) := by decide +kernel
theorem dX7_restore_10 : decode cX7_restore 10 = .ok (.invokevirtual 91, 3) := by decide +kernel
theorem dX7_restore_13 : decode cX7_restore 13 = .ok (.ireturn, 1) := by decide +kernel
theorem dX7_restore_14 : decode cX7_restore 14 = .ok (.iconst 0, 1) := by decide +kernel
theorem dX7_restore_15 : decode cX7_restore 15 = .ok (.istore_n 1, 1) := by decide +kernel
theorem dX7_restore_16 : decode cX7_restore 16 = .ok (.iconst 0, 1) := by decide +kernel
theorem dX7_restore_17 : decode cX7_restore 17 = .ok (.istore_n 2, 1) := by decide +kernel
theorem dX7_restore_18 : decode cX7_restore 18 = .ok (.iload_n 2, 1) := by decide +kernel
theorem dX7_restore_19 : decode cX7_restore 19 = .ok (.bipush 74, 2) := by decide +kernel
theorem dX7_restore_21 : decode cX7_restore 21 = .ok (.if_icmp .ge 26, 3) := by decide +kernel
theorem dX7_restore_24 : decode cX7_restore 24 = .ok (.iload_n 1, 1) := by decide +kernel
theorem dX7_restore_25 : decode cX7_restore 25 = .ok (.aload_n 0, 1) := by decide +kernel
theorem dX7_restore_26 : decode cX7_restore 26 = .ok (.getfield 12, 3) := by decide +kernel
theorem dX7_restore_29 : decode cX7_restore 29 = .ok (.iload_n 2, 1) := by decide +kernel
theorem dX7_restore_30 : decode cX7_restore 30 = .ok (.aload_n 0, 1) := by decide +kernel
theorem dX7_restore_31 : decode cX7_restore 31 = .ok (.getfield 66, 3) := by decide +kernel
theorem dX7_restore_34 : decode cX7_restore 34 = .ok (.iload_n 2, 1) := by decide +kernel
theorem dX7_restore_35 : decode cX7_restore 35 = .ok (.laload, 1) := by decide +kernel
theorem dX7_restore_36 : decode cX7_restore 36 = .ok (.invokevirtual 101, 3) := by decide +kernel
theorem dX7_restore_39 : decode cX7_restore 39 = .ok (.iadd, 1) := by decide +kernel
theorem dX7_restore_40 : decode cX7_restore 40 = .ok (.istore_n 1, 1) := by decide +kernel
theorem dX7_restore_41 : decode cX7_restore 41 = .ok (.iinc 2 1, 3) := by decide +kernel
theorem dX7_restore_44 : decode cX7_restore 44 = .ok (.goto (-26), 3) := by decide +kernel
theorem dX7_restore_47 : decode cX7_restore 47 = .ok (.iload_n 1, 1) := by decide +kernel
theorem dX7_restore_48 : decode cX7_restore 48 = .ok (.ireturn, 1) := by decide +kernel
set_option maxRecDepth 20000 in
theorem ggX7_lay_X7_refuse : GoodIn wsX7_lay wsX7_refuse := goodIn_r _ [9, 10, 11, 12, 13, 14, 15, 16, 17, 18, 19, 20, 21, 22, 23, 24, 25, 26] rfl (by decide +kernel)
set_option maxRecDepth 20000 in
theorem gX7_lay_X7_refuse : GoodIn wsX7_lay (wsV RX7 91 RX7 yX7_refuse wsX7_refuse) := goodIn_app (goodIn_of _ (by decide +kernel)) ggX7_lay_X7_refuse
theorem dX7_lay_0 : decode cX7_lay 0 = .ok (.iload_n 2, 1) := by decide +kernel
theorem dX7_lay_1 : decode cX7_lay 1 = .ok (.ifCond .ge 10, 3) := by decide +kernel
theorem dX7_lay_4 : decode cX7_lay 4 = .ok (.aload_n 0, 1) := by decide +kernel
theorem dX7_lay_5 : decode cX7_lay 5 = .ok (.bipush (-4), 2) := by decide +kernel
theorem dX7_lay_7 : decode cX7_lay 7 = .ok (.invokevirtual 91, 3) := by decide +kernel
theorem dX7_lay_10 : decode cX7_lay 10 = .ok (.ireturn, 1) := by decide +kernel
theorem dX7_lay_11 : decode cX7_lay 11 = .ok (.iload_n 2, 1) := by decide +kernel
theorem dX7_lay_12 : decode cX7_lay 12 = .ok (.bipush 64, 2) := by decide +kernel
theorem dX7_lay_14 : decode cX7_lay 14 = .ok (.if_icmp .gt 15, 3) := by decide +kernel
theorem dX7_lay_17 : decode cX7_lay 17 = .ok (.iload_n 1, 1) := by decide +kernel
theorem dX7_lay_18 : decode cX7_lay 18 = .ok (.ifCond .lt 11, 3) := by decide +kernel
theorem dX7_lay_21 : decode cX7_lay 21 = .ok (.iload_n 1, 1) := by decide +kernel
theorem dX7_lay_22 : decode cX7_lay 22 = .ok (.bipush 64, 2) := by decide +kernel
theorem dX7_lay_24 : decode cX7_lay 24 = .ok (.iload_n 2, 1) := by decide +kernel
theorem dX7_lay_25 : decode cX7_lay 25 = .ok (.isub, 1) := by decide +kernel
theorem dX7_lay_26 : decode cX7_lay 26 = .ok (.if_icmp .le 10, 3) := by decide +kernel
theorem dX7_lay_29 : decode cX7_lay 29 = .ok (.aload_n 0, 1) := by decide +kernel
theorem dX7_lay_30 : decode cX7_lay 30 = .ok (.bipush (-3), 2) := by decide +kernel
theorem dX7_lay_32 : decode cX7_lay 32 = .ok (.invokevirtual 91, 3) := by decide +kernel
theorem dX7_lay_35 : decode cX7_lay 35 = .ok (.ireturn, 1) := by decide +kernel
theorem dX7_lay_36 : decode cX7_lay 36 = .ok (.iconst 0, 1) := by decide +kernel
theorem dX7_lay_37 : decode cX7_lay 37 = .ok (.istore_n 3, 1) := by decide +kernel
theorem dX7_lay_38 : decode cX7_lay 38 = .ok (.iload_n 3, 1) := by decide +kernel
theorem dX7_lay_39 : decode cX7_lay 39 = .ok (.iload_n 2, 1) := by decide +kernel
theorem dX7_lay_40 : decode cX7_lay 40 = .ok (.if_icmp .ge 31, 3) := by decide +kernel
theorem dX7_lay_43 : decode cX7_lay 43 = .ok (.aload_n 0, 1) := by decide +kernel
theorem dX7_lay_44 : decode cX7_lay 44 = .ok (.getfield 70, 3) := by decide +kernel
theorem dX7_lay_47 : decode cX7_lay 47 = .ok (.iload_n 3, 1) := by decide +kernel
theorem dX7_lay_48 : decode cX7_lay 48 = .ok (.aload_n 0, 1) := by decide +kernel
theorem dX7_lay_49 : decode cX7_lay 49 = .ok (.getfield 12, 3) := by decide +kernel
theorem dX7_lay_52 : decode cX7_lay 52 = .ok (.getfield 98, 3) := by decide +kernel
theorem dX7_lay_55 : decode cX7_lay 55 = .ok (.bipush 10, 2) := by decide +kernel
theorem dX7_lay_57 : decode cX7_lay 57 = .ok (.iload_n 1, 1) := by decide +kernel
theorem dX7_lay_58 : decode cX7_lay 58 = .ok (.iadd, 1) := by decide +kernel
theorem dX7_lay_59 : decode cX7_lay 59 = .ok (.iload_n 3, 1) := by decide +kernel
theorem dX7_lay_60 : decode cX7_lay 60 = .ok (.iadd, 1) := by decide +kernel
theorem dX7_lay_61 : decode cX7_lay 61 = .ok (.laload, 1) := by decide +kernel
theorem dX7_lay_62 : decode cX7_lay 62 = .ok (.l2i, 1) := by decide +kernel
theorem dX7_lay_63 : decode cX7_lay 63 = .ok (.i2s, 1) := by decide +kernel
theorem dX7_lay_64 : decode cX7_lay 64 = .ok (.sastore, 1) := by decide +kernel
theorem dX7_lay_65 : decode cX7_lay 65 = .ok (.iinc 3 1, 3) := by decide +kernel
theorem dX7_lay_68 : decode cX7_lay 68 = .ok (.goto (-30), 3) := by decide +kernel
theorem dX7_lay_71 : decode cX7_lay 71 = .ok (.aload_n 0, 1) := by decide +kernel
theorem dX7_lay_72 : decode cX7_lay 72 = .ok (.iload_n 2, 1) := by decide +kernel
theorem dX7_lay_73 : decode cX7_lay 73 = .ok (.putfield 83, 3) := by decide +kernel
theorem dX7_lay_76 : decode cX7_lay 76 = .ok (.iload_n 2, 1) := by decide +kernel
theorem dX7_lay_77 : decode cX7_lay 77 = .ok (.ireturn, 1) := by decide +kernel
theorem dX7_tear_0 : decode cX7_tear 0 = .ok (.aload_n 0, 1) := by decide +kernel
theorem dX7_tear_1 : decode cX7_tear 1 = .ok (.getfield 83, 3) := by decide +kernel
theorem dX7_tear_4 : decode cX7_tear 4 = .ok (.iconst (-1), 1) := by decide +kernel
theorem dX7_tear_5 : decode cX7_tear 5 = .ok (.if_icmp .ne 7, 3) := by decide +kernel
theorem dX7_tear_8 : decode cX7_tear 8 = .ok (.iconst 0, 1) := by decide +kernel
theorem dX7_tear_9 : decode cX7_tear 9 = .ok (.goto 4, 3) := by decide +kernel
theorem dX7_tear_12 : decode cX7_tear 12 = .ok (.iconst 1, 1) := by decide +kernel
theorem dX7_tear_13 : decode cX7_tear 13 = .ok (.istore_n 1, 1) := by decide +kernel
theorem dX7_tear_14 : decode cX7_tear 14 = .ok (.aload_n 0, 1) := by decide +kernel
theorem dX7_tear_15 : decode cX7_tear 15 = .ok (.iconst (-1), 1) := by decide +kernel
theorem dX7_tear_16 : decode cX7_tear 16 = .ok (.putfield 83, 3) := by decide +kernel
theorem dX7_tear_19 : decode cX7_tear 19 = .ok (.iload_n 1, 1) := by decide +kernel
theorem dX7_tear_20 : decode cX7_tear 20 = .ok (.ireturn, 1) := by decide +kernel
set_option maxRecDepth 20000 in
theorem ggX7_row_X7_refuse : GoodIn wsX7_row wsX7_refuse := goodIn_r _ [7, 8, 9, 10, 11, 12, 13, 14, 15, 16, 17, 18, 19, 20, 21, 22, 23, 24] rfl (by decide +kernel)
set_option maxRecDepth 20000 in
theorem gX7_row_X7_refuse : GoodIn wsX7_row (wsV RX7 91 RX7 yX7_refuse wsX7_refuse) := goodIn_app (goodIn_of _ (by decide +kernel)) ggX7_row_X7_refuse
theorem dX7_row_0 : decode cX7_row 0 = .ok (.aload_n 0, 1) := by decide +kernel
theorem dX7_row_1 : decode cX7_row 1 = .ok (.getfield 83, 3) := by decide +kernel
theorem dX7_row_4 : decode cX7_row 4 = .ok (.iconst (-1), 1) := by decide +kernel
theorem dX7_row_5 : decode cX7_row 5 = .ok (.if_icmp .ne 10, 3) := by decide +kernel
theorem dX7_row_8 : decode cX7_row 8 = .ok (.aload_n 0, 1) := by decide +kernel
theorem dX7_row_9 : decode cX7_row 9 = .ok (.bipush (-2), 2) := by decide +kernel
theorem dX7_row_11 : decode cX7_row 11 = .ok (.invokevirtual 91, 3) := by decide +kernel
theorem dX7_row_14 : decode cX7_row 14 = .ok (.ireturn, 1) := by decide +kernel
theorem dX7_row_15 : decode cX7_row 15 = .ok (.iload_n 1, 1) := by decide +kernel
theorem dX7_row_16 : decode cX7_row 16 = .ok (.ifCond .lt 11, 3) := by decide +kernel
theorem dX7_row_19 : decode cX7_row 19 = .ok (.iload_n 1, 1) := by decide +kernel
theorem dX7_row_20 : decode cX7_row 20 = .ok (.aload_n 0, 1) := by decide +kernel
theorem dX7_row_21 : decode cX7_row 21 = .ok (.getfield 83, 3) := by decide +kernel
theorem dX7_row_24 : decode cX7_row 24 = .ok (.if_icmp .lt 10, 3) := by decide +kernel
theorem dX7_row_27 : decode cX7_row 27 = .ok (.aload_n 0, 1) := by decide +kernel
theorem dX7_row_28 : decode cX7_row 28 = .ok (.bipush (-3), 2) := by decide +kernel
theorem dX7_row_30 : decode cX7_row 30 = .ok (.invokevirtual 91, 3) := by decide +kernel
theorem dX7_row_33 : decode cX7_row 33 = .ok (.ireturn, 1) := by decide +kernel
theorem dX7_row_34 : decode cX7_row 34 = .ok (.aload_n 0, 1) := by decide +kernel
theorem dX7_row_35 : decode cX7_row 35 = .ok (.getfield 70, 3) := by decide +kernel
theorem dX7_row_38 : decode cX7_row 38 = .ok (.iload_n 1, 1) := by decide +kernel
theorem dX7_row_39 : decode cX7_row 39 = .ok (.saload, 1) := by decide +kernel
theorem dX7_row_40 : decode cX7_row 40 = .ok (.ireturn, 1) := by decide +kernel
set_option maxRecDepth 20000 in
theorem ggX7_copy_X7_refuse : GoodIn wsX7_copy wsX7_refuse := goodIn_r _ [11, 12, 13, 14, 15, 16, 17, 18, 19, 20, 21, 22, 23, 24, 25, 26, 27, 28] rfl (by decide +kernel)
set_option maxRecDepth 20000 in
theorem gX7_copy_X7_refuse : GoodIn wsX7_copy (wsV RX7 91 RX7 yX7_refuse wsX7_refuse) := goodIn_app (goodIn_of _ (by decide +kernel)) ggX7_copy_X7_refuse
theorem dX7_copy_0 : decode cX7_copy 0 = .ok (.aload_n 0, 1) := by decide +kernel
theorem dX7_copy_1 : decode cX7_copy 1 = .ok (.getfield 83, 3) := by decide +kernel
theorem dX7_copy_4 : decode cX7_copy 4 = .ok (.iconst (-1), 1) := by decide +kernel
theorem dX7_copy_5 : decode cX7_copy 5 = .ok (.if_icmp .ne 10, 3) := by decide +kernel
theorem dX7_copy_8 : decode cX7_copy 8 = .ok (.aload_n 0, 1) := by decide +kernel
theorem dX7_copy_9 : decode cX7_copy 9 = .ok (.bipush (-2), 2) := by decide +kernel
theorem dX7_copy_11 : decode cX7_copy 11 = .ok (.invokevirtual 91, 3) := by decide +kernel
theorem dX7_copy_14 : decode cX7_copy 14 = .ok (.ireturn, 1) := by decide +kernel
theorem dX7_copy_15 : decode cX7_copy 15 = .ok (.iload_n 3, 1) := by decide +kernel
theorem dX7_copy_16 : decode cX7_copy 16 = .ok (.ifCond .ge 10, 3) := by decide +kernel
theorem dX7_copy_19 : decode cX7_copy 19 = .ok (.aload_n 0, 1) := by decide +kernel
theorem dX7_copy_20 : decode cX7_copy 20 = .ok (.bipush (-4), 2) := by decide +kernel
theorem dX7_copy_22 : decode cX7_copy 22 = .ok (.invokevirtual 91, 3) := by decide +kernel
theorem dX7_copy_25 : decode cX7_copy 25 = .ok (.ireturn, 1) := by decide +kernel
theorem dX7_copy_26 : decode cX7_copy 26 = .ok (.iload_n 3, 1) := by decide +kernel
theorem dX7_copy_27 : decode cX7_copy 27 = .ok (.aload_n 0, 1) := by decide +kernel
theorem dX7_copy_28 : decode cX7_copy 28 = .ok (.getfield 83, 3) := by decide +kernel
theorem dX7_copy_31 : decode cX7_copy 31 = .ok (.if_icmp .gt 31, 3) := by decide +kernel
theorem dX7_copy_34 : decode cX7_copy 34 = .ok (.iload_n 1, 1) := by decide +kernel
theorem dX7_copy_35 : decode cX7_copy 35 = .ok (.ifCond .lt 27, 3) := by decide +kernel
theorem dX7_copy_38 : decode cX7_copy 38 = .ok (.iload_n 1, 1) := by decide +kernel
theorem dX7_copy_39 : decode cX7_copy 39 = .ok (.aload_n 0, 1) := by decide +kernel
theorem dX7_copy_40 : decode cX7_copy 40 = .ok (.getfield 83, 3) := by decide +kernel
theorem dX7_copy_43 : decode cX7_copy 43 = .ok (.iload_n 3, 1) := by decide +kernel
theorem dX7_copy_44 : decode cX7_copy 44 = .ok (.isub, 1) := by decide +kernel
theorem dX7_copy_45 : decode cX7_copy 45 = .ok (.if_icmp .gt 17, 3) := by decide +kernel
theorem dX7_copy_48 : decode cX7_copy 48 = .ok (.iload_n 2, 1) := by decide +kernel
theorem dX7_copy_49 : decode cX7_copy 49 = .ok (.ifCond .lt 13, 3) := by decide +kernel
theorem dX7_copy_52 : decode cX7_copy 52 = .ok (.iload_n 2, 1) := by decide +kernel
theorem dX7_copy_53 : decode cX7_copy 53 = .ok (.aload_n 0, 1) := by decide +kernel
theorem dX7_copy_54 : decode cX7_copy 54 = .ok (.getfield 83, 3) := by decide +kernel
theorem dX7_copy_57 : decode cX7_copy 57 = .ok (.iload_n 3, 1) := by decide +kernel
theorem dX7_copy_58 : decode cX7_copy 58 = .ok (.isub, 1) := by decide +kernel
theorem dX7_copy_59 : decode cX7_copy 59 = .ok (.if_icmp .le 10, 3) := by decide +kernel
theorem dX7_copy_62 : decode cX7_copy 62 = .ok (.aload_n 0, 1) := by decide +kernel
theorem dX7_copy_63 : decode cX7_copy 63 = .ok (.bipush (-5), 2) := by decide +kernel
theorem dX7_copy_65 : decode cX7_copy 65 = .ok (.invokevirtual 91, 3) := by decide +kernel
theorem dX7_copy_68 : decode cX7_copy 68 = .ok (.ireturn, 1) := by decide +kernel
theorem dX7_copy_69 : decode cX7_copy 69 = .ok (.aload_n 0, 1) := by decide +kernel
theorem dX7_copy_70 : decode cX7_copy 70 = .ok (.getfield 70, 3) := by decide +kernel
theorem dX7_copy_73 : decode cX7_copy 73 = .ok (.iload_n 1, 1) := by decide +kernel
theorem dX7_copy_74 : decode cX7_copy 74 = .ok (.aload_n 0, 1) := by decide +kernel
theorem dX7_copy_75 : decode cX7_copy 75 = .ok (.getfield 70, 3) := by decide +kernel
theorem dX7_copy_78 : decode cX7_copy 78 = .ok (.iload_n 2, 1) := by decide +kernel
theorem dX7_copy_79 : decode cX7_copy 79 = .ok (.iload_n 3, 1) := by decide +kernel
theorem dX7_copy_80 : decode cX7_copy 80 = .ok (.invokestatic 242, 3) := by decide +kernel
theorem dX7_copy_83 : decode cX7_copy 83 = .ok (.iload_n 3, 1) := by decide +kernel
theorem dX7_copy_84 : decode cX7_copy 84 = .ok (.ireturn, 1) := by decide +kernel
set_option maxRecDepth 20000 in
theorem ggX7_status_X7_refuse : GoodIn wsX7_status wsX7_refuse := goodIn_r _ [6, 1, 7, 8, 9, 10, 11, 12, 13, 14, 15, 16, 17, 18, 19, 20, 21, 22] rfl (by decide +kernel)
set_option maxRecDepth 20000 in
theorem gX7_status_X7_refuse : GoodIn wsX7_status (wsV RX7 91 RX7 yX7_refuse wsX7_refuse) := goodIn_app (goodIn_of _ (by decide +kernel)) ggX7_status_X7_refuse
theorem dX7_status_0 : decode cX7_status 0 = .ok (.iload_n 1, 1) := by decide +kernel
theorem dX7_status_1 : decode cX7_status 1 = .ok (.bipush (-2), 2) := by decide +kernel
theorem dX7_status_3 : decode cX7_status 3 = .ok (.if_icmp .gt 9, 3) := by decide +kernel
theorem dX7_status_6 : decode cX7_status 6 = .ok (.iload_n 1, 1) := by decide +kernel
theorem dX7_status_7 : decode cX7_status 7 = .ok (.bipush (-7), 2) := by decide +kernel
theorem dX7_status_9 : decode cX7_status 9 = .ok (.if_icmp .ge 10, 3) := by decide +kernel
theorem dX7_status_12 : decode cX7_status 12 = .ok (.aload_n 0, 1) := by decide +kernel
theorem dX7_status_13 : decode cX7_status 13 = .ok (.bipush (-6), 2) := by decide +kernel
theorem dX7_status_15 : decode cX7_status 15 = .ok (.invokevirtual 91, 3) := by decide +kernel
theorem dX7_status_18 : decode cX7_status 18 = .ok (.ireturn, 1) := by decide +kernel
theorem dX7_status_19 : decode cX7_status 19 = .ok (.aload_n 0, 1) := by decide +kernel
theorem dX7_status_20 : decode cX7_status 20 = .ok (.getfield 74, 3) := by decide +kernel
theorem dX7_status_23 : decode cX7_status 23 = .ok (.iload_n 1, 1) := by decide +kernel
theorem dX7_status_24 : decode cX7_status 24 = .ok (.ineg, 1) := by decide +kernel
theorem dX7_status_25 : decode cX7_status 25 = .ok (.iaload, 1) := by decide +kernel
theorem dX7_status_26 : decode cX7_status 26 = .ok (.ireturn, 1) := by decide +kernel
theorem dX7_refuse_0 : decode cX7_refuse 0 = .ok (.aload_n 0, 1) := by decide +kernel
theorem dX7_refuse_1 : decode cX7_refuse 1 = .ok (.getfield 74, 3) := by decide +kernel
theorem dX7_refuse_4 : decode cX7_refuse 4 = .ok (.iload_n 1, 1) := by decide +kernel
theorem dX7_refuse_5 : decode cX7_refuse 5 = .ok (.ineg, 1) := by decide +kernel
theorem dX7_refuse_6 : decode cX7_refuse 6 = .ok (.dup2, 1) := by decide +kernel
theorem dX7_refuse_7 : decode cX7_refuse 7 = .ok (.iaload, 1) := by decide +kernel
theorem dX7_refuse_8 : decode cX7_refuse 8 = .ok (.iconst 1, 1) := by decide +kernel
theorem dX7_refuse_9 : decode cX7_refuse 9 = .ok (.iadd, 1) := by decide +kernel
theorem dX7_refuse_10 : decode cX7_refuse 10 = .ok (.iastore, 1) := by decide +kernel
theorem dX7_refuse_11 : decode cX7_refuse 11 = .ok (.iload_n 1, 1) := by decide +kernel
theorem dX7_refuse_12 : decode cX7_refuse 12 = .ok (.ireturn, 1) := by decide +kernel
set_option maxRecDepth 20000 in
theorem ggX7_hasAct_X7_isInstruction : GoodIn wsX7_hasAct wsX7_isInstruction := goodIn_r _ [6] rfl (by decide +kernel)
set_option maxRecDepth 20000 in
theorem gX7_hasAct_X7_isInstruction : GoodIn wsX7_hasAct (va_wsS RX7 111 yX7_isInstruction wsX7_isInstruction) := goodIn_app (goodIn_of _ (by decide +kernel)) ggX7_hasAct_X7_isInstruction
theorem dX7_hasAct_0 : decode cX7_hasAct 0 = .ok (.iload_n 1, 1) := by decide +kernel
theorem dX7_hasAct_1 : decode cX7_hasAct 1 = .ok (.invokestatic 111, 3) := by decide +kernel
theorem dX7_hasAct_4 : decode cX7_hasAct 4 = .ok (.ifCond .eq 24, 3) := by decide +kernel
theorem dX7_hasAct_7 : decode cX7_hasAct 7 = .ok (.iload_n 2, 1) := by decide +kernel
theorem dX7_hasAct_8 : decode cX7_hasAct 8 = .ok (.ifCond .lt 20, 3) := by decide +kernel
theorem dX7_hasAct_11 : decode cX7_hasAct 11 = .ok (.iload_n 2, 1) := by decide +kernel
theorem dX7_hasAct_12 : decode cX7_hasAct 12 = .ok (.aload_n 0, 1) := by decide +kernel
theorem dX7_hasAct_13 : decode cX7_hasAct 13 = .ok (.getfield 19, 3) := by decide +kernel
theorem dX7_hasAct_16 : decode cX7_hasAct 16 = .ok (.getfield 118, 3) := by decide +kernel
theorem dX7_hasAct_19 : decode cX7_hasAct 19 = .ok (.iload_n 1, 1) := by decide +kernel
theorem dX7_hasAct_20 : decode cX7_hasAct 20 = .ok (.iaload, 1) := by decide +kernel
theorem dX7_hasAct_21 : decode cX7_hasAct 21 = .ok (.if_icmp .ge 7, 3) := by decide +kernel
theorem dX7_hasAct_24 : decode cX7_hasAct 24 = .ok (.iconst 1, 1) := by decide +kernel
theorem dX7_hasAct_25 : decode cX7_hasAct 25 = .ok (.goto 4, 3) := by decide +kernel
theorem dX7_hasAct_28 : decode cX7_hasAct 28 = .ok (.iconst 0, 1) := by decide +kernel
theorem dX7_hasAct_29 : decode cX7_hasAct 29 = .ok (.ireturn, 1) := by decide +kernel
theorem dX7_takeAwayPackedOf_0 : decode cX7_takeAwayPackedOf 0 = .ok (.aload_n 0, 1) := by decide +kernel
theorem dX7_takeAwayPackedOf_1 : decode cX7_takeAwayPackedOf 1 = .ok (.getfield 28, 3) := by decide +kernel
theorem dX7_takeAwayPackedOf_4 : decode cX7_takeAwayPackedOf 4 = .ok (.getfield 172, 3) := by decide +kernel
theorem dX7_takeAwayPackedOf_7 : decode cX7_takeAwayPackedOf 7 = .ok (.iload_n 1, 1) := by decide +kernel
theorem dX7_takeAwayPackedOf_8 : decode cX7_takeAwayPackedOf 8 = .ok (.iconst 0, 1) := by decide +kernel
theorem dX7_takeAwayPackedOf_9 : decode cX7_takeAwayPackedOf 9 = .ok (.bastore, 1) := by decide +kernel
theorem dX7_takeAwayPackedOf_10 : decode cX7_takeAwayPackedOf 10 = .ok (.aload_n 0, 1) := by decide +kernel
theorem dX7_takeAwayPackedOf_11 : decode cX7_takeAwayPackedOf 11 = .ok (.getfield 37, 3) := by decide +kernel
theorem dX7_takeAwayPackedOf_14 : decode cX7_takeAwayPackedOf 14 = .ok (.iconst 0, 1) := by decide +kernel
theorem dX7_takeAwayPackedOf_15 : decode cX7_takeAwayPackedOf 15 = .ok (.putfield 161, 3) := by decide +kernel
theorem dX7_takeAwayPackedOf_18 : decode cX7_takeAwayPackedOf 18 = .ok (.return_, 1) := by decide +kernel
theorem dX7_keepTold_0 : decode cX7_keepTold 0 = .ok (.aload_n 0, 1) := by decide +kernel
theorem dX7_keepTold_1 : decode cX7_keepTold 1 = .ok (.getfield 59, 3) := by decide +kernel
theorem dX7_keepTold_4 : decode cX7_keepTold 4 = .ok (.iconst 0, 1) := by decide +kernel
theorem dX7_keepTold_5 : decode cX7_keepTold 5 = .ok (.aload_n 0, 1) := by decide +kernel
theorem dX7_keepTold_6 : decode cX7_keepTold 6 = .ok (.getfield 55, 3) := by decide +kernel
theorem dX7_keepTold_9 : decode cX7_keepTold 9 = .ok (.getfield 248, 3) := by decide +kernel
theorem dX7_keepTold_12 : decode cX7_keepTold 12 = .ok (.iastore, 1) := by decide +kernel
theorem dX7_keepTold_13 : decode cX7_keepTold 13 = .ok (.aload_n 0, 1) := by decide +kernel
theorem dX7_keepTold_14 : decode cX7_keepTold 14 = .ok (.getfield 59, 3) := by decide +kernel
theorem dX7_keepTold_17 : decode cX7_keepTold 17 = .ok (.iconst 1, 1) := by decide +kernel
theorem dX7_keepTold_18 : decode cX7_keepTold 18 = .ok (.aload_n 0, 1) := by decide +kernel
theorem dX7_keepTold_19 : decode cX7_keepTold 19 = .ok (.getfield 55, 3) := by decide +kernel
theorem dX7_keepTold_22 : decode cX7_keepTold 22 = .ok (.getfield 251, 3) := by decide +kernel
theorem dX7_keepTold_25 : decode cX7_keepTold 25 = .ok (.iastore, 1) := by decide +kernel
theorem dX7_keepTold_26 : decode cX7_keepTold 26 = .ok (.aload_n 0, 1) := by decide +kernel
theorem dX7_keepTold_27 : decode cX7_keepTold 27 = .ok (.getfield 59, 3) := by decide +kernel
theorem dX7_keepTold_30 : decode cX7_keepTold 30 = .ok (.iconst 2, 1) := by decide +kernel
theorem dX7_keepTold_31 : decode cX7_keepTold 31 = .ok (.aload_n 0, 1) := by decide +kernel
theorem dX7_keepTold_32 : decode cX7_keepTold 32 = .ok (.getfield 55, 3) := by decide +kernel
theorem dX7_keepTold_35 : decode cX7_keepTold 35 = .ok (.getfield 254, 3) := by decide +kernel
theorem dX7_keepTold_38 : decode cX7_keepTold 38 = .ok (.iastore, 1) := by decide +kernel
theorem dX7_keepTold_39 : decode cX7_keepTold 39 = .ok (.return_, 1) := by decide +kernel
set_option maxRecDepth 20000 in
theorem ggX7_doStep_X3_make : GoodIn wsX7_doStep wsX3_make := goodIn_r _ [13, 14, 15, 16, 17, 18, 19, 20, 21, 22, 23, 24, 25, 26, 27, 28, 29, 30, 31, 32, 33, 34, 35, 36, 37, 38, 39, 40, 41, 42, 43, 44, 45, 46, 47, 48, 49, 50, 51, 52, 53, 54, 55, 56, 57, 58, 59, 60, 61, 62, 63, 64, 65, 66, 67, 68, 69, 70, 71, 72, 73, 74, 75, 76, 77, 78, 79, 80, 81, 82, 83, 84, 85, 86, 87, 88, 89, 90, 91, 92, 93, 94, 95, 96, 97, 98, 99, 206, 207, 208, 209, 210, 211, 212, 213, 214, 215, 216, 217, 218, 219, 220, 221, 222, 223, 224, 225, 226, 227, 228, 229] rfl (by decide +kernel)
set_option maxRecDepth 20000 in
theorem gX7_doStep_X3_make : GoodIn wsX7_doStep (wsV RX7 168 RX3 yX3_make wsX3_make) := goodIn_app (goodIn_of _ (by decide +kernel)) ggX7_doStep_X3_make
set_option maxRecDepth 20000 in
theorem ggX7_doStep_X2_put : GoodIn wsX7_doStep wsX2_put := goodIn_r _ [104, 105, 106, 107, 108, 103, 109, 110, 201, 202, 203, 204, 205] rfl (by decide +kernel)
set_option maxRecDepth 20000 in
theorem gX7_doStep_X2_put : GoodIn wsX7_doStep (wsV RX7 101 RX2 yX2_put wsX2_put) := goodIn_app (goodIn_of _ (by decide +kernel)) ggX7_doStep_X2_put
set_option maxRecDepth 20000 in
theorem ggX7_doStep_X0_perform : GoodIn wsX7_doStep wsX0_perform := goodIn_r _ [115, 116, 117, 118, 119, 120, 121, 122, 123, 124, 125, 126, 127, 103, 128, 129, 41, 42, 43, 130, 131, 132, 114, 133, 134, 135, 136, 86, 87, 137, 138, 139, 140, 141, 142, 143, 144, 145, 146, 147, 148, 149, 150, 151, 152, 153, 154, 155, 3, 156, 157, 158, 159, 160, 161, 162, 163, 164, 107, 108, 109, 110, 165, 166, 167, 168, 105, 169, 170, 171, 172, 173, 174, 175, 101, 102, 104, 106, 176, 80, 81, 82, 83, 84, 85, 230, 231, 232, 233, 234, 235, 236, 237, 238, 239, 206, 207, 208, 209, 210, 211, 212, 223, 224, 225, 226, 227, 228, 229, 201, 202, 203, 204, 205] rfl (by decide +kernel)
set_option maxRecDepth 20000 in
theorem gX7_doStep_X0_perform : GoodIn wsX7_doStep (wsV RX7 216 RX0 yX0_perform wsX0_perform) := goodIn_app (goodIn_of _ (by decide +kernel)) ggX7_doStep_X0_perform
set_option maxRecDepth 20000 in
theorem ggX7_doStep_X7_keepTold : GoodIn wsX7_doStep wsX7_keepTold := goodIn_r _ [180, 181, 7, 182, 183, 184, 185, 186, 187, 188, 189, 190, 191, 192, 193, 194, 195, 196, 197, 198, 199, 200, 230, 231, 232, 233, 234, 235, 236, 237, 238, 239] rfl (by decide +kernel)
set_option maxRecDepth 20000 in
theorem gX7_doStep_X7_keepTold : GoodIn wsX7_doStep (wsV RX7 220 RX7 yX7_keepTold wsX7_keepTold) := goodIn_app (goodIn_of _ (by decide +kernel)) ggX7_doStep_X7_keepTold
theorem dX7_doStep_0 : decode cX7_doStep 0 = .ok (.aload_n 0, 1) := by decide +kernel
theorem dX7_doStep_1 : decode cX7_doStep 1 = .ok (.getfield 12, 3) := by decide +kernel
theorem dX7_doStep_4 : decode cX7_doStep 4 = .ok (.getfield 98, 3) := by decide +kernel
theorem dX7_doStep_7 : decode cX7_doStep 7 = .ok (.bipush 7, 2) := by decide +kernel
theorem dX7_doStep_9 : decode cX7_doStep 9 = .ok (.laload, 1) := by decide +kernel
theorem dX7_doStep_10 : decode cX7_doStep 10 = .ok (.lstore_n 1, 1) := by decide +kernel
theorem dX7_doStep_11 : decode cX7_doStep 11 = .ok (.lload_n 1, 1) := by decide +kernel
theorem dX7_doStep_12 : decode cX7_doStep 12 = .ok (.ldc2_w 257, 3) := by decide +kernel
theorem dX7_doStep_15 : decode cX7_doStep 15 = .ok (.lcmp, 1) := by decide +kernel
theorem dX7_doStep_16 : decode cX7_doStep 16 = .ok (.ifCond .lt 5, 3) := by decide +kernel
theorem dX7_doStep_19 : decode cX7_doStep 19 = .ok (.iconst 1, 1) := by decide +kernel
theorem dX7_doStep_20 : decode cX7_doStep 20 = .ok (.ireturn, 1) := by decide +kernel
theorem dX7_doStep_21 : decode cX7_doStep 21 = .ok (.aload_n 0, 1) := by decide +kernel
theorem dX7_doStep_22 : decode cX7_doStep 22 = .ok (.getfield 63, 3) := by decide +kernel
theorem dX7_doStep_25 : decode cX7_doStep 25 = .ok (.aload_n 0, 1) := by decide +kernel
theorem dX7_doStep_26 : decode cX7_doStep 26 = .ok (.getfield 12, 3) := by decide +kernel
theorem dX7_doStep_29 : decode cX7_doStep 29 = .ok (.getfield 98, 3) := by decide +kernel
theorem dX7_doStep_32 : decode cX7_doStep 32 = .ok (.bipush 10, 2) := by decide +kernel
theorem dX7_doStep_34 : decode cX7_doStep 34 = .ok (.lload_n 1, 1) := by decide +kernel
theorem dX7_doStep_35 : decode cX7_doStep 35 = .ok (.l2i, 1) := by decide +kernel
theorem dX7_doStep_36 : decode cX7_doStep 36 = .ok (.iadd, 1) := by decide +kernel
theorem dX7_doStep_37 : decode cX7_doStep 37 = .ok (.laload, 1) := by decide +kernel
theorem dX7_doStep_38 : decode cX7_doStep 38 = .ok (.ldc2_w 259, 3) := by decide +kernel
theorem dX7_doStep_41 : decode cX7_doStep 41 = .ok (.lrem, 1) := by decide +kernel
theorem dX7_doStep_42 : decode cX7_doStep 42 = .ok (.l2i, 1) := by decide +kernel
theorem dX7_doStep_43 : decode cX7_doStep 43 = .ok (.iaload, 1) := by decide +kernel
theorem dX7_doStep_44 : decode cX7_doStep 44 = .ok (.istore_n 3, 1) := by decide +kernel
theorem dX7_doStep_45 : decode cX7_doStep 45 = .ok (.iload_n 3, 1) := by decide +kernel
theorem dX7_doStep_46 : decode cX7_doStep 46 = .ok (.iconst (-1), 1) := by decide +kernel
theorem dX7_doStep_47 : decode cX7_doStep 47 = .ok (.if_icmp .ne 5, 3) := by decide +kernel
theorem dX7_doStep_50 : decode cX7_doStep 50 = .ok (.iconst 2, 1) := by decide +kernel
theorem dX7_doStep_51 : decode cX7_doStep 51 = .ok (.ireturn, 1) := by decide +kernel
theorem dX7_doStep_52 : decode cX7_doStep 52 = .ok (.aload_n 0, 1) := by decide +kernel
theorem dX7_doStep_53 : decode cX7_doStep 53 = .ok (.getfield 28, 3) := by decide +kernel
theorem dX7_doStep_56 : decode cX7_doStep 56 = .ok (.iload_n 3, 1) := by decide +kernel
theorem dX7_doStep_57 : decode cX7_doStep 57 = .ok (.invokevirtual 168, 3) := by decide +kernel
theorem dX7_doStep_60 : decode cX7_doStep 60 = .ok (.aload_n 0, 1) := by decide +kernel
theorem dX7_doStep_61 : decode cX7_doStep 61 = .ok (.getfield 12, 3) := by decide +kernel
theorem dX7_doStep_64 : decode cX7_doStep 64 = .ok (.bipush 7, 2) := by decide +kernel
theorem dX7_doStep_66 : decode cX7_doStep 66 = .ok (.lload_n 1, 1) := by decide +kernel
theorem dX7_doStep_67 : decode cX7_doStep 67 = .ok (.lconst 1, 1) := by decide +kernel
theorem dX7_doStep_68 : decode cX7_doStep 68 = .ok (.ladd, 1) := by decide +kernel
theorem dX7_doStep_69 : decode cX7_doStep 69 = .ok (.invokevirtual 101, 3) := by decide +kernel
theorem dX7_doStep_72 : decode cX7_doStep 72 = .ok (.pop, 1) := by decide +kernel
theorem dX7_doStep_73 : decode cX7_doStep 73 = .ok (.aload_n 0, 1) := by decide +kernel
theorem dX7_doStep_74 : decode cX7_doStep 74 = .ok (.getfield 55, 3) := by decide +kernel
theorem dX7_doStep_77 : decode cX7_doStep 77 = .ok (.iload_n 3, 1) := by decide +kernel
theorem dX7_doStep_78 : decode cX7_doStep 78 = .ok (.iconst 1, 1) := by decide +kernel
theorem dX7_doStep_79 : decode cX7_doStep 79 = .ok (.invokevirtual 216, 3) := by decide +kernel
theorem dX7_doStep_82 : decode cX7_doStep 82 = .ok (.iconst 2, 1) := by decide +kernel
theorem dX7_doStep_83 : decode cX7_doStep 83 = .ok (.if_icmp .ne 13, 3) := by decide +kernel
theorem dX7_doStep_86 : decode cX7_doStep 86 = .ok (.aload_n 0, 1) := by decide +kernel
theorem dX7_doStep_87 : decode cX7_doStep 87 = .ok (.dup, 1) := by decide +kernel
theorem dX7_doStep_88 : decode cX7_doStep 88 = .ok (.getfield 236, 3) := by decide +kernel
theorem dX7_doStep_91 : decode cX7_doStep 91 = .ok (.iconst 1, 1) := by decide +kernel
theorem dX7_doStep_92 : decode cX7_doStep 92 = .ok (.iadd, 1) := by decide +kernel
theorem dX7_doStep_93 : decode cX7_doStep 93 = .ok (.putfield 236, 3) := by decide +kernel
theorem dX7_doStep_96 : decode cX7_doStep 96 = .ok (.aload_n 0, 1) := by decide +kernel
theorem dX7_doStep_97 : decode cX7_doStep 97 = .ok (.invokevirtual 220, 3) := by decide +kernel
theorem dX7_doStep_100 : decode cX7_doStep 100 = .ok (.iconst 0, 1) := by decide +kernel
theorem dX7_doStep_101 : decode cX7_doStep 101 = .ok (.ireturn, 1) := by decide +kernel
theorem dX7_isRegister_0 : decode cX7_isRegister 0 = .ok (.iload_n 0, 1) := by decide +kernel
theorem dX7_isRegister_1 : decode cX7_isRegister 1 = .ok (.ifCond .lt 13, 3) := by decide +kernel
theorem dX7_isRegister_4 : decode cX7_isRegister 4 = .ok (.iload_n 0, 1) := by decide +kernel
theorem dX7_isRegister_5 : decode cX7_isRegister 5 = .ok (.bipush 8, 2) := by decide +kernel
theorem dX7_isRegister_7 : decode cX7_isRegister 7 = .ok (.if_icmp .ge 7, 3) := by decide +kernel
theorem dX7_isRegister_10 : decode cX7_isRegister 10 = .ok (.iconst 1, 1) := by decide +kernel
theorem dX7_isRegister_11 : decode cX7_isRegister 11 = .ok (.goto 4, 3) := by decide +kernel
theorem dX7_isRegister_14 : decode cX7_isRegister 14 = .ok (.iconst 0, 1) := by decide +kernel
theorem dX7_isRegister_15 : decode cX7_isRegister 15 = .ok (.ireturn, 1) := by decide +kernel
theorem dX7_isCell_0 : decode cX7_isCell 0 = .ok (.lload_n 0, 1) := by decide +kernel
theorem dX7_isCell_1 : decode cX7_isCell 1 = .ok (.lconst 0, 1) := by decide +kernel
theorem dX7_isCell_2 : decode cX7_isCell 2 = .ok (.lcmp, 1) := by decide +kernel
theorem dX7_isCell_3 : decode cX7_isCell 3 = .ok (.ifCond .lt 15, 3) := by decide +kernel
theorem dX7_isCell_6 : decode cX7_isCell 6 = .ok (.lload_n 0, 1) := by decide +kernel
theorem dX7_isCell_7 : decode cX7_isCell 7 = .ok (.ldc2_w 257, 3) := by decide +kernel
theorem dX7_isCell_10 : decode cX7_isCell 10 = .ok (.lcmp, 1) := by decide +kernel
theorem dX7_isCell_11 : decode cX7_isCell 11 = .ok (.ifCond .ge 7, 3) := by decide +kernel
theorem dX7_isCell_14 : decode cX7_isCell 14 = .ok (.iconst 1, 1) := by decide +kernel
theorem dX7_isCell_15 : decode cX7_isCell 15 = .ok (.goto 4, 3) := by decide +kernel
theorem dX7_isCell_18 : decode cX7_isCell 18 = .ok (.iconst 0, 1) := by decide +kernel
theorem dX7_isCell_19 : decode cX7_isCell 19 = .ok (.ireturn, 1) := by decide +kernel
theorem dX7_isInstruction_0 : decode cX7_isInstruction 0 = .ok (.iload_n 0, 1) := by decide +kernel
theorem dX7_isInstruction_1 : decode cX7_isInstruction 1 = .ok (.ifCond .lt 13, 3) := by decide +kernel
theorem dX7_isInstruction_4 : decode cX7_isInstruction 4 = .ok (.iload_n 0, 1) := by decide +kernel
theorem dX7_isInstruction_5 : decode cX7_isInstruction 5 = .ok (.bipush 12, 2) := by decide +kernel
theorem dX7_isInstruction_7 : decode cX7_isInstruction 7 = .ok (.if_icmp .ge 7, 3) := by decide +kernel
theorem dX7_isInstruction_10 : decode cX7_isInstruction 10 = .ok (.iconst 1, 1) := by decide +kernel
theorem dX7_isInstruction_11 : decode cX7_isInstruction 11 = .ok (.goto 4, 3) := by decide +kernel
theorem dX7_isInstruction_14 : decode cX7_isInstruction 14 = .ok (.iconst 0, 1) := by decide +kernel
theorem dX7_isInstruction_15 : decode cX7_isInstruction 15 = .ok (.ireturn, 1) := by decide +kernel
set_option maxRecDepth 20000 in
theorem ggX7_isAct_X7_isOfSort : GoodIn wsX7_isAct wsX7_isOfSort := goodIn_r _ [7, 8, 9] rfl (by decide +kernel)
set_option maxRecDepth 20000 in
theorem gX7_isAct_X7_isOfSort : GoodIn wsX7_isAct (va_wsS RX7 264 yX7_isOfSort wsX7_isOfSort) := goodIn_app (goodIn_of _ (by decide +kernel)) ggX7_isAct_X7_isOfSort
theorem dX7_isAct_0 : decode cX7_isAct 0 = .ok (.iload_n 0, 1) := by decide +kernel
theorem dX7_isAct_1 : decode cX7_isAct 1 = .ok (.ifCond .lt 49, 3) := by decide +kernel
theorem dX7_isAct_4 : decode cX7_isAct 4 = .ok (.iload_n 0, 1) := by decide +kernel
theorem dX7_isAct_5 : decode cX7_isAct 5 = .ok (.bipush 11, 2) := by decide +kernel
theorem dX7_isAct_7 : decode cX7_isAct 7 = .ok (.if_icmp .ge 43, 3) := by decide +kernel
theorem dX7_isAct_10 : decode cX7_isAct 10 = .ok (.getstatic 261, 3) := by decide +kernel
theorem dX7_isAct_13 : decode cX7_isAct 13 = .ok (.iload_n 0, 1) := by decide +kernel
theorem dX7_isAct_14 : decode cX7_isAct 14 = .ok (.iaload, 1) := by decide +kernel
theorem dX7_isAct_15 : decode cX7_isAct 15 = .ok (.iload_n 1, 1) := by decide +kernel
theorem dX7_isAct_16 : decode cX7_isAct 16 = .ok (.invokestatic 264, 3) := by decide +kernel
theorem dX7_isAct_19 : decode cX7_isAct 19 = .ok (.ifCond .eq 31, 3) := by decide +kernel
theorem dX7_isAct_22 : decode cX7_isAct 22 = .ok (.getstatic 267, 3) := by decide +kernel
theorem dX7_isAct_25 : decode cX7_isAct 25 = .ok (.iload_n 0, 1) := by decide +kernel
theorem dX7_isAct_26 : decode cX7_isAct 26 = .ok (.iaload, 1) := by decide +kernel
theorem dX7_isAct_27 : decode cX7_isAct 27 = .ok (.iload_n 2, 1) := by decide +kernel
theorem dX7_isAct_28 : decode cX7_isAct 28 = .ok (.invokestatic 264, 3) := by decide +kernel
theorem dX7_isAct_31 : decode cX7_isAct 31 = .ok (.ifCond .eq 19, 3) := by decide +kernel
theorem dX7_isAct_34 : decode cX7_isAct 34 = .ok (.getstatic 270, 3) := by decide +kernel
theorem dX7_isAct_37 : decode cX7_isAct 37 = .ok (.iload_n 0, 1) := by decide +kernel
theorem dX7_isAct_38 : decode cX7_isAct 38 = .ok (.iaload, 1) := by decide +kernel
theorem dX7_isAct_39 : decode cX7_isAct 39 = .ok (.iload_n 3, 1) := by decide +kernel
theorem dX7_isAct_40 : decode cX7_isAct 40 = .ok (.invokestatic 264, 3) := by decide +kernel
theorem dX7_isAct_43 : decode cX7_isAct 43 = .ok (.ifCond .eq 7, 3) := by decide +kernel
theorem dX7_isAct_46 : decode cX7_isAct 46 = .ok (.iconst 1, 1) := by decide +kernel
theorem dX7_isAct_47 : decode cX7_isAct 47 = .ok (.goto 4, 3) := by decide +kernel
theorem dX7_isAct_50 : decode cX7_isAct 50 = .ok (.iconst 0, 1) := by decide +kernel
theorem dX7_isAct_51 : decode cX7_isAct 51 = .ok (.ireturn, 1) := by decide +kernel
theorem dX7_isOfSort_0 : decode cX7_isOfSort 0 = .ok (.iload_n 0, 1) := by decide +kernel
theorem dX7_isOfSort_1 : decode cX7_isOfSort 1 = .ok (.ifCond .eq 21, 3) := by decide +kernel
theorem dX7_isOfSort_4 : decode cX7_isOfSort 4 = .ok (.iload_n 1, 1) := by decide +kernel
theorem dX7_isOfSort_5 : decode cX7_isOfSort 5 = .ok (.getstatic 273, 3) := by decide +kernel
theorem dX7_isOfSort_8 : decode cX7_isOfSort 8 = .ok (.iload_n 0, 1) := by decide +kernel
theorem dX7_isOfSort_9 : decode cX7_isOfSort 9 = .ok (.iaload, 1) := by decide +kernel
theorem dX7_isOfSort_10 : decode cX7_isOfSort 10 = .ok (.if_icmp .lt 16, 3) := by decide +kernel
theorem dX7_isOfSort_13 : decode cX7_isOfSort 13 = .ok (.iload_n 1, 1) := by decide +kernel
theorem dX7_isOfSort_14 : decode cX7_isOfSort 14 = .ok (.getstatic 276, 3) := by decide +kernel
theorem dX7_isOfSort_17 : decode cX7_isOfSort 17 = .ok (.iload_n 0, 1) := by decide +kernel
theorem dX7_isOfSort_18 : decode cX7_isOfSort 18 = .ok (.iaload, 1) := by decide +kernel
theorem dX7_isOfSort_19 : decode cX7_isOfSort 19 = .ok (.if_icmp .gt 7, 3) := by decide +kernel
theorem dX7_isOfSort_22 : decode cX7_isOfSort 22 = .ok (.iconst 1, 1) := by decide +kernel
theorem dX7_isOfSort_23 : decode cX7_isOfSort 23 = .ok (.goto 4, 3) := by decide +kernel
theorem dX7_isOfSort_26 : decode cX7_isOfSort 26 = .ok (.iconst 0, 1) := by decide +kernel
theorem dX7_isOfSort_27 : decode cX7_isOfSort 27 = .ok (.ireturn, 1) := by decide +kernel
theorem dX7_slot_0 : decode cX7_slot 0 = .ok (.iload_n 0, 1) := by decide +kernel
theorem dX7_slot_1 : decode cX7_slot 1 = .ok (.bipush 10, 2) := by decide +kernel
theorem dX7_slot_3 : decode cX7_slot 3 = .ok (.imul, 1) := by decide +kernel
theorem dX7_slot_4 : decode cX7_slot 4 = .ok (.iload_n 1, 1) := by decide +kernel
theorem dX7_slot_5 : decode cX7_slot 5 = .ok (.iadd, 1) := by decide +kernel
theorem dX7_slot_6 : decode cX7_slot 6 = .ok (.ireturn, 1) := by decide +kernel
theorem dX7_isIn_0 : decode cX7_isIn 0 = .ok (.iload_n 0, 1) := by decide +kernel
theorem dX7_isIn_1 : decode cX7_isIn 1 = .ok (.iload_n 1, 1) := by decide +kernel
theorem dX7_isIn_2 : decode cX7_isIn 2 = .ok (.ishr, 1) := by decide +kernel
theorem dX7_isIn_3 : decode cX7_isIn 3 = .ok (.iconst 1, 1) := by decide +kernel
theorem dX7_isIn_4 : decode cX7_isIn 4 = .ok (.iand, 1) := by decide +kernel
theorem dX7_isIn_5 : decode cX7_isIn 5 = .ok (.ifCond .eq 7, 3) := by decide +kernel
theorem dX7_isIn_8 : decode cX7_isIn 8 = .ok (.iconst 1, 1) := by decide +kernel
theorem dX7_isIn_9 : decode cX7_isIn 9 = .ok (.goto 4, 3) := by decide +kernel
theorem dX7_isIn_12 : decode cX7_isIn 12 = .ok (.iconst 0, 1) := by decide +kernel
theorem dX7_isIn_13 : decode cX7_isIn 13 = .ok (.ireturn, 1) := by decide +kernel
