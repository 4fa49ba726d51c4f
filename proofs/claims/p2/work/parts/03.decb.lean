theorem dX5_init_0 : decode cX5_init 0 = .ok (.aload_n 0, 1) := by decide +kernel
theorem dX5_init_1 : decode cX5_init 1 = .ok (.invokespecial 3, 3) := by decide +kernel
theorem dX5_init_4 : decode cX5_init 4 = .ok (.aload_n 0, 1) := by decide +kernel
theorem dX5_init_5 : decode cX5_init 5 = .ok (.bipush 12, 2) := by decide +kernel
theorem dX5_init_7 : decode cX5_init 7 = .ok (.newarray .int, 2) := by decide +kernel
theorem dX5_init_9 : decode cX5_init 9 = .ok (.putfield 9, 3) := by decide +kernel
theorem dX5_init_12 : decode cX5_init 12 = .ok (.aload_n 0, 1) := by decide +kernel
theorem dX5_init_13 : decode cX5_init 13 = .ok (.bipush 120, 2) := by decide +kernel
theorem dX5_init_15 : decode cX5_init 15 = .ok (.newarray .int, 2) := by decide +kernel
theorem dX5_init_17 : decode cX5_init 17 = .ok (.putfield 15, 3) := by decide +kernel
theorem dX5_init_20 : decode cX5_init 20 = .ok (.aload_n 0, 1) := by decide +kernel
theorem dX5_init_21 : decode cX5_init 21 = .ok (.bipush 120, 2) := by decide +kernel
theorem dX5_init_23 : decode cX5_init 23 = .ok (.newarray .int, 2) := by decide +kernel
theorem dX5_init_25 : decode cX5_init 25 = .ok (.putfield 18, 3) := by decide +kernel
theorem dX5_init_28 : decode cX5_init 28 = .ok (.aload_n 0, 1) := by decide +kernel
theorem dX5_init_29 : decode cX5_init 29 = .ok (.bipush 120, 2) := by decide +kernel
theorem dX5_init_31 : decode cX5_init 31 = .ok (.newarray .int, 2) := by decide +kernel
theorem dX5_init_33 : decode cX5_init 33 = .ok (.putfield 21, 3) := by decide +kernel
theorem dX5_init_36 : decode cX5_init 36 = .ok (.aload_n 0, 1) := by decide +kernel
theorem dX5_init_37 : decode cX5_init 37 = .ok (.bipush 120, 2) := by decide +kernel
theorem dX5_init_39 : decode cX5_init 39 = .ok (.newarray .int, 2) := by decide +kernel
theorem dX5_init_41 : decode cX5_init 41 = .ok (.putfield 24, 3) := by decide +kernel
theorem dX5_init_44 : decode cX5_init 44 = .ok (.aload_n 0, 1) := by decide +kernel
theorem dX5_init_45 : decode cX5_init 45 = .ok (.bipush 120, 2) := by decide +kernel
theorem dX5_init_47 : decode cX5_init 47 = .ok (.newarray .int, 2) := by decide +kernel
theorem dX5_init_49 : decode cX5_init 49 = .ok (.putfield 27, 3) := by decide +kernel
theorem dX5_init_52 : decode cX5_init 52 = .ok (.aload_n 0, 1) := by decide +kernel
theorem dX5_init_53 : decode cX5_init 53 = .ok (.bipush 120, 2) := by decide +kernel
theorem dX5_init_55 : decode cX5_init 55 = .ok (.newarray .int, 2) := by decide +kernel
theorem dX5_init_57 : decode cX5_init 57 = .ok (.putfield 30, 3) := by decide +kernel
theorem dX5_init_60 : decode cX5_init 60 = .ok (.return_, 1) := by decide +kernel
set_option maxRecDepth 20000 in
theorem ggX5_add_X7_slot : GoodIn wsX5_add wsX7_slot := goodIn_r _ [10] rfl (by decide +kernel)
set_option maxRecDepth 20000 in
theorem gX5_add_X7_slot_n33 : GoodIn wsX5_add (wsX7_slot) := ggX5_add_X7_slot
set_option maxRecDepth 20000 in
theorem ggX5_add_X5_readsOf : GoodIn wsX5_add wsX5_readsOf := goodIn_r _ [14] rfl (by decide +kernel)
set_option maxRecDepth 20000 in
theorem gX5_add_X5_readsOf : GoodIn wsX5_add (va_wsS RX5 43 yX5_readsOf wsX5_readsOf) := goodIn_app (goodIn_of _ (by decide +kernel)) ggX5_add_X5_readsOf
set_option maxRecDepth 20000 in
theorem ggX5_add_X5_writesOf : GoodIn wsX5_add wsX5_writesOf := goodIn_r _ [17] rfl (by decide +kernel)
set_option maxRecDepth 20000 in
theorem gX5_add_X5_writesOf : GoodIn wsX5_add (va_wsS RX5 47 yX5_writesOf wsX5_writesOf) := goodIn_app (goodIn_of _ (by decide +kernel)) ggX5_add_X5_writesOf
theorem dX5_add_0 : decode cX5_add 0 = .ok (.iload_n 1, 1) := by decide +kernel
theorem dX5_add_1 : decode cX5_add 1 = .ok (.aload_n 0, 1) := by decide +kernel
theorem dX5_add_2 : decode cX5_add 2 = .ok (.getfield 9, 3) := by decide +kernel
theorem dX5_add_5 : decode cX5_add 5 = .ok (.iload_n 1, 1) := by decide +kernel
theorem dX5_add_6 : decode cX5_add 6 = .ok (.iaload, 1) := by decide +kernel
theorem dX5_add_7 : decode cX5_add 7 = .ok (.invokestatic 33, 3) := by decide +kernel
theorem dX5_add_10 : decode cX5_add 10 = .ok (.istore 6, 2) := by decide +kernel
theorem dX5_add_12 : decode cX5_add 12 = .ok (.aload_n 0, 1) := by decide +kernel
theorem dX5_add_13 : decode cX5_add 13 = .ok (.getfield 15, 3) := by decide +kernel
theorem dX5_add_16 : decode cX5_add 16 = .ok (.iload 6, 2) := by decide +kernel
theorem dX5_add_18 : decode cX5_add 18 = .ok (.iload_n 2, 1) := by decide +kernel
theorem dX5_add_19 : decode cX5_add 19 = .ok (.iastore, 1) := by decide +kernel
theorem dX5_add_20 : decode cX5_add 20 = .ok (.aload_n 0, 1) := by decide +kernel
theorem dX5_add_21 : decode cX5_add 21 = .ok (.getfield 18, 3) := by decide +kernel
theorem dX5_add_24 : decode cX5_add 24 = .ok (.iload 6, 2) := by decide +kernel
theorem dX5_add_26 : decode cX5_add 26 = .ok (.getstatic 37, 3) := by decide +kernel
theorem dX5_add_29 : decode cX5_add 29 = .ok (.iload_n 2, 1) := by decide +kernel
theorem dX5_add_30 : decode cX5_add 30 = .ok (.iaload, 1) := by decide +kernel
theorem dX5_add_31 : decode cX5_add 31 = .ok (.ifCond .ne 7, 3) := by decide +kernel
theorem dX5_add_34 : decode cX5_add 34 = .ok (.iconst (-1), 1) := by decide +kernel
theorem dX5_add_35 : decode cX5_add 35 = .ok (.goto 4, 3) := by decide +kernel
theorem dX5_add_38 : decode cX5_add 38 = .ok (.iload_n 3, 1) := by decide +kernel
theorem dX5_add_39 : decode cX5_add 39 = .ok (.iastore, 1) := by decide +kernel
theorem dX5_add_40 : decode cX5_add 40 = .ok (.aload_n 0, 1) := by decide +kernel
theorem dX5_add_41 : decode cX5_add 41 = .ok (.getfield 21, 3) := by decide +kernel
theorem dX5_add_44 : decode cX5_add 44 = .ok (.iload 6, 2) := by decide +kernel
theorem dX5_add_46 : decode cX5_add 46 = .ok (.iload 4, 2) := by decide +kernel
theorem dX5_add_48 : decode cX5_add 48 = .ok (.iastore, 1) := by decide +kernel
theorem dX5_add_49 : decode cX5_add 49 = .ok (.aload_n 0, 1) := by decide +kernel
theorem dX5_add_50 : decode cX5_add 50 = .ok (.getfield 24, 3) := by decide +kernel
theorem dX5_add_53 : decode cX5_add 53 = .ok (.iload 6, 2) := by decide +kernel
theorem dX5_add_55 : decode cX5_add 55 = .ok (.getstatic 40, 3) := by decide +kernel
theorem dX5_add_58 : decode cX5_add 58 = .ok (.iload_n 2, 1) := by decide +kernel
theorem dX5_add_59 : decode cX5_add 59 = .ok (.iaload, 1) := by decide +kernel
theorem dX5_add_60 : decode cX5_add 60 = .ok (.ifCond .ne 7, 3) := by decide +kernel
theorem dX5_add_63 : decode cX5_add 63 = .ok (.iconst (-1), 1) := by decide +kernel
theorem dX5_add_64 : decode cX5_add 64 = .ok (.goto 5, 3) := by decide +kernel
theorem dX5_add_67 : decode cX5_add 67 = .ok (.iload 5, 2) := by decide +kernel
theorem dX5_add_69 : decode cX5_add 69 = .ok (.iastore, 1) := by decide +kernel
theorem dX5_add_70 : decode cX5_add 70 = .ok (.aload_n 0, 1) := by decide +kernel
theorem dX5_add_71 : decode cX5_add 71 = .ok (.getfield 27, 3) := by decide +kernel
theorem dX5_add_74 : decode cX5_add 74 = .ok (.iload 6, 2) := by decide +kernel
theorem dX5_add_76 : decode cX5_add 76 = .ok (.iload_n 2, 1) := by decide +kernel
theorem dX5_add_77 : decode cX5_add 77 = .ok (.iload 4, 2) := by decide +kernel
theorem dX5_add_79 : decode cX5_add 79 = .ok (.iload 5, 2) := by decide +kernel
theorem dX5_add_81 : decode cX5_add 81 = .ok (.invokestatic 43, 3) := by decide +kernel
theorem dX5_add_84 : decode cX5_add 84 = .ok (.iastore, 1) := by decide +kernel
theorem dX5_add_85 : decode cX5_add 85 = .ok (.aload_n 0, 1) := by decide +kernel
theorem dX5_add_86 : decode cX5_add 86 = .ok (.getfield 30, 3) := by decide +kernel
theorem dX5_add_89 : decode cX5_add 89 = .ok (.iload 6, 2) := by decide +kernel
theorem dX5_add_91 : decode cX5_add 91 = .ok (.iload_n 2, 1) := by decide +kernel
theorem dX5_add_92 : decode cX5_add 92 = .ok (.iload_n 3, 1) := by decide +kernel
theorem dX5_add_93 : decode cX5_add 93 = .ok (.invokestatic 47, 3) := by decide +kernel
theorem dX5_add_96 : decode cX5_add 96 = .ok (.iastore, 1) := by decide +kernel
theorem dX5_add_97 : decode cX5_add 97 = .ok (.aload_n 0, 1) := by decide +kernel
theorem dX5_add_98 : decode cX5_add 98 = .ok (.getfield 9, 3) := by decide +kernel
theorem dX5_add_101 : decode cX5_add 101 = .ok (.iload_n 1, 1) := by decide +kernel
theorem dX5_add_102 : decode cX5_add 102 = .ok (.dup2, 1) := by decide +kernel
theorem dX5_add_103 : decode cX5_add 103 = .ok (.iaload, 1) := by decide +kernel
theorem dX5_add_104 : decode cX5_add 104 = .ok (.iconst 1, 1) := by decide +kernel
theorem dX5_add_105 : decode cX5_add 105 = .ok (.iadd, 1) := by decide +kernel
theorem dX5_add_106 : decode cX5_add 106 = .ok (.iastore, 1) := by decide +kernel
theorem dX5_add_107 : decode cX5_add 107 = .ok (.return_, 1) := by decide +kernel
theorem dX5_readsOf_0 : decode cX5_readsOf 0 = .ok (.iconst 0, 1) := by decide +kernel
theorem dX5_readsOf_1 : decode cX5_readsOf 1 = .ok (.istore_n 3, 1) := by decide +kernel
theorem dX5_readsOf_2 : decode cX5_readsOf 2 = .ok (.getstatic 50, 3) := by decide +kernel
theorem dX5_readsOf_5 : decode cX5_readsOf 5 = .ok (.iload_n 0, 1) := by decide +kernel
theorem dX5_readsOf_6 : decode cX5_readsOf 6 = .ok (.iaload, 1) := by decide +kernel
theorem dX5_readsOf_7 : decode cX5_readsOf 7 = .ok (.iconst 1, 1) := by decide +kernel
theorem dX5_readsOf_8 : decode cX5_readsOf 8 = .ok (.if_icmp .ne 9, 3) := by decide +kernel
theorem dX5_readsOf_11 : decode cX5_readsOf 11 = .ok (.iload_n 3, 1) := by decide +kernel
theorem dX5_readsOf_12 : decode cX5_readsOf 12 = .ok (.iconst 1, 1) := by decide +kernel
theorem dX5_readsOf_13 : decode cX5_readsOf 13 = .ok (.iload_n 1, 1) := by decide +kernel
theorem dX5_readsOf_14 : decode cX5_readsOf 14 = .ok (.ishl, 1) := by decide +kernel
theorem dX5_readsOf_15 : decode cX5_readsOf 15 = .ok (.ior, 1) := by decide +kernel
theorem dX5_readsOf_16 : decode cX5_readsOf 16 = .ok (.istore_n 3, 1) := by decide +kernel
theorem dX5_readsOf_17 : decode cX5_readsOf 17 = .ok (.getstatic 40, 3) := by decide +kernel
theorem dX5_readsOf_20 : decode cX5_readsOf 20 = .ok (.iload_n 0, 1) := by decide +kernel
theorem dX5_readsOf_21 : decode cX5_readsOf 21 = .ok (.iaload, 1) := by decide +kernel
theorem dX5_readsOf_22 : decode cX5_readsOf 22 = .ok (.iconst 1, 1) := by decide +kernel
theorem dX5_readsOf_23 : decode cX5_readsOf 23 = .ok (.if_icmp .ne 9, 3) := by decide +kernel
theorem dX5_readsOf_26 : decode cX5_readsOf 26 = .ok (.iload_n 3, 1) := by decide +kernel
theorem dX5_readsOf_27 : decode cX5_readsOf 27 = .ok (.iconst 1, 1) := by decide +kernel
theorem dX5_readsOf_28 : decode cX5_readsOf 28 = .ok (.iload_n 2, 1) := by decide +kernel
theorem dX5_readsOf_29 : decode cX5_readsOf 29 = .ok (.ishl, 1) := by decide +kernel
theorem dX5_readsOf_30 : decode cX5_readsOf 30 = .ok (.ior, 1) := by decide +kernel
theorem dX5_readsOf_31 : decode cX5_readsOf 31 = .ok (.istore_n 3, 1) := by decide +kernel
theorem dX5_readsOf_32 : decode cX5_readsOf 32 = .ok (.iload_n 0, 1) := by decide +kernel
theorem dX5_readsOf_33 : decode cX5_readsOf 33 = .ok (.bipush 7, 2) := by decide +kernel
theorem dX5_readsOf_35 : decode cX5_readsOf 35 = .ok (.if_icmp .ne 9, 3) := by decide +kernel
theorem dX5_readsOf_38 : decode cX5_readsOf 38 = .ok (.iload_n 3, 1) := by decide +kernel
theorem dX5_readsOf_39 : decode cX5_readsOf 39 = .ok (.sipush 1024, 3) := by decide +kernel
theorem dX5_readsOf_42 : decode cX5_readsOf 42 = .ok (.ior, 1) := by decide +kernel
theorem dX5_readsOf_43 : decode cX5_readsOf 43 = .ok (.istore_n 3, 1) := by decide +kernel
theorem dX5_readsOf_44 : decode cX5_readsOf 44 = .ok (.iload_n 0, 1) := by decide +kernel
theorem dX5_readsOf_45 : decode cX5_readsOf 45 = .ok (.bipush 9, 2) := by decide +kernel
theorem dX5_readsOf_47 : decode cX5_readsOf 47 = .ok (.if_icmp .eq 9, 3) := by decide +kernel
theorem dX5_readsOf_50 : decode cX5_readsOf 50 = .ok (.iload_n 0, 1) := by decide +kernel
theorem dX5_readsOf_51 : decode cX5_readsOf 51 = .ok (.bipush 10, 2) := by decide +kernel
theorem dX5_readsOf_53 : decode cX5_readsOf 53 = .ok (.if_icmp .ne 12, 3) := by decide +kernel
theorem dX5_readsOf_56 : decode cX5_readsOf 56 = .ok (.iload_n 3, 1) := by decide +kernel
theorem dX5_readsOf_57 : decode cX5_readsOf 57 = .ok (.iconst 1, 1) := by decide +kernel
theorem dX5_readsOf_58 : decode cX5_readsOf 58 = .ok (.bipush 8, 2) := by decide +kernel
theorem dX5_readsOf_60 : decode cX5_readsOf 60 = .ok (.iload_n 1, 1) := by decide +kernel
theorem dX5_readsOf_61 : decode cX5_readsOf 61 = .ok (.iadd, 1) := by decide +kernel
theorem dX5_readsOf_62 : decode cX5_readsOf 62 = .ok (.ishl, 1) := by decide +kernel
theorem dX5_readsOf_63 : decode cX5_readsOf 63 = .ok (.ior, 1) := by decide +kernel
theorem dX5_readsOf_64 : decode cX5_readsOf 64 = .ok (.istore_n 3, 1) := by decide +kernel
theorem dX5_readsOf_65 : decode cX5_readsOf 65 = .ok (.iload_n 3, 1) := by decide +kernel
theorem dX5_readsOf_66 : decode cX5_readsOf 66 = .ok (.ireturn, 1) := by decide +kernel
theorem dX5_writesOf_0 : decode cX5_writesOf 0 = .ok (.iconst 0, 1) := by decide +kernel
theorem dX5_writesOf_1 : decode cX5_writesOf 1 = .ok (.istore_n 2, 1) := by decide +kernel
theorem dX5_writesOf_2 : decode cX5_writesOf 2 = .ok (.getstatic 37, 3) := by decide +kernel
theorem dX5_writesOf_5 : decode cX5_writesOf 5 = .ok (.iload_n 0, 1) := by decide +kernel
theorem dX5_writesOf_6 : decode cX5_writesOf 6 = .ok (.iaload, 1) := by decide +kernel
theorem dX5_writesOf_7 : decode cX5_writesOf 7 = .ok (.iconst 1, 1) := by decide +kernel
theorem dX5_writesOf_8 : decode cX5_writesOf 8 = .ok (.if_icmp .ne 9, 3) := by decide +kernel
theorem dX5_writesOf_11 : decode cX5_writesOf 11 = .ok (.iload_n 2, 1) := by decide +kernel
theorem dX5_writesOf_12 : decode cX5_writesOf 12 = .ok (.iconst 1, 1) := by decide +kernel
theorem dX5_writesOf_13 : decode cX5_writesOf 13 = .ok (.iload_n 1, 1) := by decide +kernel
theorem dX5_writesOf_14 : decode cX5_writesOf 14 = .ok (.ishl, 1) := by decide +kernel
theorem dX5_writesOf_15 : decode cX5_writesOf 15 = .ok (.ior, 1) := by decide +kernel
theorem dX5_writesOf_16 : decode cX5_writesOf 16 = .ok (.istore_n 2, 1) := by decide +kernel
theorem dX5_writesOf_17 : decode cX5_writesOf 17 = .ok (.getstatic 53, 3) := by decide +kernel
theorem dX5_writesOf_20 : decode cX5_writesOf 20 = .ok (.iload_n 0, 1) := by decide +kernel
theorem dX5_writesOf_21 : decode cX5_writesOf 21 = .ok (.iaload, 1) := by decide +kernel
theorem dX5_writesOf_22 : decode cX5_writesOf 22 = .ok (.iconst 1, 1) := by decide +kernel
theorem dX5_writesOf_23 : decode cX5_writesOf 23 = .ok (.if_icmp .ne 9, 3) := by decide +kernel
theorem dX5_writesOf_26 : decode cX5_writesOf 26 = .ok (.iload_n 2, 1) := by decide +kernel
theorem dX5_writesOf_27 : decode cX5_writesOf 27 = .ok (.sipush 768, 3) := by decide +kernel
theorem dX5_writesOf_30 : decode cX5_writesOf 30 = .ok (.ior, 1) := by decide +kernel
theorem dX5_writesOf_31 : decode cX5_writesOf 31 = .ok (.istore_n 2, 1) := by decide +kernel
theorem dX5_writesOf_32 : decode cX5_writesOf 32 = .ok (.iload_n 0, 1) := by decide +kernel
theorem dX5_writesOf_33 : decode cX5_writesOf 33 = .ok (.bipush 8, 2) := by decide +kernel
theorem dX5_writesOf_35 : decode cX5_writesOf 35 = .ok (.if_icmp .ne 9, 3) := by decide +kernel
theorem dX5_writesOf_38 : decode cX5_writesOf 38 = .ok (.iload_n 2, 1) := by decide +kernel
theorem dX5_writesOf_39 : decode cX5_writesOf 39 = .ok (.sipush 1024, 3) := by decide +kernel
theorem dX5_writesOf_42 : decode cX5_writesOf 42 = .ok (.ior, 1) := by decide +kernel
theorem dX5_writesOf_43 : decode cX5_writesOf 43 = .ok (.istore_n 2, 1) := by decide +kernel
theorem dX5_writesOf_44 : decode cX5_writesOf 44 = .ok (.iload_n 2, 1) := by decide +kernel
theorem dX5_writesOf_45 : decode cX5_writesOf 45 = .ok (.ireturn, 1) := by decide +kernel
theorem dX5_partOf_0 : decode cX5_partOf 0 = .ok (.getstatic 53, 3) := by decide +kernel
theorem dX5_partOf_3 : decode cX5_partOf 3 = .ok (.aload_n 0, 1) := by decide +kernel
theorem dX5_partOf_4 : decode cX5_partOf 4 = .ok (.getfield 15, 3) := by decide +kernel
theorem dX5_partOf_7 : decode cX5_partOf 7 = .ok (.iload_n 1, 1) := by decide +kernel
theorem dX5_partOf_8 : decode cX5_partOf 8 = .ok (.iaload, 1) := by decide +kernel
theorem dX5_partOf_9 : decode cX5_partOf 9 = .ok (.iaload, 1) := by decide +kernel
theorem dX5_partOf_10 : decode cX5_partOf 10 = .ok (.ireturn, 1) := by decide +kernel
theorem dX5_canTrap_0 : decode cX5_canTrap 0 = .ok (.aload_n 0, 1) := by decide +kernel
theorem dX5_canTrap_1 : decode cX5_canTrap 1 = .ok (.getfield 15, 3) := by decide +kernel
theorem dX5_canTrap_4 : decode cX5_canTrap 4 = .ok (.iload_n 1, 1) := by decide +kernel
theorem dX5_canTrap_5 : decode cX5_canTrap 5 = .ok (.iaload, 1) := by decide +kernel
theorem dX5_canTrap_6 : decode cX5_canTrap 6 = .ok (.istore_n 2, 1) := by decide +kernel
theorem dX5_canTrap_7 : decode cX5_canTrap 7 = .ok (.iload_n 2, 1) := by decide +kernel
theorem dX5_canTrap_8 : decode cX5_canTrap 8 = .ok (.bipush 7, 2) := by decide +kernel
theorem dX5_canTrap_10 : decode cX5_canTrap 10 = .ok (.if_icmp .eq 15, 3) := by decide +kernel
theorem dX5_canTrap_13 : decode cX5_canTrap 13 = .ok (.iload_n 2, 1) := by decide +kernel
theorem dX5_canTrap_14 : decode cX5_canTrap 14 = .ok (.bipush 8, 2) := by decide +kernel
theorem dX5_canTrap_16 : decode cX5_canTrap 16 = .ok (.if_icmp .eq 9, 3) := by decide +kernel
theorem dX5_canTrap_19 : decode cX5_canTrap 19 = .ok (.iload_n 2, 1) := by decide +kernel
theorem dX5_canTrap_20 : decode cX5_canTrap 20 = .ok (.bipush 10, 2) := by decide +kernel
theorem dX5_canTrap_22 : decode cX5_canTrap 22 = .ok (.if_icmp .ne 7, 3) := by decide +kernel
theorem dX5_canTrap_25 : decode cX5_canTrap 25 = .ok (.iconst 1, 1) := by decide +kernel
theorem dX5_canTrap_26 : decode cX5_canTrap 26 = .ok (.goto 4, 3) := by decide +kernel
theorem dX5_canTrap_29 : decode cX5_canTrap 29 = .ok (.iconst 0, 1) := by decide +kernel
theorem dX5_canTrap_30 : decode cX5_canTrap 30 = .ok (.ireturn, 1) := by decide +kernel
theorem dX5_same_0 : decode cX5_same 0 = .ok (.aload_n 0, 1) := by decide +kernel
theorem dX5_same_1 : decode cX5_same 1 = .ok (.getfield 15, 3) := by decide +kernel
theorem dX5_same_4 : decode cX5_same 4 = .ok (.iload_n 1, 1) := by decide +kernel
theorem dX5_same_5 : decode cX5_same 5 = .ok (.iaload, 1) := by decide +kernel
theorem dX5_same_6 : decode cX5_same 6 = .ok (.aload_n 0, 1) := by decide +kernel
theorem dX5_same_7 : decode cX5_same 7 = .ok (.getfield 15, 3) := by decide +kernel
theorem dX5_same_10 : decode cX5_same 10 = .ok (.iload_n 2, 1) := by decide +kernel
theorem dX5_same_11 : decode cX5_same 11 = .ok (.iaload, 1) := by decide +kernel
theorem dX5_same_12 : decode cX5_same 12 = .ok (.if_icmp .ne 52, 3) := by decide +kernel
theorem dX5_same_15 : decode cX5_same 15 = .ok (.aload_n 0, 1) := by decide +kernel
theorem dX5_same_16 : decode cX5_same 16 = .ok (.getfield 18, 3) := by decide +kernel
theorem dX5_same_19 : decode cX5_same 19 = .ok (.iload_n 1, 1) := by decide +kernel
theorem dX5_same_20 : decode cX5_same 20 = .ok (.iaload, 1) := by decide +kernel
theorem dX5_same_21 : decode cX5_same 21 = .ok (.aload_n 0, 1) := by decide +kernel
theorem dX5_same_22 : decode cX5_same 22 = .ok (.getfield 18, 3) := by decide +kernel
theorem dX5_same_25 : decode cX5_same 25 = .ok (.iload_n 2, 1) := by decide +kernel
theorem dX5_same_26 : decode cX5_same 26 = .ok (.iaload, 1) := by decide +kernel
theorem dX5_same_27 : decode cX5_same 27 = .ok (.if_icmp .ne 37, 3) := by decide +kernel
theorem dX5_same_30 : decode cX5_same 30 = .ok (.aload_n 0, 1) := by decide +kernel
theorem dX5_same_31 : decode cX5_same 31 = .ok (.getfield 21, 3) := by decide +kernel
theorem dX5_same_34 : decode cX5_same 34 = .ok (.iload_n 1, 1) := by decide +kernel
theorem dX5_same_35 : decode cX5_same 35 = .ok (.iaload, 1) := by decide +kernel
theorem dX5_same_36 : decode cX5_same 36 = .ok (.aload_n 0, 1) := by decide +kernel
theorem dX5_same_37 : decode cX5_same 37 = .ok (.getfield 21, 3) := by decide +kernel
theorem dX5_same_40 : decode cX5_same 40 = .ok (.iload_n 2, 1) := by decide +kernel
theorem dX5_same_41 : decode cX5_same 41 = .ok (.iaload, 1) := by decide +kernel
theorem dX5_same_42 : decode cX5_same 42 = .ok (.if_icmp .ne 22, 3) := by decide +kernel
theorem dX5_same_45 : decode cX5_same 45 = .ok (.aload_n 0, 1) := by decide +kernel
theorem dX5_same_46 : decode cX5_same 46 = .ok (.getfield 24, 3) := by decide +kernel
theorem dX5_same_49 : decode cX5_same 49 = .ok (.iload_n 1, 1) := by decide +kernel
theorem dX5_same_50 : decode cX5_same 50 = .ok (.iaload, 1) := by decide +kernel
theorem dX5_same_51 : decode cX5_same 51 = .ok (.aload_n 0, 1) := by decide +kernel
theorem dX5_same_52 : decode cX5_same 52 = .ok (.getfield 24, 3) := by decide +kernel
theorem dX5_same_55 : decode cX5_same 55 = .ok (.iload_n 2, 1) := by decide +kernel
theorem dX5_same_56 : decode cX5_same 56 = .ok (.iaload, 1) := by decide +kernel
theorem dX5_same_57 : decode cX5_same 57 = .ok (.if_icmp .ne 7, 3) := by decide +kernel
theorem dX5_same_60 : decode cX5_same 60 = .ok (.iconst 1, 1) := by decide +kernel
theorem dX5_same_61 : decode cX5_same 61 = .ok (.goto 4, 3) := by decide +kernel
theorem dX5_same_64 : decode cX5_same 64 = .ok (.iconst 0, 1) := by decide +kernel
theorem dX5_same_65 : decode cX5_same 65 = .ok (.ireturn, 1) := by decide +kernel
set_option maxRecDepth 20000 in
theorem ggX5_need_X5_canTrap : GoodIn wsX5_need wsX5_canTrap := goodIn_r _ [8, 3, 9, 10, 11, 12, 13, 14, 15] rfl (by decide +kernel)
set_option maxRecDepth 20000 in
theorem gX5_need_X5_canTrap : GoodIn wsX5_need (wsV RX5 56 RX5 yX5_canTrap wsX5_canTrap) := goodIn_app (goodIn_of _ (by decide +kernel)) ggX5_need_X5_canTrap
theorem dX5_need_0 : decode cX5_need 0 = .ok (.aload_n 0, 1) := by decide +kernel
theorem dX5_need_1 : decode cX5_need 1 = .ok (.getfield 30, 3) := by decide +kernel
theorem dX5_need_4 : decode cX5_need 4 = .ok (.iload_n 1, 1) := by decide +kernel
theorem dX5_need_5 : decode cX5_need 5 = .ok (.iaload, 1) := by decide +kernel
theorem dX5_need_6 : decode cX5_need 6 = .ok (.aload_n 0, 1) := by decide +kernel
theorem dX5_need_7 : decode cX5_need 7 = .ok (.getfield 27, 3) := by decide +kernel
theorem dX5_need_10 : decode cX5_need 10 = .ok (.iload_n 2, 1) := by decide +kernel
theorem dX5_need_11 : decode cX5_need 11 = .ok (.iaload, 1) := by decide +kernel
theorem dX5_need_12 : decode cX5_need 12 = .ok (.aload_n 0, 1) := by decide +kernel
theorem dX5_need_13 : decode cX5_need 13 = .ok (.getfield 30, 3) := by decide +kernel
theorem dX5_need_16 : decode cX5_need 16 = .ok (.iload_n 2, 1) := by decide +kernel
theorem dX5_need_17 : decode cX5_need 17 = .ok (.iaload, 1) := by decide +kernel
theorem dX5_need_18 : decode cX5_need 18 = .ok (.ior, 1) := by decide +kernel
theorem dX5_need_19 : decode cX5_need 19 = .ok (.iand, 1) := by decide +kernel
theorem dX5_need_20 : decode cX5_need 20 = .ok (.ifCond .ne 14, 3) := by decide +kernel
theorem dX5_need_23 : decode cX5_need 23 = .ok (.aload_n 0, 1) := by decide +kernel
theorem dX5_need_24 : decode cX5_need 24 = .ok (.getfield 15, 3) := by decide +kernel
theorem dX5_need_27 : decode cX5_need 27 = .ok (.iload_n 1, 1) := by decide +kernel
theorem dX5_need_28 : decode cX5_need 28 = .ok (.iaload, 1) := by decide +kernel
theorem dX5_need_29 : decode cX5_need 29 = .ok (.bipush 9, 2) := by decide +kernel
theorem dX5_need_31 : decode cX5_need 31 = .ok (.if_icmp .ne 5, 3) := by decide +kernel
theorem dX5_need_34 : decode cX5_need 34 = .ok (.iconst 2, 1) := by decide +kernel
theorem dX5_need_35 : decode cX5_need 35 = .ok (.ireturn, 1) := by decide +kernel
theorem dX5_need_36 : decode cX5_need 36 = .ok (.aload_n 0, 1) := by decide +kernel
theorem dX5_need_37 : decode cX5_need 37 = .ok (.iload_n 1, 1) := by decide +kernel
theorem dX5_need_38 : decode cX5_need 38 = .ok (.invokevirtual 56, 3) := by decide +kernel
theorem dX5_need_41 : decode cX5_need 41 = .ok (.ifCond .eq 22, 3) := by decide +kernel
theorem dX5_need_44 : decode cX5_need 44 = .ok (.aload_n 0, 1) := by decide +kernel
theorem dX5_need_45 : decode cX5_need 45 = .ok (.getfield 30, 3) := by decide +kernel
theorem dX5_need_48 : decode cX5_need 48 = .ok (.iload_n 2, 1) := by decide +kernel
theorem dX5_need_49 : decode cX5_need 49 = .ok (.iaload, 1) := by decide +kernel
theorem dX5_need_50 : decode cX5_need 50 = .ok (.ifCond .ne 11, 3) := by decide +kernel
theorem dX5_need_53 : decode cX5_need 53 = .ok (.aload_n 0, 1) := by decide +kernel
theorem dX5_need_54 : decode cX5_need 54 = .ok (.iload_n 2, 1) := by decide +kernel
theorem dX5_need_55 : decode cX5_need 55 = .ok (.invokevirtual 56, 3) := by decide +kernel
theorem dX5_need_58 : decode cX5_need 58 = .ok (.ifCond .eq 5, 3) := by decide +kernel
theorem dX5_need_61 : decode cX5_need 61 = .ok (.iconst 2, 1) := by decide +kernel
theorem dX5_need_62 : decode cX5_need 62 = .ok (.ireturn, 1) := by decide +kernel
theorem dX5_need_63 : decode cX5_need 63 = .ok (.aload_n 0, 1) := by decide +kernel
theorem dX5_need_64 : decode cX5_need 64 = .ok (.getfield 27, 3) := by decide +kernel
theorem dX5_need_67 : decode cX5_need 67 = .ok (.iload_n 1, 1) := by decide +kernel
theorem dX5_need_68 : decode cX5_need 68 = .ok (.iaload, 1) := by decide +kernel
theorem dX5_need_69 : decode cX5_need 69 = .ok (.aload_n 0, 1) := by decide +kernel
theorem dX5_need_70 : decode cX5_need 70 = .ok (.getfield 30, 3) := by decide +kernel
theorem dX5_need_73 : decode cX5_need 73 = .ok (.iload_n 2, 1) := by decide +kernel
theorem dX5_need_74 : decode cX5_need 74 = .ok (.iaload, 1) := by decide +kernel
theorem dX5_need_75 : decode cX5_need 75 = .ok (.iand, 1) := by decide +kernel
theorem dX5_need_76 : decode cX5_need 76 = .ok (.ifCond .ne 14, 3) := by decide +kernel
theorem dX5_need_79 : decode cX5_need 79 = .ok (.aload_n 0, 1) := by decide +kernel
theorem dX5_need_80 : decode cX5_need 80 = .ok (.getfield 15, 3) := by decide +kernel
theorem dX5_need_83 : decode cX5_need 83 = .ok (.iload_n 2, 1) := by decide +kernel
theorem dX5_need_84 : decode cX5_need 84 = .ok (.iaload, 1) := by decide +kernel
theorem dX5_need_85 : decode cX5_need 85 = .ok (.bipush 9, 2) := by decide +kernel
theorem dX5_need_87 : decode cX5_need 87 = .ok (.if_icmp .ne 5, 3) := by decide +kernel
theorem dX5_need_90 : decode cX5_need 90 = .ok (.iconst 1, 1) := by decide +kernel
theorem dX5_need_91 : decode cX5_need 91 = .ok (.ireturn, 1) := by decide +kernel
theorem dX5_need_92 : decode cX5_need 92 = .ok (.iconst 0, 1) := by decide +kernel
theorem dX5_need_93 : decode cX5_need 93 = .ok (.ireturn, 1) := by decide +kernel
theorem dX6_init_0 : decode cX6_init 0 = .ok (.aload_n 0, 1) := by decide +kernel
theorem dX6_init_1 : decode cX6_init 1 = .ok (.invokespecial 3, 3) := by decide +kernel
theorem dX6_init_4 : decode cX6_init 4 = .ok (.aload_n 0, 1) := by decide +kernel
theorem dX6_init_5 : decode cX6_init 5 = .ok (.bipush 10, 2) := by decide +kernel
theorem dX6_init_7 : decode cX6_init 7 = .ok (.newarray .int, 2) := by decide +kernel
theorem dX6_init_9 : decode cX6_init 9 = .ok (.putfield 9, 3) := by decide +kernel
theorem dX6_init_12 : decode cX6_init 12 = .ok (.aload_n 0, 1) := by decide +kernel
theorem dX6_init_13 : decode cX6_init 13 = .ok (.bipush 10, 2) := by decide +kernel
theorem dX6_init_15 : decode cX6_init 15 = .ok (.newarray .int, 2) := by decide +kernel
theorem dX6_init_17 : decode cX6_init 17 = .ok (.putfield 15, 3) := by decide +kernel
theorem dX6_init_20 : decode cX6_init 20 = .ok (.aload_n 0, 1) := by decide +kernel
theorem dX6_init_21 : decode cX6_init 21 = .ok (.bipush 10, 2) := by decide +kernel
theorem dX6_init_23 : decode cX6_init 23 = .ok (.newarray .int, 2) := by decide +kernel
theorem dX6_init_25 : decode cX6_init 25 = .ok (.putfield 18, 3) := by decide +kernel
theorem dX6_init_28 : decode cX6_init 28 = .ok (.aload_n 0, 1) := by decide +kernel
theorem dX6_init_29 : decode cX6_init 29 = .ok (.bipush 10, 2) := by decide +kernel
theorem dX6_init_31 : decode cX6_init 31 = .ok (.newarray .int, 2) := by decide +kernel
theorem dX6_init_33 : decode cX6_init 33 = .ok (.putfield 21, 3) := by decide +kernel
theorem dX6_init_36 : decode cX6_init 36 = .ok (.aload_n 0, 1) := by decide +kernel
theorem dX6_init_37 : decode cX6_init 37 = .ok (.iconst 5, 1) := by decide +kernel
theorem dX6_init_38 : decode cX6_init 38 = .ok (.newarray .int, 2) := by decide +kernel
theorem dX6_init_40 : decode cX6_init 40 = .ok (.putfield 24, 3) := by decide +kernel
theorem dX6_init_43 : decode cX6_init 43 = .ok (.aload_n 0, 1) := by decide +kernel
theorem dX6_init_44 : decode cX6_init 44 = .ok (.iconst 5, 1) := by decide +kernel
theorem dX6_init_45 : decode cX6_init 45 = .ok (.newarray .int, 2) := by decide +kernel
theorem dX6_init_47 : decode cX6_init 47 = .ok (.putfield 27, 3) := by decide +kernel
theorem dX6_init_50 : decode cX6_init 50 = .ok (.aload_n 0, 1) := by decide +kernel
theorem dX6_init_51 : decode cX6_init 51 = .ok (.sipush 1024, 3) := by decide +kernel
theorem dX6_init_54 : decode cX6_init 54 = .ok (.newarray .byte, 2) := by decide +kernel
theorem dX6_init_56 : decode cX6_init 56 = .ok (.putfield 30, 3) := by decide +kernel
theorem dX6_init_59 : decode cX6_init 59 = .ok (.aload_n 0, 1) := by decide +kernel
theorem dX6_init_60 : decode cX6_init 60 = .ok (.aload_n 1, 1) := by decide +kernel
theorem dX6_init_61 : decode cX6_init 61 = .ok (.putfield 34, 3) := by decide +kernel
theorem dX6_init_64 : decode cX6_init 64 = .ok (.return_, 1) := by decide +kernel
set_option maxRecDepth 20000 in
theorem ggX6_solve_X6_learnParts : GoodIn wsX6_solve wsX6_learnParts := goodIn_r _ [10, 11, 12, 3, 1, 13, 14, 15, 16, 17, 18, 19, 20, 21, 22, 23, 24, 25, 76, 77, 78, 79, 80, 81, 82, 83, 84, 85, 86, 87, 88, 89, 90, 91, 92] rfl (by decide +kernel)
set_option maxRecDepth 20000 in
theorem gX6_solve_X6_learnParts : GoodIn wsX6_solve (wsV RX6 47 RX6 yX6_learnParts wsX6_learnParts) := goodIn_app (goodIn_of _ (by decide +kernel)) ggX6_solve_X6_learnParts
set_option maxRecDepth 20000 in
theorem ggX6_solve_X6_learnNeeds : GoodIn wsX6_solve wsX6_learnNeeds := goodIn_r _ [29, 30, 31, 32, 3, 1, 33, 34, 35, 36, 13, 14, 15, 16, 17, 18, 19, 37, 38, 39, 23, 40, 41, 42, 25, 43, 44, 45, 46, 76, 77, 78, 79, 80, 81, 82, 83, 84, 85, 86, 87, 88, 89, 90, 91, 92] rfl (by decide +kernel)
set_option maxRecDepth 20000 in
theorem gX6_solve_X6_learnNeeds : GoodIn wsX6_solve (wsV RX6 51 RX6 yX6_learnNeeds wsX6_learnNeeds) := goodIn_app (goodIn_of _ (by decide +kernel)) ggX6_solve_X6_learnNeeds
set_option maxRecDepth 20000 in
theorem ggX6_solve_X6_fill : GoodIn wsX6_solve wsX6_fill := goodIn_r _ [49, 3, 5, 4, 50, 51, 52, 53, 9, 54, 11, 12, 32, 55, 56, 57, 58, 59, 60, 61, 62, 18, 63, 64, 65, 66, 67, 30, 31, 68, 69, 70, 71, 72, 73, 74, 75, 47, 48, 76, 77, 78, 79, 80, 81, 82, 83, 84, 85] rfl (by decide +kernel)
set_option maxRecDepth 20000 in
theorem gX6_solve_X6_fill : GoodIn wsX6_solve (va_wsS RX6 58 yX6_fill wsX6_fill) := goodIn_app (goodIn_of _ (by decide +kernel)) ggX6_solve_X6_fill
theorem dX6_solve_0 : decode cX6_solve 0 = .ok (.aload_n 0, 1) := by decide +kernel
theorem dX6_solve_1 : decode cX6_solve 1 = .ok (.aload_n 0, 1) := by decide +kernel
theorem dX6_solve_2 : decode cX6_solve 2 = .ok (.getfield 34, 3) := by decide +kernel
theorem dX6_solve_5 : decode cX6_solve 5 = .ok (.getfield 38, 3) := by decide +kernel
theorem dX6_solve_8 : decode cX6_solve 8 = .ok (.iload_n 1, 1) := by decide +kernel
theorem dX6_solve_9 : decode cX6_solve 9 = .ok (.iaload, 1) := by decide +kernel
theorem dX6_solve_10 : decode cX6_solve 10 = .ok (.putfield 43, 3) := by decide +kernel
theorem dX6_solve_13 : decode cX6_solve 13 = .ok (.aload_n 0, 1) := by decide +kernel
theorem dX6_solve_14 : decode cX6_solve 14 = .ok (.iload_n 1, 1) := by decide +kernel
theorem dX6_solve_15 : decode cX6_solve 15 = .ok (.iload_n 2, 1) := by decide +kernel
theorem dX6_solve_16 : decode cX6_solve 16 = .ok (.invokevirtual 47, 3) := by decide +kernel
theorem dX6_solve_19 : decode cX6_solve 19 = .ok (.aload_n 0, 1) := by decide +kernel
theorem dX6_solve_20 : decode cX6_solve 20 = .ok (.iload_n 1, 1) := by decide +kernel
theorem dX6_solve_21 : decode cX6_solve 21 = .ok (.invokevirtual 51, 3) := by decide +kernel
theorem dX6_solve_24 : decode cX6_solve 24 = .ok (.iconst 0, 1) := by decide +kernel
theorem dX6_solve_25 : decode cX6_solve 25 = .ok (.istore_n 3, 1) := by decide +kernel
theorem dX6_solve_26 : decode cX6_solve 26 = .ok (.iload_n 3, 1) := by decide +kernel
theorem dX6_solve_27 : decode cX6_solve 27 = .ok (.iconst 1, 1) := by decide +kernel
theorem dX6_solve_28 : decode cX6_solve 28 = .ok (.aload_n 0, 1) := by decide +kernel
theorem dX6_solve_29 : decode cX6_solve 29 = .ok (.getfield 43, 3) := by decide +kernel
theorem dX6_solve_32 : decode cX6_solve 32 = .ok (.ishl, 1) := by decide +kernel
theorem dX6_solve_33 : decode cX6_solve 33 = .ok (.if_icmp .ge 16, 3) := by decide +kernel
theorem dX6_solve_36 : decode cX6_solve 36 = .ok (.aload_n 0, 1) := by decide +kernel
theorem dX6_solve_37 : decode cX6_solve 37 = .ok (.getfield 30, 3) := by decide +kernel
theorem dX6_solve_40 : decode cX6_solve 40 = .ok (.iload_n 3, 1) := by decide +kernel
theorem dX6_solve_41 : decode cX6_solve 41 = .ok (.iconst 0, 1) := by decide +kernel
theorem dX6_solve_42 : decode cX6_solve 42 = .ok (.bastore, 1) := by decide +kernel
theorem dX6_solve_43 : decode cX6_solve 43 = .ok (.iinc 3 1, 3) := by decide +kernel
theorem dX6_solve_46 : decode cX6_solve 46 = .ok (.goto (-20), 3) := by decide +kernel
theorem dX6_solve_49 : decode cX6_solve 49 = .ok (.aload_n 0, 1) := by decide +kernel
theorem dX6_solve_50 : decode cX6_solve 50 = .ok (.iconst 0, 1) := by decide +kernel
theorem dX6_solve_51 : decode cX6_solve 51 = .ok (.putfield 55, 3) := by decide +kernel
theorem dX6_solve_54 : decode cX6_solve 54 = .ok (.aload_n 0, 1) := by decide +kernel
theorem dX6_solve_55 : decode cX6_solve 55 = .ok (.iconst 0, 1) := by decide +kernel
theorem dX6_solve_56 : decode cX6_solve 56 = .ok (.iconst 0, 1) := by decide +kernel
theorem dX6_solve_57 : decode cX6_solve 57 = .ok (.invokestatic 58, 3) := by decide +kernel
theorem dX6_solve_60 : decode cX6_solve 60 = .ok (.ifCond .ne 27, 3) := by decide +kernel
theorem dX6_solve_63 : decode cX6_solve 63 = .ok (.aload_n 0, 1) := by decide +kernel
theorem dX6_solve_64 : decode cX6_solve 64 = .ok (.getfield 55, 3) := by decide +kernel
theorem dX6_solve_67 : decode cX6_solve 67 = .ok (.aload_n 0, 1) := by decide +kernel
theorem dX6_solve_68 : decode cX6_solve 68 = .ok (.getfield 43, 3) := by decide +kernel
theorem dX6_solve_71 : decode cX6_solve 71 = .ok (.if_icmp .ge 16, 3) := by decide +kernel
theorem dX6_solve_74 : decode cX6_solve 74 = .ok (.aload_n 0, 1) := by decide +kernel
theorem dX6_solve_75 : decode cX6_solve 75 = .ok (.dup, 1) := by decide +kernel
theorem dX6_solve_76 : decode cX6_solve 76 = .ok (.getfield 55, 3) := by decide +kernel
theorem dX6_solve_79 : decode cX6_solve 79 = .ok (.iconst 1, 1) := by decide +kernel
theorem dX6_solve_80 : decode cX6_solve 80 = .ok (.iadd, 1) := by decide +kernel
theorem dX6_solve_81 : decode cX6_solve 81 = .ok (.putfield 55, 3) := by decide +kernel
theorem dX6_solve_84 : decode cX6_solve 84 = .ok (.goto (-30), 3) := by decide +kernel
theorem dX6_solve_87 : decode cX6_solve 87 = .ok (.aload_n 0, 1) := by decide +kernel
theorem dX6_solve_88 : decode cX6_solve 88 = .ok (.getfield 55, 3) := by decide +kernel
theorem dX6_solve_91 : decode cX6_solve 91 = .ok (.ireturn, 1) := by decide +kernel
set_option maxRecDepth 20000 in
theorem ggX6_learnParts_J7_fill_53178 : GoodIn wsX6_learnParts wsJ7_fill_53178 := goodIn_r _ [8] rfl (by decide +kernel)
set_option maxRecDepth 20000 in
theorem gX6_learnParts_J7_fill_53178 : GoodIn wsX6_learnParts (va_wsS RX6 62 yJ7_fill_53178 wsJ7_fill_53178) := goodIn_app (goodIn_of _ (by decide +kernel)) ggX6_learnParts_J7_fill_53178
set_option maxRecDepth 20000 in
theorem ggX6_learnParts_X7_slot : GoodIn wsX6_learnParts wsX7_slot := goodIn_r _ [11] rfl (by decide +kernel)
set_option maxRecDepth 20000 in
theorem gX6_learnParts_X7_slot_n67 : GoodIn wsX6_learnParts (wsX7_slot) := ggX6_learnParts_X7_slot
set_option maxRecDepth 20000 in
theorem ggX6_learnParts_X5_partOf : GoodIn wsX6_learnParts wsX5_partOf := goodIn_r _ [16, 17, 28, 29, 30, 31, 32, 33, 34] rfl (by decide +kernel)
set_option maxRecDepth 20000 in
theorem gX6_learnParts_X5_partOf : GoodIn wsX6_learnParts (wsV RX6 71 RX5 yX5_partOf wsX5_partOf) := goodIn_app (goodIn_of _ (by decide +kernel)) ggX6_learnParts_X5_partOf
theorem dX6_learnParts_0 : decode cX6_learnParts 0 = .ok (.aload_n 0, 1) := by decide +kernel
theorem dX6_learnParts_1 : decode cX6_learnParts 1 = .ok (.getfield 24, 3) := by decide +kernel
theorem dX6_learnParts_4 : decode cX6_learnParts 4 = .ok (.iconst 0, 1) := by decide +kernel
theorem dX6_learnParts_5 : decode cX6_learnParts 5 = .ok (.invokestatic 62, 3) := by decide +kernel
theorem dX6_learnParts_8 : decode cX6_learnParts 8 = .ok (.aload_n 0, 1) := by decide +kernel
theorem dX6_learnParts_9 : decode cX6_learnParts 9 = .ok (.getfield 27, 3) := by decide +kernel
theorem dX6_learnParts_12 : decode cX6_learnParts 12 = .ok (.iconst 1, 1) := by decide +kernel
theorem dX6_learnParts_13 : decode cX6_learnParts 13 = .ok (.invokestatic 62, 3) := by decide +kernel
theorem dX6_learnParts_16 : decode cX6_learnParts 16 = .ok (.aload_n 0, 1) := by decide +kernel
theorem dX6_learnParts_17 : decode cX6_learnParts 17 = .ok (.getfield 27, 3) := by decide +kernel
theorem dX6_learnParts_20 : decode cX6_learnParts 20 = .ok (.iconst 0, 1) := by decide +kernel
theorem dX6_learnParts_21 : decode cX6_learnParts 21 = .ok (.iload_n 2, 1) := by decide +kernel
theorem dX6_learnParts_22 : decode cX6_learnParts 22 = .ok (.iastore, 1) := by decide +kernel
theorem dX6_learnParts_23 : decode cX6_learnParts 23 = .ok (.iconst 0, 1) := by decide +kernel
theorem dX6_learnParts_24 : decode cX6_learnParts 24 = .ok (.istore_n 3, 1) := by decide +kernel
theorem dX6_learnParts_25 : decode cX6_learnParts 25 = .ok (.iload_n 3, 1) := by decide +kernel
theorem dX6_learnParts_26 : decode cX6_learnParts 26 = .ok (.aload_n 0, 1) := by decide +kernel
theorem dX6_learnParts_27 : decode cX6_learnParts 27 = .ok (.getfield 43, 3) := by decide +kernel
theorem dX6_learnParts_30 : decode cX6_learnParts 30 = .ok (.if_icmp .ge 32, 3) := by decide +kernel
theorem dX6_learnParts_33 : decode cX6_learnParts 33 = .ok (.aload_n 0, 1) := by decide +kernel
theorem dX6_learnParts_34 : decode cX6_learnParts 34 = .ok (.getfield 24, 3) := by decide +kernel
theorem dX6_learnParts_37 : decode cX6_learnParts 37 = .ok (.aload_n 0, 1) := by decide +kernel
theorem dX6_learnParts_38 : decode cX6_learnParts 38 = .ok (.getfield 34, 3) := by decide +kernel
theorem dX6_learnParts_41 : decode cX6_learnParts 41 = .ok (.iload_n 1, 1) := by decide +kernel
theorem dX6_learnParts_42 : decode cX6_learnParts 42 = .ok (.iload_n 3, 1) := by decide +kernel
theorem dX6_learnParts_43 : decode cX6_learnParts 43 = .ok (.invokestatic 67, 3) := by decide +kernel
theorem dX6_learnParts_46 : decode cX6_learnParts 46 = .ok (.invokevirtual 71, 3) := by decide +kernel
theorem dX6_learnParts_49 : decode cX6_learnParts 49 = .ok (.dup2, 1) := by decide +kernel
theorem dX6_learnParts_50 : decode cX6_learnParts 50 = .ok (.iaload, 1) := by decide +kernel
theorem dX6_learnParts_51 : decode cX6_learnParts 51 = .ok (.iconst 1, 1) := by decide +kernel
theorem dX6_learnParts_52 : decode cX6_learnParts 52 = .ok (.iload_n 3, 1) := by decide +kernel
theorem dX6_learnParts_53 : decode cX6_learnParts 53 = .ok (.ishl, 1) := by decide +kernel
theorem dX6_learnParts_54 : decode cX6_learnParts 54 = .ok (.ior, 1) := by decide +kernel
theorem dX6_learnParts_55 : decode cX6_learnParts 55 = .ok (.iastore, 1) := by decide +kernel
theorem dX6_learnParts_56 : decode cX6_learnParts 56 = .ok (.iinc 3 1, 3) := by decide +kernel
theorem dX6_learnParts_59 : decode cX6_learnParts 59 = .ok (.goto (-34), 3) := by decide +kernel
theorem dX6_learnParts_62 : decode cX6_learnParts 62 = .ok (.return_, 1) := by decide +kernel
set_option maxRecDepth 20000 in
theorem ggX6_learnNeeds_J7_fill_53178 : GoodIn wsX6_learnNeeds wsJ7_fill_53178 := goodIn_r _ [13] rfl (by decide +kernel)
set_option maxRecDepth 20000 in
theorem gX6_learnNeeds_J7_fill_53178 : GoodIn wsX6_learnNeeds (va_wsS RX6 62 yJ7_fill_53178 wsJ7_fill_53178) := goodIn_app (goodIn_of _ (by decide +kernel)) ggX6_learnNeeds_J7_fill_53178
set_option maxRecDepth 20000 in
theorem ggX6_learnNeeds_X7_slot : GoodIn wsX6_learnNeeds wsX7_slot := goodIn_r _ [16] rfl (by decide +kernel)
set_option maxRecDepth 20000 in
theorem gX6_learnNeeds_X7_slot_n67 : GoodIn wsX6_learnNeeds (wsX7_slot) := ggX6_learnNeeds_X7_slot
set_option maxRecDepth 20000 in
theorem ggX6_learnNeeds_X5_need : GoodIn wsX6_learnNeeds wsX5_need := goodIn_r _ [21, 22, 23, 24, 25, 26, 27, 20, 28, 39, 40, 41, 42, 43, 44, 45] rfl (by decide +kernel)
set_option maxRecDepth 20000 in
theorem gX6_learnNeeds_X5_need : GoodIn wsX6_learnNeeds (wsV RX6 75 RX5 yX5_need wsX5_need) := goodIn_app (goodIn_of _ (by decide +kernel)) ggX6_learnNeeds_X5_need
theorem dX6_learnNeeds_0 : decode cX6_learnNeeds 0 = .ok (.aload_n 0, 1) := by decide +kernel
theorem dX6_learnNeeds_1 : decode cX6_learnNeeds 1 = .ok (.getfield 15, 3) := by decide +kernel
theorem dX6_learnNeeds_4 : decode cX6_learnNeeds 4 = .ok (.iconst 0, 1) := by decide +kernel
theorem dX6_learnNeeds_5 : decode cX6_learnNeeds 5 = .ok (.invokestatic 62, 3) := by decide +kernel
theorem dX6_learnNeeds_8 : decode cX6_learnNeeds 8 = .ok (.aload_n 0, 1) := by decide +kernel
theorem dX6_learnNeeds_9 : decode cX6_learnNeeds 9 = .ok (.getfield 18, 3) := by decide +kernel
theorem dX6_learnNeeds_12 : decode cX6_learnNeeds 12 = .ok (.iconst 0, 1) := by decide +kernel
theorem dX6_learnNeeds_13 : decode cX6_learnNeeds 13 = .ok (.invokestatic 62, 3) := by decide +kernel
theorem dX6_learnNeeds_16 : decode cX6_learnNeeds 16 = .ok (.aload_n 0, 1) := by decide +kernel
theorem dX6_learnNeeds_17 : decode cX6_learnNeeds 17 = .ok (.getfield 21, 3) := by decide +kernel
theorem dX6_learnNeeds_20 : decode cX6_learnNeeds 20 = .ok (.iconst 0, 1) := by decide +kernel
theorem dX6_learnNeeds_21 : decode cX6_learnNeeds 21 = .ok (.invokestatic 62, 3) := by decide +kernel
theorem dX6_learnNeeds_24 : decode cX6_learnNeeds 24 = .ok (.aload_n 0, 1) := by decide +kernel
theorem dX6_learnNeeds_25 : decode cX6_learnNeeds 25 = .ok (.getfield 43, 3) := by decide +kernel
theorem dX6_learnNeeds_28 : decode cX6_learnNeeds 28 = .ok (.iconst 1, 1) := by decide +kernel
theorem dX6_learnNeeds_29 : decode cX6_learnNeeds 29 = .ok (.isub, 1) := by decide +kernel
theorem dX6_learnNeeds_30 : decode cX6_learnNeeds 30 = .ok (.istore_n 2, 1) := by decide +kernel
theorem dX6_learnNeeds_31 : decode cX6_learnNeeds 31 = .ok (.iload_n 2, 1) := by decide +kernel
theorem dX6_learnNeeds_32 : decode cX6_learnNeeds 32 = .ok (.ifCond .lt 129, 3) := by decide +kernel
theorem dX6_learnNeeds_35 : decode cX6_learnNeeds 35 = .ok (.iload_n 2, 1) := by decide +kernel
theorem dX6_learnNeeds_36 : decode cX6_learnNeeds 36 = .ok (.iconst 1, 1) := by decide +kernel
theorem dX6_learnNeeds_37 : decode cX6_learnNeeds 37 = .ok (.iadd, 1) := by decide +kernel
theorem dX6_learnNeeds_38 : decode cX6_learnNeeds 38 = .ok (.istore_n 3, 1) := by decide +kernel
theorem dX6_learnNeeds_39 : decode cX6_learnNeeds 39 = .ok (.iload_n 3, 1) := by decide +kernel
theorem dX6_learnNeeds_40 : decode cX6_learnNeeds 40 = .ok (.aload_n 0, 1) := by decide +kernel
theorem dX6_learnNeeds_41 : decode cX6_learnNeeds 41 = .ok (.getfield 43, 3) := by decide +kernel
theorem dX6_learnNeeds_44 : decode cX6_learnNeeds 44 = .ok (.if_icmp .ge 111, 3) := by decide +kernel
theorem dX6_learnNeeds_47 : decode cX6_learnNeeds 47 = .ok (.aload_n 0, 1) := by decide +kernel
theorem dX6_learnNeeds_48 : decode cX6_learnNeeds 48 = .ok (.getfield 34, 3) := by decide +kernel
theorem dX6_learnNeeds_51 : decode cX6_learnNeeds 51 = .ok (.iload_n 1, 1) := by decide +kernel
theorem dX6_learnNeeds_52 : decode cX6_learnNeeds 52 = .ok (.iload_n 2, 1) := by decide +kernel
theorem dX6_learnNeeds_53 : decode cX6_learnNeeds 53 = .ok (.invokestatic 67, 3) := by decide +kernel
theorem dX6_learnNeeds_56 : decode cX6_learnNeeds 56 = .ok (.iload_n 1, 1) := by decide +kernel
theorem dX6_learnNeeds_57 : decode cX6_learnNeeds 57 = .ok (.iload_n 3, 1) := by decide +kernel
theorem dX6_learnNeeds_58 : decode cX6_learnNeeds 58 = .ok (.invokestatic 67, 3) := by decide +kernel
theorem dX6_learnNeeds_61 : decode cX6_learnNeeds 61 = .ok (.invokevirtual 75, 3) := by decide +kernel
theorem dX6_learnNeeds_64 : decode cX6_learnNeeds 64 = .ok (.istore 4, 2) := by decide +kernel
theorem dX6_learnNeeds_66 : decode cX6_learnNeeds 66 = .ok (.iload 4, 2) := by decide +kernel
theorem dX6_learnNeeds_68 : decode cX6_learnNeeds 68 = .ok (.iconst 2, 1) := by decide +kernel
theorem dX6_learnNeeds_69 : decode cX6_learnNeeds 69 = .ok (.if_icmp .ne 41, 3) := by decide +kernel
theorem dX6_learnNeeds_72 : decode cX6_learnNeeds 72 = .ok (.aload_n 0, 1) := by decide +kernel
theorem dX6_learnNeeds_73 : decode cX6_learnNeeds 73 = .ok (.getfield 15, 3) := by decide +kernel
theorem dX6_learnNeeds_76 : decode cX6_learnNeeds 76 = .ok (.iload_n 3, 1) := by decide +kernel
theorem dX6_learnNeeds_77 : decode cX6_learnNeeds 77 = .ok (.dup2, 1) := by decide +kernel
theorem dX6_learnNeeds_78 : decode cX6_learnNeeds 78 = .ok (.iaload, 1) := by decide +kernel
theorem dX6_learnNeeds_79 : decode cX6_learnNeeds 79 = .ok (.iconst 1, 1) := by decide +kernel
theorem dX6_learnNeeds_80 : decode cX6_learnNeeds 80 = .ok (.iload_n 2, 1) := by decide +kernel
theorem dX6_learnNeeds_81 : decode cX6_learnNeeds 81 = .ok (.ishl, 1) := by decide +kernel
theorem dX6_learnNeeds_82 : decode cX6_learnNeeds 82 = .ok (.ior, 1) := by decide +kernel
theorem dX6_learnNeeds_83 : decode cX6_learnNeeds 83 = .ok (.iastore, 1) := by decide +kernel
theorem dX6_learnNeeds_84 : decode cX6_learnNeeds 84 = .ok (.aload_n 0, 1) := by decide +kernel
theorem dX6_learnNeeds_85 : decode cX6_learnNeeds 85 = .ok (.getfield 21, 3) := by decide +kernel
theorem dX6_learnNeeds_88 : decode cX6_learnNeeds 88 = .ok (.iload_n 2, 1) := by decide +kernel
theorem dX6_learnNeeds_89 : decode cX6_learnNeeds 89 = .ok (.aload_n 0, 1) := by decide +kernel
theorem dX6_learnNeeds_90 : decode cX6_learnNeeds 90 = .ok (.getfield 21, 3) := by decide +kernel
theorem dX6_learnNeeds_93 : decode cX6_learnNeeds 93 = .ok (.iload_n 2, 1) := by decide +kernel
theorem dX6_learnNeeds_94 : decode cX6_learnNeeds 94 = .ok (.iaload, 1) := by decide +kernel
theorem dX6_learnNeeds_95 : decode cX6_learnNeeds 95 = .ok (.aload_n 0, 1) := by decide +kernel
theorem dX6_learnNeeds_96 : decode cX6_learnNeeds 96 = .ok (.getfield 21, 3) := by decide +kernel
theorem dX6_learnNeeds_99 : decode cX6_learnNeeds 99 = .ok (.iload_n 3, 1) := by decide +kernel
theorem dX6_learnNeeds_100 : decode cX6_learnNeeds 100 = .ok (.iaload, 1) := by decide +kernel
theorem dX6_learnNeeds_101 : decode cX6_learnNeeds 101 = .ok (.iconst 1, 1) := by decide +kernel
theorem dX6_learnNeeds_102 : decode cX6_learnNeeds 102 = .ok (.iadd, 1) := by decide +kernel
theorem dX6_learnNeeds_103 : decode cX6_learnNeeds 103 = .ok (.invokestatic 78, 3) := by decide +kernel
theorem dX6_learnNeeds_106 : decode cX6_learnNeeds 106 = .ok (.iastore, 1) := by decide +kernel
theorem dX6_learnNeeds_107 : decode cX6_learnNeeds 107 = .ok (.goto 42, 3) := by decide +kernel
theorem dX6_learnNeeds_110 : decode cX6_learnNeeds 110 = .ok (.iload 4, 2) := by decide +kernel
theorem dX6_learnNeeds_112 : decode cX6_learnNeeds 112 = .ok (.iconst 1, 1) := by decide +kernel
theorem dX6_learnNeeds_113 : decode cX6_learnNeeds 113 = .ok (.if_icmp .ne 36, 3) := by decide +kernel
theorem dX6_learnNeeds_116 : decode cX6_learnNeeds 116 = .ok (.aload_n 0, 1) := by decide +kernel
theorem dX6_learnNeeds_117 : decode cX6_learnNeeds 117 = .ok (.getfield 18, 3) := by decide +kernel
theorem dX6_learnNeeds_120 : decode cX6_learnNeeds 120 = .ok (.iload_n 3, 1) := by decide +kernel
theorem dX6_learnNeeds_121 : decode cX6_learnNeeds 121 = .ok (.dup2, 1) := by decide +kernel
theorem dX6_learnNeeds_122 : decode cX6_learnNeeds 122 = .ok (.iaload, 1) := by decide +kernel
theorem dX6_learnNeeds_123 : decode cX6_learnNeeds 123 = .ok (.iconst 1, 1) := by decide +kernel
theorem dX6_learnNeeds_124 : decode cX6_learnNeeds 124 = .ok (.iload_n 2, 1) := by decide +kernel
theorem dX6_learnNeeds_125 : decode cX6_learnNeeds 125 = .ok (.ishl, 1) := by decide +kernel
theorem dX6_learnNeeds_126 : decode cX6_learnNeeds 126 = .ok (.ior, 1) := by decide +kernel
theorem dX6_learnNeeds_127 : decode cX6_learnNeeds 127 = .ok (.iastore, 1) := by decide +kernel
theorem dX6_learnNeeds_128 : decode cX6_learnNeeds 128 = .ok (.aload_n 0, 1) := by decide +kernel
theorem dX6_learnNeeds_129 : decode cX6_learnNeeds 129 = .ok (.getfield 21, 3) := by decide +kernel
theorem dX6_learnNeeds_132 : decode cX6_learnNeeds 132 = .ok (.iload_n 2, 1) := by decide +kernel
theorem dX6_learnNeeds_133 : decode cX6_learnNeeds 133 = .ok (.aload_n 0, 1) := by decide +kernel
theorem dX6_learnNeeds_134 : decode cX6_learnNeeds 134 = .ok (.getfield 21, 3) := by decide +kernel
theorem dX6_learnNeeds_137 : decode cX6_learnNeeds 137 = .ok (.iload_n 2, 1) := by decide +kernel
theorem dX6_learnNeeds_138 : decode cX6_learnNeeds 138 = .ok (.iaload, 1) := by decide +kernel
theorem dX6_learnNeeds_139 : decode cX6_learnNeeds 139 = .ok (.aload_n 0, 1) := by decide +kernel
theorem dX6_learnNeeds_140 : decode cX6_learnNeeds 140 = .ok (.getfield 21, 3) := by decide +kernel
theorem dX6_learnNeeds_143 : decode cX6_learnNeeds 143 = .ok (.iload_n 3, 1) := by decide +kernel
theorem dX6_learnNeeds_144 : decode cX6_learnNeeds 144 = .ok (.iaload, 1) := by decide +kernel
theorem dX6_learnNeeds_145 : decode cX6_learnNeeds 145 = .ok (.invokestatic 78, 3) := by decide +kernel
theorem dX6_learnNeeds_148 : decode cX6_learnNeeds 148 = .ok (.iastore, 1) := by decide +kernel
theorem dX6_learnNeeds_149 : decode cX6_learnNeeds 149 = .ok (.iinc 3 1, 3) := by decide +kernel
theorem dX6_learnNeeds_152 : decode cX6_learnNeeds 152 = .ok (.goto (-113), 3) := by decide +kernel
theorem dX6_learnNeeds_155 : decode cX6_learnNeeds 155 = .ok (.iinc 2 (-1), 3) := by decide +kernel
theorem dX6_learnNeeds_158 : decode cX6_learnNeeds 158 = .ok (.goto (-127), 3) := by decide +kernel
theorem dX6_learnNeeds_161 : decode cX6_learnNeeds 161 = .ok (.return_, 1) := by decide +kernel
set_option maxRecDepth 20000 in
theorem ggX6_fill_X6_areTooMany : GoodIn wsX6_fill wsX6_areTooMany := goodIn_r _ [9, 10, 11, 1, 12, 13, 14, 15, 16, 17, 18, 19, 20, 21, 22, 39, 40, 41, 42, 43, 44, 45, 46, 47, 48] rfl (by decide +kernel)
set_option maxRecDepth 20000 in
theorem gX6_fill_X6_areTooMany : GoodIn wsX6_fill (wsV RX6 83 RX6 yX6_areTooMany wsX6_areTooMany) := goodIn_app (goodIn_of _ (by decide +kernel)) ggX6_fill_X6_areTooMany
set_option maxRecDepth 20000 in
theorem ggX6_fill_X6_readyAfter : GoodIn wsX6_fill wsX6_readyAfter := goodIn_r _ [26, 1, 27, 28, 20, 21, 22, 39, 40, 41, 42, 43, 44, 45, 46, 47, 48] rfl (by decide +kernel)
set_option maxRecDepth 20000 in
theorem gX6_fill_X6_readyAfter : GoodIn wsX6_fill (wsV RX6 87 RX6 yX6_readyAfter wsX6_readyAfter) := goodIn_app (goodIn_of _ (by decide +kernel)) ggX6_fill_X6_readyAfter
set_option maxRecDepth 20000 in
theorem ggX6_fill_X6_urgentOf : GoodIn wsX6_fill wsX6_urgentOf := goodIn_r _ [32, 1, 12, 20, 21, 22, 39, 40, 41, 42, 43, 44, 45, 46, 47, 48] rfl (by decide +kernel)
set_option maxRecDepth 20000 in
theorem gX6_fill_X6_urgentOf : GoodIn wsX6_fill (wsV RX6 90 RX6 yX6_urgentOf wsX6_urgentOf) := goodIn_app (goodIn_of _ (by decide +kernel)) ggX6_fill_X6_urgentOf
set_option maxRecDepth 20000 in
theorem ggX6_fill_X6_canMeet : GoodIn wsX6_fill wsX6_canMeet := goodIn_r _ [36, 10, 11, 1, 28, 13, 14, 15, 16, 17, 18, 19, 20, 21, 22, 39, 40, 41, 42, 43, 44, 45, 46, 47, 48] rfl (by decide +kernel)
set_option maxRecDepth 20000 in
theorem gX6_fill_X6_canMeet : GoodIn wsX6_fill (wsV RX6 93 RX6 yX6_canMeet wsX6_canMeet) := goodIn_app (goodIn_of _ (by decide +kernel)) ggX6_fill_X6_canMeet
set_option maxRecDepth 20000 in
theorem ggX6_fill_X6_fill : GoodIn wsX6_fill wsX6_fill := goodIn_r _ [0, 1, 2, 3, 4, 5, 6, 7, 8, 9, 10, 11, 12, 13, 14, 15, 16, 17, 18, 19, 20, 21, 22, 23, 24, 25, 26, 27, 28, 29, 30, 31, 32, 33, 34, 35, 36, 37, 38, 39, 40, 41, 42, 43, 44, 45, 46, 47, 48] rfl (by decide +kernel)
set_option maxRecDepth 20000 in
theorem gX6_fill_X6_fill : GoodIn wsX6_fill (va_wsS RX6 58 yX6_fill wsX6_fill) := goodIn_app (goodIn_of _ (by decide +kernel)) ggX6_fill_X6_fill
theorem dX6_fill_0 : decode cX6_fill 0 = .ok (.iconst 1, 1) := by decide +kernel
theorem dX6_fill_1 : decode cX6_fill 1 = .ok (.aload_n 0, 1) := by decide +kernel
theorem dX6_fill_2 : decode cX6_fill 2 = .ok (.getfield 43, 3) := by decide +kernel
theorem dX6_fill_5 : decode cX6_fill 5 = .ok (.ishl, 1) := by decide +kernel
theorem dX6_fill_6 : decode cX6_fill 6 = .ok (.iconst 1, 1) := by decide +kernel
theorem dX6_fill_7 : decode cX6_fill 7 = .ok (.isub, 1) := by decide +kernel
theorem dX6_fill_8 : decode cX6_fill 8 = .ok (.iload_n 1, 1) := by decide +kernel
theorem dX6_fill_9 : decode cX6_fill 9 = .ok (.iconst (-1), 1) := by decide +kernel
theorem dX6_fill_10 : decode cX6_fill 10 = .ok (.ixor, 1) := by decide +kernel
theorem dX6_fill_11 : decode cX6_fill 11 = .ok (.iand, 1) := by decide +kernel
theorem dX6_fill_12 : decode cX6_fill 12 = .ok (.istore_n 3, 1) := by decide +kernel
theorem dX6_fill_13 : decode cX6_fill 13 = .ok (.iload_n 3, 1) := by decide +kernel
theorem dX6_fill_14 : decode cX6_fill 14 = .ok (.ifCond .ne 5, 3) := by decide +kernel
theorem dX6_fill_17 : decode cX6_fill 17 = .ok (.iconst 1, 1) := by decide +kernel
theorem dX6_fill_18 : decode cX6_fill 18 = .ok (.ireturn, 1) := by decide +kernel
theorem dX6_fill_19 : decode cX6_fill 19 = .ok (.aload_n 0, 1) := by decide +kernel
theorem dX6_fill_20 : decode cX6_fill 20 = .ok (.getfield 55, 3) := by decide +kernel
theorem dX6_fill_23 : decode cX6_fill 23 = .ok (.iload_n 2, 1) := by decide +kernel
theorem dX6_fill_24 : decode cX6_fill 24 = .ok (.isub, 1) := by decide +kernel
theorem dX6_fill_25 : decode cX6_fill 25 = .ok (.istore 4, 2) := by decide +kernel
theorem dX6_fill_27 : decode cX6_fill 27 = .ok (.iload 4, 2) := by decide +kernel
theorem dX6_fill_29 : decode cX6_fill 29 = .ok (.ifCond .le 24, 3) := by decide +kernel
theorem dX6_fill_32 : decode cX6_fill 32 = .ok (.aload_n 0, 1) := by decide +kernel
theorem dX6_fill_33 : decode cX6_fill 33 = .ok (.getfield 30, 3) := by decide +kernel
theorem dX6_fill_36 : decode cX6_fill 36 = .ok (.iload_n 1, 1) := by decide +kernel
theorem dX6_fill_37 : decode cX6_fill 37 = .ok (.baload, 1) := by decide +kernel
theorem dX6_fill_38 : decode cX6_fill 38 = .ok (.iload 4, 2) := by decide +kernel
theorem dX6_fill_40 : decode cX6_fill 40 = .ok (.if_icmp .ge 13, 3) := by decide +kernel
theorem dX6_fill_43 : decode cX6_fill 43 = .ok (.aload_n 0, 1) := by decide +kernel
theorem dX6_fill_44 : decode cX6_fill 44 = .ok (.iload_n 3, 1) := by decide +kernel
theorem dX6_fill_45 : decode cX6_fill 45 = .ok (.iload 4, 2) := by decide +kernel
theorem dX6_fill_47 : decode cX6_fill 47 = .ok (.invokevirtual 83, 3) := by decide +kernel
theorem dX6_fill_50 : decode cX6_fill 50 = .ok (.ifCond .eq 5, 3) := by decide +kernel
theorem dX6_fill_53 : decode cX6_fill 53 = .ok (.iconst 0, 1) := by decide +kernel
theorem dX6_fill_54 : decode cX6_fill 54 = .ok (.ireturn, 1) := by decide +kernel
theorem dX6_fill_55 : decode cX6_fill 55 = .ok (.aload_n 0, 1) := by decide +kernel
theorem dX6_fill_56 : decode cX6_fill 56 = .ok (.iload_n 1, 1) := by decide +kernel
theorem dX6_fill_57 : decode cX6_fill 57 = .ok (.invokevirtual 87, 3) := by decide +kernel
theorem dX6_fill_60 : decode cX6_fill 60 = .ok (.istore 5, 2) := by decide +kernel
theorem dX6_fill_62 : decode cX6_fill 62 = .ok (.aload_n 0, 1) := by decide +kernel
theorem dX6_fill_63 : decode cX6_fill 63 = .ok (.iload_n 3, 1) := by decide +kernel
theorem dX6_fill_64 : decode cX6_fill 64 = .ok (.iload 4, 2) := by decide +kernel
theorem dX6_fill_66 : decode cX6_fill 66 = .ok (.invokevirtual 90, 3) := by decide +kernel
theorem dX6_fill_69 : decode cX6_fill 69 = .ok (.istore 6, 2) := by decide +kernel
theorem dX6_fill_71 : decode cX6_fill 71 = .ok (.iload 5, 2) := by decide +kernel
theorem dX6_fill_73 : decode cX6_fill 73 = .ok (.iload 6, 2) := by decide +kernel
theorem dX6_fill_75 : decode cX6_fill 75 = .ok (.iconst (-1), 1) := by decide +kernel
theorem dX6_fill_76 : decode cX6_fill 76 = .ok (.ixor, 1) := by decide +kernel
theorem dX6_fill_77 : decode cX6_fill 77 = .ok (.iand, 1) := by decide +kernel
theorem dX6_fill_78 : decode cX6_fill 78 = .ok (.istore 7, 2) := by decide +kernel
theorem dX6_fill_80 : decode cX6_fill 80 = .ok (.iconst 0, 1) := by decide +kernel
theorem dX6_fill_81 : decode cX6_fill 81 = .ok (.istore 8, 2) := by decide +kernel
theorem dX6_fill_83 : decode cX6_fill 83 = .ok (.iconst 0, 1) := by decide +kernel
theorem dX6_fill_84 : decode cX6_fill 84 = .ok (.istore 9, 2) := by decide +kernel
theorem dX6_fill_86 : decode cX6_fill 86 = .ok (.iload 9, 2) := by decide +kernel
theorem dX6_fill_88 : decode cX6_fill 88 = .ok (.sipush 1024, 3) := by decide +kernel
theorem dX6_fill_91 : decode cX6_fill 91 = .ok (.if_icmp .ge 75, 3) := by decide +kernel
theorem dX6_fill_94 : decode cX6_fill 94 = .ok (.iload 8, 2) := by decide +kernel
theorem dX6_fill_96 : decode cX6_fill 96 = .ok (.iload 6, 2) := by decide +kernel
theorem dX6_fill_98 : decode cX6_fill 98 = .ok (.ior, 1) := by decide +kernel
theorem dX6_fill_99 : decode cX6_fill 99 = .ok (.istore 10, 2) := by decide +kernel
theorem dX6_fill_101 : decode cX6_fill 101 = .ok (.iload 10, 2) := by decide +kernel
theorem dX6_fill_103 : decode cX6_fill 103 = .ok (.ifCond .eq 39, 3) := by decide +kernel
theorem dX6_fill_106 : decode cX6_fill 106 = .ok (.aload_n 0, 1) := by decide +kernel
theorem dX6_fill_107 : decode cX6_fill 107 = .ok (.iload 10, 2) := by decide +kernel
theorem dX6_fill_109 : decode cX6_fill 109 = .ok (.iload 5, 2) := by decide +kernel
theorem dX6_fill_111 : decode cX6_fill 111 = .ok (.iload_n 1, 1) := by decide +kernel
theorem dX6_fill_112 : decode cX6_fill 112 = .ok (.invokevirtual 93, 3) := by decide +kernel
theorem dX6_fill_115 : decode cX6_fill 115 = .ok (.ifCond .eq 27, 3) := by decide +kernel
theorem dX6_fill_118 : decode cX6_fill 118 = .ok (.aload_n 0, 1) := by decide +kernel
theorem dX6_fill_119 : decode cX6_fill 119 = .ok (.iload_n 1, 1) := by decide +kernel
theorem dX6_fill_120 : decode cX6_fill 120 = .ok (.iload 10, 2) := by decide +kernel
theorem dX6_fill_122 : decode cX6_fill 122 = .ok (.ior, 1) := by decide +kernel
theorem dX6_fill_123 : decode cX6_fill 123 = .ok (.iload_n 2, 1) := by decide +kernel
theorem dX6_fill_124 : decode cX6_fill 124 = .ok (.iconst 1, 1) := by decide +kernel
theorem dX6_fill_125 : decode cX6_fill 125 = .ok (.iadd, 1) := by decide +kernel
theorem dX6_fill_126 : decode cX6_fill 126 = .ok (.invokestatic 58, 3) := by decide +kernel
theorem dX6_fill_129 : decode cX6_fill 129 = .ok (.ifCond .eq 13, 3) := by decide +kernel
theorem dX6_fill_132 : decode cX6_fill 132 = .ok (.aload_n 0, 1) := by decide +kernel
theorem dX6_fill_133 : decode cX6_fill 133 = .ok (.getfield 9, 3) := by decide +kernel
theorem dX6_fill_136 : decode cX6_fill 136 = .ok (.iload_n 2, 1) := by decide +kernel
theorem dX6_fill_137 : decode cX6_fill 137 = .ok (.iload 10, 2) := by decide +kernel
theorem dX6_fill_139 : decode cX6_fill 139 = .ok (.iastore, 1) := by decide +kernel
theorem dX6_fill_140 : decode cX6_fill 140 = .ok (.iconst 1, 1) := by decide +kernel
theorem dX6_fill_141 : decode cX6_fill 141 = .ok (.ireturn, 1) := by decide +kernel
theorem dX6_fill_142 : decode cX6_fill 142 = .ok (.iload 8, 2) := by decide +kernel
theorem dX6_fill_144 : decode cX6_fill 144 = .ok (.iload 7, 2) := by decide +kernel
theorem dX6_fill_146 : decode cX6_fill 146 = .ok (.isub, 1) := by decide +kernel
theorem dX6_fill_147 : decode cX6_fill 147 = .ok (.iload 7, 2) := by decide +kernel
theorem dX6_fill_149 : decode cX6_fill 149 = .ok (.iand, 1) := by decide +kernel
theorem dX6_fill_150 : decode cX6_fill 150 = .ok (.istore 8, 2) := by decide +kernel
theorem dX6_fill_152 : decode cX6_fill 152 = .ok (.iload 8, 2) := by decide +kernel
theorem dX6_fill_154 : decode cX6_fill 154 = .ok (.ifCond .ne 6, 3) := by decide +kernel
theorem dX6_fill_157 : decode cX6_fill 157 = .ok (.goto 9, 3) := by decide +kernel
theorem dX6_fill_160 : decode cX6_fill 160 = .ok (.iinc 9 1, 3) := by decide +kernel
theorem dX6_fill_163 : decode cX6_fill 163 = .ok (.goto (-77), 3) := by decide +kernel
theorem dX6_fill_166 : decode cX6_fill 166 = .ok (.aload_n 0, 1) := by decide +kernel
theorem dX6_fill_167 : decode cX6_fill 167 = .ok (.getfield 30, 3) := by decide +kernel
theorem dX6_fill_170 : decode cX6_fill 170 = .ok (.iload_n 1, 1) := by decide +kernel
theorem dX6_fill_171 : decode cX6_fill 171 = .ok (.iload 4, 2) := by decide +kernel
theorem dX6_fill_173 : decode cX6_fill 173 = .ok (.i2b, 1) := by decide +kernel
theorem dX6_fill_174 : decode cX6_fill 174 = .ok (.bastore, 1) := by decide +kernel
theorem dX6_fill_175 : decode cX6_fill 175 = .ok (.iconst 0, 1) := by decide +kernel
theorem dX6_fill_176 : decode cX6_fill 176 = .ok (.ireturn, 1) := by decide +kernel
set_option maxRecDepth 20000 in
theorem ggX6_areTooMany_J6_bitCount_0f7a4 : GoodIn wsX6_areTooMany wsJ6_bitCount_0f7a4 := goodIn_r _ [8, 9, 10, 11] rfl (by decide +kernel)
set_option maxRecDepth 20000 in
theorem gX6_areTooMany_J6_bitCount_0f7a4 : GoodIn wsX6_areTooMany (va_wsS RX6 97 yJ6_bitCount_0f7a4 wsJ6_bitCount_0f7a4) := goodIn_app (goodIn_of _ (by decide +kernel)) ggX6_areTooMany_J6_bitCount_0f7a4
set_option maxRecDepth 20000 in
theorem ggX6_areTooMany_X7_isIn : GoodIn wsX6_areTooMany wsX7_isIn := goodIn_r _ [14] rfl (by decide +kernel)
set_option maxRecDepth 20000 in
theorem gX6_areTooMany_X7_isIn_n102 : GoodIn wsX6_areTooMany (wsX7_isIn) := ggX6_areTooMany_X7_isIn
theorem dX6_areTooMany_0 : decode cX6_areTooMany 0 = .ok (.iconst 0, 1) := by decide +kernel
theorem dX6_areTooMany_1 : decode cX6_areTooMany 1 = .ok (.istore_n 3, 1) := by decide +kernel
theorem dX6_areTooMany_2 : decode cX6_areTooMany 2 = .ok (.iload_n 3, 1) := by decide +kernel
theorem dX6_areTooMany_3 : decode cX6_areTooMany 3 = .ok (.iconst 5, 1) := by decide +kernel
theorem dX6_areTooMany_4 : decode cX6_areTooMany 4 = .ok (.if_icmp .ge 33, 3) := by decide +kernel
theorem dX6_areTooMany_7 : decode cX6_areTooMany 7 = .ok (.iload_n 1, 1) := by decide +kernel
theorem dX6_areTooMany_8 : decode cX6_areTooMany 8 = .ok (.aload_n 0, 1) := by decide +kernel
theorem dX6_areTooMany_9 : decode cX6_areTooMany 9 = .ok (.getfield 24, 3) := by decide +kernel
theorem dX6_areTooMany_12 : decode cX6_areTooMany 12 = .ok (.iload_n 3, 1) := by decide +kernel
theorem dX6_areTooMany_13 : decode cX6_areTooMany 13 = .ok (.iaload, 1) := by decide +kernel
theorem dX6_areTooMany_14 : decode cX6_areTooMany 14 = .ok (.iand, 1) := by decide +kernel
theorem dX6_areTooMany_15 : decode cX6_areTooMany 15 = .ok (.invokestatic 97, 3) := by decide +kernel
theorem dX6_areTooMany_18 : decode cX6_areTooMany 18 = .ok (.aload_n 0, 1) := by decide +kernel
theorem dX6_areTooMany_19 : decode cX6_areTooMany 19 = .ok (.getfield 27, 3) := by decide +kernel
theorem dX6_areTooMany_22 : decode cX6_areTooMany 22 = .ok (.iload_n 3, 1) := by decide +kernel
theorem dX6_areTooMany_23 : decode cX6_areTooMany 23 = .ok (.iaload, 1) := by decide +kernel
theorem dX6_areTooMany_24 : decode cX6_areTooMany 24 = .ok (.iload_n 2, 1) := by decide +kernel
theorem dX6_areTooMany_25 : decode cX6_areTooMany 25 = .ok (.imul, 1) := by decide +kernel
theorem dX6_areTooMany_26 : decode cX6_areTooMany 26 = .ok (.if_icmp .le 5, 3) := by decide +kernel
theorem dX6_areTooMany_29 : decode cX6_areTooMany 29 = .ok (.iconst 1, 1) := by decide +kernel
theorem dX6_areTooMany_30 : decode cX6_areTooMany 30 = .ok (.ireturn, 1) := by decide +kernel
theorem dX6_areTooMany_31 : decode cX6_areTooMany 31 = .ok (.iinc 3 1, 3) := by decide +kernel
theorem dX6_areTooMany_34 : decode cX6_areTooMany 34 = .ok (.goto (-32), 3) := by decide +kernel
theorem dX6_areTooMany_37 : decode cX6_areTooMany 37 = .ok (.iconst 0, 1) := by decide +kernel
theorem dX6_areTooMany_38 : decode cX6_areTooMany 38 = .ok (.istore_n 3, 1) := by decide +kernel
theorem dX6_areTooMany_39 : decode cX6_areTooMany 39 = .ok (.iload_n 3, 1) := by decide +kernel
theorem dX6_areTooMany_40 : decode cX6_areTooMany 40 = .ok (.aload_n 0, 1) := by decide +kernel
theorem dX6_areTooMany_41 : decode cX6_areTooMany 41 = .ok (.getfield 43, 3) := by decide +kernel
theorem dX6_areTooMany_44 : decode cX6_areTooMany 44 = .ok (.if_icmp .ge 29, 3) := by decide +kernel
theorem dX6_areTooMany_47 : decode cX6_areTooMany 47 = .ok (.iload_n 1, 1) := by decide +kernel
theorem dX6_areTooMany_48 : decode cX6_areTooMany 48 = .ok (.iload_n 3, 1) := by decide +kernel
theorem dX6_areTooMany_49 : decode cX6_areTooMany 49 = .ok (.invokestatic 102, 3) := by decide +kernel
theorem dX6_areTooMany_52 : decode cX6_areTooMany 52 = .ok (.ifCond .eq 15, 3) := by decide +kernel
theorem dX6_areTooMany_55 : decode cX6_areTooMany 55 = .ok (.aload_n 0, 1) := by decide +kernel
theorem dX6_areTooMany_56 : decode cX6_areTooMany 56 = .ok (.getfield 21, 3) := by decide +kernel
theorem dX6_areTooMany_59 : decode cX6_areTooMany 59 = .ok (.iload_n 3, 1) := by decide +kernel
theorem dX6_areTooMany_60 : decode cX6_areTooMany 60 = .ok (.iaload, 1) := by decide +kernel
theorem dX6_areTooMany_61 : decode cX6_areTooMany 61 = .ok (.iload_n 2, 1) := by decide +kernel
theorem dX6_areTooMany_62 : decode cX6_areTooMany 62 = .ok (.if_icmp .lt 5, 3) := by decide +kernel
theorem dX6_areTooMany_65 : decode cX6_areTooMany 65 = .ok (.iconst 1, 1) := by decide +kernel
theorem dX6_areTooMany_66 : decode cX6_areTooMany 66 = .ok (.ireturn, 1) := by decide +kernel
theorem dX6_areTooMany_67 : decode cX6_areTooMany 67 = .ok (.iinc 3 1, 3) := by decide +kernel
theorem dX6_areTooMany_70 : decode cX6_areTooMany 70 = .ok (.goto (-31), 3) := by decide +kernel
theorem dX6_areTooMany_73 : decode cX6_areTooMany 73 = .ok (.iconst 0, 1) := by decide +kernel
theorem dX6_areTooMany_74 : decode cX6_areTooMany 74 = .ok (.ireturn, 1) := by decide +kernel
set_option maxRecDepth 20000 in
theorem ggX6_readyAfter_X7_isIn : GoodIn wsX6_readyAfter wsX7_isIn := goodIn_r _ [6] rfl (by decide +kernel)
set_option maxRecDepth 20000 in
theorem gX6_readyAfter_X7_isIn_n102 : GoodIn wsX6_readyAfter (wsX7_isIn) := ggX6_readyAfter_X7_isIn
theorem dX6_readyAfter_0 : decode cX6_readyAfter 0 = .ok (.iconst 0, 1) := by decide +kernel
theorem dX6_readyAfter_1 : decode cX6_readyAfter 1 = .ok (.istore_n 2, 1) := by decide +kernel
theorem dX6_readyAfter_2 : decode cX6_readyAfter 2 = .ok (.iconst 0, 1) := by decide +kernel
theorem dX6_readyAfter_3 : decode cX6_readyAfter 3 = .ok (.istore_n 3, 1) := by decide +kernel
theorem dX6_readyAfter_4 : decode cX6_readyAfter 4 = .ok (.iload_n 3, 1) := by decide +kernel
theorem dX6_readyAfter_5 : decode cX6_readyAfter 5 = .ok (.aload_n 0, 1) := by decide +kernel
theorem dX6_readyAfter_6 : decode cX6_readyAfter 6 = .ok (.getfield 43, 3) := by decide +kernel
theorem dX6_readyAfter_9 : decode cX6_readyAfter 9 = .ok (.if_icmp .ge 63, 3) := by decide +kernel
theorem dX6_readyAfter_12 : decode cX6_readyAfter 12 = .ok (.aload_n 0, 1) := by decide +kernel
theorem dX6_readyAfter_13 : decode cX6_readyAfter 13 = .ok (.getfield 15, 3) := by decide +kernel
theorem dX6_readyAfter_16 : decode cX6_readyAfter 16 = .ok (.iload_n 3, 1) := by decide +kernel
theorem dX6_readyAfter_17 : decode cX6_readyAfter 17 = .ok (.iaload, 1) := by decide +kernel
theorem dX6_readyAfter_18 : decode cX6_readyAfter 18 = .ok (.iload_n 1, 1) := by decide +kernel
theorem dX6_readyAfter_19 : decode cX6_readyAfter 19 = .ok (.iconst (-1), 1) := by decide +kernel
theorem dX6_readyAfter_20 : decode cX6_readyAfter 20 = .ok (.ixor, 1) := by decide +kernel
theorem dX6_readyAfter_21 : decode cX6_readyAfter 21 = .ok (.iand, 1) := by decide +kernel
theorem dX6_readyAfter_22 : decode cX6_readyAfter 22 = .ok (.ifCond .ne 22, 3) := by decide +kernel
theorem dX6_readyAfter_25 : decode cX6_readyAfter 25 = .ok (.aload_n 0, 1) := by decide +kernel
theorem dX6_readyAfter_26 : decode cX6_readyAfter 26 = .ok (.getfield 18, 3) := by decide +kernel
theorem dX6_readyAfter_29 : decode cX6_readyAfter 29 = .ok (.iload_n 3, 1) := by decide +kernel
theorem dX6_readyAfter_30 : decode cX6_readyAfter 30 = .ok (.iaload, 1) := by decide +kernel
theorem dX6_readyAfter_31 : decode cX6_readyAfter 31 = .ok (.iload_n 1, 1) := by decide +kernel
theorem dX6_readyAfter_32 : decode cX6_readyAfter 32 = .ok (.iload_n 2, 1) := by decide +kernel
theorem dX6_readyAfter_33 : decode cX6_readyAfter 33 = .ok (.ior, 1) := by decide +kernel
theorem dX6_readyAfter_34 : decode cX6_readyAfter 34 = .ok (.iconst (-1), 1) := by decide +kernel
theorem dX6_readyAfter_35 : decode cX6_readyAfter 35 = .ok (.ixor, 1) := by decide +kernel
theorem dX6_readyAfter_36 : decode cX6_readyAfter 36 = .ok (.iand, 1) := by decide +kernel
theorem dX6_readyAfter_37 : decode cX6_readyAfter 37 = .ok (.ifCond .ne 7, 3) := by decide +kernel
theorem dX6_readyAfter_40 : decode cX6_readyAfter 40 = .ok (.iconst 1, 1) := by decide +kernel
theorem dX6_readyAfter_41 : decode cX6_readyAfter 41 = .ok (.goto 4, 3) := by decide +kernel
theorem dX6_readyAfter_44 : decode cX6_readyAfter 44 = .ok (.iconst 0, 1) := by decide +kernel
theorem dX6_readyAfter_45 : decode cX6_readyAfter 45 = .ok (.istore 4, 2) := by decide +kernel
theorem dX6_readyAfter_47 : decode cX6_readyAfter 47 = .ok (.iload 4, 2) := by decide +kernel
theorem dX6_readyAfter_49 : decode cX6_readyAfter 49 = .ok (.ifCond .eq 17, 3) := by decide +kernel
theorem dX6_readyAfter_52 : decode cX6_readyAfter 52 = .ok (.iload_n 1, 1) := by decide +kernel
theorem dX6_readyAfter_53 : decode cX6_readyAfter 53 = .ok (.iload_n 3, 1) := by decide +kernel
theorem dX6_readyAfter_54 : decode cX6_readyAfter 54 = .ok (.invokestatic 102, 3) := by decide +kernel
theorem dX6_readyAfter_57 : decode cX6_readyAfter 57 = .ok (.ifCond .ne 9, 3) := by decide +kernel
theorem dX6_readyAfter_60 : decode cX6_readyAfter 60 = .ok (.iload_n 2, 1) := by decide +kernel
theorem dX6_readyAfter_61 : decode cX6_readyAfter 61 = .ok (.iconst 1, 1) := by decide +kernel
theorem dX6_readyAfter_62 : decode cX6_readyAfter 62 = .ok (.iload_n 3, 1) := by decide +kernel
theorem dX6_readyAfter_63 : decode cX6_readyAfter 63 = .ok (.ishl, 1) := by decide +kernel
theorem dX6_readyAfter_64 : decode cX6_readyAfter 64 = .ok (.ior, 1) := by decide +kernel
theorem dX6_readyAfter_65 : decode cX6_readyAfter 65 = .ok (.istore_n 2, 1) := by decide +kernel
theorem dX6_readyAfter_66 : decode cX6_readyAfter 66 = .ok (.iinc 3 1, 3) := by decide +kernel
theorem dX6_readyAfter_69 : decode cX6_readyAfter 69 = .ok (.goto (-65), 3) := by decide +kernel
theorem dX6_readyAfter_72 : decode cX6_readyAfter 72 = .ok (.iload_n 2, 1) := by decide +kernel
theorem dX6_readyAfter_73 : decode cX6_readyAfter 73 = .ok (.ireturn, 1) := by decide +kernel
set_option maxRecDepth 20000 in
theorem ggX6_urgentOf_X7_isIn : GoodIn wsX6_urgentOf wsX7_isIn := goodIn_r _ [5] rfl (by decide +kernel)
set_option maxRecDepth 20000 in
theorem gX6_urgentOf_X7_isIn_n102 : GoodIn wsX6_urgentOf (wsX7_isIn) := ggX6_urgentOf_X7_isIn
theorem dX6_urgentOf_0 : decode cX6_urgentOf 0 = .ok (.iconst 0, 1) := by decide +kernel
theorem dX6_urgentOf_1 : decode cX6_urgentOf 1 = .ok (.istore_n 3, 1) := by decide +kernel
theorem dX6_urgentOf_2 : decode cX6_urgentOf 2 = .ok (.iconst 0, 1) := by decide +kernel
theorem dX6_urgentOf_3 : decode cX6_urgentOf 3 = .ok (.istore 4, 2) := by decide +kernel
theorem dX6_urgentOf_5 : decode cX6_urgentOf 5 = .ok (.iload 4, 2) := by decide +kernel
theorem dX6_urgentOf_7 : decode cX6_urgentOf 7 = .ok (.aload_n 0, 1) := by decide +kernel
theorem dX6_urgentOf_8 : decode cX6_urgentOf 8 = .ok (.getfield 43, 3) := by decide +kernel
theorem dX6_urgentOf_11 : decode cX6_urgentOf 11 = .ok (.if_icmp .ge 38, 3) := by decide +kernel
theorem dX6_urgentOf_14 : decode cX6_urgentOf 14 = .ok (.iload_n 1, 1) := by decide +kernel
theorem dX6_urgentOf_15 : decode cX6_urgentOf 15 = .ok (.iload 4, 2) := by decide +kernel
theorem dX6_urgentOf_17 : decode cX6_urgentOf 17 = .ok (.invokestatic 102, 3) := by decide +kernel
theorem dX6_urgentOf_20 : decode cX6_urgentOf 20 = .ok (.ifCond .eq 23, 3) := by decide +kernel
theorem dX6_urgentOf_23 : decode cX6_urgentOf 23 = .ok (.aload_n 0, 1) := by decide +kernel
theorem dX6_urgentOf_24 : decode cX6_urgentOf 24 = .ok (.getfield 21, 3) := by decide +kernel
theorem dX6_urgentOf_27 : decode cX6_urgentOf 27 = .ok (.iload 4, 2) := by decide +kernel
theorem dX6_urgentOf_29 : decode cX6_urgentOf 29 = .ok (.iaload, 1) := by decide +kernel
theorem dX6_urgentOf_30 : decode cX6_urgentOf 30 = .ok (.iload_n 2, 1) := by decide +kernel
theorem dX6_urgentOf_31 : decode cX6_urgentOf 31 = .ok (.iconst 1, 1) := by decide +kernel
theorem dX6_urgentOf_32 : decode cX6_urgentOf 32 = .ok (.isub, 1) := by decide +kernel
theorem dX6_urgentOf_33 : decode cX6_urgentOf 33 = .ok (.if_icmp .ne 10, 3) := by decide +kernel
theorem dX6_urgentOf_36 : decode cX6_urgentOf 36 = .ok (.iload_n 3, 1) := by decide +kernel
theorem dX6_urgentOf_37 : decode cX6_urgentOf 37 = .ok (.iconst 1, 1) := by decide +kernel
theorem dX6_urgentOf_38 : decode cX6_urgentOf 38 = .ok (.iload 4, 2) := by decide +kernel
theorem dX6_urgentOf_40 : decode cX6_urgentOf 40 = .ok (.ishl, 1) := by decide +kernel
theorem dX6_urgentOf_41 : decode cX6_urgentOf 41 = .ok (.ior, 1) := by decide +kernel
theorem dX6_urgentOf_42 : decode cX6_urgentOf 42 = .ok (.istore_n 3, 1) := by decide +kernel
theorem dX6_urgentOf_43 : decode cX6_urgentOf 43 = .ok (.iinc 4 1, 3) := by decide +kernel
theorem dX6_urgentOf_46 : decode cX6_urgentOf 46 = .ok (.goto (-41), 3) := by decide +kernel
theorem dX6_urgentOf_49 : decode cX6_urgentOf 49 = .ok (.iload_n 3, 1) := by decide +kernel
theorem dX6_urgentOf_50 : decode cX6_urgentOf 50 = .ok (.ireturn, 1) := by decide +kernel
set_option maxRecDepth 20000 in
theorem ggX6_canMeet_J6_bitCount_0f7a4 : GoodIn wsX6_canMeet wsJ6_bitCount_0f7a4 := goodIn_r _ [8, 9, 10, 11] rfl (by decide +kernel)
set_option maxRecDepth 20000 in
theorem gX6_canMeet_J6_bitCount_0f7a4 : GoodIn wsX6_canMeet (va_wsS RX6 97 yJ6_bitCount_0f7a4 wsJ6_bitCount_0f7a4) := goodIn_app (goodIn_of _ (by decide +kernel)) ggX6_canMeet_J6_bitCount_0f7a4
set_option maxRecDepth 20000 in
theorem ggX6_canMeet_X7_isIn : GoodIn wsX6_canMeet wsX7_isIn := goodIn_r _ [14] rfl (by decide +kernel)
set_option maxRecDepth 20000 in
theorem gX6_canMeet_X7_isIn_n102 : GoodIn wsX6_canMeet (wsX7_isIn) := ggX6_canMeet_X7_isIn
theorem dX6_canMeet_0 : decode cX6_canMeet 0 = .ok (.iload_n 1, 1) := by decide +kernel
theorem dX6_canMeet_1 : decode cX6_canMeet 1 = .ok (.iload_n 2, 1) := by decide +kernel
theorem dX6_canMeet_2 : decode cX6_canMeet 2 = .ok (.iconst (-1), 1) := by decide +kernel
theorem dX6_canMeet_3 : decode cX6_canMeet 3 = .ok (.ixor, 1) := by decide +kernel
theorem dX6_canMeet_4 : decode cX6_canMeet 4 = .ok (.iand, 1) := by decide +kernel
theorem dX6_canMeet_5 : decode cX6_canMeet 5 = .ok (.ifCond .eq 5, 3) := by decide +kernel
theorem dX6_canMeet_8 : decode cX6_canMeet 8 = .ok (.iconst 0, 1) := by decide +kernel
theorem dX6_canMeet_9 : decode cX6_canMeet 9 = .ok (.ireturn, 1) := by decide +kernel
theorem dX6_canMeet_10 : decode cX6_canMeet 10 = .ok (.iconst 0, 1) := by decide +kernel
theorem dX6_canMeet_11 : decode cX6_canMeet 11 = .ok (.istore 4, 2) := by decide +kernel
theorem dX6_canMeet_13 : decode cX6_canMeet 13 = .ok (.iload 4, 2) := by decide +kernel
theorem dX6_canMeet_15 : decode cX6_canMeet 15 = .ok (.iconst 5, 1) := by decide +kernel
theorem dX6_canMeet_16 : decode cX6_canMeet 16 = .ok (.if_icmp .ge 33, 3) := by decide +kernel
theorem dX6_canMeet_19 : decode cX6_canMeet 19 = .ok (.iload_n 1, 1) := by decide +kernel
theorem dX6_canMeet_20 : decode cX6_canMeet 20 = .ok (.aload_n 0, 1) := by decide +kernel
theorem dX6_canMeet_21 : decode cX6_canMeet 21 = .ok (.getfield 24, 3) := by decide +kernel
theorem dX6_canMeet_24 : decode cX6_canMeet 24 = .ok (.iload 4, 2) := by decide +kernel
theorem dX6_canMeet_26 : decode cX6_canMeet 26 = .ok (.iaload, 1) := by decide +kernel
theorem dX6_canMeet_27 : decode cX6_canMeet 27 = .ok (.iand, 1) := by decide +kernel
theorem dX6_canMeet_28 : decode cX6_canMeet 28 = .ok (.invokestatic 97, 3) := by decide +kernel
theorem dX6_canMeet_31 : decode cX6_canMeet 31 = .ok (.aload_n 0, 1) := by decide +kernel
theorem dX6_canMeet_32 : decode cX6_canMeet 32 = .ok (.getfield 27, 3) := by decide +kernel
theorem dX6_canMeet_35 : decode cX6_canMeet 35 = .ok (.iload 4, 2) := by decide +kernel
theorem dX6_canMeet_37 : decode cX6_canMeet 37 = .ok (.iaload, 1) := by decide +kernel
theorem dX6_canMeet_38 : decode cX6_canMeet 38 = .ok (.if_icmp .le 5, 3) := by decide +kernel
theorem dX6_canMeet_41 : decode cX6_canMeet 41 = .ok (.iconst 0, 1) := by decide +kernel
theorem dX6_canMeet_42 : decode cX6_canMeet 42 = .ok (.ireturn, 1) := by decide +kernel
theorem dX6_canMeet_43 : decode cX6_canMeet 43 = .ok (.iinc 4 1, 3) := by decide +kernel
theorem dX6_canMeet_46 : decode cX6_canMeet 46 = .ok (.goto (-33), 3) := by decide +kernel
theorem dX6_canMeet_49 : decode cX6_canMeet 49 = .ok (.iconst 0, 1) := by decide +kernel
theorem dX6_canMeet_50 : decode cX6_canMeet 50 = .ok (.istore 4, 2) := by decide +kernel
theorem dX6_canMeet_52 : decode cX6_canMeet 52 = .ok (.iload 4, 2) := by decide +kernel
theorem dX6_canMeet_54 : decode cX6_canMeet 54 = .ok (.aload_n 0, 1) := by decide +kernel
theorem dX6_canMeet_55 : decode cX6_canMeet 55 = .ok (.getfield 43, 3) := by decide +kernel
theorem dX6_canMeet_58 : decode cX6_canMeet 58 = .ok (.if_icmp .ge 36, 3) := by decide +kernel
theorem dX6_canMeet_61 : decode cX6_canMeet 61 = .ok (.iload_n 1, 1) := by decide +kernel
theorem dX6_canMeet_62 : decode cX6_canMeet 62 = .ok (.iload 4, 2) := by decide +kernel
theorem dX6_canMeet_64 : decode cX6_canMeet 64 = .ok (.invokestatic 102, 3) := by decide +kernel
theorem dX6_canMeet_67 : decode cX6_canMeet 67 = .ok (.ifCond .eq 21, 3) := by decide +kernel
theorem dX6_canMeet_70 : decode cX6_canMeet 70 = .ok (.aload_n 0, 1) := by decide +kernel
theorem dX6_canMeet_71 : decode cX6_canMeet 71 = .ok (.getfield 18, 3) := by decide +kernel
theorem dX6_canMeet_74 : decode cX6_canMeet 74 = .ok (.iload 4, 2) := by decide +kernel
theorem dX6_canMeet_76 : decode cX6_canMeet 76 = .ok (.iaload, 1) := by decide +kernel
theorem dX6_canMeet_77 : decode cX6_canMeet 77 = .ok (.iload_n 3, 1) := by decide +kernel
theorem dX6_canMeet_78 : decode cX6_canMeet 78 = .ok (.iload_n 1, 1) := by decide +kernel
theorem dX6_canMeet_79 : decode cX6_canMeet 79 = .ok (.ior, 1) := by decide +kernel
theorem dX6_canMeet_80 : decode cX6_canMeet 80 = .ok (.iconst (-1), 1) := by decide +kernel
theorem dX6_canMeet_81 : decode cX6_canMeet 81 = .ok (.ixor, 1) := by decide +kernel
theorem dX6_canMeet_82 : decode cX6_canMeet 82 = .ok (.iand, 1) := by decide +kernel
theorem dX6_canMeet_83 : decode cX6_canMeet 83 = .ok (.ifCond .eq 5, 3) := by decide +kernel
theorem dX6_canMeet_86 : decode cX6_canMeet 86 = .ok (.iconst 0, 1) := by decide +kernel
theorem dX6_canMeet_87 : decode cX6_canMeet 87 = .ok (.ireturn, 1) := by decide +kernel
theorem dX6_canMeet_88 : decode cX6_canMeet 88 = .ok (.iinc 4 1, 3) := by decide +kernel
theorem dX6_canMeet_91 : decode cX6_canMeet 91 = .ok (.goto (-39), 3) := by decide +kernel
theorem dX6_canMeet_94 : decode cX6_canMeet 94 = .ok (.iconst 1, 1) := by decide +kernel
theorem dX6_canMeet_95 : decode cX6_canMeet 95 = .ok (.ireturn, 1) := by decide +kernel
theorem dJ6_bitCount_0f7a4_0 : decode cJ6_bitCount_0f7a4 0 = .ok (.iload_n 0, 1) := by decide +kernel
theorem dJ6_bitCount_0f7a4_1 : decode cJ6_bitCount_0f7a4 1 = .ok (.iload_n 0, 1) := by decide +kernel
theorem dJ6_bitCount_0f7a4_2 : decode cJ6_bitCount_0f7a4 2 = .ok (.iconst 1, 1) := by decide +kernel
theorem dJ6_bitCount_0f7a4_3 : decode cJ6_bitCount_0f7a4 3 = .ok (.iushr, 1) := by decide +kernel
theorem dJ6_bitCount_0f7a4_4 : decode cJ6_bitCount_0f7a4 4 = .ok (.ldc_w 265, 3) := by decide +kernel
theorem dJ6_bitCount_0f7a4_7 : decode cJ6_bitCount_0f7a4 7 = .ok (.iand, 1) := by decide +kernel
theorem dJ6_bitCount_0f7a4_8 : decode cJ6_bitCount_0f7a4 8 = .ok (.isub, 1) := by decide +kernel
theorem dJ6_bitCount_0f7a4_9 : decode cJ6_bitCount_0f7a4 9 = .ok (.istore_n 0, 1) := by decide +kernel
theorem dJ6_bitCount_0f7a4_10 : decode cJ6_bitCount_0f7a4 10 = .ok (.iload_n 0, 1) := by decide +kernel
theorem dJ6_bitCount_0f7a4_11 : decode cJ6_bitCount_0f7a4 11 = .ok (.ldc_w 266, 3) := by decide +kernel
theorem dJ6_bitCount_0f7a4_14 : decode cJ6_bitCount_0f7a4 14 = .ok (.iand, 1) := by decide +kernel
theorem dJ6_bitCount_0f7a4_15 : decode cJ6_bitCount_0f7a4 15 = .ok (.iload_n 0, 1) := by decide +kernel
theorem dJ6_bitCount_0f7a4_16 : decode cJ6_bitCount_0f7a4 16 = .ok (.iconst 2, 1) := by decide +kernel
theorem dJ6_bitCount_0f7a4_17 : decode cJ6_bitCount_0f7a4 17 = .ok (.iushr, 1) := by decide +kernel
theorem dJ6_bitCount_0f7a4_18 : decode cJ6_bitCount_0f7a4 18 = .ok (.ldc_w 266, 3) := by decide +kernel
theorem dJ6_bitCount_0f7a4_21 : decode cJ6_bitCount_0f7a4 21 = .ok (.iand, 1) := by decide +kernel
theorem dJ6_bitCount_0f7a4_22 : decode cJ6_bitCount_0f7a4 22 = .ok (.iadd, 1) := by decide +kernel
theorem dJ6_bitCount_0f7a4_23 : decode cJ6_bitCount_0f7a4 23 = .ok (.istore_n 0, 1) := by decide +kernel
theorem dJ6_bitCount_0f7a4_24 : decode cJ6_bitCount_0f7a4 24 = .ok (.iload_n 0, 1) := by decide +kernel
theorem dJ6_bitCount_0f7a4_25 : decode cJ6_bitCount_0f7a4 25 = .ok (.iload_n 0, 1) := by decide +kernel
theorem dJ6_bitCount_0f7a4_26 : decode cJ6_bitCount_0f7a4 26 = .ok (.iconst 4, 1) := by decide +kernel
theorem dJ6_bitCount_0f7a4_27 : decode cJ6_bitCount_0f7a4 27 = .ok (.iushr, 1) := by decide +kernel
theorem dJ6_bitCount_0f7a4_28 : decode cJ6_bitCount_0f7a4 28 = .ok (.iadd, 1) := by decide +kernel
theorem dJ6_bitCount_0f7a4_29 : decode cJ6_bitCount_0f7a4 29 = .ok (.ldc_w 267, 3) := by decide +kernel
theorem dJ6_bitCount_0f7a4_32 : decode cJ6_bitCount_0f7a4 32 = .ok (.iand, 1) := by decide +kernel
theorem dJ6_bitCount_0f7a4_33 : decode cJ6_bitCount_0f7a4 33 = .ok (.istore_n 0, 1) := by decide +kernel
theorem dJ6_bitCount_0f7a4_34 : decode cJ6_bitCount_0f7a4 34 = .ok (.iload_n 0, 1) := by decide +kernel
theorem dJ6_bitCount_0f7a4_35 : decode cJ6_bitCount_0f7a4 35 = .ok (.iload_n 0, 1) := by decide +kernel
theorem dJ6_bitCount_0f7a4_36 : decode cJ6_bitCount_0f7a4 36 = .ok (.bipush 8, 2) := by decide +kernel
theorem dJ6_bitCount_0f7a4_38 : decode cJ6_bitCount_0f7a4 38 = .ok (.iushr, 1) := by decide +kernel
theorem dJ6_bitCount_0f7a4_39 : decode cJ6_bitCount_0f7a4 39 = .ok (.iadd, 1) := by decide +kernel
theorem dJ6_bitCount_0f7a4_40 : decode cJ6_bitCount_0f7a4 40 = .ok (.istore_n 0, 1) := by decide +kernel
theorem dJ6_bitCount_0f7a4_41 : decode cJ6_bitCount_0f7a4 41 = .ok (.iload_n 0, 1) := by decide +kernel
theorem dJ6_bitCount_0f7a4_42 : decode cJ6_bitCount_0f7a4 42 = .ok (.iload_n 0, 1) := by decide +kernel
theorem dJ6_bitCount_0f7a4_43 : decode cJ6_bitCount_0f7a4 43 = .ok (.bipush 16, 2) := by decide +kernel
theorem dJ6_bitCount_0f7a4_45 : decode cJ6_bitCount_0f7a4 45 = .ok (.iushr, 1) := by decide +kernel
theorem dJ6_bitCount_0f7a4_46 : decode cJ6_bitCount_0f7a4 46 = .ok (.iadd, 1) := by decide +kernel
theorem dJ6_bitCount_0f7a4_47 : decode cJ6_bitCount_0f7a4 47 = .ok (.istore_n 0, 1) := by decide +kernel
theorem dJ6_bitCount_0f7a4_48 : decode cJ6_bitCount_0f7a4 48 = .ok (.iload_n 0, 1) := by decide +kernel
theorem dJ6_bitCount_0f7a4_49 : decode cJ6_bitCount_0f7a4 49 = .ok (.bipush 63, 2) := by decide +kernel
theorem dJ6_bitCount_0f7a4_51 : decode cJ6_bitCount_0f7a4 51 = .ok (.iand, 1) := by decide +kernel
theorem dJ6_bitCount_0f7a4_52 : decode cJ6_bitCount_0f7a4 52 = .ok (.ireturn, 1) := by decide +kernel
theorem dJ9_max_7cf53_0 : decode cJ9_max_7cf53 0 = .ok (.iload_n 0, 1) := by decide +kernel
theorem dJ9_max_7cf53_1 : decode cJ9_max_7cf53 1 = .ok (.iload_n 1, 1) := by decide +kernel
theorem dJ9_max_7cf53_2 : decode cJ9_max_7cf53 2 = .ok (.if_icmp .lt 7, 3) := by decide +kernel
theorem dJ9_max_7cf53_5 : decode cJ9_max_7cf53 5 = .ok (.iload_n 0, 1) := by decide +kernel
theorem dJ9_max_7cf53_6 : decode cJ9_max_7cf53 6 = .ok (.goto 4, 3) := by decide +kernel
theorem dJ9_max_7cf53_9 : decode cJ9_max_7cf53 9 = .ok (.iload_n 1, 1) := by decide +kernel
theorem dJ9_max_7cf53_10 : decode cJ9_max_7cf53 10 = .ok (.ireturn, 1) := by decide +kernel
theorem dJ7_fill_53178_0 : decode cJ7_fill_53178 0 = .ok (.iconst 0, 1) := by decide +kernel
theorem dJ7_fill_53178_1 : decode cJ7_fill_53178 1 = .ok (.istore_n 2, 1) := by decide +kernel
theorem dJ7_fill_53178_2 : decode cJ7_fill_53178 2 = .ok (.aload_n 0, 1) := by decide +kernel
theorem dJ7_fill_53178_3 : decode cJ7_fill_53178 3 = .ok (.arraylength, 1) := by decide +kernel
theorem dJ7_fill_53178_4 : decode cJ7_fill_53178 4 = .ok (.istore_n 3, 1) := by decide +kernel
theorem dJ7_fill_53178_5 : decode cJ7_fill_53178 5 = .ok (.iload_n 2, 1) := by decide +kernel
theorem dJ7_fill_53178_6 : decode cJ7_fill_53178 6 = .ok (.iload_n 3, 1) := by decide +kernel
theorem dJ7_fill_53178_7 : decode cJ7_fill_53178 7 = .ok (.if_icmp .ge 13, 3) := by decide +kernel
theorem dJ7_fill_53178_10 : decode cJ7_fill_53178 10 = .ok (.aload_n 0, 1) := by decide +kernel
theorem dJ7_fill_53178_11 : decode cJ7_fill_53178 11 = .ok (.iload_n 2, 1) := by decide +kernel
theorem dJ7_fill_53178_12 : decode cJ7_fill_53178 12 = .ok (.iload_n 1, 1) := by decide +kernel
theorem dJ7_fill_53178_13 : decode cJ7_fill_53178 13 = .ok (.iastore, 1) := by decide +kernel
theorem dJ7_fill_53178_14 : decode cJ7_fill_53178 14 = .ok (.iinc 2 1, 3) := by decide +kernel
theorem dJ7_fill_53178_17 : decode cJ7_fill_53178 17 = .ok (.goto (-12), 3) := by decide +kernel
theorem dJ7_fill_53178_20 : decode cJ7_fill_53178 20 = .ok (.return_, 1) := by decide +kernel
